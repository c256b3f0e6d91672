/-! ===== contracts: hymns ===== -/
theorem mv_of {w m : Int} (hw : 0 ≤ w ∧ w < 512) (hm : 0 ≤ m ∧ m < 24) : (zI ((zI w &&& zI ((zI ((zI 7 <<< (zI (3 * m.tdiv 8) &&& 31)).toInt) ^^^ zI (-1)).toInt)).toInt) ||| zI ((zI (m.tmod 8) <<< (zI (3 * m.tdiv 8) &&& 31)).toInt)).toInt = mv w m := by
  have h : ∀ w : Fin 512, ∀ m : Fin 24, (fun w m : Int => (zI ((zI w &&& zI ((zI ((zI 7 <<< (zI (3 * m.tdiv 8) &&& 31)).toInt) ^^^ zI (-1)).toInt)).toInt) ||| zI ((zI (m.tmod 8) <<< (zI (3 * m.tdiv 8) &&& 31)).toInt)).toInt = mv w m) w.val m.val := by decide +kernel
  have q := h ⟨w.toNat, by omega⟩ ⟨m.toNat, by omega⟩
  simp only [] at q
  rw [Int.toNat_of_nonneg hw.1, Int.toNat_of_nonneg hm.1] at q
  exact q
theorem pl_of {w m : Int} (hw : 0 ≤ w ∧ w < 512) (hm : 0 ≤ m ∧ m < 24) : (zI ((zI w >>> (zI (3 * m.tdiv 8) &&& 31)).toInt) &&& zI 7).toInt = pl w (m / 8) := by
  have h : ∀ w : Fin 512, ∀ m : Fin 24, (fun w m : Int => (zI ((zI w >>> (zI (3 * m.tdiv 8) &&& 31)).toInt) &&& zI 7).toInt = pl w (m / 8)) w.val m.val := by decide +kernel
  have q := h ⟨w.toNat, by omega⟩ ⟨m.toNat, by omega⟩
  simp only [] at q
  rw [Int.toNat_of_nonneg hw.1, Int.toNat_of_nonneg hm.1] at q
  exact q
theorem stw_step {S : Int → Int} {i : Int} (hi : 0 ≤ i ∧ i < 3) (hS : ∀ i : Int, 0 ≤ i → i < 3 → 0 ≤ S i ∧ S i < 8) : (zI (stw S i) ||| zI ((zI (S i) <<< (zI (3 * i) &&& 31)).toInt)).toInt = stw S (i + 1) := by
  have h0 := hS 0 (by omega) (by omega)
  have h1 := hS 1 (by omega) (by omega)
  have h2 := hS 2 (by omega) (by omega)
  have h : ∀ i : Fin 3, ∀ b : Fin 64, ∀ s : Fin 8, b.val < 8 ^ i.val → (fun i b s : Int => (zI b ||| zI ((zI s <<< (zI (3 * i) &&& 31)).toInt)).toInt = b + s * 8 ^ i.toNat) i.val b.val s.val := by decide +kernel
  rcases (by omega : i = 0 ∨ i = 1 ∨ i = 2) with rfl | rfl | rfl
  · have q := h 0 0 ⟨(S 0).toNat, by omega⟩ (by decide)
    simp only [] at q
    rw [Int.toNat_of_nonneg h0.1] at q
    have e : stw S (0 + 1) = S 0 := by unfold stw; simp
    rw [e]; exact q.trans (by simp)
  · have e1 : stw S 1 = S 0 := by unfold stw; simp
    have q := h 1 ⟨(S 0).toNat, by omega⟩ ⟨(S 1).toNat, by omega⟩ (by show (S 0).toNat < 8; omega)
    simp only [] at q
    rw [Int.toNat_of_nonneg h0.1, Int.toNat_of_nonneg h1.1] at q
    have e : stw S (1 + 1) = S 0 + S 1 * 8 := by unfold stw; simp
    rw [e, e1]; exact q
  · have e1 : stw S 2 = S 0 + S 1 * 8 := by unfold stw; simp
    have q := h 2 ⟨(S 0 + S 1 * 8).toNat, by omega⟩ ⟨(S 2).toNat, by omega⟩ (by show (S 0 + S 1 * 8).toNat < 64; omega)
    simp only [] at q
    rw [Int.toNat_of_nonneg (show 0 ≤ S 0 + S 1 * 8 by omega), Int.toNat_of_nonneg h2.1] at q
    have e : stw S (2 + 1) = S 0 + S 1 * 8 + S 2 * 64 := by unfold stw; simp
    rw [e, e1]; exact q
theorem zy_X0_moved : zY yX0_moved 2 := ⟨by decide +kernel, by decide +kernel, by decide +kernel⟩
theorem zy_X0_startStanding : zY yX0_startStanding 0 := ⟨by decide +kernel, by decide +kernel, by decide +kernel⟩
theorem zy_X0_canMake : zY yX0_canMake 2 := ⟨by decide +kernel, by decide +kernel, by decide +kernel⟩
theorem zy_X0_restBehind : zY yX0_restBehind 3 := ⟨by decide +kernel, by decide +kernel, by decide +kernel⟩
theorem zy_X0_leastRest : zY yX0_leastRest 2 := ⟨by decide +kernel, by decide +kernel, by decide +kernel⟩
theorem zy_X0_earliestBestMove : zY yX0_earliestBestMove 2 := ⟨by decide +kernel, by decide +kernel, by decide +kernel⟩
theorem zy_X0_markBehind : zY yX0_markBehind 2 := ⟨by decide +kernel, by decide +kernel, by decide +kernel⟩
theorem zy_J7_fill_53178 : zY yJ7_fill_53178 2 := ⟨by decide +kernel, by decide +kernel, by decide +kernel⟩
theorem zy_X0_markStandings : zY yX0_markStandings 0 := ⟨by decide +kernel, by decide +kernel, by decide +kernel⟩
theorem zy_X0_findRests : zY yX0_findRests 0 := ⟨by decide +kernel, by decide +kernel, by decide +kernel⟩
theorem zy_X0_leastSteps : zY yX0_leastSteps 0 := ⟨by decide +kernel, by decide +kernel, by decide +kernel⟩
theorem zy_X0_moveFor : zY yX0_moveFor 1 := ⟨by decide +kernel, by decide +kernel, by decide +kernel⟩
theorem zy_X10_climbing : zY yX10_climbing 0 := ⟨by decide +kernel, by decide +kernel, by decide +kernel⟩
theorem zy_X10_by : zY yX10_by 2 := ⟨by decide +kernel, by decide +kernel, by decide +kernel⟩
-- NoteBells$HymnPlan.moved
set_option maxHeartbeats 8000000 in
set_option maxRecDepth 100000 in
theorem c_X0_moved (l : Launch) (D : va_G) {tys : List (ClassId × FieldType)} {S : Type} (WW : S → va_W) (hWW : ∀ u u' : S, (WW u).map (fun q => q.1) = (WW u').map (fun q => q.1)) (u : S) (w m : Int) (b_w : 0 ≤ w ∧ w < 512) (b_m : 0 ≤ m ∧ m < 24) : ZM l D tys WW yX0_moved wsX0_moved 1 [.int (zI w), .int (zI m)] u rI (fun z u' => u' = u ∧ z = mv w m) := by
  refine ZM.ofI (cc := cX0_moved) (maxL := 3) [(0, .int (zI w)), (1, .int (zI m))] rfl (by decide +kernel) rfl (Nat.le_of_ble_eq_true rfl) hWW ?_
  intro x C hK _ _ hDD kret
  refine z_iconst C dX0_moved_0 ?_
  refine z_iload_n C 1 dX0_moved_1 rfl ?_
  refine z_bipush C dX0_moved_2 (by decide) ?_
  refine z_idiv C dX0_moved_4 (by omega) ?_
  refine z_imul C dX0_moved_5 ?_
  refine z_istore_n C [(2, .int (zI (3 * (m.tdiv 8)))), (0, .int (zI w)), (1, .int (zI m))] dX0_moved_6 rfl (by decide) rfl ?_
  refine z_iload_n C 1 dX0_moved_7 rfl ?_
  refine z_bipush C dX0_moved_8 (by decide) ?_
  refine z_iload_n C 0 dX0_moved_10 rfl ?_
  refine z_ishl C ((zI 7 <<< (zI (3 * (m.tdiv 8)) &&& 31)).toInt) dX0_moved_11 (zI_of _) ?_
  refine z_iconst C dX0_moved_12 ?_
  refine z_ixor C ((zI ((zI 7 <<< (zI (3 * (m.tdiv 8)) &&& 31)).toInt) ^^^ zI (-1)).toInt) dX0_moved_13 (zI_of _) ?_
  refine z_iand C ((zI w &&& zI ((zI ((zI 7 <<< (zI (3 * (m.tdiv 8)) &&& 31)).toInt) ^^^ zI (-1)).toInt)).toInt) dX0_moved_14 (zI_of _) ?_
  refine z_iload_n C 2 dX0_moved_15 rfl ?_
  refine z_bipush C dX0_moved_16 (by decide) ?_
  refine z_irem C dX0_moved_18 (by omega) ?_
  refine z_iload_n C 0 dX0_moved_19 rfl ?_
  refine z_ishl C ((zI (m.tmod 8) <<< (zI (3 * (m.tdiv 8)) &&& 31)).toInt) dX0_moved_20 (zI_of _) ?_
  refine z_ior C ((zI ((zI w &&& zI ((zI ((zI 7 <<< (zI (3 * (m.tdiv 8)) &&& 31)).toInt) ^^^ zI (-1)).toInt)).toInt) ||| zI ((zI (m.tmod 8) <<< (zI (3 * (m.tdiv 8)) &&& 31)).toInt)).toInt) dX0_moved_21 (zI_of _) ?_
  refine z_as (b := mv w m) (mv_of b_w b_m) ?_
  exact kret (mv w m) u _ _ (⟨rfl, rfl⟩) dX0_moved_22
-- NoteBells$HymnPlan.startStanding
theorem inX0_startStanding_X0 : ∀ w ∈ wsX00, w ∈ wsX0_startStanding := fun w h => List.mem_cons_of_mem _ (List.mem_append_left _ (List.mem_append_left _ (List.mem_append_right _ (h))))
theorem inX0_startStanding_X8 : ∀ w ∈ wsX80, w ∈ wsX0_startStanding := fun w h => List.mem_cons_of_mem _ (List.mem_append_left _ (List.mem_append_right _ (h)))
theorem inX0_startStanding_X2 : ∀ w ∈ wsX20, w ∈ wsX0_startStanding := fun w h => List.mem_cons_of_mem _ (List.mem_append_right _ (h))
set_option maxHeartbeats 8000000 in
set_option maxRecDepth 100000 in
theorem c_X0_startStanding (l : Launch) (D : va_G) (a : Nat → Nat) (c : Nat → ClassId) (u : zU) (p : Int → Int) (r : Nat → Int → Int) (hI : IB u) : ZM l D (zTy c) (WB a c) yX0_startStanding wsX0_startStanding 1 [.ref (a 48)] (rws p r u) rI (fun z u' => u' = (rws p r u) ∧ z = stw (u 19) (u 3 5)) := by
  refine ZM.ofI (cc := cX0_startStanding) (maxL := 3) [(0, .ref (a 48))] rfl (by decide +kernel) rfl (Nat.le_of_ble_eq_true rfl) (WB_addr a c) ?_
  intro x C hK _ _ hDD kret
  have hpp := hI.ppl
  refine z_iconst C dX0_startStanding_0 ?_
  refine z_as (b := stw (u 19) 0) (rfl) ?_
  refine z_istore_n C [(1, .int (zI (stw (u 19) 0))), (0, .ref (a 48))] dX0_startStanding_1 rfl (by decide) rfl ?_
  refine z_iconst C dX0_startStanding_2 ?_
  refine z_istore_n C [(2, .int (zI 0)), (1, .int (zI (stw (u 19) 0))), (0, .ref (a 48))] dX0_startStanding_3 rfl (by decide) rfl ?_
  have L4_1 : ∀ (fu : Nat) (i : Int), (0 ≤ i ∧ i ≤ u 3 5) → u 3 5 - i < (fu : Int) → Z x 0 0 (WB a c (rws p r u)) [(0, .ref (a 48)), (1, .int (zI (stw (u 19) i))), (2, .int (zI i))] 4 [] := by
    intro fu
    induction fu with
    | zero => intro i hi hmeas; exfalso; omega
    | succ fu ih4 =>
      intro i hi hmeas
      refine z_iload_n C 2 dX0_startStanding_4 rfl ?_
      refine z_aload_n C 0 dX0_startStanding_5 rfl ?_
      refine z_get C hK (v := .ref (a 3)) inX0_startStanding_X0 48 (WB_48 a c ((rws p r u))) rfl 0 (by decide) (List.mem_of_getElem? (i := 1) rfl) rfl dX0_startStanding_6 ?_
      refine z_getN C hK (v := .int (zI (u 3 5))) inX0_startStanding_X8 3 (WB_3 a c ((rws p r u))) rfl 5 (by decide) (List.mem_of_getElem? (i := 18) rfl) rfl dX0_startStanding_9 ?_
      refine z_icmp_ge C 37 dX0_startStanding_12 (by decide) (by omega) (fun h2 => ?_) (fun h2 => ?_)
      · skip
        refine z_iload_n C 1 dX0_startStanding_37 rfl ?_
        exact kret (stw (u 19) i) ((rws p r u)) _ _ (⟨rfl, by rw [show i = u 3 5 by omega]⟩) dX0_startStanding_38
      · skip
        refine z_iload_n C 1 dX0_startStanding_15 rfl ?_
        refine z_aload_n C 0 dX0_startStanding_16 rfl ?_
        refine z_get C hK (v := .ref (a 17)) inX0_startStanding_X0 48 (WB_48 a c ((rws p r u))) rfl 1 (by decide) (List.mem_of_getElem? (i := 2) rfl) rfl dX0_startStanding_17 ?_
        refine z_getN C hK (v := .ref (a 19)) inX0_startStanding_X2 17 (WB_17 a c ((rws p r u))) rfl 1 (by decide) (List.mem_of_getElem? (i := 21) rfl) rfl dX0_startStanding_20 ?_
        refine z_iload_n C 2 dX0_startStanding_23 rfl ?_
        refine z_iald C hK 0 (g := (u 19)) (i := i) 19 (WB_19 a c ((rws p r u))) rfl (by decide) (by omega) dX0_startStanding_24 ?_
        refine z_as (b := u 19 (i)) rfl ?_
        refine z_iconst C dX0_startStanding_25 ?_
        refine z_iload_n C 2 dX0_startStanding_26 rfl ?_
        refine z_imul C dX0_startStanding_27 ?_
        refine z_ishl C ((zI (u 19 (i)) <<< (zI (3 * i) &&& 31)).toInt) dX0_startStanding_28 (zI_of _) ?_
        refine z_ior C ((zI (stw (u 19) i) ||| zI ((zI (u 19 (i)) <<< (zI (3 * i) &&& 31)).toInt)).toInt) dX0_startStanding_29 (zI_of _) ?_
        refine z_as (b := stw (u 19) (i + 1)) (stw_step (by omega) hI.stands) ?_
        refine z_istore_n C [(1, .int (zI (stw (u 19) (i + 1)))), (0, .ref (a 48)), (2, .int (zI i))] dX0_startStanding_30 rfl (by decide) rfl ?_
        refine z_iinc C 2 [(2, .int (zI (i + 1))), (1, .int (zI (stw (u 19) (i + 1)))), (0, .ref (a 48))] dX0_startStanding_31 rfl (by decide) rfl ?_
        refine z_goto C 4 dX0_startStanding_34 (by decide) ?_
        refine z_lv [(0, .ref (a 48)), (1, .int (zI (stw (u 19) (i + 1)))), (2, .int (zI (i + 1)))] [2, 1, 0] rfl ?_
        exact ih4 (i + 1) (by omega) (by omega)
  refine z_lv [(0, .ref (a 48)), (1, .int (zI (stw (u 19) 0))), (2, .int (zI 0))] [2, 1, 0] rfl ?_
  exact L4_1 (((u 3 5 - 0 : Int)).toNat + 1) 0 (by omega) (by omega)
-- NoteBells$HymnPlan.canMake
theorem inX0_canMake_X0 : ∀ w ∈ wsX00, w ∈ wsX0_canMake := fun w h => List.mem_cons_of_mem _ (List.mem_append_right _ (h))
set_option maxHeartbeats 8000000 in
set_option maxRecDepth 100000 in
theorem c_X0_canMake (l : Launch) (D : va_G) (a : Nat → Nat) (c : Nat → ClassId) (u : zU) (p : Int → Int) (r : Nat → Int → Int) (i m : Int) (hp : p i = ((like (u 18) (u 17 6) (u 3 6) (u 3 4) (u 22 i) : Nat) : Int)) (b_i : 0 ≤ i ∧ i < 8) (b_m : 0 ≤ m ∧ m < 24) : ZM l D (zTy c) (WB a c) yX0_canMake wsX0_canMake 1 [.ref (a 48), .int (zI i), .int (zI m)] (rws p r u) rI (fun z u' => u' = (rws p r u) ∧ ((z = 1 ∧ hlw u i (m % 8) = true) ∨ (z = 0 ∧ hlw u i (m % 8) = false))) := by
  refine ZM.ofZ (cc := cX0_canMake) (maxL := 3) [(0, .ref (a 48)), (1, .int (zI i)), (2, .int (zI m))] rfl (by decide +kernel) rfl (Nat.le_of_ble_eq_true rfl) (WB_addr a c) ?_
  intro x C hK _ _ hDD kret
  refine z_aload_n C 0 dX0_canMake_0 rfl ?_
  refine z_get C hK (v := .ref (a 50)) inX0_canMake_X0 48 (WB_48 a c ((rws p r u))) rfl 4 (by decide) (List.mem_of_getElem? (i := 1) rfl) rfl dX0_canMake_1 ?_
  refine z_iload_n C 1 dX0_canMake_4 rfl ?_
  refine z_iald C hK 0 (g := ((rws p r u) 50)) (i := i) 50 (WB_50 a c ((rws p r u))) rfl (by decide) (by omega) dX0_canMake_5 ?_
  refine z_as (b := ((like (u 18) (u 17 6) (u 3 6) (u 3 4) (u 22 i) : Nat) : Int)) (hp) ?_
  refine z_iload_n C 2 dX0_canMake_6 rfl ?_
  refine z_bipush C dX0_canMake_7 (by decide) ?_
  refine z_irem C dX0_canMake_9 (by omega) ?_
  refine z_as (b := m % 8) (tmod8 b_m.1) ?_
  refine z_ishr C (((like (u 18) (u 17 6) (u 3 6) (u 3 4) (u 22 i) >>> (m % 8).toNat : Nat) : Int)) dX0_canMake_10 (zI_shrN (by have := like_lt (u 18) (u 17 6) (u 3 6) (u 3 4) (u 22 i); omega) (by omega)) ?_
  refine z_iconst C dX0_canMake_11 ?_
  refine z_iand C ((if hlw u i (m % 8) = true then 1 else 0)) dX0_canMake_12 (like_bitZ (by omega)) ?_
  refine z_iconst C dX0_canMake_13 ?_
  refine z_icmp_ne C 21 dX0_canMake_14 (by decide) (by split <;> omega) (fun h1 => ?_) (fun h1 => ?_)
  · have hA := ite01_n1 h1
    refine z_iconst C dX0_canMake_21 ?_
    exact kret 0 ((rws p r u)) _ _ (⟨rfl, by first | exact Or.inl ⟨rfl, hA⟩ | exact Or.inr ⟨rfl, hA⟩⟩) (by omega) dX0_canMake_22
  · have hA := ite01_1 h1
    refine z_iconst C dX0_canMake_17 ?_
    refine z_goto C 22 dX0_canMake_18 (by decide) ?_
    exact kret 1 ((rws p r u)) _ _ (⟨rfl, by first | exact Or.inl ⟨rfl, hA⟩ | exact Or.inr ⟨rfl, hA⟩⟩) (by omega) dX0_canMake_22
-- NoteBells$HymnPlan.restBehind
theorem inX0_restBehind_X0 : ∀ w ∈ wsX00, w ∈ wsX0_restBehind := fun w h => List.mem_cons_of_mem _ (List.mem_append_right _ (h))
set_option maxHeartbeats 8000000 in
set_option maxRecDepth 100000 in
theorem c_X0_restBehind (l : Launch) (D : va_G) (a : Nat → Nat) (c : Nat → ClassId) (u : zU) (p : Int → Int) (r : Nat → Int → Int) (i w m : Int) (b_i : 0 ≤ i ∧ i < 8) (b_w : 0 ≤ w ∧ w < 512) (b_m : 0 ≤ m ∧ m < 24) : ZM l D (zTy c) (WB a c) yX0_restBehind wsX0_restBehind 2 [.ref (a 48), .int (zI i), .int (zI w), .int (zI m)] (rws p r u) rI (fun z u' => u' = (rws p r u) ∧ z = dab (m % 8) (pl w (m / 8)) + r (i + 1).toNat (mv w m)) := by
  refine ZM.ofI (cc := cX0_restBehind) (maxL := 5) [(0, .ref (a 48)), (1, .int (zI i)), (2, .int (zI w)), (3, .int (zI m))] rfl (by decide +kernel) rfl (Nat.le_of_ble_eq_true rfl) (WB_addr a c) ?_
  intro x C hK _ _ hDD kret
  have hpl := pl_bd w (m / 8)
  have hmv := mv_bd b_w b_m
  refine z_iload_n C 2 dX0_restBehind_0 rfl ?_
  refine z_iconst C dX0_restBehind_1 ?_
  refine z_iload_n C 3 dX0_restBehind_2 rfl ?_
  refine z_bipush C dX0_restBehind_3 (by decide) ?_
  refine z_idiv C dX0_restBehind_5 (by omega) ?_
  refine z_imul C dX0_restBehind_6 ?_
  refine z_ishr C ((zI w >>> (zI (3 * (m.tdiv 8)) &&& 31)).toInt) dX0_restBehind_7 (zI_of _) ?_
  refine z_bipush C dX0_restBehind_8 (by decide) ?_
  refine z_iand C ((zI ((zI w >>> (zI (3 * (m.tdiv 8)) &&& 31)).toInt) &&& zI 7).toInt) dX0_restBehind_10 (zI_of _) ?_
  refine z_as (b := pl w (m / 8)) (pl_of b_w b_m) ?_
  refine z_istore C [(4, .int (zI (pl w (m / 8)))), (0, .ref (a 48)), (1, .int (zI i)), (2, .int (zI w)), (3, .int (zI m))] dX0_restBehind_11 (by decide) rfl ?_
  refine z_iload_n C 4 dX0_restBehind_13 rfl ?_
  refine z_bipush C dX0_restBehind_14 (by decide) ?_
  refine z_irem C dX0_restBehind_16 (by omega) ?_
  refine z_as (b := m % 8) (tmod8 b_m.1) ?_
  refine z_iload C 0 dX0_restBehind_17 rfl ?_
  refine z_isub C dX0_restBehind_19 ?_
  refine z_abs C (by omega) (List.mem_of_getElem? (i := 1) rfl) (List.mem_of_getElem? (i := 2) rfl) (List.mem_of_getElem? (i := 3) rfl) (List.mem_of_getElem? (i := 4) rfl) (Nat.le_of_ble_eq_true rfl) (by omega) dX0_restBehind_20 (fun r1 h2 => ?_)
  refine z_as (b := dab (m % 8) (pl w (m / 8))) (dab_of h2) ?_
  refine z_aload_n C 1 dX0_restBehind_23 rfl ?_
  refine z_get C hK (v := .ref (a 49)) inX0_restBehind_X0 48 (WB_48 a c ((rws p r u))) rfl 3 (by decide) (List.mem_of_getElem? (i := 5) rfl) rfl dX0_restBehind_24 ?_
  refine z_iload_n C 2 dX0_restBehind_27 rfl ?_
  refine z_iconst C dX0_restBehind_28 ?_
  refine z_iadd C dX0_restBehind_29 ?_
  refine z_aaldI C hK 3 (b := a (51 + (i + 1).toNat)) 49 (WB_49 a c ((rws p r u))) rfl (by decide) (by omega) (if_pos (by omega)) dX0_restBehind_30 ?_
  refine z_iload_n C 3 dX0_restBehind_31 rfl ?_
  refine z_iload_n C 4 dX0_restBehind_32 rfl ?_
  refine z_callS C hK hDD (c_X0_moved (zl x) (zG x) ((WB a c)) (WB_addr a c) ((rws p r u)) w m (by omega) (by omega)) gX0_restBehind_X0_moved rfl rfl zy_X0_moved ⟨by omega, by decide⟩ rfl (Nat.le_of_ble_eq_true rfl) (st := [.ref (a (51 + (i + 1).toNat)), .int (zI (dab (m % 8) (pl w (m / 8))))]) (stk2 := fun z3 => [.int (zI z3), .ref (a (51 + (i + 1).toNat)), .int (zI (dab (m % 8) (pl w (m / 8))))]) rfl (fun _ => rfl) dX0_restBehind_33 (fun z3 u4 h5 => ?_)
  rw [h5.1]; replace h5 := h5.2
  refine z_as (b := mv w m) h5 ?_
  refine z_iald C hK 0 (g := ((rws p r u) (51 + (i + 1).toNat))) (i := (mv w m)) (51 + (i + 1).toNat) (WB_row a c ((rws p r u)) (i := (i + 1).toNat) (by omega)) rfl (by decide) (by omega) dX0_restBehind_36 ?_
  refine z_as (b := r (i + 1).toNat (mv w m)) (rws_row (by omega) _) ?_
  refine z_iadd C dX0_restBehind_37 ?_
  exact kret ((dab (m % 8) (pl w (m / 8))) + (r (i + 1).toNat (mv w m))) ((rws p r u)) _ _ (⟨rfl, rfl⟩) dX0_restBehind_38
-- NoteBells$HymnPlan.leastRest
theorem inX0_leastRest_X0 : ∀ w ∈ wsX00, w ∈ wsX0_leastRest := fun w h => List.mem_cons_of_mem _ (List.mem_append_left _ (List.mem_append_right _ (h)))
theorem inX0_leastRest_X8 : ∀ w ∈ wsX80, w ∈ wsX0_leastRest := fun w h => List.mem_cons_of_mem _ (List.mem_append_right _ (h))
set_option maxHeartbeats 8000000 in
set_option maxRecDepth 100000 in
theorem c_X0_leastRest (l : Launch) (D : va_G) (a : Nat → Nat) (c : Nat → ClassId) (u : zU) (p : Int → Int) (r : Nat → Int → Int) (i w : Int) (hI : IB u) (hp : p i = ((like (u 18) (u 17 6) (u 3 6) (u 3 4) (u 22 i) : Nat) : Int)) (b_i : 0 ≤ i ∧ i < 8) (b_n : i < u 17 9) (b_w : 0 ≤ w ∧ w < 512) (hG : ∀ m : Int, 0 ≤ m → m < u 3 5 * 8 → hlw u i (m % 8) = true → r (i + 1).toNat (mv w m) = hc (hlw u) (u 3 5) (u 17 9) (u 17 9 - 1 - i).toNat (mv w m)) : ZM l D (zTy c) (WB a c) yX0_leastRest wsX0_leastRest 3 [.ref (a 48), .int (zI i), .int (zI w)] (rws p r u) rI (fun z u' => u' = (rws p r u) ∧ z = hc (hlw u) (u 3 5) (u 17 9) (u 17 9 - i).toNat w) := by
  refine ZM.ofI (cc := cX0_leastRest) (maxL := 5) [(0, .ref (a 48)), (1, .int (zI i)), (2, .int (zI w))] rfl (by decide +kernel) rfl (Nat.le_of_ble_eq_true rfl) (WB_addr a c) ?_
  intro x C hK _ _ hDD kret
  have hpp := hI.ppl
  refine z_sipush C dX0_leastRest_0 (by decide) ?_
  refine z_istore_n C [(3, .int (zI 1000)), (0, .ref (a 48)), (1, .int (zI i)), (2, .int (zI w))] dX0_leastRest_3 rfl (by decide) rfl ?_
  refine z_iconst C dX0_leastRest_4 ?_
  refine z_istore C [(4, .int (zI 0)), (3, .int (zI 1000)), (0, .ref (a 48)), (1, .int (zI i)), (2, .int (zI w))] dX0_leastRest_5 (by decide) rfl ?_
  have L7_1 : ∀ (fu : Nat) (k : Int) (b : Int), (0 ≤ k ∧ k ≤ u 3 5 * 8) → (b = mvc (hlw u i) (hc (hlw u) (u 3 5) (u 17 9) (u 17 9 - 1 - i).toNat) w k.toNat) → (0 ≤ b ∧ b ≤ 1000) → u 3 5 * 8 - k < (fu : Int) → Z x 0 0 (WB a c (rws p r u)) [(0, .ref (a 48)), (1, .int (zI i)), (2, .int (zI w)), (3, .int (zI b)), (4, .int (zI k))] 7 [] := by
    intro fu
    induction fu with
    | zero => intro k b hk hb hbb hmeas; exfalso; omega
    | succ fu ih7 =>
      intro k b hk hb hbb hmeas
      refine z_iload C 4 dX0_leastRest_7 rfl ?_
      refine z_aload_n C 0 dX0_leastRest_9 rfl ?_
      refine z_get C hK (v := .ref (a 3)) inX0_leastRest_X0 48 (WB_48 a c ((rws p r u))) rfl 0 (by decide) (List.mem_of_getElem? (i := 1) rfl) rfl dX0_leastRest_10 ?_
      refine z_getN C hK (v := .int (zI (u 3 5))) inX0_leastRest_X8 3 (WB_3 a c ((rws p r u))) rfl 5 (by decide) (List.mem_of_getElem? (i := 18) rfl) rfl dX0_leastRest_13 ?_
      refine z_bipush C dX0_leastRest_16 (by decide) ?_
      refine z_imul C dX0_leastRest_18 ?_
      refine z_icmp_ge C 51 dX0_leastRest_19 (by decide) (by omega) (fun h2 => ?_) (fun h2 => ?_)
      · skip
        refine z_iload_n C 3 dX0_leastRest_51 rfl ?_
        exact kret b ((rws p r u)) _ _ (⟨rfl, by rw [hb, show k = u 3 5 * 8 by omega, show (u 17 9 - i).toNat = (u 17 9 - 1 - i).toNat + 1 by omega, hc, show u 17 9 - 1 - (((u 17 9 - 1 - i).toNat : Nat) : Int) = i by omega, show (u 3 5 * 8).toNat = (8 * u 3 5).toNat by omega]⟩) dX0_leastRest_52
      · skip
        refine z_aload_n C 0 dX0_leastRest_22 rfl ?_
        refine z_iload_n C 1 dX0_leastRest_23 rfl ?_
        refine z_iload C 4 dX0_leastRest_24 rfl ?_
        refine z_callV C hK hDD (c_X0_canMake (zl x) (zG x) a c u p r i k (by omega) (by omega) (by omega)) gX0_leastRest_X0_canMake rfl zy_X0_canMake 48 (WB_48 a c ((rws p r u))) rfl ⟨by omega, by decide⟩ rfl (Nat.le_of_ble_eq_true rfl) (st := []) (stk2 := fun z3 => [.int (zI z3)]) rfl (fun _ => rfl) dX0_leastRest_26 (fun z3 u4 h5 => ?_)
        rw [h5.1]; replace h5 := h5.2
        have KCM := h5
        refine z_if_eq C 45 dX0_leastRest_29 (by decide) (by omega) (fun h6 => ?_) (fun h6 => ?_)
        · have hA : hlw u i (k % 8) = false := KCM.elim (fun q => absurd q.1 (by omega)) (fun q => q.2)
          refine z_iinc C 4 [(4, .int (zI (k + 1))), (0, .ref (a 48)), (1, .int (zI i)), (2, .int (zI w)), (3, .int (zI b))] dX0_leastRest_45 rfl (by decide) rfl ?_
          refine z_goto C 7 dX0_leastRest_48 (by decide) ?_
          refine z_lv [(0, .ref (a 48)), (1, .int (zI i)), (2, .int (zI w)), (3, .int (zI b)), (4, .int (zI (k + 1)))] [1, 2, 3, 4, 0] rfl ?_
          exact ih7 (k + 1) b (by omega) (by rw [mvc_step hk.1]; first | (rw [if_neg (by rw [hA]; decide)]; exact hb) | (rw [if_pos hA, ← hb]; rcases hmn with ⟨q1, q2⟩ | ⟨q1, q2⟩; rw [if_pos q1, q2]; rw [if_neg (by omega), q2])) (by omega) (by omega)
        · have hA : hlw u i (k % 8) = true := KCM.elim (fun q => q.2) (fun q => absurd q.1 (by omega))
          have hgk := hG k hk.1 (by omega) hA
          have hgb := hc_bd (hlw u) (u 3 5) (u 17 9) (u 17 9 - 1 - i).toNat (mv w k)
          have hdb := dab_bd (a := k % 8) (b := pl w (k / 8)) (by omega) (pl_bd _ _)
          refine z_iload_n C 3 dX0_leastRest_32 rfl ?_
          refine z_aload_n C 0 dX0_leastRest_33 rfl ?_
          refine z_iload_n C 1 dX0_leastRest_34 rfl ?_
          refine z_iload_n C 2 dX0_leastRest_35 rfl ?_
          refine z_iload C 4 dX0_leastRest_36 rfl ?_
          refine z_callV C hK hDD (c_X0_restBehind (zl x) (zG x) a c u p r i w k (by omega) (by omega) (by omega)) gX0_leastRest_X0_restBehind rfl zy_X0_restBehind 48 (WB_48 a c ((rws p r u))) rfl ⟨by omega, by decide⟩ rfl (Nat.le_of_ble_eq_true rfl) (st := [.int (zI b)]) (stk2 := fun z7 => [.int (zI z7), .int (zI b)]) rfl (fun _ => rfl) dX0_leastRest_38 (fun z7 u8 h9 => ?_)
          rw [h9.1]; replace h9 := h9.2
          refine z_as (b := dab (k % 8) (pl w (k / 8)) + r (i + 1).toNat (mv w k)) h9 ?_
          refine z_as (b := dab (k % 8) (pl w (k / 8)) + hc (hlw u) (u 3 5) (u 17 9) (u 17 9 - 1 - i).toNat (mv w k)) (by rw [hgk]) ?_
          refine z_min C (by omega) (List.mem_of_getElem? (i := 2) rfl) (List.mem_of_getElem? (i := 3) rfl) (List.mem_of_getElem? (i := 4) rfl) (List.mem_of_getElem? (i := 5) rfl) (Nat.le_of_ble_eq_true rfl) (by omega) dX0_leastRest_41 (fun r10 h11 => ?_)
          have hmn := h11
          refine z_istore_n C [(3, .int (zI r10)), (0, .ref (a 48)), (1, .int (zI i)), (2, .int (zI w)), (4, .int (zI k))] dX0_leastRest_44 rfl (by decide) rfl ?_
          refine z_iinc C 4 [(4, .int (zI (k + 1))), (3, .int (zI r10)), (0, .ref (a 48)), (1, .int (zI i)), (2, .int (zI w))] dX0_leastRest_45 rfl (by decide) rfl ?_
          refine z_goto C 7 dX0_leastRest_48 (by decide) ?_
          refine z_lv [(0, .ref (a 48)), (1, .int (zI i)), (2, .int (zI w)), (3, .int (zI r10)), (4, .int (zI (k + 1)))] [2, 3, 4, 1, 0] rfl ?_
          exact ih7 (k + 1) r10 (by omega) (by rw [mvc_step hk.1]; first | (rw [if_neg (by rw [hA]; decide)]; exact hb) | (rw [if_pos hA, ← hb]; rcases hmn with ⟨q1, q2⟩ | ⟨q1, q2⟩; rw [if_pos q1, q2]; rw [if_neg (by omega), q2])) (by omega) (by omega)
  refine z_lv [(0, .ref (a 48)), (1, .int (zI i)), (2, .int (zI w)), (3, .int (zI 1000)), (4, .int (zI 0))] [2, 3, 4, 1, 0] rfl ?_
  exact L7_1 (((u 3 5 * 8 - 0 : Int)).toNat + 1) 0 1000 (by omega) (rfl) (by omega) (by omega)
-- NoteBells$HymnPlan.earliestBestMove
theorem inX0_earliestBestMove_X0 : ∀ w ∈ wsX00, w ∈ wsX0_earliestBestMove := fun w h => List.mem_cons_of_mem _ (List.mem_append_left _ (List.mem_append_right _ (h)))
theorem inX0_earliestBestMove_X8 : ∀ w ∈ wsX80, w ∈ wsX0_earliestBestMove := fun w h => List.mem_cons_of_mem _ (List.mem_append_right _ (h))
set_option maxHeartbeats 8000000 in
set_option maxRecDepth 100000 in
theorem c_X0_earliestBestMove (l : Launch) (D : va_G) (a : Nat → Nat) (c : Nat → ClassId) (u : zU) (p : Int → Int) (r : Nat → Int → Int) (i w : Int) (hI : IB u) (hp : p i = ((like (u 18) (u 17 6) (u 3 6) (u 3 4) (u 22 i) : Nat) : Int)) (b_i : 0 ≤ i ∧ i < 8) (b_n : i < u 17 9) (b_w : 0 ≤ w ∧ w < 512) (hG : ∀ m : Int, 0 ≤ m → m < u 3 5 * 8 → hlw u i (m % 8) = true → r (i + 1).toNat (mv w m) = hc (hlw u) (u 3 5) (u 17 9) (u 17 9 - 1 - i).toNat (mv w m)) (hT : r i.toNat w = hc (hlw u) (u 3 5) (u 17 9) (u 17 9 - i).toNat w) : ZM l D (zTy c) (WB a c) yX0_earliestBestMove wsX0_earliestBestMove 3 [.ref (a 48), .int (zI i), .int (zI w)] (rws p r u) rI (fun z u' => u' = (rws p r u) ∧ z = ebm (hlw u) (u 3 5) (u 17 9) i w) := by
  refine ZM.ofI (cc := cX0_earliestBestMove) (maxL := 4) [(0, .ref (a 48)), (1, .int (zI i)), (2, .int (zI w))] rfl (by decide +kernel) rfl (Nat.le_of_ble_eq_true rfl) (WB_addr a c) ?_
  intro x C hK _ _ hDD kret
  have hpp := hI.ppl
  refine z_iconst C dX0_earliestBestMove_0 ?_
  refine z_istore_n C [(3, .int (zI 0)), (0, .ref (a 48)), (1, .int (zI i)), (2, .int (zI w))] dX0_earliestBestMove_1 rfl (by decide) rfl ?_
  have L2_1 : ∀ (fu : Nat) (k : Int), (0 ≤ k ∧ k ≤ u 3 5 * 8) → (ebm (hlw u) (u 3 5) (u 17 9) i w = fgm (hlw u i) (hc (hlw u) (u 3 5) (u 17 9) (u 17 9 - 1 - i).toNat) w (hc (hlw u) (u 3 5) (u 17 9) (u 17 9 - i).toNat w) (u 3 5 * 8 - k).toNat k) → u 3 5 * 8 - k < (fu : Int) → Z x 0 0 (WB a c (rws p r u)) [(0, .ref (a 48)), (1, .int (zI i)), (2, .int (zI w)), (3, .int (zI k))] 2 [] := by
    intro fu
    induction fu with
    | zero => intro k hk hb hmeas; exfalso; omega
    | succ fu ih2 =>
      intro k hk hb hmeas
      refine z_iload_n C 3 dX0_earliestBestMove_2 rfl ?_
      refine z_aload_n C 0 dX0_earliestBestMove_3 rfl ?_
      refine z_get C hK (v := .ref (a 3)) inX0_earliestBestMove_X0 48 (WB_48 a c ((rws p r u))) rfl 0 (by decide) (List.mem_of_getElem? (i := 1) rfl) rfl dX0_earliestBestMove_4 ?_
      refine z_getN C hK (v := .int (zI (u 3 5))) inX0_earliestBestMove_X8 3 (WB_3 a c ((rws p r u))) rfl 5 (by decide) (List.mem_of_getElem? (i := 18) rfl) rfl dX0_earliestBestMove_7 ?_
      refine z_bipush C dX0_earliestBestMove_10 (by decide) ?_
      refine z_imul C dX0_earliestBestMove_12 ?_
      refine z_icmp_ge C 51 dX0_earliestBestMove_13 (by decide) (by omega) (fun h2 => ?_) (fun h2 => ?_)
      · skip
        refine z_iconst C dX0_earliestBestMove_51 ?_
        exact kret 0 ((rws p r u)) _ _ (⟨rfl, by rw [hb, show (u 3 5 * 8 - k).toNat = 0 by omega]; rfl⟩) dX0_earliestBestMove_52
      · skip
        refine z_aload_n C 0 dX0_earliestBestMove_16 rfl ?_
        refine z_iload_n C 1 dX0_earliestBestMove_17 rfl ?_
        refine z_iload_n C 3 dX0_earliestBestMove_18 rfl ?_
        refine z_callV C hK hDD (c_X0_canMake (zl x) (zG x) a c u p r i k (by omega) (by omega) (by omega)) gX0_earliestBestMove_X0_canMake rfl zy_X0_canMake 48 (WB_48 a c ((rws p r u))) rfl ⟨by omega, by decide⟩ rfl (Nat.le_of_ble_eq_true rfl) (st := []) (stk2 := fun z3 => [.int (zI z3)]) rfl (fun _ => rfl) dX0_earliestBestMove_19 (fun z3 u4 h5 => ?_)
        rw [h5.1]; replace h5 := h5.2
        have KCM := h5
        refine z_if_eq C 45 dX0_earliestBestMove_22 (by decide) (by omega) (fun h6 => ?_) (fun h6 => ?_)
        · have hno : ¬ (hlw u i (k % 8) = true ∧ dab (k % 8) (pl w (k / 8)) + hc (hlw u) (u 3 5) (u 17 9) (u 17 9 - 1 - i).toNat (mv w k) = hc (hlw u) (u 3 5) (u 17 9) (u 17 9 - i).toNat w) := fun q => KCM.elim (fun r => absurd r.1 (by omega)) (fun r => absurd (r.2.symm.trans q.1) (by decide))
          refine z_iinc C 3 [(3, .int (zI (k + 1))), (0, .ref (a 48)), (1, .int (zI i)), (2, .int (zI w))] dX0_earliestBestMove_45 rfl (by decide) rfl ?_
          refine z_goto C 2 dX0_earliestBestMove_48 (by decide) ?_
          refine z_lv [(0, .ref (a 48)), (1, .int (zI i)), (2, .int (zI w)), (3, .int (zI (k + 1)))] [1, 2, 3, 0] rfl ?_
          exact ih2 (k + 1) (by omega) (by rw [hb, show (u 3 5 * 8 - k).toNat = (u 3 5 * 8 - (k + 1)).toNat + 1 by omega, fgm, if_neg hno]) (by omega)
        · have hA : hlw u i (k % 8) = true := KCM.elim (fun q => q.2) (fun q => absurd q.1 (by omega))
          have hgk := hG k hk.1 (by omega) hA
          have hgb := hc_bd (hlw u) (u 3 5) (u 17 9) (u 17 9 - 1 - i).toNat (mv w k)
          have hdb := dab_bd (a := k % 8) (b := pl w (k / 8)) (by omega) (pl_bd _ _)
          have htb := hc_bd (hlw u) (u 3 5) (u 17 9) (u 17 9 - i).toNat w
          refine z_aload_n C 0 dX0_earliestBestMove_25 rfl ?_
          refine z_iload_n C 1 dX0_earliestBestMove_26 rfl ?_
          refine z_iload_n C 2 dX0_earliestBestMove_27 rfl ?_
          refine z_iload_n C 3 dX0_earliestBestMove_28 rfl ?_
          refine z_callV C hK hDD (c_X0_restBehind (zl x) (zG x) a c u p r i w k (by omega) (by omega) (by omega)) gX0_earliestBestMove_X0_restBehind rfl zy_X0_restBehind 48 (WB_48 a c ((rws p r u))) rfl ⟨by omega, by decide⟩ rfl (Nat.le_of_ble_eq_true rfl) (st := []) (stk2 := fun z7 => [.int (zI z7)]) rfl (fun _ => rfl) dX0_earliestBestMove_29 (fun z7 u8 h9 => ?_)
          rw [h9.1]; replace h9 := h9.2
          refine z_as (b := dab (k % 8) (pl w (k / 8)) + r (i + 1).toNat (mv w k)) h9 ?_
          refine z_as (b := dab (k % 8) (pl w (k / 8)) + hc (hlw u) (u 3 5) (u 17 9) (u 17 9 - 1 - i).toNat (mv w k)) (by rw [hgk]) ?_
          refine z_aload_n C 0 dX0_earliestBestMove_32 rfl ?_
          refine z_get C hK (v := .ref (a 49)) inX0_earliestBestMove_X0 48 (WB_48 a c ((rws p r u))) rfl 3 (by decide) (List.mem_of_getElem? (i := 2) rfl) rfl dX0_earliestBestMove_33 ?_
          refine z_iload_n C 1 dX0_earliestBestMove_36 rfl ?_
          refine z_aaldI C hK 3 (b := a (51 + i.toNat)) 49 (WB_49 a c ((rws p r u))) rfl (by decide) (by omega) (if_pos (by omega)) dX0_earliestBestMove_37 ?_
          refine z_iload_n C 2 dX0_earliestBestMove_38 rfl ?_
          refine z_iald C hK 0 (g := ((rws p r u) (51 + i.toNat))) (i := w) (51 + i.toNat) (WB_row a c ((rws p r u)) (i := i.toNat) (by omega)) rfl (by decide) (by omega) dX0_earliestBestMove_39 ?_
          refine z_as (b := hc (hlw u) (u 3 5) (u 17 9) (u 17 9 - i).toNat w) ((rws_row (by omega) _).trans hT) ?_
          refine z_icmp_ne C 45 dX0_earliestBestMove_40 (by decide) (by omega) (fun h10 => ?_) (fun h10 => ?_)
          · have hno : ¬ (hlw u i (k % 8) = true ∧ dab (k % 8) (pl w (k / 8)) + hc (hlw u) (u 3 5) (u 17 9) (u 17 9 - 1 - i).toNat (mv w k) = hc (hlw u) (u 3 5) (u 17 9) (u 17 9 - i).toNat w) := fun q => h10 q.2
            refine z_iinc C 3 [(3, .int (zI (k + 1))), (0, .ref (a 48)), (1, .int (zI i)), (2, .int (zI w))] dX0_earliestBestMove_45 rfl (by decide) rfl ?_
            refine z_goto C 2 dX0_earliestBestMove_48 (by decide) ?_
            refine z_lv [(0, .ref (a 48)), (1, .int (zI i)), (2, .int (zI w)), (3, .int (zI (k + 1)))] [1, 2, 3, 0] rfl ?_
            exact ih2 (k + 1) (by omega) (by rw [hb, show (u 3 5 * 8 - k).toNat = (u 3 5 * 8 - (k + 1)).toNat + 1 by omega, fgm, if_neg hno]) (by omega)
          · have hyes := h10
            refine z_iload_n C 3 dX0_earliestBestMove_43 rfl ?_
            exact kret k ((rws p r u)) _ _ (⟨rfl, by rw [hb, show (u 3 5 * 8 - k).toNat = (u 3 5 * 8 - (k + 1)).toNat + 1 by omega, fgm, if_pos ⟨hA, hyes⟩]⟩) dX0_earliestBestMove_44
  refine z_lv [(0, .ref (a 48)), (1, .int (zI i)), (2, .int (zI w)), (3, .int (zI 0))] [1, 2, 3, 0] rfl ?_
  exact L2_1 (((u 3 5 * 8 - 0 : Int)).toNat + 1) 0 (by omega) (by unfold ebm; rw [show (u 3 5 * 8 - 0).toNat = (8 * u 3 5).toNat by omega]) (by omega)
-- NoteBells$HymnPlan.markBehind
theorem inX0_markBehind_X0 : ∀ w ∈ wsX00, w ∈ wsX0_markBehind := fun w h => List.mem_cons_of_mem _ (List.mem_append_left _ (List.mem_append_right _ (h)))
theorem inX0_markBehind_X8 : ∀ w ∈ wsX80, w ∈ wsX0_markBehind := fun w h => List.mem_cons_of_mem _ (List.mem_append_right _ (h))
set_option maxHeartbeats 8000000 in
set_option maxRecDepth 100000 in
theorem c_X0_markBehind (l : Launch) (D : va_G) (a : Nat → Nat) (c : Nat → ClassId) (u : zU) (p : Int → Int) (r : Nat → Int → Int) (i w : Int) (hI : IB u) (hp : p i = ((like (u 18) (u 17 6) (u 3 6) (u 3 4) (u 22 i) : Nat) : Int)) (b_i : 0 ≤ i ∧ i < 8) (b_w : 0 ≤ w ∧ w < 512) : ZM l D (zTy c) (WB a c) yX0_markBehind wsX0_markBehind 3 [.ref (a 48), .int (zI i), .int (zI w)] (rws p r u) rV (fun z u' => ∃ r2 : Nat → Int → Int, u' = rws p r2 u ∧ (∀ c : Nat, c ≠ (i + 1).toNat → r2 c = r c) ∧ (∀ m : Int, 0 ≤ m → m < u 3 5 * 8 → hlw u i (m % 8) = true → r2 (i + 1).toNat (mv w m) = 0) ∧ ∀ j : Int, r2 (i + 1).toNat j = r (i + 1).toNat j ∨ r2 (i + 1).toNat j = 0) := by
  refine ZM.ofV (cc := cX0_markBehind) (maxL := 4) [(0, .ref (a 48)), (1, .int (zI i)), (2, .int (zI w))] rfl (by decide +kernel) rfl (Nat.le_of_ble_eq_true rfl) (WB_addr a c) ?_
  intro x C hK _ _ hDD kret
  have hpp := hI.ppl
  refine z_iconst C dX0_markBehind_0 ?_
  refine z_istore_n C [(3, .int (zI 0)), (0, .ref (a 48)), (1, .int (zI i)), (2, .int (zI w))] dX0_markBehind_1 rfl (by decide) rfl ?_
  have L2_1 : ∀ (fu : Nat) (k : Int) (r2 : Nat → Int → Int), (0 ≤ k ∧ k ≤ u 3 5 * 8) → ((∀ c : Nat, c ≠ (i + 1).toNat → r2 c = r c) ∧ (∀ m : Int, 0 ≤ m → m < k → hlw u i (m % 8) = true → r2 (i + 1).toNat (mv w m) = 0) ∧ ∀ j : Int, r2 (i + 1).toNat j = r (i + 1).toNat j ∨ r2 (i + 1).toNat j = 0) → u 3 5 * 8 - k < (fu : Int) → Z x 0 0 (WB a c (rws p r2 u)) [(0, .ref (a 48)), (1, .int (zI i)), (2, .int (zI w)), (3, .int (zI k))] 2 [] := by
    intro fu
    induction fu with
    | zero => intro k r2 hk hr hmeas; exfalso; omega
    | succ fu ih2 =>
      intro k r2 hk hr hmeas
      refine z_iload_n C 3 dX0_markBehind_2 rfl ?_
      refine z_aload_n C 0 dX0_markBehind_3 rfl ?_
      refine z_get C hK (v := .ref (a 3)) inX0_markBehind_X0 48 (WB_48 a c ((rws p r2 u))) rfl 0 (by decide) (List.mem_of_getElem? (i := 1) rfl) rfl dX0_markBehind_4 ?_
      refine z_getN C hK (v := .int (zI (u 3 5))) inX0_markBehind_X8 3 (WB_3 a c ((rws p r2 u))) rfl 5 (by decide) (List.mem_of_getElem? (i := 18) rfl) rfl dX0_markBehind_7 ?_
      refine z_bipush C dX0_markBehind_10 (by decide) ?_
      refine z_imul C dX0_markBehind_12 ?_
      refine z_icmp_ge C 46 dX0_markBehind_13 (by decide) (by omega) (fun h2 => ?_) (fun h2 => ?_)
      · skip
        exact kret 0 (rws p r2 u) _ _ (⟨r2, rfl, hr.1, fun m h0 h1 => hr.2.1 m h0 (by omega), hr.2.2⟩) dX0_markBehind_46
      · skip
        refine z_aload_n C 0 dX0_markBehind_16 rfl ?_
        refine z_iload_n C 1 dX0_markBehind_17 rfl ?_
        refine z_iload_n C 3 dX0_markBehind_18 rfl ?_
        refine z_callV C hK hDD (c_X0_canMake (zl x) (zG x) a c u p r2 i k (by omega) (by omega) (by omega)) gX0_markBehind_X0_canMake rfl zy_X0_canMake 48 (WB_48 a c ((rws p r2 u))) rfl ⟨by omega, by decide⟩ rfl (Nat.le_of_ble_eq_true rfl) (st := []) (stk2 := fun z3 => [.int (zI z3)]) rfl (fun _ => rfl) dX0_markBehind_19 (fun z3 u4 h5 => ?_)
        rw [h5.1]; replace h5 := h5.2
        have KCM := h5
        refine z_if_eq C 40 dX0_markBehind_22 (by decide) (by omega) (fun h6 => ?_) (fun h6 => ?_)
        · have hA : hlw u i (k % 8) = false := KCM.elim (fun q => absurd q.1 (by omega)) (fun q => q.2)
          refine z_iinc C 3 [(3, .int (zI (k + 1))), (0, .ref (a 48)), (1, .int (zI i)), (2, .int (zI w))] dX0_markBehind_40 rfl (by decide) rfl ?_
          refine z_goto C 2 dX0_markBehind_43 (by decide) ?_
          refine z_lv [(0, .ref (a 48)), (1, .int (zI i)), (2, .int (zI w)), (3, .int (zI (k + 1)))] [1, 2, 3, 0] rfl ?_
          exact ih2 (k + 1) r2 (by omega) (by first | exact mk_skip hr hA | exact mk_take hr) (by omega)
        · have hA : hlw u i (k % 8) = true := KCM.elim (fun q => q.2) (fun q => absurd q.1 (by omega))
          have hmv := mv_bd b_w (m := k) (by omega)
          refine z_aload_n C 0 dX0_markBehind_25 rfl ?_
          refine z_get C hK (v := .ref (a 49)) inX0_markBehind_X0 48 (WB_48 a c ((rws p r2 u))) rfl 3 (by decide) (List.mem_of_getElem? (i := 2) rfl) rfl dX0_markBehind_26 ?_
          refine z_iload_n C 1 dX0_markBehind_29 rfl ?_
          refine z_iconst C dX0_markBehind_30 ?_
          refine z_iadd C dX0_markBehind_31 ?_
          refine z_aaldI C hK 3 (b := a (51 + (i + 1).toNat)) 49 (WB_49 a c ((rws p r2 u))) rfl (by decide) (by omega) (if_pos (by omega)) dX0_markBehind_32 ?_
          refine z_iload_n C 2 dX0_markBehind_33 rfl ?_
          refine z_iload_n C 3 dX0_markBehind_34 rfl ?_
          refine z_callS C hK hDD (c_X0_moved (zl x) (zG x) ((WB a c)) (WB_addr a c) ((rws p r2 u)) w k (by omega) (by omega)) gX0_markBehind_X0_moved rfl rfl zy_X0_moved ⟨by omega, by decide⟩ rfl (Nat.le_of_ble_eq_true rfl) (st := [.ref (a (51 + (i + 1).toNat))]) (stk2 := fun z7 => [.int (zI z7), .ref (a (51 + (i + 1).toNat))]) rfl (fun _ => rfl) dX0_markBehind_35 (fun z7 u8 h9 => ?_)
          rw [h9.1]; replace h9 := h9.2
          refine z_as (b := mv w k) h9 ?_
          refine z_iconst C dX0_markBehind_38 ?_
          refine z_iast C hK (hDD _) 0 (g := (rws p r2 u) (51 + (i + 1).toNat)) (51 + (i + 1).toNat) (WB_row a c ((rws p r2 u)) (i := (i + 1).toNat) (by omega)) rfl (by decide) (by omega) (WB_row_set a c ((rws p r2 u)) (i := (i + 1).toNat) (by omega) (mv w k) 0) dX0_markBehind_39 ?_
          refine z_ws (ws' := (WB a c (rws p (rup r2 ((i + 1).toNat) (mv w k) (0)) u))) (congrArg (WB a c) (up_rws (by omega))) ?_
          refine z_iinc C 3 [(3, .int (zI (k + 1))), (0, .ref (a 48)), (1, .int (zI i)), (2, .int (zI w))] dX0_markBehind_40 rfl (by decide) rfl ?_
          refine z_goto C 2 dX0_markBehind_43 (by decide) ?_
          refine z_lv [(0, .ref (a 48)), (1, .int (zI i)), (2, .int (zI w)), (3, .int (zI (k + 1)))] [1, 2, 3, 0] rfl ?_
          exact ih2 (k + 1) ((rup r2 (i + 1).toNat (mv w k) 0)) (by omega) (by first | exact mk_skip hr hA | exact mk_take hr) (by omega)
  refine z_lv [(0, .ref (a 48)), (1, .int (zI i)), (2, .int (zI w)), (3, .int (zI 0))] [1, 2, 3, 0] rfl ?_
  exact L2_1 (((u 3 5 * 8 - 0 : Int)).toNat + 1) 0 r (by omega) (⟨fun _ _ => rfl, fun m h0 h1 => absurd h1 (by omega), fun j => Or.inl rfl⟩) (by omega)
-- java/util/Arrays.fill
set_option maxHeartbeats 8000000 in
set_option maxRecDepth 100000 in
theorem c_J7_fill_53178 (l : Launch) (D : va_G) (a : Nat → Nat) (c : Nat → ClassId) (u : zU) (p : Int → Int) (r : Nat → Int → Int) (i : Nat) (v : Int) (hi9 : i < 9) : ZM l D (zTy c) (WB a c) yJ7_fill_53178 wsJ7_fill_53178 1 [.ref (a (51 + i)), .int (zI v)] (rws p r u) rV (fun z u' => ∃ f : Int → Int, u' = rws p (fun c => if c = i then f else r c) u ∧ ∀ j : Int, 0 ≤ j → j < 512 → f j = v) := by
  refine ZM.ofV (cc := cJ7_fill_53178) (maxL := 4) [(0, .ref (a (51 + i))), (1, .int (zI v))] rfl (by decide +kernel) rfl (Nat.le_of_ble_eq_true rfl) (WB_addr a c) ?_
  intro x C hK _ _ hDD kret
  refine z_iconst C dJ7_fill_53178_0 ?_
  refine z_istore_n C [(2, .int (zI 0)), (0, .ref (a (51 + i))), (1, .int (zI v))] dJ7_fill_53178_1 rfl (by decide) rfl ?_
  refine z_aload_n C 1 dJ7_fill_53178_2 rfl ?_
  refine z_alen C hK 0 (51 + i) (WB_row a c ((rws p r u)) (i := i) (by omega)) rfl (by decide) dJ7_fill_53178_3 ?_
  refine z_istore_n C [(3, .int (zI 512)), (2, .int (zI 0)), (0, .ref (a (51 + i))), (1, .int (zI v))] dJ7_fill_53178_4 rfl (by decide) rfl ?_
  have L5_1 : ∀ (fu : Nat) (k : Int) (r2 : Nat → Int → Int), (0 ≤ k ∧ k ≤ 512) → ((∀ c : Nat, c ≠ i → r2 c = r c) ∧ ∀ j : Int, 0 ≤ j → j < k → r2 i j = v) → 512 - k < (fu : Int) → Z x 0 0 (WB a c (rws p r2 u)) [(0, .ref (a (51 + i))), (1, .int (zI v)), (2, .int (zI k)), (3, .int (zI 512))] 5 [] := by
    intro fu
    induction fu with
    | zero => intro k r2 hk hr hmeas; exfalso; omega
    | succ fu ih5 =>
      intro k r2 hk hr hmeas
      refine z_iload_n C 2 dJ7_fill_53178_5 rfl ?_
      refine z_iload_n C 3 dJ7_fill_53178_6 rfl ?_
      refine z_icmp_ge C 20 dJ7_fill_53178_7 (by decide) (by omega) (fun h2 => ?_) (fun h2 => ?_)
      · skip
        exact kret 0 (rws p r2 u) _ _ (⟨r2 i, congrArg (fun q => rws p q u) (funext fun q => by by_cases e : q = i; rw [if_pos e, e]; rw [if_neg e, hr.1 q e]), fun j h0 h1 => hr.2 j h0 (by omega)⟩) dJ7_fill_53178_20
      · skip
        refine z_aload_n C 0 dJ7_fill_53178_10 rfl ?_
        refine z_iload_n C 2 dJ7_fill_53178_11 rfl ?_
        refine z_iload_n C 1 dJ7_fill_53178_12 rfl ?_
        refine z_iast C hK (hDD _) 0 (g := (rws p r2 u) (51 + i)) (51 + i) (WB_row a c ((rws p r2 u)) (i := i) (by omega)) rfl (by decide) (by omega) (WB_row_set a c ((rws p r2 u)) (i := i) (by omega) k v) dJ7_fill_53178_13 ?_
        refine z_ws (ws' := (WB a c (rws p (rup r2 i (k) (v)) u))) (congrArg (WB a c) (up_rws (by omega))) ?_
        refine z_iinc C 2 [(2, .int (zI (k + 1))), (0, .ref (a (51 + i))), (1, .int (zI v)), (3, .int (zI 512))] dJ7_fill_53178_14 rfl (by decide) rfl ?_
        refine z_goto C 5 dJ7_fill_53178_17 (by decide) ?_
        refine z_lv [(0, .ref (a (51 + i))), (1, .int (zI v)), (2, .int (zI (k + 1))), (3, .int (zI 512))] [1, 2, 0, 3] rfl ?_
        exact ih5 (k + 1) ((rup r2 i k v)) (by omega) (⟨fun q hq => (funext fun z => rup_ne (Or.inl hq)).trans (hr.1 q hq), fun j h0 h1 => by by_cases e : j = k; rw [e]; exact rup_eq _ _ _ _; rw [rup_ne (Or.inr e)]; exact hr.2 j h0 (by omega)⟩) (by omega)
  refine z_lv [(0, .ref (a (51 + i))), (1, .int (zI v)), (2, .int (zI 0)), (3, .int (zI 512))] [2, 3, 1, 0] rfl ?_
  exact L5_1 (((512 - 0 : Int)).toNat + 1) 0 r (by omega) (⟨fun _ _ => rfl, fun j h0 h1 => absurd h1 (by omega)⟩) (by omega)
-- NoteBells$HymnPlan.markStandings
theorem inX0_markStandings_X0 : ∀ w ∈ wsX00, w ∈ wsX0_markStandings := fun w h => List.mem_cons_of_mem _ (List.mem_append_left _ (List.mem_append_left _ (List.mem_append_right _ (h))))
theorem inX0_markStandings_X2 : ∀ w ∈ wsX20, w ∈ wsX0_markStandings := fun w h => List.mem_cons_of_mem _ (List.mem_append_left _ (List.mem_append_right _ (h)))
set_option maxHeartbeats 8000000 in
set_option maxRecDepth 100000 in
theorem c_X0_markStandings (l : Launch) (D : va_G) (a : Nat → Nat) (c : Nat → ClassId) (u : zU) (p : Int → Int) (r : Nat → Int → Int) (hI : IB u) (hpk : Pk u p) : ZM l D (zTy c) (WB a c) yX0_markStandings wsX0_markStandings 5 [.ref (a 48)] (rws p r u) rV (fun z u' => ∃ r2 : Nat → Int → Int, u' = rws p r2 u ∧ Mk u r2 ∧ ∀ i : Int, 0 ≤ i → i ≤ u 17 9 → ∀ w : Int, 0 ≤ w → w < 512 → r2 i.toNat w = -1 ∨ r2 i.toNat w = 0) := by
  refine ZM.ofV (cc := cX0_markStandings) (maxL := 3) [(0, .ref (a 48))] rfl (by decide +kernel) rfl (Nat.le_of_ble_eq_true rfl) (WB_addr a c) ?_
  intro x C hK _ _ hDD kret
  have hpp := hI.ppl
  have hsu := hI.sung
  have hsb := stw_bd (pp := u 3 5) hI.stands
  refine z_iconst C dX0_markStandings_0 ?_
  refine z_istore_n C [(1, .int (zI 0)), (0, .ref (a 48))] dX0_markStandings_1 rfl (by decide) rfl ?_
  have L2_1 : ∀ (fu : Nat) (i : Int) (r2 : Nat → Int → Int), (0 ≤ i ∧ i ≤ u 17 9 + 1) → (∀ j : Int, 0 ≤ j → j < i → ∀ w : Int, 0 ≤ w → w < 512 → r2 j.toNat w = -1) → u 17 9 + 1 - i < (fu : Int) → Z x 0 0 (WB a c (rws p r2 u)) [(0, .ref (a 48)), (1, .int (zI i))] 2 [] := by
    intro fu
    induction fu with
    | zero => intro i r2 hi hr hmeas; exfalso; omega
    | succ fu ih2 =>
      intro i r2 hi hr hmeas
      refine z_iload_n C 1 dX0_markStandings_2 rfl ?_
      refine z_aload_n C 0 dX0_markStandings_3 rfl ?_
      refine z_get C hK (v := .ref (a 17)) inX0_markStandings_X0 48 (WB_48 a c ((rws p r2 u))) rfl 1 (by decide) (List.mem_of_getElem? (i := 1) rfl) rfl dX0_markStandings_4 ?_
      refine z_getN C hK (v := .int (zI (u 17 9))) inX0_markStandings_X2 17 (WB_17 a c ((rws p r2 u))) rfl 9 (by decide) (List.mem_of_getElem? (i := 19) rfl) rfl dX0_markStandings_7 ?_
      refine z_icmp_gt C 29 dX0_markStandings_10 (by decide) (by omega) (fun h2 => ?_) (fun h2 => ?_)
      · skip
        refine z_aload_n C 0 dX0_markStandings_29 rfl ?_
        refine z_get C hK (v := .ref (a 49)) inX0_markStandings_X0 48 (WB_48 a c ((rws p r2 u))) rfl 3 (by decide) (List.mem_of_getElem? (i := 2) rfl) rfl dX0_markStandings_30 ?_
        refine z_iconst C dX0_markStandings_33 ?_
        refine z_aaldI C hK 3 (b := a 51) 49 (WB_49 a c ((rws p r2 u))) rfl (by decide) (by omega) (if_pos (by omega)) dX0_markStandings_34 ?_
        refine z_aload_n C 0 dX0_markStandings_35 rfl ?_
        refine z_callV C hK hDD (c_X0_startStanding (zl x) (zG x) a c u p r2 (hI)) gX0_markStandings_X0_startStanding rfl zy_X0_startStanding 48 (WB_48 a c ((rws p r2 u))) rfl ⟨by omega, by decide⟩ rfl (Nat.le_of_ble_eq_true rfl) (st := [.ref (a 51)]) (stk2 := fun z3 => [.int (zI z3), .ref (a 51)]) rfl (fun _ => rfl) dX0_markStandings_36 (fun z3 u4 h5 => ?_)
        rw [h5.1]; replace h5 := h5.2
        refine z_as (b := stw (u 19) (u 3 5)) h5 ?_
        refine z_iconst C dX0_markStandings_39 ?_
        refine z_iast C hK (hDD _) 0 (g := (rws p r2 u) 51) 51 (WB_51 a c ((rws p r2 u))) rfl (by decide) (by omega) (WB_51_set a c ((rws p r2 u)) (stw (u 19) (u 3 5)) 0) dX0_markStandings_40 ?_
        refine z_iconst C dX0_markStandings_41 ?_
        refine z_istore_n C [(1, .int (zI 0)), (0, .ref (a 48))] dX0_markStandings_42 rfl (by decide) rfl ?_
        have L43_6 : ∀ (fu : Nat) (i : Int) (r3 : Nat → Int → Int), (0 ≤ i ∧ i ≤ u 17 9) → (r3 0 (stw (u 19) (u 3 5)) ≠ -1) → (Zr u r3) → (Cl u r3 i) → u 17 9 - i < (fu : Int) → Z x 0 0 (WB a c (rws p r3 u)) [(0, .ref (a 48)), (1, .int (zI i))] 43 [] := by
          intro fu
          induction fu with
          | zero => intro i r3 hi hm hz hc1 hmeas; exfalso; omega
          | succ fu ih43 =>
            intro i r3 hi hm hz hc1 hmeas
            refine z_iload_n C 1 dX0_markStandings_43 rfl ?_
            refine z_aload_n C 0 dX0_markStandings_44 rfl ?_
            refine z_get C hK (v := .ref (a 17)) inX0_markStandings_X0 48 (WB_48 a c ((rws p r3 u))) rfl 1 (by decide) (List.mem_of_getElem? (i := 1) rfl) rfl dX0_markStandings_45 ?_
            refine z_getN C hK (v := .int (zI (u 17 9))) inX0_markStandings_X2 17 (WB_17 a c ((rws p r3 u))) rfl 9 (by decide) (List.mem_of_getElem? (i := 19) rfl) rfl dX0_markStandings_48 ?_
            refine z_icmp_ge C 93 dX0_markStandings_51 (by decide) (by omega) (fun h7 => ?_) (fun h7 => ?_)
            · skip
              exact kret 0 (rws p r3 u) _ _ (⟨r3, rfl, ⟨hm, fun i h0 h1 => hc1 i h0 (by omega)⟩, hz⟩) dX0_markStandings_93
            · skip
              refine z_iconst C dX0_markStandings_54 ?_
              refine z_istore_n C [(2, .int (zI 0)), (0, .ref (a 48)), (1, .int (zI i))] dX0_markStandings_55 rfl (by decide) rfl ?_
              have L56_8 : ∀ (fu : Nat) (w : Int) (r4 : Nat → Int → Int), (0 ≤ w ∧ w ≤ 512) → (r4 0 (stw (u 19) (u 3 5)) ≠ -1) → (Zr u r4) → (Cm u r4 i w) → 512 - w < (fu : Int) → Z x 0 0 (WB a c (rws p r4 u)) [(0, .ref (a 48)), (1, .int (zI i)), (2, .int (zI w))] 56 [] := by
                intro fu
                induction fu with
                | zero => intro w r4 hw hm4 hz4 hc4 hmeas; exfalso; omega
                | succ fu ih56 =>
                  intro w r4 hw hm4 hz4 hc4 hmeas
                  refine z_iload_n C 2 dX0_markStandings_56 rfl ?_
                  refine z_sipush C dX0_markStandings_57 (by decide) ?_
                  refine z_icmp_ge C 87 dX0_markStandings_60 (by decide) (by omega) (fun h9 => ?_) (fun h9 => ?_)
                  · skip
                    refine z_iinc C 1 [(1, .int (zI (i + 1))), (0, .ref (a 48)), (2, .int (zI w))] dX0_markStandings_87 rfl (by decide) rfl ?_
                    refine z_goto C 43 dX0_markStandings_90 (by decide) ?_
                    refine z_lv [(0, .ref (a 48)), (1, .int (zI (i + 1)))] [1, 0] rfl ?_
                    exact ih43 (i + 1) r4 (by omega) (hm4) (hz4) (Cl_done hc4 (by omega)) (by omega)
                  · skip
                    refine z_aload_n C 0 dX0_markStandings_63 rfl ?_
                    refine z_get C hK (v := .ref (a 49)) inX0_markStandings_X0 48 (WB_48 a c ((rws p r4 u))) rfl 3 (by decide) (List.mem_of_getElem? (i := 2) rfl) rfl dX0_markStandings_64 ?_
                    refine z_iload_n C 1 dX0_markStandings_67 rfl ?_
                    refine z_aaldI C hK 3 (b := a (51 + i.toNat)) 49 (WB_49 a c ((rws p r4 u))) rfl (by decide) (by omega) (if_pos (by omega)) dX0_markStandings_68 ?_
                    refine z_iload_n C 2 dX0_markStandings_69 rfl ?_
                    refine z_iald C hK 0 (g := ((rws p r4 u) (51 + i.toNat))) (i := w) (51 + i.toNat) (WB_row a c ((rws p r4 u)) (i := i.toNat) (by omega)) rfl (by decide) (by omega) dX0_markStandings_70 ?_
                    refine z_as (b := r4 i.toNat w) (rws_row (by omega) _) ?_
                    refine z_iconst C dX0_markStandings_71 ?_
                    refine z_icmp_eq C 81 dX0_markStandings_72 (by decide) (by have := hz4 i hi.1 (by omega) w hw.1 (by omega); omega) (fun h10 => ?_) (fun h10 => ?_)
                    · have hun := h10
                      refine z_iinc C 2 [(2, .int (zI (w + 1))), (0, .ref (a 48)), (1, .int (zI i))] dX0_markStandings_81 rfl (by decide) rfl ?_
                      refine z_goto C 56 dX0_markStandings_84 (by decide) ?_
                      refine z_lv [(0, .ref (a 48)), (1, .int (zI i)), (2, .int (zI (w + 1)))] [1, 2, 0] rfl ?_
                      exact ih56 (w + 1) r4 (by omega) (by first | exact hm4 | exact m0_keep hi.1 hk5.1 hm4) (by first | exact hz4 | exact Zr_keep hk5 hz4) (by first | exact Cm_skip hc4 hun | exact Cm_take hi.1 hc4 hk5) (by omega)
                    · have hma := h10
                      refine z_aload_n C 0 dX0_markStandings_75 rfl ?_
                      refine z_iload_n C 1 dX0_markStandings_76 rfl ?_
                      refine z_iload_n C 2 dX0_markStandings_77 rfl ?_
                      refine z_callV C hK hDD (c_X0_markBehind (zl x) (zG x) a c u p r4 i w (hI) (hpk i hi.1 (by omega)) (by omega) (by omega)) gX0_markStandings_X0_markBehind rfl zy_X0_markBehind 48 (WB_48 a c ((rws p r4 u))) rfl ⟨by omega, by decide⟩ rfl (Nat.le_of_ble_eq_true rfl) (st := []) (stk2 := fun _ => []) rfl (fun _ => rfl) dX0_markStandings_78 (fun z11 u12 h13 => ?_)
                      obtain ⟨r5, e1, hk5⟩ := h13
                      rw [e1]
                      change Z x 0 0 (WB a c (rws p r5 u)) _ _ _
                      refine z_iinc C 2 [(2, .int (zI (w + 1))), (0, .ref (a 48)), (1, .int (zI i))] dX0_markStandings_81 rfl (by decide) rfl ?_
                      refine z_goto C 56 dX0_markStandings_84 (by decide) ?_
                      refine z_lv [(0, .ref (a 48)), (1, .int (zI i)), (2, .int (zI (w + 1)))] [1, 2, 0] rfl ?_
                      exact ih56 (w + 1) r5 (by omega) (by first | exact hm4 | exact m0_keep hi.1 hk5.1 hm4) (by first | exact hz4 | exact Zr_keep hk5 hz4) (by first | exact Cm_skip hc4 hun | exact Cm_take hi.1 hc4 hk5) (by omega)
              refine z_lv [(0, .ref (a 48)), (1, .int (zI i)), (2, .int (zI 0))] [1, 2, 0] rfl ?_
              exact L56_8 (((512 - 0 : Int)).toNat + 1) 0 r3 (by omega) (hm) (hz) (⟨hc1, fun v h0 h1 => absurd h1 (by omega)⟩) (by omega)
        refine z_lv [(0, .ref (a 48)), (1, .int (zI 0))] [1, 0] rfl ?_
        exact L43_6 (((u 17 9 - 0 : Int)).toNat + 1) 0 ((rup r2 0 (stw (u 19) (u 3 5)) 0)) (by omega) (by rw [rup_eq]; decide) (Zr_start hr (by omega)) (fun j h0 h1 => absurd h1 (by omega)) (by omega)
      · skip
        refine z_aload_n C 0 dX0_markStandings_13 rfl ?_
        refine z_get C hK (v := .ref (a 49)) inX0_markStandings_X0 48 (WB_48 a c ((rws p r2 u))) rfl 3 (by decide) (List.mem_of_getElem? (i := 2) rfl) rfl dX0_markStandings_14 ?_
        refine z_iload_n C 1 dX0_markStandings_17 rfl ?_
        refine z_aaldI C hK 3 (b := a (51 + i.toNat)) 49 (WB_49 a c ((rws p r2 u))) rfl (by decide) (by omega) (if_pos (by omega)) dX0_markStandings_18 ?_
        refine z_iconst C dX0_markStandings_19 ?_
        refine z_callJ C hK hDD (c_J7_fill_53178 (zl x) (zG x) a c u p r2 i.toNat (-1) (by omega)) gX0_markStandings_J7_fill_53178 rfl zy_J7_fill_53178 ⟨by omega, by decide⟩ rfl (Nat.le_of_ble_eq_true rfl) (st := []) (stk2 := fun _ => []) rfl (fun _ => rfl) dX0_markStandings_20 (fun z14 u15 h16 => ?_)
        obtain ⟨f, e1, hfl⟩ := h16
        rw [e1]
        change Z x 0 0 (WB a c (rws p (fun q => if q = i.toNat then f else r2 q) u)) _ _ _
        refine z_iinc C 1 [(1, .int (zI (i + 1))), (0, .ref (a 48))] dX0_markStandings_23 rfl (by decide) rfl ?_
        refine z_goto C 2 dX0_markStandings_26 (by decide) ?_
        refine z_lv [(0, .ref (a 48)), (1, .int (zI (i + 1)))] [1, 0] rfl ?_
        exact ih2 (i + 1) ((fun q => if q = i.toNat then f else r2 q)) (by omega) (fl_step hi.1 hr hfl) (by omega)
  refine z_lv [(0, .ref (a 48)), (1, .int (zI 0))] [1, 0] rfl ?_
  exact L2_1 (((u 17 9 + 1 - 0 : Int)).toNat + 1) 0 r (by omega) (fun j h0 h1 => absurd h1 (by omega)) (by omega)
-- NoteBells$HymnPlan.findRests
theorem inX0_findRests_X0 : ∀ w ∈ wsX00, w ∈ wsX0_findRests := fun w h => List.mem_cons_of_mem _ (List.mem_append_left _ (List.mem_append_left _ (List.mem_append_left _ (List.mem_append_right _ (h)))))
theorem inX0_findRests_X2 : ∀ w ∈ wsX20, w ∈ wsX0_findRests := fun w h => List.mem_cons_of_mem _ (List.mem_append_left _ (List.mem_append_left _ (List.mem_append_right _ (h))))
set_option maxHeartbeats 8000000 in
set_option maxRecDepth 100000 in
theorem c_X0_findRests (l : Launch) (D : va_G) (a : Nat → Nat) (c : Nat → ClassId) (u : zU) (p : Int → Int) (r : Nat → Int → Int) (hI : IB u) : ZM l D (zTy c) (WB a c) yX0_findRests wsX0_findRests 6 [.ref (a 48)] (rws p r u) rV (fun z u' => ∃ (p2 : Int → Int) (r2 : Nat → Int → Int), u' = rws p2 r2 u ∧ Pk u p2 ∧ Mk u r2 ∧ Rk u r2 0) := by
  refine ZM.ofV (cc := cX0_findRests) (maxL := 3) [(0, .ref (a 48))] rfl (by decide +kernel) rfl (Nat.le_of_ble_eq_true rfl) (WB_addr a c) ?_
  intro x C hK _ _ hDD kret
  have hsu := hI.sung
  have hlv := hI.lev
  refine z_iconst C dX0_findRests_0 ?_
  refine z_istore_n C [(1, .int (zI 0)), (0, .ref (a 48))] dX0_findRests_1 rfl (by decide) rfl ?_
  have L2_1 : ∀ (fu : Nat) (i : Int) (p2 : Int → Int), (0 ≤ i ∧ i ≤ u 17 9) → (∀ j : Int, 0 ≤ j → j < i → p2 j = ((like (u 18) (u 17 6) (u 3 6) (u 3 4) (u 22 j) : Nat) : Int)) → u 17 9 - i < (fu : Int) → Z x 0 0 (WB a c (rws p2 r u)) [(0, .ref (a 48)), (1, .int (zI i))] 2 [] := by
    intro fu
    induction fu with
    | zero => intro i p2 hi hp2 hmeas; exfalso; omega
    | succ fu ih2 =>
      intro i p2 hi hp2 hmeas
      refine z_iload_n C 1 dX0_findRests_2 rfl ?_
      refine z_aload_n C 0 dX0_findRests_3 rfl ?_
      refine z_get C hK (v := .ref (a 17)) inX0_findRests_X0 48 (WB_48 a c ((rws p2 r u))) rfl 1 (by decide) (List.mem_of_getElem? (i := 1) rfl) rfl dX0_findRests_4 ?_
      refine z_getN C hK (v := .int (zI (u 17 9))) inX0_findRests_X2 17 (WB_17 a c ((rws p2 r u))) rfl 9 (by decide) (List.mem_of_getElem? (i := 19) rfl) rfl dX0_findRests_7 ?_
      refine z_icmp_ge C 41 dX0_findRests_10 (by decide) (by omega) (fun h2 => ?_) (fun h2 => ?_)
      · skip
        refine z_aload_n C 0 dX0_findRests_41 rfl ?_
        refine z_callV C hK hDD (c_X0_markStandings (zl x) (zG x) a c u p2 r (hI) (fun j h0 h1 => hp2 j h0 (by omega))) gX0_findRests_X0_markStandings rfl zy_X0_markStandings 48 (WB_48 a c ((rws p2 r u))) rfl ⟨by omega, by decide⟩ rfl (Nat.le_of_ble_eq_true rfl) (st := []) (stk2 := fun _ => []) rfl (fun _ => rfl) dX0_findRests_42 (fun z3 u4 h5 => ?_)
        obtain ⟨r2, e1, hM, hz⟩ := h5
        rw [e1]
        change Z x 0 0 (WB a c (rws p2 r2 u)) _ _ _
        refine z_aload_n C 0 dX0_findRests_45 rfl ?_
        refine z_get C hK (v := .ref (a 17)) inX0_findRests_X0 48 (WB_48 a c ((rws p2 r2 u))) rfl 1 (by decide) (List.mem_of_getElem? (i := 1) rfl) rfl dX0_findRests_46 ?_
        refine z_getN C hK (v := .int (zI (u 17 9))) inX0_findRests_X2 17 (WB_17 a c ((rws p2 r2 u))) rfl 9 (by decide) (List.mem_of_getElem? (i := 19) rfl) rfl dX0_findRests_49 ?_
        refine z_iconst C dX0_findRests_52 ?_
        refine z_isub C dX0_findRests_53 ?_
        refine z_istore_n C [(1, .int (zI ((u 17 9) - 1))), (0, .ref (a 48))] dX0_findRests_54 rfl (by decide) rfl ?_
        have L55_6 : ∀ (fu : Nat) (i : Int) (r4 : Nat → Int → Int), (-1 ≤ i ∧ i < u 17 9) → (Sm u r2 r4) → (Rk u r4 (i + 1)) → i + 1 < (fu : Int) → Z x 0 0 (WB a c (rws p2 r4 u)) [(0, .ref (a 48)), (1, .int (zI i))] 55 [] := by
          intro fu
          induction fu with
          | zero => intro i r4 hi hs4 hR hmeas; exfalso; omega
          | succ fu ih55 =>
            intro i r4 hi hs4 hR hmeas
            refine z_iload_n C 1 dX0_findRests_55 rfl ?_
            refine z_if_lt C 106 dX0_findRests_56 (by decide) (by omega) (fun h7 => ?_) (fun h7 => ?_)
            · skip
              exact kret 0 (rws p2 r4 u) _ _ (⟨p2, r4, rfl, fun j h0 h1 => hp2 j h0 (by omega), Sm_Mk hI hs4 hM, by rw [show i + 1 = 0 by omega] at hR; exact hR⟩) dX0_findRests_106
            · skip
              refine z_iconst C dX0_findRests_59 ?_
              refine z_istore_n C [(2, .int (zI 0)), (0, .ref (a 48)), (1, .int (zI i))] dX0_findRests_60 rfl (by decide) rfl ?_
              have L61_8 : ∀ (fu : Nat) (w : Int) (r5 : Nat → Int → Int), (0 ≤ w ∧ w ≤ 512) → (Sm u r2 r5) → (Rm u r5 i w) → 512 - w < (fu : Int) → Z x 0 0 (WB a c (rws p2 r5 u)) [(0, .ref (a 48)), (1, .int (zI i)), (2, .int (zI w))] 61 [] := by
                intro fu
                induction fu with
                | zero => intro w r5 hw hs5 hR5 hmeas; exfalso; omega
                | succ fu ih61 =>
                  intro w r5 hw hs5 hR5 hmeas
                  refine z_iload_n C 2 dX0_findRests_61 rfl ?_
                  refine z_sipush C dX0_findRests_62 (by decide) ?_
                  refine z_icmp_ge C 100 dX0_findRests_65 (by decide) (by omega) (fun h9 => ?_) (fun h9 => ?_)
                  · skip
                    refine z_iinc C 1 [(1, .int (zI (i + (-1)))), (0, .ref (a 48)), (2, .int (zI w))] dX0_findRests_100 rfl (by decide) rfl ?_
                    refine z_goto C 55 dX0_findRests_103 (by decide) ?_
                    refine z_lv [(0, .ref (a 48)), (1, .int (zI (i + (-1))))] [1, 0] rfl ?_
                    exact ih55 (i + (-1)) r5 (by omega) (hs5) (by rw [show i + -1 + 1 = i by omega]; exact Rk_done hR5 (by omega)) (by omega)
                  · skip
                    refine z_aload_n C 0 dX0_findRests_68 rfl ?_
                    refine z_get C hK (v := .ref (a 49)) inX0_findRests_X0 48 (WB_48 a c ((rws p2 r5 u))) rfl 3 (by decide) (List.mem_of_getElem? (i := 4) rfl) rfl dX0_findRests_69 ?_
                    refine z_iload_n C 1 dX0_findRests_72 rfl ?_
                    refine z_aaldI C hK 3 (b := a (51 + i.toNat)) 49 (WB_49 a c ((rws p2 r5 u))) rfl (by decide) (by omega) (if_pos (by omega)) dX0_findRests_73 ?_
                    refine z_iload_n C 2 dX0_findRests_74 rfl ?_
                    refine z_iald C hK 0 (g := ((rws p2 r5 u) (51 + i.toNat))) (i := w) (51 + i.toNat) (WB_row a c ((rws p2 r5 u)) (i := i.toNat) (by omega)) rfl (by decide) (by omega) dX0_findRests_75 ?_
                    refine z_as (b := r5 i.toNat w) (rws_row (by omega) _) ?_
                    refine z_iconst C dX0_findRests_76 ?_
                    refine z_icmp_eq C 94 dX0_findRests_77 (by decide) (by have := Sm_bd hs5 hz i (by omega) (by omega) w hw.1 (by omega); omega) (fun h10 => ?_) (fun h10 => ?_)
                    · have hun := h10
                      refine z_iinc C 2 [(2, .int (zI (w + 1))), (0, .ref (a 48)), (1, .int (zI i))] dX0_findRests_94 rfl (by decide) rfl ?_
                      refine z_goto C 61 dX0_findRests_97 (by decide) ?_
                      refine z_lv [(0, .ref (a 48)), (1, .int (zI i)), (2, .int (zI (w + 1)))] [1, 2, 0] rfl ?_
                      exact ih61 (w + 1) r5 (by omega) (by first | exact hs5 | exact Sm_put hs5 hma hcb) (by first | exact Rm_skip hR5 hun | exact Rm_put (by omega) hR5) (by omega)
                    · have hma := h10
                      have hcb := hc_bd (hlw u) (u 3 5) (u 17 9) (u 17 9 - i).toNat w
                      have hcn : hc (hlw u) (u 3 5) (u 17 9) (u 17 9 - i).toNat w ≠ -1 := by omega
                      refine z_aload_n C 0 dX0_findRests_80 rfl ?_
                      refine z_get C hK (v := .ref (a 49)) inX0_findRests_X0 48 (WB_48 a c ((rws p2 r5 u))) rfl 3 (by decide) (List.mem_of_getElem? (i := 4) rfl) rfl dX0_findRests_81 ?_
                      refine z_iload_n C 1 dX0_findRests_84 rfl ?_
                      refine z_aaldI C hK 3 (b := a (51 + i.toNat)) 49 (WB_49 a c ((rws p2 r5 u))) rfl (by decide) (by omega) (if_pos (by omega)) dX0_findRests_85 ?_
                      refine z_iload_n C 2 dX0_findRests_86 rfl ?_
                      refine z_aload_n C 0 dX0_findRests_87 rfl ?_
                      refine z_iload_n C 1 dX0_findRests_88 rfl ?_
                      refine z_iload_n C 2 dX0_findRests_89 rfl ?_
                      refine z_callV C hK hDD (c_X0_leastRest (zl x) (zG x) a c u p2 r5 i w (hI) (hp2 i (by omega) (by omega)) (by omega) (by omega) (by omega) (Mk_G hI (Sm_Mk hI hs5 hM) hR5.1 (by omega) (by omega) hma)) gX0_findRests_X0_leastRest rfl zy_X0_leastRest 48 (WB_48 a c ((rws p2 r5 u))) rfl ⟨by omega, by decide⟩ rfl (Nat.le_of_ble_eq_true rfl) (st := [.int (zI w), .ref (a (51 + i.toNat))]) (stk2 := fun z11 => [.int (zI z11), .int (zI w), .ref (a (51 + i.toNat))]) rfl (fun _ => rfl) dX0_findRests_90 (fun z11 u12 h13 => ?_)
                      rw [h13.1]; replace h13 := h13.2
                      refine z_as (b := hc (hlw u) (u 3 5) (u 17 9) (u 17 9 - i).toNat w) h13 ?_
                      refine z_iast C hK (hDD _) 0 (g := (rws p2 r5 u) (51 + i.toNat)) (51 + i.toNat) (WB_row a c ((rws p2 r5 u)) (i := i.toNat) (by omega)) rfl (by decide) (by omega) (WB_row_set a c ((rws p2 r5 u)) (i := i.toNat) (by omega) w (hc (hlw u) (u 3 5) (u 17 9) (u 17 9 - i).toNat w)) dX0_findRests_93 ?_
                      refine z_ws (ws' := (WB a c (rws p2 (rup r5 i.toNat (w) (hc (hlw u) (u 3 5) (u 17 9) (u 17 9 - i).toNat w)) u))) (congrArg (WB a c) (up_rws (by omega))) ?_
                      refine z_iinc C 2 [(2, .int (zI (w + 1))), (0, .ref (a 48)), (1, .int (zI i))] dX0_findRests_94 rfl (by decide) rfl ?_
                      refine z_goto C 61 dX0_findRests_97 (by decide) ?_
                      refine z_lv [(0, .ref (a 48)), (1, .int (zI i)), (2, .int (zI (w + 1)))] [1, 2, 0] rfl ?_
                      exact ih61 (w + 1) ((rup r5 i.toNat w (hc (hlw u) (u 3 5) (u 17 9) (u 17 9 - i).toNat w))) (by omega) (by first | exact hs5 | exact Sm_put hs5 hma hcb) (by first | exact Rm_skip hR5 hun | exact Rm_put (by omega) hR5) (by omega)
              refine z_lv [(0, .ref (a 48)), (1, .int (zI i)), (2, .int (zI 0))] [1, 2, 0] rfl ?_
              exact L61_8 (((512 - 0 : Int)).toNat + 1) 0 r4 (by omega) (hs4) (⟨hR, fun v h0 h1 => absurd h1 (by omega)⟩) (by omega)
        refine z_lv [(0, .ref (a 48)), (1, .int (zI ((u 17 9) - 1)))] [1, 0] rfl ?_
        exact L55_6 (((((u 17 9) - 1) + 1 : Int)).toNat + 1) ((u 17 9) - 1) r2 (by omega) (Sm_rf) (by rw [show u 17 9 - 1 + 1 = u 17 9 by omega]; exact Rk_last (w := 512) (by omega) (fun v h0 h1 => hz (u 17 9) hsu.1 (Int.le_refl _) v h0 h1)) (by omega)
      · skip
        have hny := hI.hymn i hi.1 (by omega)
        refine z_aload_n C 0 dX0_findRests_13 rfl ?_
        refine z_get C hK (v := .ref (a 50)) inX0_findRests_X0 48 (WB_48 a c ((rws p2 r u))) rfl 4 (by decide) (List.mem_of_getElem? (i := 2) rfl) rfl dX0_findRests_14 ?_
        refine z_iload_n C 1 dX0_findRests_17 rfl ?_
        refine z_aload_n C 0 dX0_findRests_18 rfl ?_
        refine z_get C hK (v := .ref (a 37)) inX0_findRests_X0 48 (WB_48 a c ((rws p2 r u))) rfl 2 (by decide) (List.mem_of_getElem? (i := 3) rfl) rfl dX0_findRests_19 ?_
        refine z_aload_n C 0 dX0_findRests_22 rfl ?_
        refine z_get C hK (v := .ref (a 17)) inX0_findRests_X0 48 (WB_48 a c ((rws p2 r u))) rfl 1 (by decide) (List.mem_of_getElem? (i := 1) rfl) rfl dX0_findRests_23 ?_
        refine z_getN C hK (v := .ref (a 22)) inX0_findRests_X2 17 (WB_17 a c ((rws p2 r u))) rfl 4 (by decide) (List.mem_of_getElem? (i := 20) rfl) rfl dX0_findRests_26 ?_
        refine z_iload_n C 1 dX0_findRests_29 rfl ?_
        refine z_iald C hK 0 (g := (u 22)) (i := i) 22 (WB_22 a c ((rws p2 r u))) rfl (by decide) (by omega) dX0_findRests_30 ?_
        refine z_as (b := u 22 (i)) rfl ?_
        refine z_callVN C hK hDD (c_X6_likeSound (zl x) (zG x) a c ((rws p2 r u)) (u 22 (i)) (hI) (show -200 ≤ (u 22 (i)) ∧ (u 22 (i)) ≤ 200 by omega)) ggX0_findRests_X6_likeSound (List.mem_of_getElem? (i := 27) rfl) (List.mem_of_getElem? (i := 6) rfl) (List.mem_of_getElem? (i := 5) rfl) (List.mem_of_getElem? (i := 7) rfl) rfl zy_X6_likeSound 37 (WB_37 a c ((rws p2 r u))) rfl ⟨by omega, by decide⟩ rfl (Nat.le_of_ble_eq_true rfl) (st := [.int (zI i), .ref (a 50)]) (stk2 := fun z14 => [.int (zI z14), .int (zI i), .ref (a 50)]) rfl (fun _ => rfl) dX0_findRests_31 (fun z14 u15 h16 => ?_)
        rw [h16.1]; replace h16 := h16.2
        refine z_as (b := ((like ((u 18)) ((u 17 6)) ((u 3 6)) ((u 3 4)) (u 22 (i)) : Nat) : Int)) h16 ?_
        refine z_iast C hK (hDD _) 0 (g := (rws p2 r u) 50) 50 (WB_50 a c ((rws p2 r u))) rfl (by decide) (by omega) (WB_50_set a c ((rws p2 r u)) i (((like ((u 18)) ((u 17 6)) ((u 3 6)) ((u 3 4)) (u 22 (i)) : Nat) : Int))) dX0_findRests_34 ?_
        refine z_iinc C 1 [(1, .int (zI (i + 1))), (0, .ref (a 48))] dX0_findRests_35 rfl (by decide) rfl ?_
        refine z_goto C 2 dX0_findRests_38 (by decide) ?_
        refine z_lv [(0, .ref (a 48)), (1, .int (zI (i + 1)))] [1, 0] rfl ?_
        exact ih2 (i + 1) ((fun j => if j = i then ((like (u 18) (u 17 6) (u 3 6) (u 3 4) (u 22 i) : Nat) : Int) else p2 j)) (by omega) (ways_step hp2 rfl) (by omega)
  refine z_lv [(0, .ref (a 48)), (1, .int (zI 0))] [1, 0] rfl ?_
  exact L2_1 (((u 17 9 - 0 : Int)).toNat + 1) 0 p (by omega) (fun j h0 h1 => absurd h1 (by omega)) (by omega)
-- NoteBells$HymnPlan.leastSteps
theorem inX0_leastSteps_X0 : ∀ w ∈ wsX00, w ∈ wsX0_leastSteps := fun w h => List.mem_cons_of_mem _ (List.mem_append_left _ (List.mem_append_left _ (List.mem_append_left _ (List.mem_append_right _ (h)))))
set_option maxHeartbeats 8000000 in
set_option maxRecDepth 100000 in
theorem c_X0_leastSteps (l : Launch) (D : va_G) (a : Nat → Nat) (c : Nat → ClassId) (u : zU) (p : Int → Int) (r : Nat → Int → Int) (hI : IB u) : ZM l D (zTy c) (WB a c) yX0_leastSteps wsX0_leastSteps 7 [.ref (a 48)] (rws p r u) rI (fun z u' => (∃ (p2 : Int → Int) (r2 : Nat → Int → Int), u' = rws p2 r2 u ∧ Pk u p2 ∧ Mk u r2 ∧ Rk u r2 0) ∧ z = clw (hlw u) (u 3 5) (u 17 9) (stw (u 19) (u 3 5))) := by
  refine ZM.ofI (cc := cX0_leastSteps) (maxL := 2) [(0, .ref (a 48))] rfl (by decide +kernel) rfl (Nat.le_of_ble_eq_true rfl) (WB_addr a c) ?_
  intro x C hK _ _ hDD kret
  have hsu := hI.sung
  have hsb := stw_bd (pp := u 3 5) hI.stands
  have hcb := hc_bd (hlw u) (u 3 5) (u 17 9) (u 17 9).toNat (stw (u 19) (u 3 5))
  refine z_aload_n C 0 dX0_leastSteps_0 rfl ?_
  refine z_callV C hK hDD (c_X0_findRests (zl x) (zG x) a c u p r (hI)) gX0_leastSteps_X0_findRests rfl zy_X0_findRests 48 (WB_48 a c ((rws p r u))) rfl ⟨by omega, by decide⟩ rfl (Nat.le_of_ble_eq_true rfl) (st := []) (stk2 := fun _ => []) rfl (fun _ => rfl) dX0_leastSteps_1 (fun z1 u2 h3 => ?_)
  obtain ⟨p2, r2, e1, hP, hM, hR⟩ := h3
  rw [e1]
  have hR0 := hR 0 (Int.le_refl _) hsu.1 _ hsb.1 hsb.2 hM.1
  rw [show u 17 9 - 0 = u 17 9 by omega] at hR0
  change Z x 0 0 (WB a c (rws p2 r2 u)) _ _ _
  refine z_aload_n C 0 dX0_leastSteps_4 rfl ?_
  refine z_get C hK (v := .ref (a 49)) inX0_leastSteps_X0 48 (WB_48 a c ((rws p2 r2 u))) rfl 3 (by decide) (List.mem_of_getElem? (i := 1) rfl) rfl dX0_leastSteps_5 ?_
  refine z_iconst C dX0_leastSteps_8 ?_
  refine z_aaldI C hK 3 (b := a 51) 49 (WB_49 a c ((rws p2 r2 u))) rfl (by decide) (by omega) (if_pos (by omega)) dX0_leastSteps_9 ?_
  refine z_aload_n C 0 dX0_leastSteps_10 rfl ?_
  refine z_callV C hK hDD (c_X0_startStanding (zl x) (zG x) a c u p2 r2 (hI)) gX0_leastSteps_X0_startStanding rfl zy_X0_startStanding 48 (WB_48 a c ((rws p2 r2 u))) rfl ⟨by omega, by decide⟩ rfl (Nat.le_of_ble_eq_true rfl) (st := [.ref (a 51)]) (stk2 := fun z4 => [.int (zI z4), .ref (a 51)]) rfl (fun _ => rfl) dX0_leastSteps_11 (fun z4 u5 h6 => ?_)
  rw [h6.1]; replace h6 := h6.2
  refine z_as (b := stw (u 19) (u 3 5)) h6 ?_
  refine z_iald C hK 0 (g := ((rws p2 r2 u) 51)) (i := (stw (u 19) (u 3 5))) 51 (WB_51 a c ((rws p2 r2 u))) rfl (by decide) (by omega) dX0_leastSteps_14 ?_
  refine z_as (b := hc (hlw u) (u 3 5) (u 17 9) (u 17 9).toNat (stw (u 19) (u 3 5))) (hR0) ?_
  refine z_istore_n C [(1, .int (zI (hc (hlw u) (u 3 5) (u 17 9) (u 17 9).toNat (stw (u 19) (u 3 5))))), (0, .ref (a 48))] dX0_leastSteps_15 rfl (by decide) rfl ?_
  refine z_iload_n C 0 dX0_leastSteps_16 rfl ?_
  refine z_sipush C dX0_leastSteps_17 (by decide) ?_
  refine z_icmp_lt C 28 dX0_leastSteps_20 (by decide) (by omega) (fun h7 => ?_) (fun h7 => ?_)
  · skip
    refine z_iload_n C 0 dX0_leastSteps_28 rfl ?_
    exact kret (hc (hlw u) (u 3 5) (u 17 9) (u 17 9).toNat (stw (u 19) (u 3 5))) (rws p2 r2 u) _ _ (⟨⟨p2, r2, rfl, hP, hM, hR⟩, by unfold clw; first | rw [if_pos (by omega)] | rw [if_neg (by omega)]⟩) dX0_leastSteps_29
  · skip
    refine z_bipush C dX0_leastSteps_23 (by decide) ?_
    refine z_goto C 29 dX0_leastSteps_25 (by decide) ?_
    exact kret (-9) (rws p2 r2 u) _ _ (⟨⟨p2, r2, rfl, hP, hM, hR⟩, by unfold clw; first | rw [if_pos (by omega)] | rw [if_neg (by omega)]⟩) dX0_leastSteps_29
-- NoteBells$HymnPlan.moveFor
set_option maxHeartbeats 8000000 in
set_option maxRecDepth 100000 in
theorem c_X0_moveFor (l : Launch) (D : va_G) (a : Nat → Nat) (c : Nat → ClassId) (u : zU) (p : Int → Int) (r : Nat → Int → Int) (i : Int) (hI : IB u) (b_i : 0 ≤ i ∧ i < u 17 9) : ZM l D (zTy c) (WB a c) yX0_moveFor wsX0_moveFor 8 [.ref (a 48), .int (zI i)] (rws p r u) rI (fun z u' => (∃ (p2 : Int → Int) (r2 : Nat → Int → Int), u' = rws p2 r2 u) ∧ z = byw (hlw u) (u 3 5) (u 17 9) (stw (u 19) (u 3 5)) i) := by
  refine ZM.ofI (cc := cX0_moveFor) (maxL := 4) [(0, .ref (a 48)), (1, .int (zI i))] rfl (by decide +kernel) rfl (Nat.le_of_ble_eq_true rfl) (WB_addr a c) ?_
  intro x C hK _ _ hDD kret
  have hsu := hI.sung
  have hpp := hI.ppl
  have hsb := stw_bd (pp := u 3 5) hI.stands
  have hcl := clw_bd (hlw u) (u 3 5) (u 17 9) (stw (u 19) (u 3 5))
  have hcb := hc_bd (hlw u) (u 3 5) (u 17 9) (u 17 9).toNat (stw (u 19) (u 3 5))
  refine z_aload_n C 0 dX0_moveFor_0 rfl ?_
  refine z_callV C hK hDD (c_X0_leastSteps (zl x) (zG x) a c u p r (hI)) gX0_moveFor_X0_leastSteps rfl zy_X0_leastSteps 48 (WB_48 a c ((rws p r u))) rfl ⟨by omega, by decide⟩ rfl (Nat.le_of_ble_eq_true rfl) (st := []) (stk2 := fun z1 => [.int (zI z1)]) rfl (fun _ => rfl) dX0_moveFor_1 (fun z1 u2 h3 => ?_)
  obtain ⟨⟨p2, r2, e1, hP, hM, hR⟩, hz⟩ := h3
  rw [e1]
  change Z x 0 0 (WB a c (rws p2 r2 u)) _ _ _
  refine z_as (b := clw (hlw u) (u 3 5) (u 17 9) (stw (u 19) (u 3 5))) (hz) ?_
  refine z_bipush C dX0_moveFor_4 (by decide) ?_
  refine z_icmp_ne C 12 dX0_moveFor_6 (by decide) (by omega) (fun h4 => ?_) (fun h4 => ?_)
  · have hne := h4
    refine z_aload_n C 0 dX0_moveFor_12 rfl ?_
    refine z_callV C hK hDD (c_X0_startStanding (zl x) (zG x) a c u p2 r2 (hI)) gX0_moveFor_X0_startStanding rfl zy_X0_startStanding 48 (WB_48 a c ((rws p2 r2 u))) rfl ⟨by omega, by decide⟩ rfl (Nat.le_of_ble_eq_true rfl) (st := []) (stk2 := fun z5 => [.int (zI z5)]) rfl (fun _ => rfl) dX0_moveFor_13 (fun z5 u6 h7 => ?_)
    rw [h7.1]; replace h7 := h7.2
    refine z_as (b := stw (u 19) (u 3 5)) h7 ?_
    refine z_istore_n C [(2, .int (zI (stw (u 19) (u 3 5)))), (0, .ref (a 48)), (1, .int (zI i))] dX0_moveFor_16 rfl (by decide) rfl ?_
    refine z_iconst C dX0_moveFor_17 ?_
    refine z_istore_n C [(3, .int (zI 0)), (2, .int (zI (stw (u 19) (u 3 5)))), (0, .ref (a 48)), (1, .int (zI i))] dX0_moveFor_18 rfl (by decide) rfl ?_
    have L19_8 : ∀ (fu : Nat) (k : Int), (0 ≤ k ∧ k ≤ i) → (r2 k.toNat (stp (hlw u) (u 3 5) (u 17 9) (stw (u 19) (u 3 5)) k.toNat) ≠ -1) → (hc (hlw u) (u 3 5) (u 17 9) (u 17 9 - k).toNat (stp (hlw u) (u 3 5) (u 17 9) (stw (u 19) (u 3 5)) k.toNat) < 1000) → i - k < (fu : Int) → Z x 0 0 (WB a c (rws p2 r2 u)) [(0, .ref (a 48)), (1, .int (zI i)), (2, .int (zI ((stp (hlw u) (u 3 5) (u 17 9) (stw (u 19) (u 3 5)) k.toNat)))), (3, .int (zI k))] 19 [] := by
      intro fu
      induction fu with
      | zero => intro k hk hmk hlt hmeas; exfalso; omega
      | succ fu ih19 =>
        intro k hk hmk hlt hmeas
        refine z_iload_n C 3 dX0_moveFor_19 rfl ?_
        refine z_iload_n C 1 dX0_moveFor_20 rfl ?_
        refine z_icmp_ge C 41 dX0_moveFor_21 (by decide) (by omega) (fun h9 => ?_) (fun h9 => ?_)
        · skip
          have hwb := stp_bd (A := hlw u) (n := u 17 9) hpp hsb k.toNat
          refine z_aload_n C 0 dX0_moveFor_41 rfl ?_
          refine z_iload_n C 1 dX0_moveFor_42 rfl ?_
          refine z_iload_n C 2 dX0_moveFor_43 rfl ?_
          refine z_callV C hK hDD (c_X0_earliestBestMove (zl x) (zG x) a c u p2 r2 i ((stp (hlw u) (u 3 5) (u 17 9) (stw (u 19) (u 3 5)) k.toNat)) (hI) (hP i b_i.1 (by omega)) (by omega) (by omega) (by omega) (Mk_G hI hM (Rk_mono hR (by omega)) (by omega) hwb (by rw [show i = k by omega]; exact hmk)) (hR i b_i.1 (by omega) _ hwb.1 hwb.2 (by rw [show i = k by omega]; exact hmk))) gX0_moveFor_X0_earliestBestMove rfl zy_X0_earliestBestMove 48 (WB_48 a c ((rws p2 r2 u))) rfl ⟨by omega, by decide⟩ rfl (Nat.le_of_ble_eq_true rfl) (st := []) (stk2 := fun z10 => [.int (zI z10)]) rfl (fun _ => rfl) dX0_moveFor_44 (fun z10 u11 h12 => ?_)
          rw [h12.1]; replace h12 := h12.2
          refine z_as (b := ebm (hlw u) (u 3 5) (u 17 9) i ((stp (hlw u) (u 3 5) (u 17 9) (stw (u 19) (u 3 5)) k.toNat))) h12 ?_
          exact kret (ebm (hlw u) (u 3 5) (u 17 9) i ((stp (hlw u) (u 3 5) (u 17 9) (stw (u 19) (u 3 5)) k.toNat))) (rws p2 r2 u) _ _ (⟨⟨p2, r2, rfl⟩, by unfold byw; rw [if_neg (by unfold clw at hne; split at hne; exact absurd rfl hne; omega), show k.toNat = i.toNat by omega]⟩) dX0_moveFor_47
        · skip
          have hwb := stp_bd (A := hlw u) (n := u 17 9) hpp hsb k.toNat
          have hok := ebm_ok hpp (by omega) hlt
          have hste : mv (stp (hlw u) (u 3 5) (u 17 9) (stw (u 19) (u 3 5)) k.toNat) (ebm (hlw u) (u 3 5) (u 17 9) k (stp (hlw u) (u 3 5) (u 17 9) (stw (u 19) (u 3 5)) k.toNat)) = (stp (hlw u) (u 3 5) (u 17 9) (stw (u 19) (u 3 5)) (k + 1).toNat) := by rw [show (k + 1).toNat = k.toNat + 1 by omega]; show _ = mv _ (ebm (hlw u) (u 3 5) (u 17 9) ((k.toNat : Nat) : Int) _); rw [Int.toNat_of_nonneg hk.1]
          have hmk2 : r2 (k + 1).toNat (stp (hlw u) (u 3 5) (u 17 9) (stw (u 19) (u 3 5)) (k + 1).toNat) ≠ -1 := by rw [← hste]; exact hM.2 k hk.1 (by omega) _ hwb.1 hwb.2 hmk _ hok.2.1.1 hok.2.1.2 hok.1
          have hlt2 : hc (hlw u) (u 3 5) (u 17 9) (u 17 9 - (k + 1)).toNat (stp (hlw u) (u 3 5) (u 17 9) (stw (u 19) (u 3 5)) (k + 1).toNat) < 1000 := by rw [← hste, show (u 17 9 - (k + 1)).toNat = (u 17 9 - 1 - k).toNat by omega]; exact hok.2.2
          refine z_iload_n C 2 dX0_moveFor_24 rfl ?_
          refine z_aload_n C 0 dX0_moveFor_25 rfl ?_
          refine z_iload_n C 3 dX0_moveFor_26 rfl ?_
          refine z_iload_n C 2 dX0_moveFor_27 rfl ?_
          refine z_callV C hK hDD (c_X0_earliestBestMove (zl x) (zG x) a c u p2 r2 k ((stp (hlw u) (u 3 5) (u 17 9) (stw (u 19) (u 3 5)) k.toNat)) (hI) (hP k hk.1 (by omega)) (by omega) (by omega) (by omega) (Mk_G hI hM (Rk_mono hR (by omega)) (by omega) hwb hmk) (hR k hk.1 (by omega) _ hwb.1 hwb.2 hmk)) gX0_moveFor_X0_earliestBestMove rfl zy_X0_earliestBestMove 48 (WB_48 a c ((rws p2 r2 u))) rfl ⟨by omega, by decide⟩ rfl (Nat.le_of_ble_eq_true rfl) (st := [.int (zI ((stp (hlw u) (u 3 5) (u 17 9) (stw (u 19) (u 3 5)) k.toNat)))]) (stk2 := fun z13 => [.int (zI z13), .int (zI ((stp (hlw u) (u 3 5) (u 17 9) (stw (u 19) (u 3 5)) k.toNat)))]) rfl (fun _ => rfl) dX0_moveFor_28 (fun z13 u14 h15 => ?_)
          rw [h15.1]; replace h15 := h15.2
          refine z_as (b := ebm (hlw u) (u 3 5) (u 17 9) k ((stp (hlw u) (u 3 5) (u 17 9) (stw (u 19) (u 3 5)) k.toNat))) h15 ?_
          refine z_callS C hK hDD (c_X0_moved (zl x) (zG x) ((WB a c)) (WB_addr a c) ((rws p2 r2 u)) ((stp (hlw u) (u 3 5) (u 17 9) (stw (u 19) (u 3 5)) k.toNat)) (ebm (hlw u) (u 3 5) (u 17 9) k ((stp (hlw u) (u 3 5) (u 17 9) (stw (u 19) (u 3 5)) k.toNat))) (by omega) (by omega)) gX0_moveFor_X0_moved rfl rfl zy_X0_moved ⟨by omega, by decide⟩ rfl (Nat.le_of_ble_eq_true rfl) (st := []) (stk2 := fun z16 => [.int (zI z16)]) rfl (fun _ => rfl) dX0_moveFor_31 (fun z16 u17 h18 => ?_)
          rw [h18.1]; replace h18 := h18.2
          refine z_as (b := mv ((stp (hlw u) (u 3 5) (u 17 9) (stw (u 19) (u 3 5)) k.toNat)) (ebm (hlw u) (u 3 5) (u 17 9) k ((stp (hlw u) (u 3 5) (u 17 9) (stw (u 19) (u 3 5)) k.toNat)))) h18 ?_
          refine z_as (b := (stp (hlw u) (u 3 5) (u 17 9) (stw (u 19) (u 3 5)) (k + 1).toNat)) (hste) ?_
          refine z_istore_n C [(2, .int (zI ((stp (hlw u) (u 3 5) (u 17 9) (stw (u 19) (u 3 5)) (k + 1).toNat)))), (0, .ref (a 48)), (1, .int (zI i)), (3, .int (zI k))] dX0_moveFor_34 rfl (by decide) rfl ?_
          refine z_iinc C 3 [(3, .int (zI (k + 1))), (2, .int (zI ((stp (hlw u) (u 3 5) (u 17 9) (stw (u 19) (u 3 5)) (k + 1).toNat)))), (0, .ref (a 48)), (1, .int (zI i))] dX0_moveFor_35 rfl (by decide) rfl ?_
          refine z_goto C 19 dX0_moveFor_38 (by decide) ?_
          refine z_lv [(0, .ref (a 48)), (1, .int (zI i)), (2, .int (zI ((stp (hlw u) (u 3 5) (u 17 9) (stw (u 19) (u 3 5)) (k + 1).toNat)))), (3, .int (zI (k + 1)))] [2, 3, 1, 0] rfl ?_
          exact ih19 (k + 1) (by omega) (hmk2) (hlt2) (by omega)
    refine z_lv [(0, .ref (a 48)), (1, .int (zI i)), (2, .int (zI (stw (u 19) (u 3 5)))), (3, .int (zI 0))] [2, 3, 1, 0] rfl ?_
    have hc0 : hc (hlw u) (u 3 5) (u 17 9) (u 17 9).toNat (stw (u 19) (u 3 5)) < 1000 := by unfold clw at hne; split at hne; exact absurd rfl hne; omega
    exact L19_8 (((i - 0 : Int)).toNat + 1) 0 (by omega) (hM.1) (by rw [show u 17 9 - 0 = u 17 9 by omega]; exact hc0) (by omega)
  · have heq := h4
    refine z_bipush C dX0_moveFor_9 (by decide) ?_
    exact kret (-9) (rws p2 r2 u) _ _ (⟨⟨p2, r2, rfl⟩, by unfold byw; rw [if_pos (by unfold clw at heq; split at heq; omega; omega)]⟩) dX0_moveFor_11
-- NoteBells.climbing
theorem inX10_climbing_X10 : ∀ w ∈ wsX100, w ∈ wsX10_climbing := fun w h => List.mem_cons_of_mem _ (List.mem_append_left _ (List.mem_append_left _ (List.mem_append_left _ (List.mem_append_left _ (List.mem_append_right _ (h))))))
set_option maxHeartbeats 8000000 in
set_option maxRecDepth 100000 in
theorem c_X10_climbing (l : Launch) (D : va_G) (a : Nat → Nat) (c : Nat → ClassId) (u : zU)  (hI : IB u) : ZM l D (zTy c) (WB a c) yX10_climbing wsX10_climbing 8 [.ref (a 0)] u rI (fun z u' => (∃ (p2 : Int → Int) (r2 : Nat → Int → Int), u' = rws p2 r2 u) ∧ z = clw (hlw u) (u 3 5) (u 17 9) (stw (u 19) (u 3 5))) := by
  refine ZM.ofI (cc := cX10_climbing) (maxL := 1) [(0, .ref (a 0))] rfl (by decide +kernel) rfl (Nat.le_of_ble_eq_true rfl) (WB_addr a c) ?_
  intro x C hK _ _ hDD kret
  refine z_aload_n C 0 dX10_climbing_0 rfl ?_
  refine z_get C hK (v := .ref (a 48)) inX10_climbing_X10 0 (WB_0 a c u) rfl 11 (by decide) (List.mem_of_getElem? (i := 1) rfl) rfl dX10_climbing_1 ?_
  refine z_ws (ws' := (WB a c (rws (u 50) (fun q => u (51 + q)) u))) (congrArg (WB a c) (rws_self u).symm) ?_
  refine z_callVN C hK hDD (c_X0_leastSteps (zl x) (zG x) a c u ((u 50)) ((fun q => u (51 + q))) (hI)) ggX10_climbing_X0_leastSteps (List.mem_of_getElem? (i := 23) rfl) (List.mem_of_getElem? (i := 3) rfl) (List.mem_of_getElem? (i := 2) rfl) (List.mem_of_getElem? (i := 4) rfl) rfl zy_X0_leastSteps 48 (WB_48 a c ((rws (u 50) (fun q => u (51 + q)) u))) rfl ⟨by omega, by decide⟩ rfl (Nat.le_of_ble_eq_true rfl) (st := []) (stk2 := fun z1 => [.int (zI z1)]) rfl (fun _ => rfl) dX10_climbing_4 (fun z1 u2 h3 => ?_)
  have KQ := h3
  exact kret z1 u2 _ _ (KQ.elim (fun q1 q2 => ⟨q1.elim (fun p2 q => q.elim (fun r2 q => ⟨p2, r2, q.1⟩)), q2⟩)) dX10_climbing_7
-- NoteBells.by
theorem inX10_by_X10 : ∀ w ∈ wsX100, w ∈ wsX10_by := fun w h => List.mem_cons_of_mem _ (List.mem_append_left _ (List.mem_append_left _ (List.mem_append_left _ (List.mem_append_left _ (List.mem_append_right _ (h))))))
theorem inX10_by_X2 : ∀ w ∈ wsX20, w ∈ wsX10_by := fun w h => List.mem_cons_of_mem _ (List.mem_append_left _ (List.mem_append_left _ (List.mem_append_left _ (List.mem_append_right _ (h)))))
set_option maxHeartbeats 8000000 in
set_option maxRecDepth 100000 in
theorem c_X10_by (l : Launch) (D : va_G) (a : Nat → Nat) (c : Nat → ClassId) (u : zU) (i k : Int) (hI : IB u) (b_i : -2147483648 ≤ i ∧ i < 2147483648) (b_k : -2147483648 ≤ k ∧ k < 2147483648) : ZM l D (zTy c) (WB a c) yX10_by wsX10_by 9 [.ref (a 0), .int (zI i), .int (zI k)] u rI (fun z u' => (∃ (p2 : Int → Int) (r2 : Nat → Int → Int), u' = rws p2 r2 u) ∧ ((¬ (0 ≤ i ∧ i < u 17 9 ∧ 0 ≤ k ∧ k ≤ 1) ∧ z = -1) ∨ ((0 ≤ i ∧ i < u 17 9 ∧ 0 ≤ k ∧ k ≤ 1) ∧ byw (hlw u) (u 3 5) (u 17 9) (stw (u 19) (u 3 5)) i = -9 ∧ z = -9) ∨ ((0 ≤ i ∧ i < u 17 9 ∧ 0 ≤ k ∧ k ≤ 1) ∧ byw (hlw u) (u 3 5) (u 17 9) (stw (u 19) (u 3 5)) i ≠ -9 ∧ k = 0 ∧ z = (byw (hlw u) (u 3 5) (u 17 9) (stw (u 19) (u 3 5)) i) / 8) ∨ ((0 ≤ i ∧ i < u 17 9 ∧ 0 ≤ k ∧ k ≤ 1) ∧ byw (hlw u) (u 3 5) (u 17 9) (stw (u 19) (u 3 5)) i ≠ -9 ∧ k = 1 ∧ z = (byw (hlw u) (u 3 5) (u 17 9) (stw (u 19) (u 3 5)) i) % 8))) := by
  refine ZM.ofI (cc := cX10_by) (maxL := 4) [(0, .ref (a 0)), (1, .int (zI i)), (2, .int (zI k))] rfl (by decide +kernel) rfl (Nat.le_of_ble_eq_true rfl) (WB_addr a c) ?_
  intro x C hK _ _ hDD kret
  have hsu := hI.sung
  have hpp := hI.ppl
  have hbb := byw_bd (A := hlw u) (n := u 17 9) (w0 := (stw (u 19) (u 3 5))) (i := i) hpp
  refine z_iload_n C 1 dX10_by_0 rfl ?_
  refine z_iconst C dX10_by_1 ?_
  refine z_aload_n C 0 dX10_by_2 rfl ?_
  refine z_get C hK (v := .ref (a 17)) inX10_by_X10 0 (WB_0 a c u) rfl 4 (by decide) (List.mem_of_getElem? (i := 1) rfl) rfl dX10_by_3 ?_
  refine z_getN C hK (v := .int (zI (u 17 9))) inX10_by_X2 17 (WB_17 a c u) rfl 9 (by decide) (List.mem_of_getElem? (i := 11) rfl) rfl dX10_by_6 ?_
  refine z_iconst C dX10_by_9 ?_
  refine z_isub C dX10_by_10 ?_
  refine z_callS C hK hDD (c_X10_isWithin (zl x) (zG x) ((WB a c)) (WB_addr a c) u i 0 ((u 17 9) - 1) (by omega) (by omega) (by omega)) gX10_by_X10_isWithin rfl rfl zy_X10_isWithin ⟨by omega, by decide⟩ rfl (Nat.le_of_ble_eq_true rfl) (st := []) (stk2 := fun z1 => [.int (zI z1)]) rfl (fun _ => rfl) dX10_by_11 (fun z1 u2 h3 => ?_)
  rw [h3.1]; replace h3 := h3.2
  refine z_if_eq C 26 dX10_by_14 (by decide) (by omega) (fun h4 => ?_) (fun h4 => ?_)
  · skip
    refine z_iconst C dX10_by_26 ?_
    exact kret (-1) u _ _ (⟨⟨_, _, (rws_self u).symm⟩, Or.inl ⟨by omega, rfl⟩⟩) dX10_by_27
  · skip
    refine z_iload_n C 2 dX10_by_17 rfl ?_
    refine z_iconst C dX10_by_18 ?_
    refine z_iconst C dX10_by_19 ?_
    refine z_callS C hK hDD (c_X10_isWithin (zl x) (zG x) ((WB a c)) (WB_addr a c) u k 0 1 (by omega) (by omega) (by omega)) gX10_by_X10_isWithin rfl rfl zy_X10_isWithin ⟨by omega, by decide⟩ rfl (Nat.le_of_ble_eq_true rfl) (st := []) (stk2 := fun z5 => [.int (zI z5)]) rfl (fun _ => rfl) dX10_by_20 (fun z5 u6 h7 => ?_)
    rw [h7.1]; replace h7 := h7.2
    refine z_if_ne C 28 dX10_by_23 (by decide) (by omega) (fun h8 => ?_) (fun h8 => ?_)
    · skip
      refine z_aload_n C 0 dX10_by_28 rfl ?_
      refine z_get C hK (v := .ref (a 48)) inX10_by_X10 0 (WB_0 a c u) rfl 11 (by decide) (List.mem_of_getElem? (i := 2) rfl) rfl dX10_by_29 ?_
      refine z_iload_n C 1 dX10_by_32 rfl ?_
      refine z_ws (ws' := (WB a c (rws (u 50) (fun q => u (51 + q)) u))) (congrArg (WB a c) (rws_self u).symm) ?_
      refine z_callVN C hK hDD (c_X0_moveFor (zl x) (zG x) a c u ((u 50)) ((fun q => u (51 + q))) i (hI) (by omega)) ggX10_by_X0_moveFor (List.mem_of_getElem? (i := 24) rfl) (List.mem_of_getElem? (i := 8) rfl) (List.mem_of_getElem? (i := 7) rfl) (List.mem_of_getElem? (i := 9) rfl) rfl zy_X0_moveFor 48 (WB_48 a c ((rws (u 50) (fun q => u (51 + q)) u))) rfl ⟨by omega, by decide⟩ rfl (Nat.le_of_ble_eq_true rfl) (st := []) (stk2 := fun z9 => [.int (zI z9)]) rfl (fun _ => rfl) dX10_by_33 (fun z9 u10 h11 => ?_)
      obtain ⟨⟨p2, r2, e1⟩, hz⟩ := h11
      rw [e1]
      change Z x 0 0 (WB a c (rws p2 r2 u)) _ _ _
      refine z_as (b := byw (hlw u) (u 3 5) (u 17 9) (stw (u 19) (u 3 5)) i) (hz) ?_
      refine z_istore_n C [(3, .int (zI (byw (hlw u) (u 3 5) (u 17 9) (stw (u 19) (u 3 5)) i))), (0, .ref (a 0)), (1, .int (zI i)), (2, .int (zI k))] dX10_by_36 rfl (by decide) rfl ?_
      refine z_iload_n C 0 dX10_by_37 rfl ?_
      refine z_bipush C dX10_by_38 (by decide) ?_
      refine z_icmp_ne C 46 dX10_by_40 (by decide) (by omega) (fun h12 => ?_) (fun h12 => ?_)
      · skip
        refine z_iload_n C 3 dX10_by_46 rfl ?_
        refine z_if_ne C 57 dX10_by_47 (by decide) (by omega) (fun h13 => ?_) (fun h13 => ?_)
        · skip
          refine z_iload_n C 0 dX10_by_57 rfl ?_
          refine z_bipush C dX10_by_58 (by decide) ?_
          refine z_irem C dX10_by_60 (by omega) ?_
          refine z_as (b := (byw (hlw u) (u 3 5) (u 17 9) (stw (u 19) (u 3 5)) i) % 8) (tmod8 (by omega)) ?_
          exact kret ((byw (hlw u) (u 3 5) (u 17 9) (stw (u 19) (u 3 5)) i) % 8) (rws p2 r2 u) _ _ (⟨⟨p2, r2, rfl⟩, by first | exact Or.inr (Or.inr (Or.inl ⟨by omega, by omega, by omega, rfl⟩)) | exact Or.inr (Or.inr (Or.inr ⟨by omega, by omega, by omega, rfl⟩))⟩) dX10_by_61
        · skip
          refine z_iload_n C 0 dX10_by_50 rfl ?_
          refine z_bipush C dX10_by_51 (by decide) ?_
          refine z_idiv C dX10_by_53 (by omega) ?_
          refine z_as (b := (byw (hlw u) (u 3 5) (u 17 9) (stw (u 19) (u 3 5)) i) / 8) (tdiv8 (by omega)) ?_
          refine z_goto C 61 dX10_by_54 (by decide) ?_
          exact kret ((byw (hlw u) (u 3 5) (u 17 9) (stw (u 19) (u 3 5)) i) / 8) (rws p2 r2 u) _ _ (⟨⟨p2, r2, rfl⟩, by first | exact Or.inr (Or.inr (Or.inl ⟨by omega, by omega, by omega, rfl⟩)) | exact Or.inr (Or.inr (Or.inr ⟨by omega, by omega, by omega, rfl⟩))⟩) dX10_by_61
      · skip
        refine z_bipush C dX10_by_43 (by decide) ?_
        exact kret (-9) (rws p2 r2 u) _ _ (⟨⟨p2, r2, rfl⟩, Or.inr (Or.inl ⟨by omega, by omega, rfl⟩)⟩) dX10_by_45
    · skip
      refine z_iconst C dX10_by_26 ?_
      exact kret (-1) u _ _ (⟨⟨_, _, (rws_self u).symm⟩, Or.inl ⟨by omega, rfl⟩⟩) dX10_by_27
