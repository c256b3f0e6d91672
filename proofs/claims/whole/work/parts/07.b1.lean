/-! ===== contracts: statics, Sounds ===== -/
theorem zy_X10_isWithin : zY yX10_isWithin 3 := ⟨by decide +kernel, by decide +kernel, by decide +kernel⟩
theorem zy_X10_isNote : zY yX10_isNote 1 := ⟨by decide +kernel, by decide +kernel, by decide +kernel⟩
theorem zy_X10_soundAt : zY yX10_soundAt 3 := ⟨by decide +kernel, by decide +kernel, by decide +kernel⟩
theorem zy_X10_worn : zY yX10_worn 3 := ⟨by decide +kernel, by decide +kernel, by decide +kernel⟩
theorem zy_X6_soundOf : zY yX6_soundOf 1 := ⟨by decide +kernel, by decide +kernel, by decide +kernel⟩
theorem zy_X6_likeSound : zY yX6_likeSound 1 := ⟨by decide +kernel, by decide +kernel, by decide +kernel⟩
-- NoteBells.isWithin
set_option maxHeartbeats 8000000 in
set_option maxRecDepth 100000 in
theorem c_X10_isWithin (l : Launch) (D : va_G) {tys : List (ClassId × FieldType)} {S : Type} (WW : S → va_W) (hWW : ∀ u u' : S, (WW u).map (fun q => q.1) = (WW u').map (fun q => q.1)) (u : S) (v lo hi : Int) (b_v : -2147483648 ≤ v ∧ v < 2147483648) (b_lo : -2147483648 ≤ lo ∧ lo < 2147483648) (b_hi : -2147483648 ≤ hi ∧ hi < 2147483648) : ZM l D tys WW yX10_isWithin wsX10_isWithin 1 [.int (zI v), .int (zI lo), .int (zI hi)] u rI (fun z u' => u' = u ∧ ((z = 1 ∧ lo ≤ v ∧ v ≤ hi) ∨ (z = 0 ∧ ¬ (lo ≤ v ∧ v ≤ hi)))) := by
  refine ZM.ofZ (cc := cX10_isWithin) (maxL := 3) [(0, .int (zI v)), (1, .int (zI lo)), (2, .int (zI hi))] rfl (by decide +kernel) rfl (Nat.le_of_ble_eq_true rfl) hWW ?_
  intro x C hK _ _ hDD kret
  refine z_iload_n C 0 dX10_isWithin_0 rfl ?_
  refine z_iload_n C 1 dX10_isWithin_1 rfl ?_
  refine z_icmp_lt C 14 dX10_isWithin_2 (by decide) (by omega) (fun h1 => ?_) (fun h1 => ?_)
  · skip
    refine z_iconst C dX10_isWithin_14 ?_
    exact kret 0 u _ _ (⟨rfl, by omega⟩) (by omega) dX10_isWithin_15
  · skip
    refine z_iload_n C 0 dX10_isWithin_5 rfl ?_
    refine z_iload_n C 2 dX10_isWithin_6 rfl ?_
    refine z_icmp_gt C 14 dX10_isWithin_7 (by decide) (by omega) (fun h2 => ?_) (fun h2 => ?_)
    · skip
      refine z_iconst C dX10_isWithin_14 ?_
      exact kret 0 u _ _ (⟨rfl, by omega⟩) (by omega) dX10_isWithin_15
    · skip
      refine z_iconst C dX10_isWithin_10 ?_
      refine z_goto C 15 dX10_isWithin_11 (by decide) ?_
      exact kret 1 u _ _ (⟨rfl, by omega⟩) (by omega) dX10_isWithin_15
-- NoteBells.isNote
set_option maxHeartbeats 8000000 in
set_option maxRecDepth 100000 in
theorem c_X10_isNote (l : Launch) (D : va_G) {tys : List (ClassId × FieldType)} {S : Type} (WW : S → va_W) (hWW : ∀ u u' : S, (WW u).map (fun q => q.1) = (WW u').map (fun q => q.1)) (u : S) (v : Int) (b_v : -2147483648 ≤ v ∧ v < 2147483648) : ZM l D tys WW yX10_isNote wsX10_isNote 2 [.int (zI v)] u rI (fun z u' => u' = u ∧ ((z = 1 ∧ -99 ≤ v ∧ v ≤ 99) ∨ (z = 0 ∧ ¬ (-99 ≤ v ∧ v ≤ 99)))) := by
  refine ZM.ofZ (cc := cX10_isNote) (maxL := 1) [(0, .int (zI v))] rfl (by decide +kernel) rfl (Nat.le_of_ble_eq_true rfl) hWW ?_
  intro x C hK _ _ hDD kret
  refine z_iload_n C 0 dX10_isNote_0 rfl ?_
  refine z_bipush C dX10_isNote_1 (by decide) ?_
  refine z_bipush C dX10_isNote_3 (by decide) ?_
  refine z_callS C hK hDD (c_X10_isWithin (zl x) (zG x) (WW) (hWW) u v (-99) 99 (by omega) (by omega) (by omega)) gX10_isNote_X10_isWithin rfl rfl zy_X10_isWithin ⟨by omega, by decide⟩ rfl (Nat.le_of_ble_eq_true rfl) (st := []) (stk2 := fun z1 => [.int (zI z1)]) rfl (fun _ => rfl) dX10_isNote_5 (fun z1 u2 h3 => ?_)
  rw [h3.1]; replace h3 := h3.2
  exact kret z1 u _ _ (⟨rfl, by omega⟩) (by omega) dX10_isNote_8
-- NoteBells.soundAt
set_option maxHeartbeats 8000000 in
set_option maxRecDepth 100000 in
theorem c_X10_soundAt (l : Launch) (D : va_G) {tys : List (ClassId × FieldType)} {S : Type} (WW : S → va_W) (hWW : ∀ u u' : S, (WW u).map (fun q => q.1) = (WW u').map (fun q => q.1)) (u : S) (p m w : Int) (b_p : -2147483648 ≤ p ∧ p < 2147483648) (b_m : 0 ≤ m ∧ m ≤ 7) (b_w : 0 ≤ w ∧ w ≤ 9) : ZM l D tys WW yX10_soundAt wsX10_soundAt 1 [.int (zI p), .int (zI m), .int (zI w)] u rI (fun z u' => u' = u ∧ z = snd p w m) := by
  refine ZM.ofI (cc := cX10_soundAt) (maxL := 3) [(0, .int (zI p)), (1, .int (zI m)), (2, .int (zI w))] rfl (by decide +kernel) rfl (Nat.le_of_ble_eq_true rfl) hWW ?_
  intro x C hK _ _ hDD kret
  have hwm := wl_bd b_w b_m
  refine z_iload_n C 0 dX10_soundAt_0 rfl ?_
  refine z_iload_n C 2 dX10_soundAt_1 rfl ?_
  refine z_iload_n C 1 dX10_soundAt_2 rfl ?_
  refine z_iconst C dX10_soundAt_3 ?_
  refine z_iadd C dX10_soundAt_4 ?_
  refine z_imul C dX10_soundAt_5 ?_
  refine z_iconst C dX10_soundAt_6 ?_
  refine z_idiv C dX10_soundAt_7 (by omega) ?_
  refine z_isub C dX10_soundAt_8 ?_
  exact kret (p - ((w * (m + 1)).tdiv 2)) u _ _ (⟨rfl, rfl⟩) dX10_soundAt_9
-- NoteBells.worn
set_option maxHeartbeats 8000000 in
set_option maxRecDepth 100000 in
theorem c_X10_worn (l : Launch) (D : va_G) {tys : List (ClassId × FieldType)} {S : Type} (WW : S → va_W) (hWW : ∀ u u' : S, (WW u).map (fun q => q.1) = (WW u').map (fun q => q.1)) (u : S) (p w y : Int) (b_p : 0 ≤ p ∧ p ≤ 60) (b_w : 0 ≤ w ∧ w ≤ 9) (b_y : 0 ≤ y ∧ y ≤ 99) : ZM l D tys WW yX10_worn wsX10_worn 1 [.int (zI p), .int (zI w), .int (zI y)] u rI (fun z u' => u' = u ∧ z = wrn p w y) := by
  refine ZM.ofI (cc := cX10_worn) (maxL := 3) [(0, .int (zI p)), (1, .int (zI w)), (2, .int (zI y))] rfl (by decide +kernel) rfl (Nat.le_of_ble_eq_true rfl) hWW ?_
  intro x C hK _ _ hDD kret
  have hwy := wy_bd b_w b_y
  refine z_iconst C dX10_worn_0 ?_
  refine z_iload_n C 0 dX10_worn_1 rfl ?_
  refine z_iload_n C 1 dX10_worn_2 rfl ?_
  refine z_iload_n C 2 dX10_worn_3 rfl ?_
  refine z_imul C dX10_worn_4 ?_
  refine z_isub C dX10_worn_5 ?_
  refine z_max C (by omega) (List.mem_of_getElem? (i := 1) rfl) (List.mem_of_getElem? (i := 2) rfl) (List.mem_of_getElem? (i := 3) rfl) (List.mem_of_getElem? (i := 4) rfl) (Nat.le_of_ble_eq_true rfl) (by omega) dX10_worn_6 (fun r1 h2 => ?_)
  refine z_as (b := wrn p w y) (wrn_of h2) ?_
  exact kret (wrn p w y) u _ _ (⟨rfl, rfl⟩) dX10_worn_9
-- NoteBells$Sounds.soundOf
theorem inX6_soundOf_X6 : ∀ w ∈ wsX60, w ∈ wsX6_soundOf := fun w h => List.mem_cons_of_mem _ (List.mem_append_left _ (List.mem_append_right _ (h)))
theorem inX6_soundOf_X2 : ∀ w ∈ wsX20, w ∈ wsX6_soundOf := fun w h => List.mem_cons_of_mem _ (List.mem_append_right _ (h))
set_option maxHeartbeats 8000000 in
set_option maxRecDepth 100000 in
theorem c_X6_soundOf (l : Launch) (D : va_G) (a : Nat → Nat) (c : Nat → ClassId) (u : zU) (m : Int) (hI : IB u) (b_m : 0 ≤ m ∧ m ≤ 7) : ZM l D (zTy c) (WB a c) yX6_soundOf wsX6_soundOf 3 [.ref (a 37), .int (zI m)] u rI (fun z u' => u' = u ∧ z = snd (u 18 m) (u 17 6) m) := by
  refine ZM.ofI (cc := cX6_soundOf) (maxL := 2) [(0, .ref (a 37)), (1, .int (zI m))] rfl (by decide +kernel) rfl (Nat.le_of_ble_eq_true rfl) (WB_addr a c) ?_
  intro x C hK _ _ hDD kret
  have hw := hI.wet
  have hp := hI.pitch m b_m.1 (by omega)
  refine z_aload_n C 0 dX6_soundOf_0 rfl ?_
  refine z_get C hK (v := .ref (a 17)) inX6_soundOf_X6 37 (WB_37 a c u) rfl 1 (by decide) (List.mem_of_getElem? (i := 1) rfl) rfl dX6_soundOf_1 ?_
  refine z_getN C hK (v := .ref (a 18)) inX6_soundOf_X2 17 (WB_17 a c u) rfl 0 (by decide) (List.mem_of_getElem? (i := 49) rfl) rfl dX6_soundOf_4 ?_
  refine z_iload_n C 1 dX6_soundOf_7 rfl ?_
  refine z_iald C hK 0 (g := (u 18)) (i := m) 18 (WB_18 a c u) rfl (by decide) (by omega) dX6_soundOf_8 ?_
  refine z_as (b := u 18 (m)) rfl ?_
  refine z_iload_n C 1 dX6_soundOf_9 rfl ?_
  refine z_aload_n C 0 dX6_soundOf_10 rfl ?_
  refine z_get C hK (v := .ref (a 17)) inX6_soundOf_X6 37 (WB_37 a c u) rfl 1 (by decide) (List.mem_of_getElem? (i := 1) rfl) rfl dX6_soundOf_11 ?_
  refine z_getN C hK (v := .int (zI (u 17 6))) inX6_soundOf_X2 17 (WB_17 a c u) rfl 6 (by decide) (List.mem_of_getElem? (i := 50) rfl) rfl dX6_soundOf_14 ?_
  refine z_callSN C hK hDD (c_X10_soundAt (zl x) (zG x) ((WB a c)) (WB_addr a c) u (u 18 (m)) m (u 17 6) (by omega) (by omega) (by omega)) ggX6_soundOf_X10_soundAt (List.mem_of_getElem? (i := 35) rfl) (List.mem_of_getElem? (i := 3) rfl) (List.mem_of_getElem? (i := 2) rfl) rfl zy_X10_soundAt ⟨by omega, by decide⟩ rfl (Nat.le_of_ble_eq_true rfl) (st := []) (stk2 := fun z1 => [.int (zI z1)]) rfl (fun _ => rfl) dX6_soundOf_17 (fun z1 u2 h3 => ?_)
  rw [h3.1]; replace h3 := h3.2
  refine z_as (b := snd (u 18 (m)) (u 17 6) m) h3 ?_
  exact kret (snd (u 18 (m)) (u 17 6) m) u _ _ (⟨rfl, rfl⟩) dX6_soundOf_20
-- NoteBells$Sounds.likeSound
theorem inX6_likeSound_X6 : ∀ w ∈ wsX60, w ∈ wsX6_likeSound := fun w h => List.mem_cons_of_mem _ (List.mem_append_left _ (List.mem_append_left _ (List.mem_append_right _ (h))))
theorem inX6_likeSound_X8 : ∀ w ∈ wsX80, w ∈ wsX6_likeSound := fun w h => List.mem_cons_of_mem _ (List.mem_append_left _ (List.mem_append_right _ (h)))
set_option maxHeartbeats 8000000 in
set_option maxRecDepth 100000 in
theorem c_X6_likeSound (l : Launch) (D : va_G) (a : Nat → Nat) (c : Nat → ClassId) (u : zU) (s : Int) (hI : IB u) (b_s : -200 ≤ s ∧ s ≤ 200) : ZM l D (zTy c) (WB a c) yX6_likeSound wsX6_likeSound 4 [.ref (a 37), .int (zI s)] u rI (fun z u' => u' = u ∧ z = ((like (u 18) (u 17 6) (u 3 6) (u 3 4) s : Nat) : Int)) := by
  refine ZM.ofI (cc := cX6_likeSound) (maxL := 4) [(0, .ref (a 37)), (1, .int (zI s))] rfl (by decide +kernel) rfl (Nat.le_of_ble_eq_true rfl) (WB_addr a c) ?_
  intro x C hK _ _ hDD kret
  have hlv := hI.lev
  have hw := hI.wet
  have he := hI.ear
  refine z_iconst C dX6_likeSound_0 ?_
  refine z_istore_n C [(2, .int (zI 0)), (0, .ref (a 37)), (1, .int (zI s))] dX6_likeSound_1 rfl (by decide) rfl ?_
  refine z_iconst C dX6_likeSound_2 ?_
  refine z_istore_n C [(3, .int (zI 0)), (2, .int (zI 0)), (0, .ref (a 37)), (1, .int (zI s))] dX6_likeSound_3 rfl (by decide) rfl ?_
  have L4_1 : ∀ (fu : Nat) (i : Int) (b : Int), (0 ≤ i ∧ i ≤ u 3 4) → (b = ((bn (fun q : Nat => alw (u 18) (u 17 6) (u 3 6) (u 3 4) s q) i.toNat : Nat) : Int)) → u 3 4 - i < (fu : Int) → Z x 0 0 (WB a c u) [(0, .ref (a 37)), (1, .int (zI s)), (2, .int (zI b)), (3, .int (zI i))] 4 [] := by
    intro fu
    induction fu with
    | zero => intro i b hi hb hm; exfalso; omega
    | succ fu ih4 =>
      intro i b hi hb hm
      refine z_iload_n C 3 dX6_likeSound_4 rfl ?_
      refine z_aload_n C 0 dX6_likeSound_5 rfl ?_
      refine z_get C hK (v := .ref (a 3)) inX6_likeSound_X6 37 (WB_37 a c u) rfl 0 (by decide) (List.mem_of_getElem? (i := 1) rfl) rfl dX6_likeSound_6 ?_
      refine z_getN C hK (v := .int (zI (u 3 4))) inX6_likeSound_X8 3 (WB_3 a c u) rfl 4 (by decide) (List.mem_of_getElem? (i := 51) rfl) rfl dX6_likeSound_9 ?_
      refine z_icmp_ge C 47 dX6_likeSound_12 (by decide) (by omega) (fun h2 => ?_) (fun h2 => ?_)
      · skip
        refine z_iload_n C 2 dX6_likeSound_47 rfl ?_
        exact kret b u _ _ (⟨rfl, by rw [hb, show i = u 3 4 by omega, like_end hlv]⟩) dX6_likeSound_48
      · skip
        have hs := snd_bd (hI.pitch i hi.1 (by omega)) hw (m := i) (by omega)
        refine z_aload_n C 0 dX6_likeSound_15 rfl ?_
        refine z_iload_n C 3 dX6_likeSound_16 rfl ?_
        refine z_callV C hK hDD (c_X6_soundOf (zl x) (zG x) a c u i (hI) (by omega)) gX6_likeSound_X6_soundOf rfl zy_X6_soundOf 37 (WB_37 a c u) rfl ⟨by omega, by decide⟩ rfl (Nat.le_of_ble_eq_true rfl) (st := []) (stk2 := fun z3 => [.int (zI z3)]) rfl (fun _ => rfl) dX6_likeSound_17 (fun z3 u4 h5 => ?_)
        rw [h5.1]; replace h5 := h5.2
        refine z_as (b := snd (u 18 i) (u 17 6) i) h5 ?_
        refine z_iload_n C 1 dX6_likeSound_20 rfl ?_
        refine z_isub C dX6_likeSound_21 ?_
        refine z_abs C (by omega) (List.mem_of_getElem? (i := 2) rfl) (List.mem_of_getElem? (i := 3) rfl) (List.mem_of_getElem? (i := 4) rfl) (List.mem_of_getElem? (i := 5) rfl) (Nat.le_of_ble_eq_true rfl) (by omega) dX6_likeSound_22 (fun r6 h7 => ?_)
        refine z_aload_n C 0 dX6_likeSound_25 rfl ?_
        refine z_get C hK (v := .ref (a 3)) inX6_likeSound_X6 37 (WB_37 a c u) rfl 0 (by decide) (List.mem_of_getElem? (i := 1) rfl) rfl dX6_likeSound_26 ?_
        refine z_getN C hK (v := .int (zI (u 3 6))) inX6_likeSound_X8 3 (WB_3 a c u) rfl 6 (by decide) (List.mem_of_getElem? (i := 52) rfl) rfl dX6_likeSound_29 ?_
        refine z_icmp_gt C 41 dX6_likeSound_32 (by decide) (by omega) (fun h8 => ?_) (fun h8 => ?_)
        · skip
          refine z_iinc C 3 [(3, .int (zI (i + 1))), (0, .ref (a 37)), (1, .int (zI s)), (2, .int (zI b))] dX6_likeSound_41 rfl (by decide) rfl ?_
          refine z_goto C 4 dX6_likeSound_44 (by decide) ?_
          refine z_lv [(0, .ref (a 37)), (1, .int (zI s)), (2, .int (zI b)), (3, .int (zI (i + 1)))] [1, 2, 3, 0] rfl ?_
          exact ih4 (i + 1) b (by omega) (by first | exact bn_stepI hi.1 (alw_t hi.1 (by omega)) | exact hb.trans (bn_skipI hi.1 (alw_f hi.1 (by omega)))) (by omega)
        · skip
          refine z_iload_n C 2 dX6_likeSound_35 rfl ?_
          refine z_iconst C dX6_likeSound_36 ?_
          refine z_iload_n C 3 dX6_likeSound_37 rfl ?_
          refine z_ishl C (((2 ^ i.toNat : Nat) : Int)) dX6_likeSound_38 (zI_1shl (by omega)) ?_
          refine z_ior C (((bn (fun q : Nat => alw (u 18) (u 17 6) (u 3 6) (u 3 4) s q) i.toNat ||| 2 ^ i.toNat : Nat) : Int)) dX6_likeSound_39 (by rw [hb]; exact zI_or _ _) ?_
          refine z_istore_n C [(2, .int (zI (((bn (fun q : Nat => alw (u 18) (u 17 6) (u 3 6) (u 3 4) s q) i.toNat ||| 2 ^ i.toNat : Nat) : Int)))), (0, .ref (a 37)), (1, .int (zI s)), (3, .int (zI i))] dX6_likeSound_40 rfl (by decide) rfl ?_
          refine z_iinc C 3 [(3, .int (zI (i + 1))), (2, .int (zI (((bn (fun q : Nat => alw (u 18) (u 17 6) (u 3 6) (u 3 4) s q) i.toNat ||| 2 ^ i.toNat : Nat) : Int)))), (0, .ref (a 37)), (1, .int (zI s))] dX6_likeSound_41 rfl (by decide) rfl ?_
          refine z_goto C 4 dX6_likeSound_44 (by decide) ?_
          refine z_lv [(0, .ref (a 37)), (1, .int (zI s)), (2, .int (zI (((bn (fun q : Nat => alw (u 18) (u 17 6) (u 3 6) (u 3 4) s q) i.toNat ||| 2 ^ i.toNat : Nat) : Int)))), (3, .int (zI (i + 1)))] [2, 3, 1, 0] rfl ?_
          exact ih4 (i + 1) (((bn (fun q : Nat => alw (u 18) (u 17 6) (u 3 6) (u 3 4) s q) i.toNat ||| 2 ^ i.toNat : Nat) : Int)) (by omega) (by first | exact bn_stepI hi.1 (alw_t hi.1 (by omega)) | exact hb.trans (bn_skipI hi.1 (alw_f hi.1 (by omega)))) (by omega)
  refine z_lv [(0, .ref (a 37)), (1, .int (zI s)), (2, .int (zI 0)), (3, .int (zI 0))] [2, 3, 1, 0] rfl ?_
  exact L4_1 (((u 3 4 - 0 : Int)).toNat + 1) 0 0 (by omega) (rfl) (by omega)
