/-! ===== contracts: the reader ===== -/
def Tok (tk st nb K N S : Int → Int) : Prop := ∀ j : Int, (0 ≤ j ∧ ∀ q : Int, 0 ≤ q → q < j → K q ≠ 0) → j ≤ 200 ∧ tk j = K j ∧ st j = S j ∧ (K j = 2 → nb j = N j) ∧ (0 ≤ K j ∧ K j ≤ 8 ∧ (K j = 2 → 0 ≤ N j ∧ N j ≤ 99))
def Liv (K : Int → Int) (j : Int) : Prop := 0 ≤ j ∧ ∀ q : Int, 0 ≤ q → q < j → K q ≠ 0
def adv (K : Int → Int) (j : Int) : Int := if K j = 0 then j else j + 1
theorem Liv_next {K : Int → Int} {j : Int} (h : Liv K j) (hk : K j ≠ 0) : Liv K (j + 1) := ⟨by have := h.1; omega, fun q h0 h1 => by
  by_cases e : q = j
  · rw [e]; exact hk
  · exact h.2 q h0 (by omega)⟩
theorem Liv_adv {K : Int → Int} {j : Int} (h : Liv K j) : Liv K (adv K j) := by
  unfold adv
  split
  · exact h
  · next c => exact Liv_next h c
theorem adv_self (u : zU) {K : Int → Int} (h : K (u 13 5) = 0) : u = up u 13 5 (adv K (u 13 5)) := by
  unfold adv
  rw [if_pos h, up_self]

theorem zy_X5_endOfRun : zY yX5_endOfRun 3 := ⟨by decide +kernel, by decide +kernel, by decide +kernel⟩
theorem zy_X5_numberAt : zY yX5_numberAt 2 := ⟨by decide +kernel, by decide +kernel, by decide +kernel⟩
theorem zy_X5_advance : zY yX5_advance 0 := ⟨by decide +kernel, by decide +kernel, by decide +kernel⟩
theorem zy_X5_readNumber : zY yX5_readNumber 2 := ⟨by decide +kernel, by decide +kernel, by decide +kernel⟩
theorem zy_X5_readSemicolon : zY yX5_readSemicolon 0 := ⟨by decide +kernel, by decide +kernel, by decide +kernel⟩
-- NoteBells$Reader.endOfRun
theorem inX5_endOfRun_X5 : ∀ w ∈ wsX50, w ∈ wsX5_endOfRun := fun w h => List.mem_cons_of_mem _ (List.mem_append_left _ (List.mem_append_right _ (h)))
theorem inX5_endOfRun_X7 : ∀ w ∈ wsX70, w ∈ wsX5_endOfRun := fun w h => List.mem_cons_of_mem _ (List.mem_append_right _ (h))
set_option maxHeartbeats 8000000 in
set_option maxRecDepth 100000 in
theorem c_X5_endOfRun (l : Launch) (D : va_G) (a : Nat → Nat) (c : Nat → ClassId) (u : zU) (p lo hi : Int) (hI : IB u) (b_p : 0 ≤ p ∧ p < u 1 1) (b_lo : -2147483648 ≤ lo ∧ lo < 2147483648) (b_hi : -2147483648 ≤ hi ∧ hi < 2147483648) : ZM l D (zTy c) (WB a c) yX5_endOfRun wsX5_endOfRun 3 [.ref (a 13), .int (zI p), .int (zI lo), .int (zI hi)] u rI (fun z u' => u' = u ∧ z = eor (u 2) (u 1 1) lo hi (p + 1)) := by
  refine ZM.ofI (cc := cX5_endOfRun) (maxL := 5) [(0, .ref (a 13)), (1, .int (zI p)), (2, .int (zI lo)), (3, .int (zI hi))] rfl (by decide +kernel) rfl (Nat.le_of_ble_eq_true rfl) (WB_addr a c) ?_
  intro x C hK _ _ hDD kret
  have htl := hI.tlen
  refine z_iload_n C 1 dX5_endOfRun_0 rfl ?_
  refine z_iconst C dX5_endOfRun_1 ?_
  refine z_iadd C dX5_endOfRun_2 ?_
  refine z_istore C [(4, .int (zI (p + 1))), (0, .ref (a 13)), (1, .int (zI p)), (2, .int (zI lo)), (3, .int (zI hi))] dX5_endOfRun_3 (by decide) rfl ?_
  have L5_1 : ∀ (fu : Nat) (q : Int), (p + 1 ≤ q ∧ q ≤ u 1 1) → (eor (u 2) (u 1 1) lo hi (p + 1) = eor (u 2) (u 1 1) lo hi q) → u 1 1 - q < (fu : Int) → Z x 0 0 (WB a c u) [(0, .ref (a 13)), (1, .int (zI p)), (2, .int (zI lo)), (3, .int (zI hi)), (4, .int (zI q))] 5 [] := by
    intro fu
    induction fu with
    | zero => intro q hq he hmeas; exfalso; omega
    | succ fu ih5 =>
      intro q hq he hmeas
      refine z_iload C 4 dX5_endOfRun_5 rfl ?_
      refine z_aload_n C 0 dX5_endOfRun_7 rfl ?_
      refine z_get C hK (v := .ref (a 1)) inX5_endOfRun_X5 13 (WB_13 a c u) rfl 0 (by decide) (List.mem_of_getElem? (i := 1) rfl) rfl dX5_endOfRun_8 ?_
      refine z_getN C hK (v := .int (zI (u 1 1))) inX5_endOfRun_X7 1 (WB_1 a c u) rfl 1 (by decide) (List.mem_of_getElem? (i := 47) rfl) rfl dX5_endOfRun_11 ?_
      refine z_icmp_ge C 41 dX5_endOfRun_14 (by decide) (by omega) (fun h2 => ?_) (fun h2 => ?_)
      · skip
        refine z_iload C 4 dX5_endOfRun_41 rfl ?_
        exact kret q u _ _ (⟨rfl, by rw [he, eor_at (by omega)]⟩) dX5_endOfRun_43
      · skip
        have hby := hI.byte q (by omega) (by omega)
        refine z_aload_n C 0 dX5_endOfRun_17 rfl ?_
        refine z_get C hK (v := .ref (a 1)) inX5_endOfRun_X5 13 (WB_13 a c u) rfl 0 (by decide) (List.mem_of_getElem? (i := 1) rfl) rfl dX5_endOfRun_18 ?_
        refine z_getN C hK (v := .ref (a 2)) inX5_endOfRun_X7 1 (WB_1 a c u) rfl 0 (by decide) (List.mem_of_getElem? (i := 48) rfl) rfl dX5_endOfRun_21 ?_
        refine z_iload C 4 dX5_endOfRun_24 rfl ?_
        refine z_iald C hK 0 (g := (u 2)) (i := q) 2 (WB_2 a c u) rfl (by decide) (by omega) dX5_endOfRun_26 ?_
        refine z_as (b := u 2 (q)) rfl ?_
        refine z_iload_n C 2 dX5_endOfRun_27 rfl ?_
        refine z_iload_n C 3 dX5_endOfRun_28 rfl ?_
        refine z_callSN C hK hDD (c_X10_isWithin (zl x) (zG x) ((WB a c)) (WB_addr a c) u (u 2 (q)) lo hi (by omega) (by omega) (by omega)) ggX5_endOfRun_X10_isWithin (List.mem_of_getElem? (i := 34) rfl) (List.mem_of_getElem? (i := 3) rfl) (List.mem_of_getElem? (i := 2) rfl) rfl zy_X10_isWithin ⟨by omega, by decide⟩ rfl (Nat.le_of_ble_eq_true rfl) (st := []) (stk2 := fun z3 => [.int (zI z3)]) rfl (fun _ => rfl) dX5_endOfRun_29 (fun z3 u4 h5 => ?_)
        rw [h5.1]; replace h5 := h5.2
        refine z_if_eq C 41 dX5_endOfRun_32 (by decide) (by omega) (fun h6 => ?_) (fun h6 => ?_)
        · skip
          refine z_iload C 4 dX5_endOfRun_41 rfl ?_
          exact kret q u _ _ (⟨rfl, by rw [he, eor_at (by omega)]⟩) dX5_endOfRun_43
        · skip
          refine z_iinc C 4 [(4, .int (zI (q + 1))), (0, .ref (a 13)), (1, .int (zI p)), (2, .int (zI lo)), (3, .int (zI hi))] dX5_endOfRun_35 rfl (by decide) rfl ?_
          refine z_goto C 5 dX5_endOfRun_38 (by decide) ?_
          refine z_lv [(0, .ref (a 13)), (1, .int (zI p)), (2, .int (zI lo)), (3, .int (zI hi)), (4, .int (zI (q + 1)))] [1, 2, 3, 4, 0] rfl ?_
          exact ih5 (q + 1) (by omega) (he.trans (eor_on (by omega))) (by omega)
  refine z_lv [(0, .ref (a 13)), (1, .int (zI p)), (2, .int (zI lo)), (3, .int (zI hi)), (4, .int (zI (p + 1)))] [1, 2, 3, 4, 0] rfl ?_
  exact L5_1 (((u 1 1 - (p + 1) : Int)).toNat + 1) (p + 1) (by omega) (rfl) (by omega)
-- NoteBells$Reader.numberAt
theorem inX5_numberAt_X5 : ∀ w ∈ wsX50, w ∈ wsX5_numberAt := fun w h => List.mem_cons_of_mem _ (List.mem_append_left _ (List.mem_append_right _ (h)))
theorem inX5_numberAt_X7 : ∀ w ∈ wsX70, w ∈ wsX5_numberAt := fun w h => List.mem_cons_of_mem _ (List.mem_append_right _ (h))
set_option maxHeartbeats 8000000 in
set_option maxRecDepth 100000 in
theorem c_X5_numberAt (l : Launch) (D : va_G) (a : Nat → Nat) (c : Nat → ClassId) (u : zU) (p en : Int) (hI : IB u) (b_p : 0 ≤ p ∧ p < en ∧ en ≤ u 1 1) (hfg : ∀ q : Int, p ≤ q → q < en → 48 ≤ u 2 q ∧ u 2 q ≤ 57) : ZM l D (zTy c) (WB a c) yX5_numberAt wsX5_numberAt 2 [.ref (a 13), .int (zI p), .int (zI en)] u rI (fun z u' => u' = u ∧ z = nmv (u 2) p en) := by
  refine ZM.ofI (cc := cX5_numberAt) (maxL := 4) [(0, .ref (a 13)), (1, .int (zI p)), (2, .int (zI en))] rfl (by decide +kernel) rfl (Nat.le_of_ble_eq_true rfl) (WB_addr a c) ?_
  intro x C hK _ _ hDD kret
  have htl := hI.tlen
  have hf1 := hfg (en - 1) (by omega) (by omega)
  have hf2 := hfg p (by omega) (by omega)
  refine z_aload_n C 0 dX5_numberAt_0 rfl ?_
  refine z_get C hK (v := .ref (a 1)) inX5_numberAt_X5 13 (WB_13 a c u) rfl 0 (by decide) (List.mem_of_getElem? (i := 1) rfl) rfl dX5_numberAt_1 ?_
  refine z_getN C hK (v := .ref (a 2)) inX5_numberAt_X7 1 (WB_1 a c u) rfl 0 (by decide) (List.mem_of_getElem? (i := 48) rfl) rfl dX5_numberAt_4 ?_
  refine z_iload_n C 2 dX5_numberAt_7 rfl ?_
  refine z_iconst C dX5_numberAt_8 ?_
  refine z_isub C dX5_numberAt_9 ?_
  refine z_iald C hK 0 (g := (u 2)) (i := (en - 1)) 2 (WB_2 a c u) rfl (by decide) (by omega) dX5_numberAt_10 ?_
  refine z_as (b := u 2 (en - 1)) rfl ?_
  refine z_bipush C dX5_numberAt_11 (by decide) ?_
  refine z_isub C dX5_numberAt_13 ?_
  refine z_istore_n C [(3, .int (zI ((u 2 (en - 1)) - 48))), (0, .ref (a 13)), (1, .int (zI p)), (2, .int (zI en))] dX5_numberAt_14 rfl (by decide) rfl ?_
  refine z_iload_n C 3 dX5_numberAt_15 rfl ?_
  refine z_iload_n C 2 dX5_numberAt_16 rfl ?_
  refine z_isub C dX5_numberAt_17 ?_
  refine z_iconst C dX5_numberAt_18 ?_
  refine z_icmp_ne C 24 dX5_numberAt_19 (by decide) (by omega) (fun h1 => ?_) (fun h1 => ?_)
  · skip
    refine z_iload_n C 3 dX5_numberAt_24 rfl ?_
    refine z_iload_n C 2 dX5_numberAt_25 rfl ?_
    refine z_isub C dX5_numberAt_26 ?_
    refine z_iconst C dX5_numberAt_27 ?_
    refine z_icmp_gt C 45 dX5_numberAt_28 (by decide) (by omega) (fun h2 => ?_) (fun h2 => ?_)
    · skip
      refine z_iconst C dX5_numberAt_45 ?_
      exact kret (-1) u _ _ (⟨rfl, by unfold nmv; rw [if_neg (by omega), if_neg (by omega)]⟩) dX5_numberAt_46
    · skip
      refine z_aload_n C 1 dX5_numberAt_31 rfl ?_
      refine z_get C hK (v := .ref (a 1)) inX5_numberAt_X5 13 (WB_13 a c u) rfl 0 (by decide) (List.mem_of_getElem? (i := 1) rfl) rfl dX5_numberAt_32 ?_
      refine z_getN C hK (v := .ref (a 2)) inX5_numberAt_X7 1 (WB_1 a c u) rfl 0 (by decide) (List.mem_of_getElem? (i := 48) rfl) rfl dX5_numberAt_35 ?_
      refine z_iload_n C 2 dX5_numberAt_38 rfl ?_
      refine z_iald C hK 0 (g := (u 2)) (i := p) 2 (WB_2 a c u) rfl (by decide) (by omega) dX5_numberAt_39 ?_
      refine z_as (b := u 2 (p)) rfl ?_
      refine z_bipush C dX5_numberAt_40 (by decide) ?_
      refine z_icmp_ne C 47 dX5_numberAt_42 (by decide) (by omega) (fun h3 => ?_) (fun h3 => ?_)
      · skip
        refine z_aload_n C 1 dX5_numberAt_47 rfl ?_
        refine z_get C hK (v := .ref (a 1)) inX5_numberAt_X5 13 (WB_13 a c u) rfl 0 (by decide) (List.mem_of_getElem? (i := 1) rfl) rfl dX5_numberAt_48 ?_
        refine z_getN C hK (v := .ref (a 2)) inX5_numberAt_X7 1 (WB_1 a c u) rfl 0 (by decide) (List.mem_of_getElem? (i := 48) rfl) rfl dX5_numberAt_51 ?_
        refine z_iload_n C 2 dX5_numberAt_54 rfl ?_
        refine z_iald C hK 0 (g := (u 2)) (i := p) 2 (WB_2 a c u) rfl (by decide) (by omega) dX5_numberAt_55 ?_
        refine z_as (b := u 2 (p)) rfl ?_
        refine z_bipush C dX5_numberAt_56 (by decide) ?_
        refine z_isub C dX5_numberAt_58 ?_
        refine z_bipush C dX5_numberAt_59 (by decide) ?_
        refine z_imul C dX5_numberAt_61 ?_
        refine z_iload_n C 0 dX5_numberAt_62 rfl ?_
        refine z_iadd C dX5_numberAt_63 ?_
        exact kret ((((u 2 (p)) - 48) * 10) + ((u 2 (en - 1)) - 48)) u _ _ (⟨rfl, by unfold nmv; rw [if_neg (by omega), if_pos (by omega), show en - 1 = p + 1 by omega]⟩) dX5_numberAt_64
      · skip
        refine z_iconst C dX5_numberAt_45 ?_
        exact kret (-1) u _ _ (⟨rfl, by unfold nmv; rw [if_neg (by omega), if_neg (by omega)]⟩) dX5_numberAt_46
  · skip
    refine z_iload_n C 0 dX5_numberAt_22 rfl ?_
    exact kret ((u 2 (en - 1)) - 48) u _ _ (⟨rfl, by unfold nmv; rw [if_pos (by omega), show en - 1 = p by omega]⟩) dX5_numberAt_23
-- NoteBells$Reader.advance
theorem inX5_advance_X5 : ∀ w ∈ wsX50, w ∈ wsX5_advance := fun w h => List.mem_cons_of_mem _ (List.mem_append_right _ (h))
set_option maxHeartbeats 8000000 in
set_option maxRecDepth 100000 in
theorem c_X5_advance (l : Launch) (D : va_G) (a : Nat → Nat) (c : Nat → ClassId) (u : zU) (K N S : Int → Int) (hT : Tok (u 14) (u 15) (u 16) K N S) (hl : Liv K (u 13 5)) : ZM l D (zTy c) (WB a c) yX5_advance wsX5_advance 1 [.ref (a 13)] u rV (fun z u' => u' = up (u) 13 5 (adv K (u 13 5))) := by
  refine ZM.ofV (cc := cX5_advance) (maxL := 1) [(0, .ref (a 13))] rfl (by decide +kernel) rfl (Nat.le_of_ble_eq_true rfl) (WB_addr a c) ?_
  intro x C hK _ _ hDD kret
  obtain ⟨ht1, ht2, ht3, ht4, ht5⟩ := hT _ hl
  have hl0 := hl.1
  refine z_aload_n C 0 dX5_advance_0 rfl ?_
  refine z_get C hK (v := .ref (a 14)) inX5_advance_X5 13 (WB_13 a c u) rfl 2 (by decide) (List.mem_of_getElem? (i := 1) rfl) rfl dX5_advance_1 ?_
  refine z_aload_n C 0 dX5_advance_4 rfl ?_
  refine z_get C hK (v := .int (zI (u 13 5))) inX5_advance_X5 13 (WB_13 a c u) rfl 5 (by decide) (List.mem_of_getElem? (i := 2) rfl) rfl dX5_advance_5 ?_
  skip
  refine z_iald C hK 0 (g := (u 14)) (i := (u 13 5)) 14 (WB_14 a c u) rfl (by decide) (by omega) dX5_advance_8 ?_
  refine z_as (b := K (u 13 5)) (ht2) ?_
  refine z_if_eq C 32 dX5_advance_9 (by decide) (by omega) (fun h1 => ?_) (fun h1 => ?_)
  · skip
    refine z_ws (ws' := (WB a c (up u 13 (5) ((adv K (u 13 5)))))) (congrArg (WB a c) (adv_self u (by omega))) ?_
    exact kret 0 ((up u 13 (5) ((adv K (u 13 5))))) _ _ (by first | rfl | exact congrArg (up u 13 5) (if_neg hne).symm) dX5_advance_32
  · skip
    refine z_aload_n C 0 dX5_advance_12 rfl ?_
    refine z_get C hK (v := .int (zI (u 13 5))) inX5_advance_X5 13 (WB_13 a c u) rfl 5 (by decide) (List.mem_of_getElem? (i := 2) rfl) rfl dX5_advance_13 ?_
    refine z_sipush C dX5_advance_16 (by decide) ?_
    refine z_icmp_ge C 32 dX5_advance_19 (by decide) (by omega) (fun h2 => ?_) (fun h2 => ?_)
    · have hne2 : K (u 13 5) ≠ 0 := by omega
      have hx := (hT _ (Liv_next hl hne2)).1
      refine z_ws (ws' := (WB a c (up u 13 (5) ((adv K (u 13 5)))))) (congrArg (WB a c) (adv_self u (by omega))) ?_
      exact kret 0 ((up u 13 (5) ((adv K (u 13 5))))) _ _ (by first | rfl | exact congrArg (up u 13 5) (if_neg hne).symm) dX5_advance_32
    · have hne : K (u 13 5) ≠ 0 := by omega
      refine z_aload_n C 0 dX5_advance_22 rfl ?_
      refine z_dup C dX5_advance_23 rfl ?_
      refine z_get C hK (v := .int (zI (u 13 5))) inX5_advance_X5 13 (WB_13 a c u) rfl 5 (by decide) (List.mem_of_getElem? (i := 2) rfl) rfl dX5_advance_24 ?_
      refine z_iconst C dX5_advance_27 ?_
      refine z_iadd C dX5_advance_28 ?_
      refine z_put C hK (hDD _) inX5_advance_X5 tyX5 tyX5_ok nmX5 13 (WB_13 a c u) rfl 5 (by decide) (List.mem_of_getElem? (i := 2) rfl) rfl rfl rfl (Nat.le_of_ble_eq_true rfl) (WB_13_p5 a c u ((u 13 5) + 1)) dX5_advance_29 ?_
      exact kret 0 ((up u 13 (5) ((u 13 5) + 1))) _ _ (by first | rfl | exact congrArg (up u 13 5) (if_neg hne).symm) dX5_advance_32
-- NoteBells$Reader.readNumber
theorem inX5_readNumber_X5 : ∀ w ∈ wsX50, w ∈ wsX5_readNumber := fun w h => List.mem_cons_of_mem _ (List.mem_append_right _ (h))
set_option maxHeartbeats 8000000 in
set_option maxRecDepth 100000 in
theorem c_X5_readNumber (l : Launch) (D : va_G) (a : Nat → Nat) (c : Nat → ClassId) (u : zU) (lo hi : Int) (K N S : Int → Int) (hT : Tok (u 14) (u 15) (u 16) K N S) (hl : Liv K (u 13 5)) (b_lo : -2147483648 ≤ lo ∧ lo < 2147483648) (b_hi : -2147483648 ≤ hi ∧ hi < 2147483648) : ZM l D (zTy c) (WB a c) yX5_readNumber wsX5_readNumber 2 [.ref (a 13), .int (zI lo), .int (zI hi)] u rI (fun z u' => u' = up (u) 13 5 (adv K (u 13 5)) ∧ ((z = 1 ∧ K (adv K (u 13 5)) = 2 ∧ lo ≤ N (adv K (u 13 5)) ∧ N (adv K (u 13 5)) ≤ hi) ∨ (z = 0 ∧ ¬ (K (adv K (u 13 5)) = 2 ∧ lo ≤ N (adv K (u 13 5)) ∧ N (adv K (u 13 5)) ≤ hi)))) := by
  refine ZM.ofZ (cc := cX5_readNumber) (maxL := 3) [(0, .ref (a 13)), (1, .int (zI lo)), (2, .int (zI hi))] rfl (by decide +kernel) rfl (Nat.le_of_ble_eq_true rfl) (WB_addr a c) ?_
  intro x C hK _ _ hDD kret
  refine z_aload_n C 0 dX5_readNumber_0 rfl ?_
  refine z_callV C hK hDD (c_X5_advance (zl x) (zG x) a c u K N S (hT) (hl)) gX5_readNumber_X5_advance rfl zy_X5_advance 13 (WB_13 a c u) rfl ⟨by omega, by decide⟩ rfl (Nat.le_of_ble_eq_true rfl) (st := []) (stk2 := fun _ => []) rfl (fun _ => rfl) dX5_readNumber_1 (fun z1 u2 h3 => ?_)
  have e1 := h3
  rw [e1]
  obtain ⟨ha1, ha2, ha3, ha4, ha5⟩ := hT _ (Liv_adv hl)
  have hal := (Liv_adv hl).1
  change Z x 0 0 (WB a c (up u 13 (5) ((adv K (u 13 5))))) _ _ _
  refine z_aload_n C 0 dX5_readNumber_4 rfl ?_
  refine z_get C hK (v := .ref (a 14)) inX5_readNumber_X5 13 (WB_13 a c ((up u 13 (5) ((adv K (u 13 5)))))) rfl 2 (by decide) (List.mem_of_getElem? (i := 1) rfl) rfl dX5_readNumber_5 ?_
  refine z_aload_n C 0 dX5_readNumber_8 rfl ?_
  refine z_get C hK (v := .int (zI ((adv K (u 13 5))))) inX5_readNumber_X5 13 (WB_13 a c ((up u 13 (5) ((adv K (u 13 5)))))) rfl 5 (by decide) (List.mem_of_getElem? (i := 2) rfl) rfl dX5_readNumber_9 ?_
  refine z_iald C hK 0 (g := (u 14)) (i := ((adv K (u 13 5)))) 14 (WB_14 a c ((up u 13 (5) ((adv K (u 13 5)))))) rfl (by decide) (by omega) dX5_readNumber_12 ?_
  refine z_as (b := K (adv K (u 13 5))) (ha2) ?_
  refine z_iconst C dX5_readNumber_13 ?_
  refine z_icmp_ne C 38 dX5_readNumber_14 (by decide) (by omega) (fun h4 => ?_) (fun h4 => ?_)
  · skip
    refine z_iconst C dX5_readNumber_38 ?_
    exact kret 0 (up u 13 5 (adv K (u 13 5))) _ _ (⟨rfl, by omega⟩) (by omega) dX5_readNumber_39
  · skip
    refine z_aload_n C 0 dX5_readNumber_17 rfl ?_
    refine z_get C hK (v := .ref (a 16)) inX5_readNumber_X5 13 (WB_13 a c ((up u 13 (5) ((adv K (u 13 5)))))) rfl 4 (by decide) (List.mem_of_getElem? (i := 3) rfl) rfl dX5_readNumber_18 ?_
    refine z_aload_n C 0 dX5_readNumber_21 rfl ?_
    refine z_get C hK (v := .int (zI ((adv K (u 13 5))))) inX5_readNumber_X5 13 (WB_13 a c ((up u 13 (5) ((adv K (u 13 5)))))) rfl 5 (by decide) (List.mem_of_getElem? (i := 2) rfl) rfl dX5_readNumber_22 ?_
    refine z_iald C hK 0 (g := (u 16)) (i := ((adv K (u 13 5)))) 16 (WB_16 a c ((up u 13 (5) ((adv K (u 13 5)))))) rfl (by decide) (by omega) dX5_readNumber_25 ?_
    refine z_as (b := N (adv K (u 13 5))) (ha4 (by omega)) ?_
    refine z_iload_n C 1 dX5_readNumber_26 rfl ?_
    refine z_iload_n C 2 dX5_readNumber_27 rfl ?_
    refine z_callSN C hK hDD (c_X10_isWithin (zl x) (zG x) ((WB a c)) (WB_addr a c) ((up u 13 (5) ((adv K (u 13 5))))) (N (adv K (u 13 5))) lo hi (by omega) (by omega) (by omega)) ggX5_readNumber_X10_isWithin (List.mem_of_getElem? (i := 34) rfl) (List.mem_of_getElem? (i := 10) rfl) (List.mem_of_getElem? (i := 9) rfl) rfl zy_X10_isWithin ⟨by omega, by decide⟩ rfl (Nat.le_of_ble_eq_true rfl) (st := []) (stk2 := fun z5 => [.int (zI z5)]) rfl (fun _ => rfl) dX5_readNumber_28 (fun z5 u6 h7 => ?_)
    rw [h7.1]; replace h7 := h7.2
    replace h7 : ((z5 = 1 ∧ lo ≤ (N (adv K (u 13 5))) ∧ (N (adv K (u 13 5))) ≤ hi) ∨ (z5 = 0 ∧ ¬ (lo ≤ (N (adv K (u 13 5))) ∧ (N (adv K (u 13 5))) ≤ hi))) := h7
    refine z_if_eq C 38 dX5_readNumber_31 (by decide) (by omega) (fun h8 => ?_) (fun h8 => ?_)
    · skip
      refine z_iconst C dX5_readNumber_38 ?_
      exact kret 0 (up u 13 5 (adv K (u 13 5))) _ _ (⟨rfl, by omega⟩) (by omega) dX5_readNumber_39
    · skip
      refine z_iconst C dX5_readNumber_34 ?_
      refine z_goto C 39 dX5_readNumber_35 (by decide) ?_
      exact kret 1 (up u 13 5 (adv K (u 13 5))) _ _ (⟨rfl, by omega⟩) (by omega) dX5_readNumber_39
-- NoteBells$Reader.readSemicolon
theorem inX5_readSemicolon_X5 : ∀ w ∈ wsX50, w ∈ wsX5_readSemicolon := fun w h => List.mem_cons_of_mem _ (List.mem_append_right _ (h))
set_option maxHeartbeats 8000000 in
set_option maxRecDepth 100000 in
theorem c_X5_readSemicolon (l : Launch) (D : va_G) (a : Nat → Nat) (c : Nat → ClassId) (u : zU) (K N S : Int → Int) (hT : Tok (u 14) (u 15) (u 16) K N S) (hl : Liv K (u 13 5)) : ZM l D (zTy c) (WB a c) yX5_readSemicolon wsX5_readSemicolon 2 [.ref (a 13)] u rI (fun z u' => u' = up (u) 13 5 (adv K (u 13 5)) ∧ ((z = 1 ∧ K (adv K (u 13 5)) = 3) ∨ (z = 0 ∧ ¬ (K (adv K (u 13 5)) = 3)))) := by
  refine ZM.ofZ (cc := cX5_readSemicolon) (maxL := 1) [(0, .ref (a 13))] rfl (by decide +kernel) rfl (Nat.le_of_ble_eq_true rfl) (WB_addr a c) ?_
  intro x C hK _ _ hDD kret
  refine z_aload_n C 0 dX5_readSemicolon_0 rfl ?_
  refine z_callV C hK hDD (c_X5_advance (zl x) (zG x) a c u K N S (hT) (hl)) gX5_readSemicolon_X5_advance rfl zy_X5_advance 13 (WB_13 a c u) rfl ⟨by omega, by decide⟩ rfl (Nat.le_of_ble_eq_true rfl) (st := []) (stk2 := fun _ => []) rfl (fun _ => rfl) dX5_readSemicolon_1 (fun z1 u2 h3 => ?_)
  have e1 := h3
  rw [e1]
  obtain ⟨ha1, ha2, ha3, ha4, ha5⟩ := hT _ (Liv_adv hl)
  have hal := (Liv_adv hl).1
  change Z x 0 0 (WB a c (up u 13 (5) ((adv K (u 13 5))))) _ _ _
  refine z_aload_n C 0 dX5_readSemicolon_4 rfl ?_
  refine z_get C hK (v := .ref (a 14)) inX5_readSemicolon_X5 13 (WB_13 a c ((up u 13 (5) ((adv K (u 13 5)))))) rfl 2 (by decide) (List.mem_of_getElem? (i := 1) rfl) rfl dX5_readSemicolon_5 ?_
  refine z_aload_n C 0 dX5_readSemicolon_8 rfl ?_
  refine z_get C hK (v := .int (zI ((adv K (u 13 5))))) inX5_readSemicolon_X5 13 (WB_13 a c ((up u 13 (5) ((adv K (u 13 5)))))) rfl 5 (by decide) (List.mem_of_getElem? (i := 2) rfl) rfl dX5_readSemicolon_9 ?_
  refine z_iald C hK 0 (g := (u 14)) (i := ((adv K (u 13 5)))) 14 (WB_14 a c ((up u 13 (5) ((adv K (u 13 5)))))) rfl (by decide) (by omega) dX5_readSemicolon_12 ?_
  refine z_as (b := K (adv K (u 13 5))) (ha2) ?_
  refine z_iconst C dX5_readSemicolon_13 ?_
  refine z_icmp_ne C 21 dX5_readSemicolon_14 (by decide) (by omega) (fun h4 => ?_) (fun h4 => ?_)
  · skip
    refine z_iconst C dX5_readSemicolon_21 ?_
    exact kret 0 (up u 13 5 (adv K (u 13 5))) _ _ (⟨rfl, by omega⟩) (by omega) dX5_readSemicolon_22
  · skip
    refine z_iconst C dX5_readSemicolon_17 ?_
    refine z_goto C 22 dX5_readSemicolon_18 (by decide) ?_
    exact kret 1 (up u 13 5 (adv K (u 13 5))) _ _ (⟨rfl, by omega⟩) (by omega) dX5_readSemicolon_22
