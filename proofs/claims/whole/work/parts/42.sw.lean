/-! ===== contracts: the class's words and tokens ===== -/

theorem zy_X5_isWord : zY yX5_isWord 3 := ⟨by decide +kernel, by decide +kernel, by decide +kernel⟩
theorem zy_X5_wordAt : zY yX5_wordAt 2 := ⟨by decide +kernel, by decide +kernel, by decide +kernel⟩
theorem zy_X5_takeToken : zY yX5_takeToken 2 := ⟨by decide +kernel, by decide +kernel, by decide +kernel⟩
theorem zy_X5_splitText : zY yX5_splitText 0 := ⟨by decide +kernel, by decide +kernel, by decide +kernel⟩
-- NoteBells$Reader.isWord
theorem inX5_isWord_X5 : ∀ w ∈ wsX50, w ∈ wsX5_isWord := fun w h => List.mem_cons_of_mem _ (List.mem_append_left _ (List.mem_append_right _ (h)))
theorem inX5_isWord_X7 : ∀ w ∈ wsX70, w ∈ wsX5_isWord := fun w h => List.mem_cons_of_mem _ (List.mem_append_right _ (h))
set_option maxHeartbeats 8000000 in
set_option maxRecDepth 100000 in
theorem c_X5_isWord (l : Launch) (D : va_G) (sa sv : Nat → Nat) (a : Nat → Nat) (c : Nat → ClassId) (u : zU) (i : Nat) (p en : Int) (hI : IB u) (hi : i < 5) (b_p : 0 ≤ p ∧ p < en ∧ en ≤ u 1 1) : ZE l D sa sv (zTy c) (WB a c) yX5_isWord wsX5_isWord 5 [.ref (a 13), .ref (sa i), .int (zI p), .int (zI en)] u rI (fun z u' => u' = u ∧ ((z = 1 ∧ Mw (u 2) i p en) ∨ (z = 0 ∧ ¬ Mw (u 2) i p en))) := by
  refine ZE.ofZ (cc := cX5_isWord) (maxL := 5) [(0, .ref (a 13)), (1, .ref (sa i)), (2, .int (zI p)), (3, .int (zI en))] rfl (by decide +kernel) rfl (Nat.le_of_ble_eq_true rfl) (WB_addr a c) ?_
  intro x C hK _ _ hDD hE kret
  have htl := hI.tlen
  have hs5 := sLn_bd hi
  refine z_iload_n C 3 dX5_isWord_0 rfl ?_
  refine z_iload_n C 2 dX5_isWord_1 rfl ?_
  refine z_isub C dX5_isWord_2 ?_
  refine z_aload_n C 1 dX5_isWord_3 rfl ?_
  refine z_callVS C hK hE hDD (c_J0_length_8abf5 (zl x) (zG x) sa sv ((WB a c)) (WB_addr a c) u i (hi)) gX5_isWord_J0_length_8abf5 rfl zy_J0_length_8abf5 hi rfl ⟨by omega, by decide⟩ rfl (Nat.le_of_ble_eq_true rfl) (st := [.int (zI (en - p))]) (stk2 := fun z1 => [.int (zI z1), .int (zI (en - p))]) rfl (fun _ => rfl) dX5_isWord_4 (fun z1 u2 h3 => ?_)
  rw [h3.1]; replace h3 := h3.2
  refine z_as (b := sLn i) h3 ?_
  refine z_icmp_eq C 12 dX5_isWord_7 (by decide) (by omega) (fun h4 => ?_) (fun h4 => ?_)
  · have hle := h4
    refine z_iconst C dX5_isWord_12 ?_
    refine z_istore C [(4, .int (zI 0)), (0, .ref (a 13)), (1, .ref (sa i)), (2, .int (zI p)), (3, .int (zI en))] dX5_isWord_13 (by decide) rfl ?_
    have L15_5 : ∀ (fu : Nat) (k : Int), (0 ≤ k ∧ k ≤ sLn i) → (∀ j : Int, 0 ≤ j → j < k → u 2 (p + j) = sCh i j) → sLn i - k < (fu : Int) → Z x 0 0 (WB a c u) [(0, .ref (a 13)), (1, .ref (sa i)), (2, .int (zI p)), (3, .int (zI en)), (4, .int (zI k))] 15 [] := by
      intro fu
      induction fu with
      | zero => intro k hk hm hmeas; exfalso; omega
      | succ fu ih15 =>
        intro k hk hm hmeas
        refine z_iload C 4 dX5_isWord_15 rfl ?_
        refine z_aload_n C 1 dX5_isWord_17 rfl ?_
        refine z_callVS C hK hE hDD (c_J0_length_8abf5 (zl x) (zG x) sa sv ((WB a c)) (WB_addr a c) u i (hi)) gX5_isWord_J0_length_8abf5 rfl zy_J0_length_8abf5 hi rfl ⟨by omega, by decide⟩ rfl (Nat.le_of_ble_eq_true rfl) (st := [.int (zI k)]) (stk2 := fun z6 => [.int (zI z6), .int (zI k)]) rfl (fun _ => rfl) dX5_isWord_18 (fun z6 u7 h8 => ?_)
        rw [h8.1]; replace h8 := h8.2
        refine z_as (b := sLn i) h8 ?_
        refine z_icmp_ge C 53 dX5_isWord_21 (by decide) (by omega) (fun h9 => ?_) (fun h9 => ?_)
        · skip
          refine z_iconst C dX5_isWord_53 ?_
          exact kret 1 u _ _ (⟨rfl, Or.inl ⟨rfl, by omega, fun j j0 j1 => hm j j0 (by omega)⟩⟩) (by omega) dX5_isWord_54
        · have hby := hI.byte (p + k) (by omega) (by omega)
          have hch := (sCh_all hi hk.1 h9).1
          refine z_aload_n C 0 dX5_isWord_24 rfl ?_
          refine z_get C hK (v := .ref (a 1)) inX5_isWord_X5 13 (WB_13 a c u) rfl 0 (by decide) (List.mem_of_getElem? (i := 1) rfl) rfl dX5_isWord_25 ?_
          refine z_getN C hK (v := .ref (a 2)) inX5_isWord_X7 1 (WB_1 a c u) rfl 0 (by decide) (List.mem_of_getElem? (i := 48) rfl) rfl dX5_isWord_28 ?_
          refine z_iload_n C 2 dX5_isWord_31 rfl ?_
          refine z_iload C 4 dX5_isWord_32 rfl ?_
          refine z_iadd C dX5_isWord_34 ?_
          refine z_iald C hK 0 (g := (u 2)) (i := (p + k)) 2 (WB_2 a c u) rfl (by decide) (by omega) dX5_isWord_35 ?_
          refine z_as (b := u 2 (p + k)) rfl ?_
          refine z_aload_n C 1 dX5_isWord_36 rfl ?_
          refine z_iload C 4 dX5_isWord_37 rfl ?_
          refine z_callVS C hK hE hDD (c_J0_charAt_5068e (zl x) (zG x) sa sv ((WB a c)) (WB_addr a c) u i k (hi) (by omega)) gX5_isWord_J0_charAt_5068e rfl zy_J0_charAt_5068e hi rfl ⟨by omega, by decide⟩ rfl (Nat.le_of_ble_eq_true rfl) (st := [.int (zI (u 2 (p + k)))]) (stk2 := fun z10 => [.int (zI z10), .int (zI (u 2 (p + k)))]) rfl (fun _ => rfl) dX5_isWord_39 (fun z10 u11 h12 => ?_)
          rw [h12.1]; replace h12 := h12.2
          refine z_as (b := sCh i k) h12 ?_
          refine z_icmp_eq C 47 dX5_isWord_42 (by decide) (by omega) (fun h13 => ?_) (fun h13 => ?_)
          · have heq := h13
            refine z_iinc C 4 [(4, .int (zI (k + 1))), (0, .ref (a 13)), (1, .ref (sa i)), (2, .int (zI p)), (3, .int (zI en))] dX5_isWord_47 rfl (by decide) rfl ?_
            refine z_goto C 15 dX5_isWord_50 (by decide) ?_
            refine z_lv [(0, .ref (a 13)), (1, .ref (sa i)), (2, .int (zI p)), (3, .int (zI en)), (4, .int (zI (k + 1)))] [1, 2, 3, 4, 0] rfl ?_
            exact ih15 (k + 1) (by omega) (Mw_put hm heq) (by omega)
          · have hne := h13
            refine z_iconst C dX5_isWord_45 ?_
            exact kret 0 u _ _ (⟨rfl, Or.inr ⟨rfl, fun q => hne (q.2 k (by omega) (by omega))⟩⟩) (by omega) dX5_isWord_46
    refine z_lv [(0, .ref (a 13)), (1, .ref (sa i)), (2, .int (zI p)), (3, .int (zI en)), (4, .int (zI 0))] [1, 2, 3, 4, 0] rfl ?_
    exact L15_5 (((sLn i - 0 : Int)).toNat + 1) 0 (by omega) (fun j j0 j1 => absurd j1 (by omega)) (by omega)
  · have hne := h4
    refine z_iconst C dX5_isWord_10 ?_
    exact kret 0 u _ _ (⟨rfl, Or.inr ⟨rfl, fun q => hne q.1⟩⟩) (by omega) dX5_isWord_11
-- NoteBells$Reader.wordAt
set_option maxHeartbeats 8000000 in
set_option maxRecDepth 100000 in
theorem c_X5_wordAt (l : Launch) (D : va_G) (sa sv : Nat → Nat) (a : Nat → Nat) (c : Nat → ClassId) (u : zU) (p en : Int) (hI : IB u) (b_p : 0 ≤ p ∧ p < en ∧ en ≤ u 1 1) : ZE l D sa sv (zTy c) (WB a c) yX5_wordAt wsX5_wordAt 6 [.ref (a 13), .int (zI p), .int (zI en)] u rI (fun z u' => u' = u ∧ z = wk (u 2) p en) := by
  refine ZE.ofI (cc := cX5_wordAt) (maxL := 3) [(0, .ref (a 13)), (1, .int (zI p)), (2, .int (zI en))] rfl (by decide +kernel) rfl (Nat.le_of_ble_eq_true rfl) (WB_addr a c) ?_
  intro x C hK _ _ hDD hE kret
  refine z_aload_n C 0 dX5_wordAt_0 rfl ?_
  refine z_ldcS C hE (i := 0) (by decide) rfl rfl dX5_wordAt_1 ?_
  refine z_iload_n C 1 dX5_wordAt_3 rfl ?_
  refine z_iload_n C 2 dX5_wordAt_4 rfl ?_
  refine z_callVE C hK hE hDD (c_X5_isWord (zl x) (zG x) sa sv a c u 0 p en (hI) (by decide) (b_p)) gX5_wordAt_X5_isWord rfl zy_X5_isWord 13 (WB_13 a c u) rfl ⟨by omega, by decide⟩ rfl (Nat.le_of_ble_eq_true rfl) (st := []) (stk2 := fun z1 => [.int (zI z1)]) rfl (fun _ => rfl) dX5_wordAt_5 (fun z1 u2 h3 => ?_)
  rw [h3.1]; replace h3 := h3.2
  have w0 := h3
  refine z_if_eq C 13 dX5_wordAt_8 (by decide) (by omega) (fun h4 => ?_) (fun h4 => ?_)
  · have m0 : ¬ Mw (u 2) 0 p en := (w0.resolve_left (fun q => by have q1 := q.1; omega)).2
    refine z_aload_n C 0 dX5_wordAt_13 rfl ?_
    refine z_ldcS C hE (i := 1) (by decide) rfl rfl dX5_wordAt_14 ?_
    refine z_iload_n C 1 dX5_wordAt_16 rfl ?_
    refine z_iload_n C 2 dX5_wordAt_17 rfl ?_
    refine z_callVE C hK hE hDD (c_X5_isWord (zl x) (zG x) sa sv a c u 1 p en (hI) (by decide) (b_p)) gX5_wordAt_X5_isWord rfl zy_X5_isWord 13 (WB_13 a c u) rfl ⟨by omega, by decide⟩ rfl (Nat.le_of_ble_eq_true rfl) (st := []) (stk2 := fun z5 => [.int (zI z5)]) rfl (fun _ => rfl) dX5_wordAt_18 (fun z5 u6 h7 => ?_)
    rw [h7.1]; replace h7 := h7.2
    have w1 := h7
    refine z_if_eq C 26 dX5_wordAt_21 (by decide) (by omega) (fun h8 => ?_) (fun h8 => ?_)
    · have m1 : ¬ Mw (u 2) 1 p en := (w1.resolve_left (fun q => by have q1 := q.1; omega)).2
      refine z_aload_n C 0 dX5_wordAt_26 rfl ?_
      refine z_ldcS C hE (i := 2) (by decide) rfl rfl dX5_wordAt_27 ?_
      refine z_iload_n C 1 dX5_wordAt_29 rfl ?_
      refine z_iload_n C 2 dX5_wordAt_30 rfl ?_
      refine z_callVE C hK hE hDD (c_X5_isWord (zl x) (zG x) sa sv a c u 2 p en (hI) (by decide) (b_p)) gX5_wordAt_X5_isWord rfl zy_X5_isWord 13 (WB_13 a c u) rfl ⟨by omega, by decide⟩ rfl (Nat.le_of_ble_eq_true rfl) (st := []) (stk2 := fun z9 => [.int (zI z9)]) rfl (fun _ => rfl) dX5_wordAt_31 (fun z9 u10 h11 => ?_)
      rw [h11.1]; replace h11 := h11.2
      have w2 := h11
      refine z_if_eq C 40 dX5_wordAt_34 (by decide) (by omega) (fun h12 => ?_) (fun h12 => ?_)
      · have m2 : ¬ Mw (u 2) 2 p en := (w2.resolve_left (fun q => by have q1 := q.1; omega)).2
        refine z_aload_n C 0 dX5_wordAt_40 rfl ?_
        refine z_ldcS C hE (i := 3) (by decide) rfl rfl dX5_wordAt_41 ?_
        refine z_iload_n C 1 dX5_wordAt_43 rfl ?_
        refine z_iload_n C 2 dX5_wordAt_44 rfl ?_
        refine z_callVE C hK hE hDD (c_X5_isWord (zl x) (zG x) sa sv a c u 3 p en (hI) (by decide) (b_p)) gX5_wordAt_X5_isWord rfl zy_X5_isWord 13 (WB_13 a c u) rfl ⟨by omega, by decide⟩ rfl (Nat.le_of_ble_eq_true rfl) (st := []) (stk2 := fun z13 => [.int (zI z13)]) rfl (fun _ => rfl) dX5_wordAt_45 (fun z13 u14 h15 => ?_)
        rw [h15.1]; replace h15 := h15.2
        have w3 := h15
        refine z_if_eq C 54 dX5_wordAt_48 (by decide) (by omega) (fun h16 => ?_) (fun h16 => ?_)
        · have m3 : ¬ Mw (u 2) 3 p en := (w3.resolve_left (fun q => by have q1 := q.1; omega)).2
          refine z_aload_n C 0 dX5_wordAt_54 rfl ?_
          refine z_ldcS C hE (i := 4) (by decide) rfl rfl dX5_wordAt_55 ?_
          refine z_iload_n C 1 dX5_wordAt_57 rfl ?_
          refine z_iload_n C 2 dX5_wordAt_58 rfl ?_
          refine z_callVE C hK hE hDD (c_X5_isWord (zl x) (zG x) sa sv a c u 4 p en (hI) (by decide) (b_p)) gX5_wordAt_X5_isWord rfl zy_X5_isWord 13 (WB_13 a c u) rfl ⟨by omega, by decide⟩ rfl (Nat.le_of_ble_eq_true rfl) (st := []) (stk2 := fun z17 => [.int (zI z17)]) rfl (fun _ => rfl) dX5_wordAt_59 (fun z17 u18 h19 => ?_)
          rw [h19.1]; replace h19 := h19.2
          have w4 := h19
          refine z_if_eq C 70 dX5_wordAt_62 (by decide) (by omega) (fun h20 => ?_) (fun h20 => ?_)
          · have m4 : ¬ Mw (u 2) 4 p en := (w4.resolve_left (fun q => by have q1 := q.1; omega)).2
            refine z_iconst C dX5_wordAt_70 ?_
            exact kret 1 u _ _ (by first | exact ⟨rfl, wk_of (Or.inr (Or.inr (Or.inr (Or.inr (Or.inl ⟨m0, m1, m2, m3, m4, rfl⟩)))))⟩ | exact ⟨rfl, wk_of (Or.inr (Or.inr (Or.inr (Or.inr (Or.inr ⟨m0, m1, m2, m3, m4, rfl⟩)))))⟩) dX5_wordAt_71
          · have m4 : Mw (u 2) 4 p en := (w4.resolve_right (fun q => by have q1 := q.1; omega)).2
            refine z_bipush C dX5_wordAt_65 (by decide) ?_
            refine z_goto C 71 dX5_wordAt_67 (by decide) ?_
            exact kret 8 u _ _ (by first | exact ⟨rfl, wk_of (Or.inr (Or.inr (Or.inr (Or.inr (Or.inl ⟨m0, m1, m2, m3, m4, rfl⟩)))))⟩ | exact ⟨rfl, wk_of (Or.inr (Or.inr (Or.inr (Or.inr (Or.inr ⟨m0, m1, m2, m3, m4, rfl⟩)))))⟩) dX5_wordAt_71
        · have m3 : Mw (u 2) 3 p en := (w3.resolve_right (fun q => by have q1 := q.1; omega)).2
          refine z_bipush C dX5_wordAt_51 (by decide) ?_
          exact kret 7 u _ _ (⟨rfl, wk_of (Or.inr (Or.inr (Or.inr (Or.inl ⟨m0, m1, m2, m3, rfl⟩))))⟩) dX5_wordAt_53
      · have m2 : Mw (u 2) 2 p en := (w2.resolve_right (fun q => by have q1 := q.1; omega)).2
        refine z_bipush C dX5_wordAt_37 (by decide) ?_
        exact kret 6 u _ _ (⟨rfl, wk_of (Or.inr (Or.inr (Or.inl ⟨m0, m1, m2, rfl⟩)))⟩) dX5_wordAt_39
    · have m1 : Mw (u 2) 1 p en := (w1.resolve_right (fun q => by have q1 := q.1; omega)).2
      refine z_iconst C dX5_wordAt_24 ?_
      exact kret 5 u _ _ (⟨rfl, wk_of (Or.inr (Or.inl ⟨m0, m1, rfl⟩))⟩) dX5_wordAt_25
  · have m0 : Mw (u 2) 0 p en := (w0.resolve_right (fun q => by have q1 := q.1; omega)).2
    refine z_iconst C dX5_wordAt_11 ?_
    exact kret 4 u _ _ (⟨rfl, wk_of (Or.inl ⟨m0, rfl⟩)⟩) dX5_wordAt_12
-- NoteBells$Reader.takeToken
theorem inX5_takeToken_X5 : ∀ w ∈ wsX50, w ∈ wsX5_takeToken := fun w h => List.mem_cons_of_mem _ (List.mem_append_left _ (List.mem_append_right _ (h)))
theorem inX5_takeToken_X7 : ∀ w ∈ wsX70, w ∈ wsX5_takeToken := fun w h => List.mem_cons_of_mem _ (List.mem_append_right _ (h))
set_option maxHeartbeats 8000000 in
set_option maxRecDepth 100000 in
theorem c_X5_takeToken (l : Launch) (D : va_G) (sa sv : Nat → Nat) (a : Nat → Nat) (c : Nat → ClassId) (u : zU) (i p : Int) (hI : IB u) (b_i : 0 ≤ i ∧ i < 201) (b_p : 0 ≤ p ∧ p < u 1 1) : ZE l D sa sv (zTy c) (WB a c) yX5_takeToken wsX5_takeToken 7 [.ref (a 13), .int (zI i), .int (zI p)] u rI (fun z u' => TkP (u) u' i p z) := by
  refine ZE.ofI (cc := cX5_takeToken) (maxL := 5) [(0, .ref (a 13)), (1, .int (zI i)), (2, .int (zI p))] rfl (by decide +kernel) rfl (Nat.le_of_ble_eq_true rfl) (WB_addr a c) ?_
  intro x C hK _ _ hDD hE kret
  have htl := hI.tlen
  have hby := hI.byte p (by omega) (by omega)
  have hea := eor_bd (tx := u 2) (lo := 97) (hi := 122) (show p + 1 ≤ u 1 1 by omega)
  have hef := eor_bd (tx := u 2) (lo := 48) (hi := 57) (show p + 1 ≤ u 1 1 by omega)
  refine z_aload_n C 0 dX5_takeToken_0 rfl ?_
  refine z_get C hK (v := .ref (a 1)) inX5_takeToken_X5 13 (WB_13 a c u) rfl 0 (by decide) (List.mem_of_getElem? (i := 1) rfl) rfl dX5_takeToken_1 ?_
  refine z_getN C hK (v := .ref (a 2)) inX5_takeToken_X7 1 (WB_1 a c u) rfl 0 (by decide) (List.mem_of_getElem? (i := 48) rfl) rfl dX5_takeToken_4 ?_
  refine z_iload_n C 2 dX5_takeToken_7 rfl ?_
  refine z_iald C hK 0 (g := (u 2)) (i := p) 2 (WB_2 a c u) rfl (by decide) (by omega) dX5_takeToken_8 ?_
  refine z_as (b := u 2 (p)) rfl ?_
  refine z_istore_n C [(3, .int (zI (u 2 (p)))), (0, .ref (a 13)), (1, .int (zI i)), (2, .int (zI p))] dX5_takeToken_9 rfl (by decide) rfl ?_
  refine z_iload_n C 0 dX5_takeToken_10 rfl ?_
  refine z_bipush C dX5_takeToken_11 (by decide) ?_
  refine z_bipush C dX5_takeToken_13 (by decide) ?_
  refine z_callSN C hK hDD (c_X10_isWithin (zl x) (zG x) ((WB a c)) (WB_addr a c) u (u 2 (p)) 97 122 (by omega) (by omega) (by omega)) ggX5_takeToken_X10_isWithin (List.mem_of_getElem? (i := 34) rfl) (List.mem_of_getElem? (i := 5) rfl) (List.mem_of_getElem? (i := 4) rfl) rfl zy_X10_isWithin ⟨by omega, by decide⟩ rfl (Nat.le_of_ble_eq_true rfl) (st := []) (stk2 := fun z1 => [.int (zI z1)]) rfl (fun _ => rfl) dX5_takeToken_15 (fun z1 u2 h3 => ?_)
  rw [h3.1]; replace h3 := h3.2
  have hwa := h3
  refine z_if_eq C 48 dX5_takeToken_18 (by decide) (by omega) (fun h4 => ?_) (fun h4 => ?_)
  · skip
    refine z_iload_n C 0 dX5_takeToken_48 rfl ?_
    refine z_bipush C dX5_takeToken_49 (by decide) ?_
    refine z_bipush C dX5_takeToken_51 (by decide) ?_
    refine z_callSN C hK hDD (c_X10_isWithin (zl x) (zG x) ((WB a c)) (WB_addr a c) u (u 2 (p)) 48 57 (by omega) (by omega) (by omega)) ggX5_takeToken_X10_isWithin (List.mem_of_getElem? (i := 34) rfl) (List.mem_of_getElem? (i := 5) rfl) (List.mem_of_getElem? (i := 4) rfl) rfl zy_X10_isWithin ⟨by omega, by decide⟩ rfl (Nat.le_of_ble_eq_true rfl) (st := []) (stk2 := fun z5 => [.int (zI z5)]) rfl (fun _ => rfl) dX5_takeToken_53 (fun z5 u6 h7 => ?_)
    rw [h7.1]; replace h7 := h7.2
    have hwf := h7
    refine z_if_eq C 106 dX5_takeToken_56 (by decide) (by omega) (fun h8 => ?_) (fun h8 => ?_)
    · skip
      refine z_aload_n C 1 dX5_takeToken_106 rfl ?_
      refine z_get C hK (v := .ref (a 14)) inX5_takeToken_X5 13 (WB_13 a c u) rfl 2 (by decide) (List.mem_of_getElem? (i := 2) rfl) rfl dX5_takeToken_107 ?_
      refine z_iload_n C 2 dX5_takeToken_110 rfl ?_
      refine z_iload_n C 0 dX5_takeToken_111 rfl ?_
      refine z_bipush C dX5_takeToken_112 (by decide) ?_
      refine z_icmp_ne C 121 dX5_takeToken_114 (by decide) (by omega) (fun h9 => ?_) (fun h9 => ?_)
      · skip
        refine z_iconst C dX5_takeToken_121 ?_
        refine z_iast C hK (hDD _) 0 (g := u 14) 14 (WB_14 a c u) rfl (by decide) (by omega) (WB_14_set a c u i 1) dX5_takeToken_122 ?_
        refine z_iload_n C 3 dX5_takeToken_123 rfl ?_
        refine z_iconst C dX5_takeToken_124 ?_
        refine z_iadd C dX5_takeToken_125 ?_
        exact kret (p + 1) ((up u 14 (i) (1))) _ _ (tk_one b_p (by omega) (by omega) (by omega)) dX5_takeToken_126
      · skip
        refine z_iconst C dX5_takeToken_117 ?_
        refine z_goto C 122 dX5_takeToken_118 (by decide) ?_
        refine z_iast C hK (hDD _) 0 (g := u 14) 14 (WB_14 a c u) rfl (by decide) (by omega) (WB_14_set a c u i 3) dX5_takeToken_122 ?_
        refine z_iload_n C 3 dX5_takeToken_123 rfl ?_
        refine z_iconst C dX5_takeToken_124 ?_
        refine z_iadd C dX5_takeToken_125 ?_
        exact kret (p + 1) ((up u 14 (i) (3))) _ _ (tk_one b_p (by omega) (by omega) (by omega)) dX5_takeToken_126
    · skip
      refine z_aload_n C 1 dX5_takeToken_59 rfl ?_
      refine z_iload_n C 3 dX5_takeToken_60 rfl ?_
      refine z_bipush C dX5_takeToken_61 (by decide) ?_
      refine z_bipush C dX5_takeToken_63 (by decide) ?_
      refine z_callV C hK hDD (c_X5_endOfRun (zl x) (zG x) a c u p 48 57 (hI) (by omega) (by omega) (by omega)) gX5_takeToken_X5_endOfRun rfl zy_X5_endOfRun 13 (WB_13 a c u) rfl ⟨by omega, by decide⟩ rfl (Nat.le_of_ble_eq_true rfl) (st := []) (stk2 := fun z10 => [.int (zI z10)]) rfl (fun _ => rfl) dX5_takeToken_65 (fun z10 u11 h12 => ?_)
      rw [h12.1]; replace h12 := h12.2
      refine z_as (b := eor (u 2) (u 1 1) 48 57 (p + 1)) h12 ?_
      refine z_istore C [(4, .int (zI (eor (u 2) (u 1 1) 48 57 (p + 1)))), (3, .int (zI (u 2 (p)))), (0, .ref (a 13)), (1, .int (zI i)), (2, .int (zI p))] dX5_takeToken_68 (by decide) rfl ?_
      refine z_aload_n C 2 dX5_takeToken_70 rfl ?_
      refine z_get C hK (v := .ref (a 16)) inX5_takeToken_X5 13 (WB_13 a c u) rfl 4 (by decide) (List.mem_of_getElem? (i := 3) rfl) rfl dX5_takeToken_71 ?_
      refine z_iload_n C 3 dX5_takeToken_74 rfl ?_
      refine z_aload_n C 2 dX5_takeToken_75 rfl ?_
      refine z_iload_n C 4 dX5_takeToken_76 rfl ?_
      refine z_iload C 0 dX5_takeToken_77 rfl ?_
      refine z_callV C hK hDD (c_X5_numberAt (zl x) (zG x) a c u p (eor (u 2) (u 1 1) 48 57 (p + 1)) (hI) (by omega) (fig_all (by omega) hef.2)) gX5_takeToken_X5_numberAt rfl zy_X5_numberAt 13 (WB_13 a c u) rfl ⟨by omega, by decide⟩ rfl (Nat.le_of_ble_eq_true rfl) (st := [.int (zI i), .ref (a 16)]) (stk2 := fun z13 => [.int (zI z13), .int (zI i), .ref (a 16)]) rfl (fun _ => rfl) dX5_takeToken_79 (fun z13 u14 h15 => ?_)
      rw [h15.1]; replace h15 := h15.2
      refine z_as (b := nmv (u 2) p (eor (u 2) (u 1 1) 48 57 (p + 1))) h15 ?_
      refine z_iast C hK (hDD _) 0 (g := u 16) 16 (WB_16 a c u) rfl (by decide) (by omega) (WB_16_set a c u i (nmv (u 2) p (eor (u 2) (u 1 1) 48 57 (p + 1)))) dX5_takeToken_82 ?_
      refine z_aload_n C 2 dX5_takeToken_83 rfl ?_
      refine z_get C hK (v := .ref (a 14)) inX5_takeToken_X5 13 (WB_13 a c ((up u 16 (i) (nmv (u 2) p (eor (u 2) (u 1 1) 48 57 (p + 1)))))) rfl 2 (by decide) (List.mem_of_getElem? (i := 2) rfl) rfl dX5_takeToken_84 ?_
      refine z_iload_n C 3 dX5_takeToken_87 rfl ?_
      refine z_aload_n C 2 dX5_takeToken_88 rfl ?_
      refine z_get C hK (v := .ref (a 16)) inX5_takeToken_X5 13 (WB_13 a c ((up u 16 (i) (nmv (u 2) p (eor (u 2) (u 1 1) 48 57 (p + 1)))))) rfl 4 (by decide) (List.mem_of_getElem? (i := 3) rfl) rfl dX5_takeToken_89 ?_
      refine z_iload_n C 3 dX5_takeToken_92 rfl ?_
      refine z_iald C hK 0 (g := ((up u 16 (i) (nmv (u 2) p (eor (u 2) (u 1 1) 48 57 (p + 1)))) 16)) (i := i) 16 (WB_16 a c ((up u 16 (i) (nmv (u 2) p (eor (u 2) (u 1 1) 48 57 (p + 1)))))) rfl (by decide) (by omega) dX5_takeToken_93 ?_
      refine z_as (b := nmv (u 2) p (eor (u 2) (u 1 1) 48 57 (p + 1))) (up_eq _ _ _ _) ?_
      have hnr := nmv_rng (tx := u 2) (b := p) (e := eor (u 2) (u 1 1) 48 57 (p + 1)) (by omega) (fig_all (by omega) hef.2)
      refine z_if_ge C 101 dX5_takeToken_94 (by decide) (by omega) (fun h16 => ?_) (fun h16 => ?_)
      · have hvv := h16
        refine z_iconst C dX5_takeToken_101 ?_
        refine z_iast C hK (hDD _) 0 (g := (up u 16 (i) (nmv (u 2) p (eor (u 2) (u 1 1) 48 57 (p + 1)))) 14) 14 (WB_14 a c ((up u 16 (i) (nmv (u 2) p (eor (u 2) (u 1 1) 48 57 (p + 1)))))) rfl (by decide) (by omega) (WB_14_set a c ((up u 16 (i) (nmv (u 2) p (eor (u 2) (u 1 1) 48 57 (p + 1))))) i 2) dX5_takeToken_102 ?_
        refine z_iload C 0 dX5_takeToken_103 rfl ?_
        exact kret (eor (u 2) (u 1 1) 48 57 (p + 1)) ((up (up u 16 (i) (nmv (u 2) p (eor (u 2) (u 1 1) 48 57 (p + 1)))) 14 (i) (2))) _ _ (tk_num b_p (by omega) rfl (by omega)) dX5_takeToken_105
      · have hvv := h16
        refine z_iconst C dX5_takeToken_97 ?_
        refine z_goto C 102 dX5_takeToken_98 (by decide) ?_
        refine z_iast C hK (hDD _) 0 (g := (up u 16 (i) (nmv (u 2) p (eor (u 2) (u 1 1) 48 57 (p + 1)))) 14) 14 (WB_14 a c ((up u 16 (i) (nmv (u 2) p (eor (u 2) (u 1 1) 48 57 (p + 1)))))) rfl (by decide) (by omega) (WB_14_set a c ((up u 16 (i) (nmv (u 2) p (eor (u 2) (u 1 1) 48 57 (p + 1))))) i 1) dX5_takeToken_102 ?_
        refine z_iload C 0 dX5_takeToken_103 rfl ?_
        exact kret (eor (u 2) (u 1 1) 48 57 (p + 1)) ((up (up u 16 (i) (nmv (u 2) p (eor (u 2) (u 1 1) 48 57 (p + 1)))) 14 (i) (1))) _ _ (tk_num b_p (by omega) rfl (by omega)) dX5_takeToken_105
  · skip
    refine z_aload_n C 1 dX5_takeToken_21 rfl ?_
    refine z_iload_n C 3 dX5_takeToken_22 rfl ?_
    refine z_bipush C dX5_takeToken_23 (by decide) ?_
    refine z_bipush C dX5_takeToken_25 (by decide) ?_
    refine z_callV C hK hDD (c_X5_endOfRun (zl x) (zG x) a c u p 97 122 (hI) (by omega) (by omega) (by omega)) gX5_takeToken_X5_endOfRun rfl zy_X5_endOfRun 13 (WB_13 a c u) rfl ⟨by omega, by decide⟩ rfl (Nat.le_of_ble_eq_true rfl) (st := []) (stk2 := fun z17 => [.int (zI z17)]) rfl (fun _ => rfl) dX5_takeToken_27 (fun z17 u18 h19 => ?_)
    rw [h19.1]; replace h19 := h19.2
    refine z_as (b := eor (u 2) (u 1 1) 97 122 (p + 1)) h19 ?_
    refine z_istore C [(4, .int (zI (eor (u 2) (u 1 1) 97 122 (p + 1)))), (3, .int (zI (u 2 (p)))), (0, .ref (a 13)), (1, .int (zI i)), (2, .int (zI p))] dX5_takeToken_30 (by decide) rfl ?_
    refine z_aload_n C 2 dX5_takeToken_32 rfl ?_
    refine z_get C hK (v := .ref (a 14)) inX5_takeToken_X5 13 (WB_13 a c u) rfl 2 (by decide) (List.mem_of_getElem? (i := 2) rfl) rfl dX5_takeToken_33 ?_
    refine z_iload_n C 3 dX5_takeToken_36 rfl ?_
    refine z_aload_n C 2 dX5_takeToken_37 rfl ?_
    refine z_iload_n C 4 dX5_takeToken_38 rfl ?_
    refine z_iload C 0 dX5_takeToken_39 rfl ?_
    refine z_callVE C hK hE hDD (c_X5_wordAt (zl x) (zG x) sa sv a c u p (eor (u 2) (u 1 1) 97 122 (p + 1)) (hI) (by omega)) gX5_takeToken_X5_wordAt rfl zy_X5_wordAt 13 (WB_13 a c u) rfl ⟨by omega, by decide⟩ rfl (Nat.le_of_ble_eq_true rfl) (st := [.int (zI i), .ref (a 14)]) (stk2 := fun z20 => [.int (zI z20), .int (zI i), .ref (a 14)]) rfl (fun _ => rfl) dX5_takeToken_41 (fun z20 u21 h22 => ?_)
    rw [h22.1]; replace h22 := h22.2
    refine z_as (b := wk (u 2) p (eor (u 2) (u 1 1) 97 122 (p + 1))) h22 ?_
    refine z_iast C hK (hDD _) 0 (g := u 14) 14 (WB_14 a c u) rfl (by decide) (by omega) (WB_14_set a c u i (wk (u 2) p (eor (u 2) (u 1 1) 97 122 (p + 1)))) dX5_takeToken_44 ?_
    refine z_iload C 0 dX5_takeToken_45 rfl ?_
    exact kret (eor (u 2) (u 1 1) 97 122 (p + 1)) ((up u 14 (i) (wk (u 2) p (eor (u 2) (u 1 1) 97 122 (p + 1))))) _ _ (tk_word b_p (by omega)) dX5_takeToken_47
-- NoteBells$Reader.splitText
theorem inX5_splitText_X5 : ∀ w ∈ wsX50, w ∈ wsX5_splitText := fun w h => List.mem_cons_of_mem _ (List.mem_append_left _ (List.mem_append_right _ (h)))
theorem inX5_splitText_X7 : ∀ w ∈ wsX70, w ∈ wsX5_splitText := fun w h => List.mem_cons_of_mem _ (List.mem_append_right _ (h))
set_option maxHeartbeats 8000000 in
set_option maxRecDepth 100000 in
theorem c_X5_splitText (l : Launch) (D : va_G) (sa sv : Nat → Nat) (a : Nat → Nat) (c : Nat → ClassId) (u : zU)  (hI : IB u) : ZE l D sa sv (zTy c) (WB a c) yX5_splitText wsX5_splitText 8 [.ref (a 13)] u rV (fun z u' => FrT (u) u' ∧ ∀ j : Int, Liv (KT (u 2) (u 1 1)) j → u' 14 j = KT (u 2) (u 1 1) j ∧ u' 15 j = ST (u 2) (u 1 1) j ∧ (KT (u 2) (u 1 1) j = 2 → u' 16 j = NTk (u 2) (u 1 1) j)) := by
  refine ZE.ofV (cc := cX5_splitText) (maxL := 3) [(0, .ref (a 13))] rfl (by decide +kernel) rfl (Nat.le_of_ble_eq_true rfl) (WB_addr a c) ?_
  intro x C hK _ _ hDD hE kret
  have htl := hI.tlen
  refine z_iconst C dX5_splitText_0 ?_
  refine z_istore_n C [(1, .int (zI 0)), (0, .ref (a 13))] dX5_splitText_1 rfl (by decide) rfl ?_
  refine z_iconst C dX5_splitText_2 ?_
  refine z_istore_n C [(2, .int (zI 0)), (1, .int (zI 0)), (0, .ref (a 13))] dX5_splitText_3 rfl (by decide) rfl ?_
  have L4_1 : ∀ (fu : Nat) (v : zU) (f : Int) (p : Int), (FrT u v) → (0 ≤ f) → (0 ≤ p ∧ p ≤ u 1 1) → (skp (u 2) (u 1 1) p = ps (u 2) (u 1 1) f.toNat) → (Liv (KT (u 2) (u 1 1)) f) → (∀ j : Int, 0 ≤ j → j < f → v 14 j = KT (u 2) (u 1 1) j ∧ v 15 j = ST (u 2) (u 1 1) j ∧ (KT (u 2) (u 1 1) j = 2 → v 16 j = NTk (u 2) (u 1 1) j)) → u 1 1 - p < (fu : Int) → Z x 0 0 (WB a c v) [(0, .ref (a 13)), (1, .int (zI f)), (2, .int (zI p))] 4 [] := by
    intro fu
    induction fu with
    | zero => intro v f p hF hf hp hs hL hT hmeas; exfalso; omega
    | succ fu ih4 =>
      intro v f p hF hf hp hs hL hT hmeas
      have ev1 := hF.tn
      have ev2 := hF.tx
      have hIv := hF.ib hI
      have hf2 := Liv_200 htl hL
      refine z_iload_n C 2 dX5_splitText_4 rfl ?_
      refine z_aload_n C 0 dX5_splitText_5 rfl ?_
      refine z_get C hK (v := .ref (a 1)) inX5_splitText_X5 13 (WB_13 a c v) rfl 0 (by decide) (List.mem_of_getElem? (i := 1) rfl) rfl dX5_splitText_6 ?_
      refine z_getN C hK (v := .int (zI (v 1 1))) inX5_splitText_X7 1 (WB_1 a c v) rfl 1 (by decide) (List.mem_of_getElem? (i := 47) rfl) rfl dX5_splitText_9 ?_
      refine z_icmp_ge C 62 dX5_splitText_12 (by decide) (by omega) (fun h2 => ?_) (fun h2 => ?_)
      · have hend := sp_e1 hp hs (by omega)
        refine z_aload_n C 0 dX5_splitText_62 rfl ?_
        refine z_get C hK (v := .ref (a 14)) inX5_splitText_X5 13 (WB_13 a c v) rfl 2 (by decide) (List.mem_of_getElem? (i := 3) rfl) rfl dX5_splitText_63 ?_
        refine z_iload_n C 1 dX5_splitText_66 rfl ?_
        refine z_iconst C dX5_splitText_67 ?_
        refine z_iast C hK (hDD _) 0 (g := v 14) 14 (WB_14 a c v) rfl (by decide) (by omega) (WB_14_set a c v f 0) dX5_splitText_68 ?_
        refine z_aload_n C 0 dX5_splitText_69 rfl ?_
        refine z_get C hK (v := .ref (a 15)) inX5_splitText_X5 13 (WB_13 a c ((up v 14 (f) (0)))) rfl 3 (by decide) (List.mem_of_getElem? (i := 2) rfl) rfl dX5_splitText_70 ?_
        refine z_iload_n C 1 dX5_splitText_73 rfl ?_
        refine z_aload_n C 0 dX5_splitText_74 rfl ?_
        refine z_get C hK (v := .ref (a 1)) inX5_splitText_X5 13 (WB_13 a c ((up v 14 (f) (0)))) rfl 0 (by decide) (List.mem_of_getElem? (i := 1) rfl) rfl dX5_splitText_75 ?_
        refine z_getN C hK (v := .int (zI (v 1 1))) inX5_splitText_X7 1 (WB_1 a c ((up v 14 (f) (0)))) rfl 1 (by decide) (List.mem_of_getElem? (i := 47) rfl) rfl dX5_splitText_78 ?_
        refine z_iast C hK (hDD _) 0 (g := (up v 14 (f) (0)) 15) 15 (WB_15 a c ((up v 14 (f) (0)))) rfl (by decide) (by omega) (WB_15_set a c ((up v 14 (f) (0))) f (v 1 1)) dX5_splitText_81 ?_
        exact kret 0 ((up (up v 14 (f) (0)) 15 (f) (v 1 1))) _ _ (sp_fin hF hf hT hend) dX5_splitText_82
      · skip
        refine z_iload_n C 1 dX5_splitText_15 rfl ?_
        refine z_sipush C dX5_splitText_16 (by decide) ?_
        refine z_icmp_ge C 62 dX5_splitText_19 (by decide) (by omega) (fun h3 => ?_) (fun h3 => ?_)
        · have hend := sp_e2 (u := u) (f := f) hI h3
          refine z_aload_n C 0 dX5_splitText_62 rfl ?_
          refine z_get C hK (v := .ref (a 14)) inX5_splitText_X5 13 (WB_13 a c v) rfl 2 (by decide) (List.mem_of_getElem? (i := 3) rfl) rfl dX5_splitText_63 ?_
          refine z_iload_n C 1 dX5_splitText_66 rfl ?_
          refine z_iconst C dX5_splitText_67 ?_
          refine z_iast C hK (hDD _) 0 (g := v 14) 14 (WB_14 a c v) rfl (by decide) (by omega) (WB_14_set a c v f 0) dX5_splitText_68 ?_
          refine z_aload_n C 0 dX5_splitText_69 rfl ?_
          refine z_get C hK (v := .ref (a 15)) inX5_splitText_X5 13 (WB_13 a c ((up v 14 (f) (0)))) rfl 3 (by decide) (List.mem_of_getElem? (i := 2) rfl) rfl dX5_splitText_70 ?_
          refine z_iload_n C 1 dX5_splitText_73 rfl ?_
          refine z_aload_n C 0 dX5_splitText_74 rfl ?_
          refine z_get C hK (v := .ref (a 1)) inX5_splitText_X5 13 (WB_13 a c ((up v 14 (f) (0)))) rfl 0 (by decide) (List.mem_of_getElem? (i := 1) rfl) rfl dX5_splitText_75 ?_
          refine z_getN C hK (v := .int (zI (v 1 1))) inX5_splitText_X7 1 (WB_1 a c ((up v 14 (f) (0)))) rfl 1 (by decide) (List.mem_of_getElem? (i := 47) rfl) rfl dX5_splitText_78 ?_
          refine z_iast C hK (hDD _) 0 (g := (up v 14 (f) (0)) 15) 15 (WB_15 a c ((up v 14 (f) (0)))) rfl (by decide) (by omega) (WB_15_set a c ((up v 14 (f) (0))) f (v 1 1)) dX5_splitText_81 ?_
          exact kret 0 ((up (up v 14 (f) (0)) 15 (f) (v 1 1))) _ _ (sp_fin hF hf hT hend) dX5_splitText_82
        · skip
          have hby := hIv.byte p (by omega) (by omega)
          refine z_aload_n C 0 dX5_splitText_22 rfl ?_
          refine z_get C hK (v := .ref (a 1)) inX5_splitText_X5 13 (WB_13 a c v) rfl 0 (by decide) (List.mem_of_getElem? (i := 1) rfl) rfl dX5_splitText_23 ?_
          refine z_getN C hK (v := .ref (a 2)) inX5_splitText_X7 1 (WB_1 a c v) rfl 0 (by decide) (List.mem_of_getElem? (i := 48) rfl) rfl dX5_splitText_26 ?_
          refine z_iload_n C 2 dX5_splitText_29 rfl ?_
          refine z_iald C hK 0 (g := (v 2)) (i := p) 2 (WB_2 a c v) rfl (by decide) (by omega) dX5_splitText_30 ?_
          refine z_as (b := v 2 (p)) rfl ?_
          refine z_bipush C dX5_splitText_31 (by decide) ?_
          refine z_icmp_ne C 42 dX5_splitText_33 (by decide) (by omega) (fun h4 => ?_) (fun h4 => ?_)
          · have h32 : u 2 p ≠ 32 := by rw [← ev2]; exact h4
            refine z_aload_n C 0 dX5_splitText_42 rfl ?_
            refine z_get C hK (v := .ref (a 15)) inX5_splitText_X5 13 (WB_13 a c v) rfl 3 (by decide) (List.mem_of_getElem? (i := 2) rfl) rfl dX5_splitText_43 ?_
            refine z_iload_n C 1 dX5_splitText_46 rfl ?_
            refine z_iload_n C 2 dX5_splitText_47 rfl ?_
            refine z_iast C hK (hDD _) 0 (g := v 15) 15 (WB_15 a c v) rfl (by decide) (by omega) (WB_15_set a c v f p) dX5_splitText_48 ?_
            refine z_aload_n C 0 dX5_splitText_49 rfl ?_
            refine z_iload_n C 1 dX5_splitText_50 rfl ?_
            refine z_iload_n C 2 dX5_splitText_51 rfl ?_
            refine z_callVE C hK hE hDD (c_X5_takeToken (zl x) (zG x) sa sv a c ((up v 15 (f) (p))) f p ((FrT_up (by decide) hF).ib hI) (by omega) (show 0 ≤ p ∧ p < (v 1 1) by omega)) gX5_splitText_X5_takeToken rfl zy_X5_takeToken 13 (WB_13 a c ((up v 15 (f) (p)))) rfl ⟨by omega, by decide⟩ rfl (Nat.le_of_ble_eq_true rfl) (st := []) (stk2 := fun z5 => [.int (zI z5)]) rfl (fun _ => rfl) dX5_splitText_52 (fun z5 u6 h7 => ?_)
            replace h7 : TkP (((up v 15 (f) (p)))) u6 f p z5 := h7
            obtain ⟨s1, s2, s3, s4, s5⟩ := sp_step hI hF hf (by omega) hs hL hT h32 h7
            refine z_istore_n C [(2, .int (zI z5)), (0, .ref (a 13)), (1, .int (zI f))] dX5_splitText_55 rfl (by decide) rfl ?_
            refine z_iinc C 2 [(1, .int (zI (f + 1))), (2, .int (zI z5)), (0, .ref (a 13))] dX5_splitText_56 rfl (by decide) rfl ?_
            refine z_goto C 4 dX5_splitText_59 (by decide) ?_
            refine z_lv [(0, .ref (a 13)), (1, .int (zI (f + 1))), (2, .int (zI z5))] [2, 0, 1] rfl ?_
            exact ih4 u6 (f + 1) z5 (s1) (by omega) (by omega) (s3) (s4) (s5) (by omega)
          · have h32 : u 2 p = 32 := by rw [← ev2]; exact h4
            refine z_iinc C 2 [(2, .int (zI (p + 1))), (0, .ref (a 13)), (1, .int (zI f))] dX5_splitText_36 rfl (by decide) rfl ?_
            refine z_goto C 4 dX5_splitText_39 (by decide) ?_
            refine z_lv [(0, .ref (a 13)), (1, .int (zI f)), (2, .int (zI (p + 1)))] [1, 2, 0] rfl ?_
            exact ih4 v f (p + 1) (hF) (by omega) (by omega) (Eq.trans (skp_on ⟨by omega, h32⟩).symm hs) (hL) (hT) (by omega)
  refine z_lv [(0, .ref (a 13)), (1, .int (zI 0)), (2, .int (zI 0))] [2, 1, 0] rfl ?_
  exact L4_1 (((u 1 1 - 0 : Int)).toNat + 1) u 0 0 (FrT_rf u) (by omega) (by omega) (rfl) (Liv_0) (fun j j0 j1 => absurd j1 (by omega)) (by omega)
