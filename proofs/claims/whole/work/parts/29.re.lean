/-! ===== contracts: what the reader reads ===== -/

theorem zy_X5_readLevel : zY yX5_readLevel 0 := ⟨by decide +kernel, by decide +kernel, by decide +kernel⟩
theorem zy_X5_readMan : zY yX5_readMan 0 := ⟨by decide +kernel, by decide +kernel, by decide +kernel⟩
theorem zy_X5_readEar : zY yX5_readEar 0 := ⟨by decide +kernel, by decide +kernel, by decide +kernel⟩
theorem zy_X5_readWet : zY yX5_readWet 0 := ⟨by decide +kernel, by decide +kernel, by decide +kernel⟩
theorem zy_X5_readPace : zY yX5_readPace 0 := ⟨by decide +kernel, by decide +kernel, by decide +kernel⟩
theorem zy_X5_readItem : zY yX5_readItem 0 := ⟨by decide +kernel, by decide +kernel, by decide +kernel⟩
-- NoteBells$Reader.readLevel
theorem inX5_readLevel_X5 : ∀ w ∈ wsX50, w ∈ wsX5_readLevel := fun w h => List.mem_cons_of_mem _ (List.mem_append_left _ (List.mem_append_right _ (h)))
theorem inX5_readLevel_X8 : ∀ w ∈ wsX80, w ∈ wsX5_readLevel := fun w h => List.mem_cons_of_mem _ (List.mem_append_right _ (h))
set_option maxHeartbeats 8000000 in
set_option maxRecDepth 100000 in
theorem c_X5_readLevel (l : Launch) (D : va_G) (a : Nat → Nat) (c : Nat → ClassId) (u : zU) (K N S : Int → Int) (Dr : zU) (hT : Tok (u 14) (u 15) (u 16) K N S) (hl : Liv K (u 13 5)) (hD : DC u Dr) (hk : K (u 13 5) = 4) : ZM l D (zTy c) (WB a c) yX5_readLevel wsX5_readLevel 3 [.ref (a 13)] u rI (fun z u' => (z = 0 ∧ Frm (u) u' ∧ ItNo K N Dr (u 13 5) (u' 13 5)) ∨ (z = 1 ∧ Frm (u) u' ∧ ∃ D1 : zU, ItOk K N Dr (u 13 5) (u' 13 5) D1 ∧ DC u' D1)) := by
  refine ZM.ofZ (cc := cX5_readLevel) (maxL := 2) [(0, .ref (a 13))] rfl (by decide +kernel) rfl (Nat.le_of_ble_eq_true rfl) (WB_addr a c) ?_
  intro x C hK _ _ hDD kret
  have hD0 := hD
  have L0 := hl
  have hl0 := hl.1
  have y0 : K (u 13 5) ≠ 0 := by omega
  obtain ⟨r0a, r0b, r0c, r0d, r0e⟩ := hT _ hl
  obtain ⟨d1, d2, d3, d4, d5, d6⟩ := hD
  refine z_aload_n C 0 dX5_readLevel_0 rfl ?_
  refine z_get C hK (v := .ref (a 8)) inX5_readLevel_X5 13 (WB_13 a c u) rfl 1 (by decide) (List.mem_of_getElem? (i := 1) rfl) rfl dX5_readLevel_1 ?_
  refine z_getN C hK (v := .int (zI (u 8 4))) inX5_readLevel_X8 8 (WB_8 a c u) rfl 4 (by decide) (List.mem_of_getElem? (i := 38) rfl) rfl dX5_readLevel_4 ?_
  refine z_istore_n C [(1, .int (zI (u 8 4))), (0, .ref (a 13))] dX5_readLevel_7 rfl (by decide) rfl ?_
  refine z_iload_n C 0 dX5_readLevel_8 rfl ?_
  refine z_bipush C dX5_readLevel_9 (by decide) ?_
  refine z_icmp_lt C 16 dX5_readLevel_11 (by decide) (by omega) (fun h1 => ?_) (fun h1 => ?_)
  · skip
    refine z_aload_n C 1 dX5_readLevel_16 rfl ?_
    refine z_iconst C dX5_readLevel_17 ?_
    refine z_bipush C dX5_readLevel_18 (by decide) ?_
    refine z_callV C hK hDD (c_X5_readNumber (zl x) (zG x) a c u 0 60 K N S (hT) (L0) (by omega) (by omega)) gX5_readLevel_X5_readNumber rfl zy_X5_readNumber 13 (WB_13 a c u) rfl ⟨by omega, by decide⟩ rfl (Nat.le_of_ble_eq_true rfl) (st := []) (stk2 := fun z2 => [.int (zI z2)]) rfl (fun _ => rfl) dX5_readLevel_20 (fun z2 u3 h4 => ?_)
    rw [adv_on y0] at h4
    obtain ⟨e1, KN1⟩ := h4
    rw [e1]
    have L1 : Liv K (u 13 5 + 1) := Liv_next L0 y0
    obtain ⟨r1a, r1b, r1c, r1d, r1e⟩ := hT _ L1
    change Z x 0 0 (WB a c (up u 13 (5) ((u 13 5 + 1)))) _ _ _
    refine z_if_ne C 28 dX5_readLevel_23 (by decide) (by omega) (fun h5 => ?_) (fun h5 => ?_)
    · have n1 : K (u 13 5 + 1) = 2 ∧ 0 ≤ N (u 13 5 + 1) ∧ N (u 13 5 + 1) ≤ 60 := by omega
      have y1 : K (u 13 5 + 1) ≠ 0 := by omega
      refine z_aload_n C 1 dX5_readLevel_28 rfl ?_
      refine z_get C hK (v := .ref (a 8)) inX5_readLevel_X5 13 (WB_13 a c ((up u 13 (5) ((u 13 5 + 1))))) rfl 1 (by decide) (List.mem_of_getElem? (i := 1) rfl) rfl dX5_readLevel_29 ?_
      refine z_getN C hK (v := .ref (a 9)) inX5_readLevel_X8 8 (WB_8 a c ((up u 13 (5) ((u 13 5 + 1))))) rfl 0 (by decide) (List.mem_of_getElem? (i := 39) rfl) rfl dX5_readLevel_32 ?_
      refine z_iload_n C 0 dX5_readLevel_35 rfl ?_
      refine z_aload_n C 1 dX5_readLevel_36 rfl ?_
      refine z_get C hK (v := .ref (a 16)) inX5_readLevel_X5 13 (WB_13 a c ((up u 13 (5) ((u 13 5 + 1))))) rfl 4 (by decide) (List.mem_of_getElem? (i := 2) rfl) rfl dX5_readLevel_37 ?_
      refine z_aload_n C 1 dX5_readLevel_40 rfl ?_
      refine z_get C hK (v := .int (zI ((u 13 5 + 1)))) inX5_readLevel_X5 13 (WB_13 a c ((up u 13 (5) ((u 13 5 + 1))))) rfl 5 (by decide) (List.mem_of_getElem? (i := 3) rfl) rfl dX5_readLevel_41 ?_
      refine z_iald C hK 0 (g := (u 16)) (i := ((u 13 5 + 1))) 16 (WB_16 a c ((up u 13 (5) ((u 13 5 + 1))))) rfl (by decide) (by omega) dX5_readLevel_44 ?_
      refine z_as (b := N (u 13 5 + 1)) (r1d n1.1) ?_
      refine z_iast C hK (hDD _) 0 (g := (up u 13 (5) ((u 13 5 + 1))) 9) 9 (WB_9 a c ((up u 13 (5) ((u 13 5 + 1))))) rfl (by decide) (by omega) (WB_9_set a c ((up u 13 (5) ((u 13 5 + 1)))) (u 8 4) (N (u 13 5 + 1))) dX5_readLevel_45 ?_
      refine z_aload_n C 1 dX5_readLevel_46 rfl ?_
      refine z_iconst C dX5_readLevel_47 ?_
      refine z_bipush C dX5_readLevel_48 (by decide) ?_
      refine z_callV C hK hDD (c_X5_readNumber (zl x) (zG x) a c ((up (up u 13 (5) ((u 13 5 + 1))) 9 (u 8 4) (N (u 13 5 + 1)))) 0 9 K N S (hT) (L1) (show -2147483648 ≤ 0 ∧ 0 < 2147483648 by omega) (show -2147483648 ≤ 9 ∧ 9 < 2147483648 by omega)) gX5_readLevel_X5_readNumber rfl zy_X5_readNumber 13 (WB_13 a c ((up (up u 13 (5) ((u 13 5 + 1))) 9 (u 8 4) (N (u 13 5 + 1))))) rfl ⟨by omega, by decide⟩ rfl (Nat.le_of_ble_eq_true rfl) (st := []) (stk2 := fun z6 => [.int (zI z6)]) rfl (fun _ => rfl) dX5_readLevel_50 (fun z6 u7 h8 => ?_)
      replace h8 : u7 = up (((up (up u 13 (5) ((u 13 5 + 1))) 9 (u 8 4) (N (u 13 5 + 1))))) 13 5 (adv K (((u 13 5 + 1)))) ∧ ((z6 = 1 ∧ K (adv K (((u 13 5 + 1)))) = 2 ∧ 0 ≤ N (adv K (((u 13 5 + 1)))) ∧ N (adv K (((u 13 5 + 1)))) ≤ 9) ∨ (z6 = 0 ∧ ¬ (K (adv K (((u 13 5 + 1)))) = 2 ∧ 0 ≤ N (adv K (((u 13 5 + 1)))) ∧ N (adv K (((u 13 5 + 1)))) ≤ 9))) := h8
      rw [adv_on y1] at h8
      obtain ⟨e2, KN2⟩ := h8
      rw [e2]
      have L2 : Liv K (u 13 5 + 1 + 1) := Liv_next L1 y1
      obtain ⟨r2a, r2b, r2c, r2d, r2e⟩ := hT _ L2
      change Z x 0 0 (WB a c (up (up (up u 13 (5) ((u 13 5 + 1))) 9 (u 8 4) (N (u 13 5 + 1))) 13 (5) ((u 13 5 + 1 + 1)))) _ _ _
      refine z_if_ne C 58 dX5_readLevel_53 (by decide) (by omega) (fun h9 => ?_) (fun h9 => ?_)
      · have n2 : K (u 13 5 + 1 + 1) = 2 ∧ 0 ≤ N (u 13 5 + 1 + 1) ∧ N (u 13 5 + 1 + 1) ≤ 9 := by omega
        have y2 : K (u 13 5 + 1 + 1) ≠ 0 := by omega
        refine z_aload_n C 1 dX5_readLevel_58 rfl ?_
        refine z_get C hK (v := .ref (a 8)) inX5_readLevel_X5 13 (WB_13 a c ((up (up (up u 13 (5) ((u 13 5 + 1))) 9 (u 8 4) (N (u 13 5 + 1))) 13 (5) ((u 13 5 + 1 + 1))))) rfl 1 (by decide) (List.mem_of_getElem? (i := 1) rfl) rfl dX5_readLevel_59 ?_
        refine z_getN C hK (v := .ref (a 10)) inX5_readLevel_X8 8 (WB_8 a c ((up (up (up u 13 (5) ((u 13 5 + 1))) 9 (u 8 4) (N (u 13 5 + 1))) 13 (5) ((u 13 5 + 1 + 1))))) rfl 1 (by decide) (List.mem_of_getElem? (i := 40) rfl) rfl dX5_readLevel_62 ?_
        refine z_iload_n C 0 dX5_readLevel_65 rfl ?_
        refine z_aload_n C 1 dX5_readLevel_66 rfl ?_
        refine z_get C hK (v := .ref (a 16)) inX5_readLevel_X5 13 (WB_13 a c ((up (up (up u 13 (5) ((u 13 5 + 1))) 9 (u 8 4) (N (u 13 5 + 1))) 13 (5) ((u 13 5 + 1 + 1))))) rfl 4 (by decide) (List.mem_of_getElem? (i := 2) rfl) rfl dX5_readLevel_67 ?_
        refine z_aload_n C 1 dX5_readLevel_70 rfl ?_
        refine z_get C hK (v := .int (zI ((u 13 5 + 1 + 1)))) inX5_readLevel_X5 13 (WB_13 a c ((up (up (up u 13 (5) ((u 13 5 + 1))) 9 (u 8 4) (N (u 13 5 + 1))) 13 (5) ((u 13 5 + 1 + 1))))) rfl 5 (by decide) (List.mem_of_getElem? (i := 3) rfl) rfl dX5_readLevel_71 ?_
        refine z_iald C hK 0 (g := (u 16)) (i := ((u 13 5 + 1 + 1))) 16 (WB_16 a c ((up (up (up u 13 (5) ((u 13 5 + 1))) 9 (u 8 4) (N (u 13 5 + 1))) 13 (5) ((u 13 5 + 1 + 1))))) rfl (by decide) (by omega) dX5_readLevel_74 ?_
        refine z_as (b := N (u 13 5 + 1 + 1)) (r2d n2.1) ?_
        refine z_iast C hK (hDD _) 0 (g := (up (up (up u 13 (5) ((u 13 5 + 1))) 9 (u 8 4) (N (u 13 5 + 1))) 13 (5) ((u 13 5 + 1 + 1))) 10) 10 (WB_10 a c ((up (up (up u 13 (5) ((u 13 5 + 1))) 9 (u 8 4) (N (u 13 5 + 1))) 13 (5) ((u 13 5 + 1 + 1))))) rfl (by decide) (by omega) (WB_10_set a c ((up (up (up u 13 (5) ((u 13 5 + 1))) 9 (u 8 4) (N (u 13 5 + 1))) 13 (5) ((u 13 5 + 1 + 1)))) (u 8 4) (N (u 13 5 + 1 + 1))) dX5_readLevel_75 ?_
        refine z_aload_n C 1 dX5_readLevel_76 rfl ?_
        refine z_iconst C dX5_readLevel_77 ?_
        refine z_iconst C dX5_readLevel_78 ?_
        refine z_callV C hK hDD (c_X5_readNumber (zl x) (zG x) a c ((up (up (up (up u 13 (5) ((u 13 5 + 1))) 9 (u 8 4) (N (u 13 5 + 1))) 13 (5) ((u 13 5 + 1 + 1))) 10 (u 8 4) (N (u 13 5 + 1 + 1)))) 0 1 K N S (hT) (L2) (show -2147483648 ≤ 0 ∧ 0 < 2147483648 by omega) (show -2147483648 ≤ 1 ∧ 1 < 2147483648 by omega)) gX5_readLevel_X5_readNumber rfl zy_X5_readNumber 13 (WB_13 a c ((up (up (up (up u 13 (5) ((u 13 5 + 1))) 9 (u 8 4) (N (u 13 5 + 1))) 13 (5) ((u 13 5 + 1 + 1))) 10 (u 8 4) (N (u 13 5 + 1 + 1))))) rfl ⟨by omega, by decide⟩ rfl (Nat.le_of_ble_eq_true rfl) (st := []) (stk2 := fun z10 => [.int (zI z10)]) rfl (fun _ => rfl) dX5_readLevel_79 (fun z10 u11 h12 => ?_)
        replace h12 : u11 = up (((up (up (up (up u 13 (5) ((u 13 5 + 1))) 9 (u 8 4) (N (u 13 5 + 1))) 13 (5) ((u 13 5 + 1 + 1))) 10 (u 8 4) (N (u 13 5 + 1 + 1))))) 13 5 (adv K (((u 13 5 + 1 + 1)))) ∧ ((z10 = 1 ∧ K (adv K (((u 13 5 + 1 + 1)))) = 2 ∧ 0 ≤ N (adv K (((u 13 5 + 1 + 1)))) ∧ N (adv K (((u 13 5 + 1 + 1)))) ≤ 1) ∨ (z10 = 0 ∧ ¬ (K (adv K (((u 13 5 + 1 + 1)))) = 2 ∧ 0 ≤ N (adv K (((u 13 5 + 1 + 1)))) ∧ N (adv K (((u 13 5 + 1 + 1)))) ≤ 1))) := h12
        rw [adv_on y2] at h12
        obtain ⟨e3, KN3⟩ := h12
        rw [e3]
        have L3 : Liv K (u 13 5 + 1 + 1 + 1) := Liv_next L2 y2
        obtain ⟨r3a, r3b, r3c, r3d, r3e⟩ := hT _ L3
        change Z x 0 0 (WB a c (up (up (up (up (up u 13 (5) ((u 13 5 + 1))) 9 (u 8 4) (N (u 13 5 + 1))) 13 (5) ((u 13 5 + 1 + 1))) 10 (u 8 4) (N (u 13 5 + 1 + 1))) 13 (5) ((u 13 5 + 1 + 1 + 1)))) _ _ _
        refine z_if_ne C 87 dX5_readLevel_82 (by decide) (by omega) (fun h13 => ?_) (fun h13 => ?_)
        · have n3 : K (u 13 5 + 1 + 1 + 1) = 2 ∧ 0 ≤ N (u 13 5 + 1 + 1 + 1) ∧ N (u 13 5 + 1 + 1 + 1) ≤ 1 := by omega
          have y3 : K (u 13 5 + 1 + 1 + 1) ≠ 0 := by omega
          refine z_aload_n C 1 dX5_readLevel_87 rfl ?_
          refine z_get C hK (v := .ref (a 8)) inX5_readLevel_X5 13 (WB_13 a c ((up (up (up (up (up u 13 (5) ((u 13 5 + 1))) 9 (u 8 4) (N (u 13 5 + 1))) 13 (5) ((u 13 5 + 1 + 1))) 10 (u 8 4) (N (u 13 5 + 1 + 1))) 13 (5) ((u 13 5 + 1 + 1 + 1))))) rfl 1 (by decide) (List.mem_of_getElem? (i := 1) rfl) rfl dX5_readLevel_88 ?_
          refine z_getN C hK (v := .ref (a 11)) inX5_readLevel_X8 8 (WB_8 a c ((up (up (up (up (up u 13 (5) ((u 13 5 + 1))) 9 (u 8 4) (N (u 13 5 + 1))) 13 (5) ((u 13 5 + 1 + 1))) 10 (u 8 4) (N (u 13 5 + 1 + 1))) 13 (5) ((u 13 5 + 1 + 1 + 1))))) rfl 2 (by decide) (List.mem_of_getElem? (i := 41) rfl) rfl dX5_readLevel_91 ?_
          refine z_iload_n C 0 dX5_readLevel_94 rfl ?_
          refine z_aload_n C 1 dX5_readLevel_95 rfl ?_
          refine z_get C hK (v := .ref (a 16)) inX5_readLevel_X5 13 (WB_13 a c ((up (up (up (up (up u 13 (5) ((u 13 5 + 1))) 9 (u 8 4) (N (u 13 5 + 1))) 13 (5) ((u 13 5 + 1 + 1))) 10 (u 8 4) (N (u 13 5 + 1 + 1))) 13 (5) ((u 13 5 + 1 + 1 + 1))))) rfl 4 (by decide) (List.mem_of_getElem? (i := 2) rfl) rfl dX5_readLevel_96 ?_
          refine z_aload_n C 1 dX5_readLevel_99 rfl ?_
          refine z_get C hK (v := .int (zI ((u 13 5 + 1 + 1 + 1)))) inX5_readLevel_X5 13 (WB_13 a c ((up (up (up (up (up u 13 (5) ((u 13 5 + 1))) 9 (u 8 4) (N (u 13 5 + 1))) 13 (5) ((u 13 5 + 1 + 1))) 10 (u 8 4) (N (u 13 5 + 1 + 1))) 13 (5) ((u 13 5 + 1 + 1 + 1))))) rfl 5 (by decide) (List.mem_of_getElem? (i := 3) rfl) rfl dX5_readLevel_100 ?_
          refine z_iald C hK 0 (g := (u 16)) (i := ((u 13 5 + 1 + 1 + 1))) 16 (WB_16 a c ((up (up (up (up (up u 13 (5) ((u 13 5 + 1))) 9 (u 8 4) (N (u 13 5 + 1))) 13 (5) ((u 13 5 + 1 + 1))) 10 (u 8 4) (N (u 13 5 + 1 + 1))) 13 (5) ((u 13 5 + 1 + 1 + 1))))) rfl (by decide) (by omega) dX5_readLevel_103 ?_
          refine z_as (b := N (u 13 5 + 1 + 1 + 1)) (r3d n3.1) ?_
          refine z_iast C hK (hDD _) 0 (g := (up (up (up (up (up u 13 (5) ((u 13 5 + 1))) 9 (u 8 4) (N (u 13 5 + 1))) 13 (5) ((u 13 5 + 1 + 1))) 10 (u 8 4) (N (u 13 5 + 1 + 1))) 13 (5) ((u 13 5 + 1 + 1 + 1))) 11) 11 (WB_11 a c ((up (up (up (up (up u 13 (5) ((u 13 5 + 1))) 9 (u 8 4) (N (u 13 5 + 1))) 13 (5) ((u 13 5 + 1 + 1))) 10 (u 8 4) (N (u 13 5 + 1 + 1))) 13 (5) ((u 13 5 + 1 + 1 + 1))))) rfl (by decide) (by omega) (WB_11_set a c ((up (up (up (up (up u 13 (5) ((u 13 5 + 1))) 9 (u 8 4) (N (u 13 5 + 1))) 13 (5) ((u 13 5 + 1 + 1))) 10 (u 8 4) (N (u 13 5 + 1 + 1))) 13 (5) ((u 13 5 + 1 + 1 + 1)))) (u 8 4) (N (u 13 5 + 1 + 1 + 1))) dX5_readLevel_104 ?_
          refine z_aload_n C 1 dX5_readLevel_105 rfl ?_
          refine z_get C hK (v := .ref (a 8)) inX5_readLevel_X5 13 (WB_13 a c ((up (up (up (up (up (up u 13 (5) ((u 13 5 + 1))) 9 (u 8 4) (N (u 13 5 + 1))) 13 (5) ((u 13 5 + 1 + 1))) 10 (u 8 4) (N (u 13 5 + 1 + 1))) 13 (5) ((u 13 5 + 1 + 1 + 1))) 11 (u 8 4) (N (u 13 5 + 1 + 1 + 1))))) rfl 1 (by decide) (List.mem_of_getElem? (i := 1) rfl) rfl dX5_readLevel_106 ?_
          refine z_iload_n C 0 dX5_readLevel_109 rfl ?_
          refine z_iconst C dX5_readLevel_110 ?_
          refine z_iadd C dX5_readLevel_111 ?_
          refine z_putN C hK (hDD _) inX5_readLevel_X8 tyX8 tyX8_ok nmX8 8 (WB_8 a c ((up (up (up (up (up (up u 13 (5) ((u 13 5 + 1))) 9 (u 8 4) (N (u 13 5 + 1))) 13 (5) ((u 13 5 + 1 + 1))) 10 (u 8 4) (N (u 13 5 + 1 + 1))) 13 (5) ((u 13 5 + 1 + 1 + 1))) 11 (u 8 4) (N (u 13 5 + 1 + 1 + 1))))) rfl 4 (by decide) (List.mem_of_getElem? (i := 38) rfl) rfl rfl rfl (Nat.le_of_ble_eq_true rfl) (WB_8_p4 a c ((up (up (up (up (up (up u 13 (5) ((u 13 5 + 1))) 9 (u 8 4) (N (u 13 5 + 1))) 13 (5) ((u 13 5 + 1 + 1))) 10 (u 8 4) (N (u 13 5 + 1 + 1))) 13 (5) ((u 13 5 + 1 + 1 + 1))) 11 (u 8 4) (N (u 13 5 + 1 + 1 + 1)))) ((u 8 4) + 1)) dX5_readLevel_112 ?_
          refine z_aload_n C 1 dX5_readLevel_115 rfl ?_
          refine z_callV C hK hDD (c_X5_readSemicolon (zl x) (zG x) a c ((up (up (up (up (up (up (up u 13 (5) ((u 13 5 + 1))) 9 (u 8 4) (N (u 13 5 + 1))) 13 (5) ((u 13 5 + 1 + 1))) 10 (u 8 4) (N (u 13 5 + 1 + 1))) 13 (5) ((u 13 5 + 1 + 1 + 1))) 11 (u 8 4) (N (u 13 5 + 1 + 1 + 1))) 8 (4) ((u 8 4) + 1))) K N S (hT) (L3)) gX5_readLevel_X5_readSemicolon rfl zy_X5_readSemicolon 13 (WB_13 a c ((up (up (up (up (up (up (up u 13 (5) ((u 13 5 + 1))) 9 (u 8 4) (N (u 13 5 + 1))) 13 (5) ((u 13 5 + 1 + 1))) 10 (u 8 4) (N (u 13 5 + 1 + 1))) 13 (5) ((u 13 5 + 1 + 1 + 1))) 11 (u 8 4) (N (u 13 5 + 1 + 1 + 1))) 8 (4) ((u 8 4) + 1)))) rfl ⟨by omega, by decide⟩ rfl (Nat.le_of_ble_eq_true rfl) (st := []) (stk2 := fun z14 => [.int (zI z14)]) rfl (fun _ => rfl) dX5_readLevel_116 (fun z14 u15 h16 => ?_)
          replace h16 : u15 = up (((up (up (up (up (up (up (up u 13 (5) ((u 13 5 + 1))) 9 (u 8 4) (N (u 13 5 + 1))) 13 (5) ((u 13 5 + 1 + 1))) 10 (u 8 4) (N (u 13 5 + 1 + 1))) 13 (5) ((u 13 5 + 1 + 1 + 1))) 11 (u 8 4) (N (u 13 5 + 1 + 1 + 1))) 8 (4) ((u 8 4) + 1)))) 13 5 (adv K (((u 13 5 + 1 + 1 + 1)))) ∧ ((z14 = 1 ∧ K (adv K (((u 13 5 + 1 + 1 + 1)))) = 3) ∨ (z14 = 0 ∧ ¬ (K (adv K (((u 13 5 + 1 + 1 + 1)))) = 3))) := h16
          rw [adv_on y3] at h16
          obtain ⟨e4, KS⟩ := h16
          rw [e4]
          change Z x 0 0 (WB a c (up (up (up (up (up (up (up (up u 13 (5) ((u 13 5 + 1))) 9 (u 8 4) (N (u 13 5 + 1))) 13 (5) ((u 13 5 + 1 + 1))) 10 (u 8 4) (N (u 13 5 + 1 + 1))) 13 (5) ((u 13 5 + 1 + 1 + 1))) 11 (u 8 4) (N (u 13 5 + 1 + 1 + 1))) 8 (4) ((u 8 4) + 1)) 13 (5) ((u 13 5 + 1 + 1 + 1 + 1)))) _ _ _
          exact kret z14 ((up (up (up (up (up (up (up (up u 13 (5) ((u 13 5 + 1))) 9 (u 8 4) (N (u 13 5 + 1))) 13 (5) ((u 13 5 + 1 + 1))) 10 (u 8 4) (N (u 13 5 + 1 + 1))) 13 (5) ((u 13 5 + 1 + 1 + 1))) 11 (u 8 4) (N (u 13 5 + 1 + 1 + 1))) 8 (4) ((u 8 4) + 1)) 13 (5) ((u 13 5 + 1 + 1 + 1 + 1)))) _ _ (KS.elim (fun q => Or.inr ⟨q.1, (Frm_13 (Frm_8 (Frm_11 (Frm_13 (Frm_10 (Frm_13 (Frm_9 (Frm_13 (Frm_rf u)) (by omega) (by omega))) (by omega) (by omega))) (by omega) (by omega)))), _, Or.inl ⟨hk, by omega, n1, n2, n3, q.2, rfl, rfl⟩, DC_level hD0 (by omega)⟩) (fun q => Or.inl ⟨q.1, (Frm_13 (Frm_8 (Frm_11 (Frm_13 (Frm_10 (Frm_13 (Frm_9 (Frm_13 (Frm_rf u)) (by omega) (by omega))) (by omega) (by omega))) (by omega) (by omega)))), Or.inl ⟨hk, Or.inr (Or.inr (Or.inr (Or.inr ⟨by omega, n1, n2, n3, q.2, rfl⟩)))⟩⟩)) (by omega) dX5_readLevel_119
        · have n3 : ¬ (K (u 13 5 + 1 + 1 + 1) = 2 ∧ 0 ≤ N (u 13 5 + 1 + 1 + 1) ∧ N (u 13 5 + 1 + 1 + 1) ≤ 1) := by omega
          refine z_iconst C dX5_readLevel_85 ?_
          exact kret 0 ((up (up (up (up (up u 13 (5) ((u 13 5 + 1))) 9 (u 8 4) (N (u 13 5 + 1))) 13 (5) ((u 13 5 + 1 + 1))) 10 (u 8 4) (N (u 13 5 + 1 + 1))) 13 (5) ((u 13 5 + 1 + 1 + 1)))) _ _ (Or.inl ⟨rfl, (by first | exact Frm_rf u | exact Frm_13 (Frm_rf u) | exact Frm_13 (Frm_9 (Frm_13 (Frm_rf u)) (by omega) (by omega)) | exact Frm_13 (Frm_10 (Frm_13 (Frm_9 (Frm_13 (Frm_rf u)) (by omega) (by omega))) (by omega) (by omega))), Or.inl ⟨hk, Or.inr (Or.inr (Or.inr (Or.inl ⟨by omega, n1, n2, n3, rfl⟩)))⟩⟩) (by omega) dX5_readLevel_86
      · have n2 : ¬ (K (u 13 5 + 1 + 1) = 2 ∧ 0 ≤ N (u 13 5 + 1 + 1) ∧ N (u 13 5 + 1 + 1) ≤ 9) := by omega
        refine z_iconst C dX5_readLevel_56 ?_
        exact kret 0 ((up (up (up u 13 (5) ((u 13 5 + 1))) 9 (u 8 4) (N (u 13 5 + 1))) 13 (5) ((u 13 5 + 1 + 1)))) _ _ (Or.inl ⟨rfl, (by first | exact Frm_rf u | exact Frm_13 (Frm_rf u) | exact Frm_13 (Frm_9 (Frm_13 (Frm_rf u)) (by omega) (by omega)) | exact Frm_13 (Frm_10 (Frm_13 (Frm_9 (Frm_13 (Frm_rf u)) (by omega) (by omega))) (by omega) (by omega))), Or.inl ⟨hk, Or.inr (Or.inr (Or.inl ⟨by omega, n1, n2, rfl⟩))⟩⟩) (by omega) dX5_readLevel_57
    · have n1 : ¬ (K (u 13 5 + 1) = 2 ∧ 0 ≤ N (u 13 5 + 1) ∧ N (u 13 5 + 1) ≤ 60) := by omega
      refine z_iconst C dX5_readLevel_26 ?_
      exact kret 0 ((up u 13 (5) ((u 13 5 + 1)))) _ _ (Or.inl ⟨rfl, (by first | exact Frm_rf u | exact Frm_13 (Frm_rf u) | exact Frm_13 (Frm_9 (Frm_13 (Frm_rf u)) (by omega) (by omega)) | exact Frm_13 (Frm_10 (Frm_13 (Frm_9 (Frm_13 (Frm_rf u)) (by omega) (by omega))) (by omega) (by omega))), Or.inl ⟨hk, Or.inr (Or.inl ⟨by omega, n1, rfl⟩)⟩⟩) (by omega) dX5_readLevel_27
  · skip
    refine z_iconst C dX5_readLevel_14 ?_
    exact kret 0 u _ _ (Or.inl ⟨rfl, Frm_rf u, Or.inl ⟨hk, Or.inl ⟨by omega, rfl⟩⟩⟩) (by omega) dX5_readLevel_15
-- NoteBells$Reader.readMan
theorem inX5_readMan_X5 : ∀ w ∈ wsX50, w ∈ wsX5_readMan := fun w h => List.mem_cons_of_mem _ (List.mem_append_left _ (List.mem_append_right _ (h)))
theorem inX5_readMan_X8 : ∀ w ∈ wsX80, w ∈ wsX5_readMan := fun w h => List.mem_cons_of_mem _ (List.mem_append_right _ (h))
set_option maxHeartbeats 8000000 in
set_option maxRecDepth 100000 in
theorem c_X5_readMan (l : Launch) (D : va_G) (a : Nat → Nat) (c : Nat → ClassId) (u : zU) (K N S : Int → Int) (Dr : zU) (hT : Tok (u 14) (u 15) (u 16) K N S) (hl : Liv K (u 13 5)) (hD : DC u Dr) (hk : K (u 13 5) = 5) : ZM l D (zTy c) (WB a c) yX5_readMan wsX5_readMan 3 [.ref (a 13)] u rI (fun z u' => (z = 0 ∧ Frm (u) u' ∧ ItNo K N Dr (u 13 5) (u' 13 5)) ∨ (z = 1 ∧ Frm (u) u' ∧ ∃ D1 : zU, ItOk K N Dr (u 13 5) (u' 13 5) D1 ∧ DC u' D1)) := by
  refine ZM.ofZ (cc := cX5_readMan) (maxL := 2) [(0, .ref (a 13))] rfl (by decide +kernel) rfl (Nat.le_of_ble_eq_true rfl) (WB_addr a c) ?_
  intro x C hK _ _ hDD kret
  have hD0 := hD
  have L0 := hl
  have hl0 := hl.1
  have y0 : K (u 13 5) ≠ 0 := by omega
  obtain ⟨r0a, r0b, r0c, r0d, r0e⟩ := hT _ hl
  obtain ⟨d1, d2, d3, d4, d5, d6⟩ := hD
  refine z_aload_n C 0 dX5_readMan_0 rfl ?_
  refine z_get C hK (v := .ref (a 8)) inX5_readMan_X5 13 (WB_13 a c u) rfl 1 (by decide) (List.mem_of_getElem? (i := 1) rfl) rfl dX5_readMan_1 ?_
  refine z_getN C hK (v := .int (zI (u 8 5))) inX5_readMan_X8 8 (WB_8 a c u) rfl 5 (by decide) (List.mem_of_getElem? (i := 42) rfl) rfl dX5_readMan_4 ?_
  refine z_istore_n C [(1, .int (zI (u 8 5))), (0, .ref (a 13))] dX5_readMan_7 rfl (by decide) rfl ?_
  refine z_iload_n C 0 dX5_readMan_8 rfl ?_
  refine z_iconst C dX5_readMan_9 ?_
  refine z_icmp_ge C 30 dX5_readMan_10 (by decide) (by omega) (fun h1 => ?_) (fun h1 => ?_)
  · skip
    refine z_iconst C dX5_readMan_30 ?_
    exact kret 0 u _ _ (by first | exact Or.inl ⟨rfl, Frm_rf u, Or.inr (Or.inl ⟨hk, Or.inl ⟨by omega, rfl⟩⟩)⟩ | exact Or.inl ⟨rfl, Frm_13 (Frm_rf u), Or.inr (Or.inl ⟨hk, Or.inr (Or.inl ⟨by omega, by rw [d1.2]; exact n1, rfl⟩)⟩)⟩) (by omega) dX5_readMan_31
  · skip
    refine z_aload_n C 1 dX5_readMan_13 rfl ?_
    refine z_iconst C dX5_readMan_14 ?_
    refine z_aload_n C 1 dX5_readMan_15 rfl ?_
    refine z_get C hK (v := .ref (a 8)) inX5_readMan_X5 13 (WB_13 a c u) rfl 1 (by decide) (List.mem_of_getElem? (i := 1) rfl) rfl dX5_readMan_16 ?_
    refine z_getN C hK (v := .int (zI (u 8 4))) inX5_readMan_X8 8 (WB_8 a c u) rfl 4 (by decide) (List.mem_of_getElem? (i := 38) rfl) rfl dX5_readMan_19 ?_
    refine z_iconst C dX5_readMan_22 ?_
    refine z_isub C dX5_readMan_23 ?_
    refine z_callV C hK hDD (c_X5_readNumber (zl x) (zG x) a c u 0 ((u 8 4) - 1) K N S (hT) (L0) (by omega) (by omega)) gX5_readMan_X5_readNumber rfl zy_X5_readNumber 13 (WB_13 a c u) rfl ⟨by omega, by decide⟩ rfl (Nat.le_of_ble_eq_true rfl) (st := []) (stk2 := fun z2 => [.int (zI z2)]) rfl (fun _ => rfl) dX5_readMan_24 (fun z2 u3 h4 => ?_)
    rw [adv_on y0] at h4
    obtain ⟨e1, KN1⟩ := h4
    rw [e1]
    have L1 : Liv K (u 13 5 + 1) := Liv_next L0 y0
    obtain ⟨r1a, r1b, r1c, r1d, r1e⟩ := hT _ L1
    change Z x 0 0 (WB a c (up u 13 (5) ((u 13 5 + 1)))) _ _ _
    refine z_if_ne C 32 dX5_readMan_27 (by decide) (by omega) (fun h5 => ?_) (fun h5 => ?_)
    · have n1 : K (u 13 5 + 1) = 2 ∧ 0 ≤ N (u 13 5 + 1) ∧ N (u 13 5 + 1) ≤ (u 8 4 - 1) := by omega
      have y1 : K (u 13 5 + 1) ≠ 0 := by omega
      refine z_aload_n C 1 dX5_readMan_32 rfl ?_
      refine z_get C hK (v := .ref (a 8)) inX5_readMan_X5 13 (WB_13 a c ((up u 13 (5) ((u 13 5 + 1))))) rfl 1 (by decide) (List.mem_of_getElem? (i := 1) rfl) rfl dX5_readMan_33 ?_
      refine z_getN C hK (v := .ref (a 12)) inX5_readMan_X8 8 (WB_8 a c ((up u 13 (5) ((u 13 5 + 1))))) rfl 3 (by decide) (List.mem_of_getElem? (i := 43) rfl) rfl dX5_readMan_36 ?_
      refine z_iload_n C 0 dX5_readMan_39 rfl ?_
      refine z_aload_n C 1 dX5_readMan_40 rfl ?_
      refine z_get C hK (v := .ref (a 16)) inX5_readMan_X5 13 (WB_13 a c ((up u 13 (5) ((u 13 5 + 1))))) rfl 4 (by decide) (List.mem_of_getElem? (i := 2) rfl) rfl dX5_readMan_41 ?_
      refine z_aload_n C 1 dX5_readMan_44 rfl ?_
      refine z_get C hK (v := .int (zI ((u 13 5 + 1)))) inX5_readMan_X5 13 (WB_13 a c ((up u 13 (5) ((u 13 5 + 1))))) rfl 5 (by decide) (List.mem_of_getElem? (i := 3) rfl) rfl dX5_readMan_45 ?_
      refine z_iald C hK 0 (g := (u 16)) (i := ((u 13 5 + 1))) 16 (WB_16 a c ((up u 13 (5) ((u 13 5 + 1))))) rfl (by decide) (by omega) dX5_readMan_48 ?_
      refine z_as (b := N (u 13 5 + 1)) (r1d n1.1) ?_
      refine z_iast C hK (hDD _) 0 (g := (up u 13 (5) ((u 13 5 + 1))) 12) 12 (WB_12 a c ((up u 13 (5) ((u 13 5 + 1))))) rfl (by decide) (by omega) (WB_12_set a c ((up u 13 (5) ((u 13 5 + 1)))) (u 8 5) (N (u 13 5 + 1))) dX5_readMan_49 ?_
      refine z_aload_n C 1 dX5_readMan_50 rfl ?_
      refine z_get C hK (v := .ref (a 8)) inX5_readMan_X5 13 (WB_13 a c ((up (up u 13 (5) ((u 13 5 + 1))) 12 (u 8 5) (N (u 13 5 + 1))))) rfl 1 (by decide) (List.mem_of_getElem? (i := 1) rfl) rfl dX5_readMan_51 ?_
      refine z_iload_n C 0 dX5_readMan_54 rfl ?_
      refine z_iconst C dX5_readMan_55 ?_
      refine z_iadd C dX5_readMan_56 ?_
      refine z_putN C hK (hDD _) inX5_readMan_X8 tyX8 tyX8_ok nmX8 8 (WB_8 a c ((up (up u 13 (5) ((u 13 5 + 1))) 12 (u 8 5) (N (u 13 5 + 1))))) rfl 5 (by decide) (List.mem_of_getElem? (i := 42) rfl) rfl rfl rfl (Nat.le_of_ble_eq_true rfl) (WB_8_p5 a c ((up (up u 13 (5) ((u 13 5 + 1))) 12 (u 8 5) (N (u 13 5 + 1)))) ((u 8 5) + 1)) dX5_readMan_57 ?_
      refine z_aload_n C 1 dX5_readMan_60 rfl ?_
      refine z_callV C hK hDD (c_X5_readSemicolon (zl x) (zG x) a c ((up (up (up u 13 (5) ((u 13 5 + 1))) 12 (u 8 5) (N (u 13 5 + 1))) 8 (5) ((u 8 5) + 1))) K N S (hT) (L1)) gX5_readMan_X5_readSemicolon rfl zy_X5_readSemicolon 13 (WB_13 a c ((up (up (up u 13 (5) ((u 13 5 + 1))) 12 (u 8 5) (N (u 13 5 + 1))) 8 (5) ((u 8 5) + 1)))) rfl ⟨by omega, by decide⟩ rfl (Nat.le_of_ble_eq_true rfl) (st := []) (stk2 := fun z6 => [.int (zI z6)]) rfl (fun _ => rfl) dX5_readMan_61 (fun z6 u7 h8 => ?_)
      replace h8 : u7 = up (((up (up (up u 13 (5) ((u 13 5 + 1))) 12 (u 8 5) (N (u 13 5 + 1))) 8 (5) ((u 8 5) + 1)))) 13 5 (adv K (((u 13 5 + 1)))) ∧ ((z6 = 1 ∧ K (adv K (((u 13 5 + 1)))) = 3) ∨ (z6 = 0 ∧ ¬ (K (adv K (((u 13 5 + 1)))) = 3))) := h8
      rw [adv_on y1] at h8
      obtain ⟨e2, KS⟩ := h8
      rw [e2]
      change Z x 0 0 (WB a c (up (up (up (up u 13 (5) ((u 13 5 + 1))) 12 (u 8 5) (N (u 13 5 + 1))) 8 (5) ((u 8 5) + 1)) 13 (5) ((u 13 5 + 1 + 1)))) _ _ _
      exact kret z6 ((up (up (up (up u 13 (5) ((u 13 5 + 1))) 12 (u 8 5) (N (u 13 5 + 1))) 8 (5) ((u 8 5) + 1)) 13 (5) ((u 13 5 + 1 + 1)))) _ _ (KS.elim (fun q => Or.inr ⟨q.1, Frm_13 (Frm_8 (Frm_12 (Frm_13 (Frm_rf u)) (by omega) (by omega))), _, Or.inr (Or.inl ⟨hk, by omega, by rw [d1.2]; exact n1, q.2, rfl, rfl⟩), DC_man hD0 (by omega) n1.2.1 (by omega)⟩) (fun q => Or.inl ⟨q.1, Frm_13 (Frm_8 (Frm_12 (Frm_13 (Frm_rf u)) (by omega) (by omega))), Or.inr (Or.inl ⟨hk, Or.inr (Or.inr ⟨by omega, by rw [d1.2]; exact n1, q.2, rfl⟩)⟩)⟩)) (by omega) dX5_readMan_64
    · have n1 : ¬ (K (u 13 5 + 1) = 2 ∧ 0 ≤ N (u 13 5 + 1) ∧ N (u 13 5 + 1) ≤ (u 8 4 - 1)) := by omega
      refine z_iconst C dX5_readMan_30 ?_
      exact kret 0 ((up u 13 (5) ((u 13 5 + 1)))) _ _ (by first | exact Or.inl ⟨rfl, Frm_rf u, Or.inr (Or.inl ⟨hk, Or.inl ⟨by omega, rfl⟩⟩)⟩ | exact Or.inl ⟨rfl, Frm_13 (Frm_rf u), Or.inr (Or.inl ⟨hk, Or.inr (Or.inl ⟨by omega, by rw [d1.2]; exact n1, rfl⟩)⟩)⟩) (by omega) dX5_readMan_31
-- NoteBells$Reader.readEar
theorem inX5_readEar_X5 : ∀ w ∈ wsX50, w ∈ wsX5_readEar := fun w h => List.mem_cons_of_mem _ (List.mem_append_left _ (List.mem_append_right _ (h)))
theorem inX5_readEar_X8 : ∀ w ∈ wsX80, w ∈ wsX5_readEar := fun w h => List.mem_cons_of_mem _ (List.mem_append_right _ (h))
set_option maxHeartbeats 8000000 in
set_option maxRecDepth 100000 in
theorem c_X5_readEar (l : Launch) (D : va_G) (a : Nat → Nat) (c : Nat → ClassId) (u : zU) (K N S : Int → Int) (Dr : zU) (hT : Tok (u 14) (u 15) (u 16) K N S) (hl : Liv K (u 13 5)) (hD : DC u Dr) (hk : K (u 13 5) = 6) : ZM l D (zTy c) (WB a c) yX5_readEar wsX5_readEar 3 [.ref (a 13)] u rI (fun z u' => (z = 0 ∧ Frm (u) u' ∧ ItNo K N Dr (u 13 5) (u' 13 5)) ∨ (z = 1 ∧ Frm (u) u' ∧ ∃ D1 : zU, ItOk K N Dr (u 13 5) (u' 13 5) D1 ∧ DC u' D1)) := by
  refine ZM.ofZ (cc := cX5_readEar) (maxL := 1) [(0, .ref (a 13))] rfl (by decide +kernel) rfl (Nat.le_of_ble_eq_true rfl) (WB_addr a c) ?_
  intro x C hK _ _ hDD kret
  have hD0 := hD
  have L0 := hl
  have hl0 := hl.1
  have y0 : K (u 13 5) ≠ 0 := by omega
  obtain ⟨r0a, r0b, r0c, r0d, r0e⟩ := hT _ hl
  obtain ⟨d1, d2, d3, d4, d5, d6⟩ := hD
  refine z_aload_n C 0 dX5_readEar_0 rfl ?_
  refine z_get C hK (v := .int (zI (u 13 6))) inX5_readEar_X5 13 (WB_13 a c u) rfl 6 (by decide) (List.mem_of_getElem? (i := 1) rfl) rfl dX5_readEar_1 ?_
  refine z_if_ne C 17 dX5_readEar_4 (by decide) (by omega) (fun h1 => ?_) (fun h1 => ?_)
  · skip
    refine z_iconst C dX5_readEar_17 ?_
    exact kret 0 u _ _ (by first | exact Or.inl ⟨rfl, Frm_rf u, Or.inr (Or.inr (Or.inl (⟨hk, Or.inl ⟨by omega, rfl⟩⟩)))⟩ | exact Or.inl ⟨rfl, Frm_13 (Frm_rf u), Or.inr (Or.inr (Or.inl (⟨hk, Or.inr (Or.inl ⟨by omega, n1, rfl⟩)⟩)))⟩) (by omega) dX5_readEar_18
  · skip
    refine z_aload_n C 0 dX5_readEar_7 rfl ?_
    refine z_iconst C dX5_readEar_8 ?_
    refine z_bipush C dX5_readEar_9 (by decide) ?_
    refine z_callV C hK hDD (c_X5_readNumber (zl x) (zG x) a c u 0 9 K N S (hT) (L0) (by omega) (by omega)) gX5_readEar_X5_readNumber rfl zy_X5_readNumber 13 (WB_13 a c u) rfl ⟨by omega, by decide⟩ rfl (Nat.le_of_ble_eq_true rfl) (st := []) (stk2 := fun z2 => [.int (zI z2)]) rfl (fun _ => rfl) dX5_readEar_11 (fun z2 u3 h4 => ?_)
    rw [adv_on y0] at h4
    obtain ⟨e1, KN1⟩ := h4
    rw [e1]
    have L1 : Liv K (u 13 5 + 1) := Liv_next L0 y0
    obtain ⟨r1a, r1b, r1c, r1d, r1e⟩ := hT _ L1
    change Z x 0 0 (WB a c (up u 13 (5) ((u 13 5 + 1)))) _ _ _
    refine z_if_ne C 19 dX5_readEar_14 (by decide) (by omega) (fun h5 => ?_) (fun h5 => ?_)
    · have n1 : K (u 13 5 + 1) = 2 ∧ 0 ≤ N (u 13 5 + 1) ∧ N (u 13 5 + 1) ≤ 9 := by omega
      have y1 : K (u 13 5 + 1) ≠ 0 := by omega
      refine z_aload_n C 0 dX5_readEar_19 rfl ?_
      refine z_get C hK (v := .ref (a 8)) inX5_readEar_X5 13 (WB_13 a c ((up u 13 (5) ((u 13 5 + 1))))) rfl 1 (by decide) (List.mem_of_getElem? (i := 2) rfl) rfl dX5_readEar_20 ?_
      refine z_aload_n C 0 dX5_readEar_23 rfl ?_
      refine z_get C hK (v := .ref (a 16)) inX5_readEar_X5 13 (WB_13 a c ((up u 13 (5) ((u 13 5 + 1))))) rfl 4 (by decide) (List.mem_of_getElem? (i := 3) rfl) rfl dX5_readEar_24 ?_
      refine z_aload_n C 0 dX5_readEar_27 rfl ?_
      refine z_get C hK (v := .int (zI ((u 13 5 + 1)))) inX5_readEar_X5 13 (WB_13 a c ((up u 13 (5) ((u 13 5 + 1))))) rfl 5 (by decide) (List.mem_of_getElem? (i := 4) rfl) rfl dX5_readEar_28 ?_
      refine z_iald C hK 0 (g := (u 16)) (i := ((u 13 5 + 1))) 16 (WB_16 a c ((up u 13 (5) ((u 13 5 + 1))))) rfl (by decide) (by omega) dX5_readEar_31 ?_
      refine z_as (b := N (u 13 5 + 1)) (r1d n1.1) ?_
      refine z_putN C hK (hDD _) inX5_readEar_X8 tyX8 tyX8_ok nmX8 8 (WB_8 a c ((up u 13 (5) ((u 13 5 + 1))))) rfl 6 (by decide) (List.mem_of_getElem? (i := 44) rfl) rfl rfl rfl (Nat.le_of_ble_eq_true rfl) (WB_8_p6 a c ((up u 13 (5) ((u 13 5 + 1)))) (N (u 13 5 + 1))) dX5_readEar_32 ?_
      refine z_aload_n C 0 dX5_readEar_35 rfl ?_
      refine z_iconst C dX5_readEar_36 ?_
      refine z_put C hK (hDD _) inX5_readEar_X5 tyX5 tyX5_ok nmX5 13 (WB_13 a c ((up (up u 13 (5) ((u 13 5 + 1))) 8 (6) (N (u 13 5 + 1))))) rfl 6 (by decide) (List.mem_of_getElem? (i := 1) rfl) rfl (narrow_zI_bool (by omega)) (fits_zI_bool (by omega)) (Nat.le_of_ble_eq_true rfl) (WB_13_p6 a c ((up (up u 13 (5) ((u 13 5 + 1))) 8 (6) (N (u 13 5 + 1)))) 1) dX5_readEar_37 ?_
      refine z_aload_n C 0 dX5_readEar_40 rfl ?_
      refine z_callV C hK hDD (c_X5_readSemicolon (zl x) (zG x) a c ((up (up (up u 13 (5) ((u 13 5 + 1))) 8 (6) (N (u 13 5 + 1))) 13 (6) (1))) K N S (hT) (L1)) gX5_readEar_X5_readSemicolon rfl zy_X5_readSemicolon 13 (WB_13 a c ((up (up (up u 13 (5) ((u 13 5 + 1))) 8 (6) (N (u 13 5 + 1))) 13 (6) (1)))) rfl ⟨by omega, by decide⟩ rfl (Nat.le_of_ble_eq_true rfl) (st := []) (stk2 := fun z6 => [.int (zI z6)]) rfl (fun _ => rfl) dX5_readEar_41 (fun z6 u7 h8 => ?_)
      replace h8 : u7 = up (((up (up (up u 13 (5) ((u 13 5 + 1))) 8 (6) (N (u 13 5 + 1))) 13 (6) (1)))) 13 5 (adv K (((u 13 5 + 1)))) ∧ ((z6 = 1 ∧ K (adv K (((u 13 5 + 1)))) = 3) ∨ (z6 = 0 ∧ ¬ (K (adv K (((u 13 5 + 1)))) = 3))) := h8
      rw [adv_on y1] at h8
      obtain ⟨e2, KS⟩ := h8
      rw [e2]
      change Z x 0 0 (WB a c (up (up (up (up u 13 (5) ((u 13 5 + 1))) 8 (6) (N (u 13 5 + 1))) 13 (6) (1)) 13 (5) ((u 13 5 + 1 + 1)))) _ _ _
      exact kret z6 ((up (up (up (up u 13 (5) ((u 13 5 + 1))) 8 (6) (N (u 13 5 + 1))) 13 (6) (1)) 13 (5) ((u 13 5 + 1 + 1)))) _ _ (KS.elim (fun q => Or.inr ⟨q.1, Frm_13 (Frm_13 (Frm_8 (Frm_13 (Frm_rf u)))), _, Or.inr (Or.inr (Or.inl (⟨hk, by omega, n1, q.2, rfl, rfl⟩))), DC_ear hD0 n1.2⟩) (fun q => Or.inl ⟨q.1, Frm_13 (Frm_13 (Frm_8 (Frm_13 (Frm_rf u)))), Or.inr (Or.inr (Or.inl (⟨hk, Or.inr (Or.inr ⟨by omega, n1, q.2, rfl⟩)⟩)))⟩)) (by omega) dX5_readEar_44
    · have n1 : ¬ (K (u 13 5 + 1) = 2 ∧ 0 ≤ N (u 13 5 + 1) ∧ N (u 13 5 + 1) ≤ 9) := by omega
      refine z_iconst C dX5_readEar_17 ?_
      exact kret 0 ((up u 13 (5) ((u 13 5 + 1)))) _ _ (by first | exact Or.inl ⟨rfl, Frm_rf u, Or.inr (Or.inr (Or.inl (⟨hk, Or.inl ⟨by omega, rfl⟩⟩)))⟩ | exact Or.inl ⟨rfl, Frm_13 (Frm_rf u), Or.inr (Or.inr (Or.inl (⟨hk, Or.inr (Or.inl ⟨by omega, n1, rfl⟩)⟩)))⟩) (by omega) dX5_readEar_18
-- NoteBells$Reader.readWet
theorem inX5_readWet_X5 : ∀ w ∈ wsX50, w ∈ wsX5_readWet := fun w h => List.mem_cons_of_mem _ (List.mem_append_left _ (List.mem_append_right _ (h)))
theorem inX5_readWet_X8 : ∀ w ∈ wsX80, w ∈ wsX5_readWet := fun w h => List.mem_cons_of_mem _ (List.mem_append_right _ (h))
set_option maxHeartbeats 8000000 in
set_option maxRecDepth 100000 in
theorem c_X5_readWet (l : Launch) (D : va_G) (a : Nat → Nat) (c : Nat → ClassId) (u : zU) (K N S : Int → Int) (Dr : zU) (hT : Tok (u 14) (u 15) (u 16) K N S) (hl : Liv K (u 13 5)) (hD : DC u Dr) (hk : K (u 13 5) = 7) : ZM l D (zTy c) (WB a c) yX5_readWet wsX5_readWet 3 [.ref (a 13)] u rI (fun z u' => (z = 0 ∧ Frm (u) u' ∧ ItNo K N Dr (u 13 5) (u' 13 5)) ∨ (z = 1 ∧ Frm (u) u' ∧ ∃ D1 : zU, ItOk K N Dr (u 13 5) (u' 13 5) D1 ∧ DC u' D1)) := by
  refine ZM.ofZ (cc := cX5_readWet) (maxL := 1) [(0, .ref (a 13))] rfl (by decide +kernel) rfl (Nat.le_of_ble_eq_true rfl) (WB_addr a c) ?_
  intro x C hK _ _ hDD kret
  have hD0 := hD
  have L0 := hl
  have hl0 := hl.1
  have y0 : K (u 13 5) ≠ 0 := by omega
  obtain ⟨r0a, r0b, r0c, r0d, r0e⟩ := hT _ hl
  obtain ⟨d1, d2, d3, d4, d5, d6⟩ := hD
  refine z_aload_n C 0 dX5_readWet_0 rfl ?_
  refine z_get C hK (v := .int (zI (u 13 7))) inX5_readWet_X5 13 (WB_13 a c u) rfl 7 (by decide) (List.mem_of_getElem? (i := 1) rfl) rfl dX5_readWet_1 ?_
  refine z_if_ne C 17 dX5_readWet_4 (by decide) (by omega) (fun h1 => ?_) (fun h1 => ?_)
  · skip
    refine z_iconst C dX5_readWet_17 ?_
    exact kret 0 u _ _ (by first | exact Or.inl ⟨rfl, Frm_rf u, Or.inr (Or.inr (Or.inr (Or.inl (⟨hk, Or.inl ⟨by omega, rfl⟩⟩))))⟩ | exact Or.inl ⟨rfl, Frm_13 (Frm_rf u), Or.inr (Or.inr (Or.inr (Or.inl (⟨hk, Or.inr (Or.inl ⟨by omega, n1, rfl⟩)⟩))))⟩) (by omega) dX5_readWet_18
  · skip
    refine z_aload_n C 0 dX5_readWet_7 rfl ?_
    refine z_iconst C dX5_readWet_8 ?_
    refine z_bipush C dX5_readWet_9 (by decide) ?_
    refine z_callV C hK hDD (c_X5_readNumber (zl x) (zG x) a c u 0 9 K N S (hT) (L0) (by omega) (by omega)) gX5_readWet_X5_readNumber rfl zy_X5_readNumber 13 (WB_13 a c u) rfl ⟨by omega, by decide⟩ rfl (Nat.le_of_ble_eq_true rfl) (st := []) (stk2 := fun z2 => [.int (zI z2)]) rfl (fun _ => rfl) dX5_readWet_11 (fun z2 u3 h4 => ?_)
    rw [adv_on y0] at h4
    obtain ⟨e1, KN1⟩ := h4
    rw [e1]
    have L1 : Liv K (u 13 5 + 1) := Liv_next L0 y0
    obtain ⟨r1a, r1b, r1c, r1d, r1e⟩ := hT _ L1
    change Z x 0 0 (WB a c (up u 13 (5) ((u 13 5 + 1)))) _ _ _
    refine z_if_ne C 19 dX5_readWet_14 (by decide) (by omega) (fun h5 => ?_) (fun h5 => ?_)
    · have n1 : K (u 13 5 + 1) = 2 ∧ 0 ≤ N (u 13 5 + 1) ∧ N (u 13 5 + 1) ≤ 9 := by omega
      have y1 : K (u 13 5 + 1) ≠ 0 := by omega
      refine z_aload_n C 0 dX5_readWet_19 rfl ?_
      refine z_get C hK (v := .ref (a 8)) inX5_readWet_X5 13 (WB_13 a c ((up u 13 (5) ((u 13 5 + 1))))) rfl 1 (by decide) (List.mem_of_getElem? (i := 2) rfl) rfl dX5_readWet_20 ?_
      refine z_aload_n C 0 dX5_readWet_23 rfl ?_
      refine z_get C hK (v := .ref (a 16)) inX5_readWet_X5 13 (WB_13 a c ((up u 13 (5) ((u 13 5 + 1))))) rfl 4 (by decide) (List.mem_of_getElem? (i := 3) rfl) rfl dX5_readWet_24 ?_
      refine z_aload_n C 0 dX5_readWet_27 rfl ?_
      refine z_get C hK (v := .int (zI ((u 13 5 + 1)))) inX5_readWet_X5 13 (WB_13 a c ((up u 13 (5) ((u 13 5 + 1))))) rfl 5 (by decide) (List.mem_of_getElem? (i := 4) rfl) rfl dX5_readWet_28 ?_
      refine z_iald C hK 0 (g := (u 16)) (i := ((u 13 5 + 1))) 16 (WB_16 a c ((up u 13 (5) ((u 13 5 + 1))))) rfl (by decide) (by omega) dX5_readWet_31 ?_
      refine z_as (b := N (u 13 5 + 1)) (r1d n1.1) ?_
      refine z_putN C hK (hDD _) inX5_readWet_X8 tyX8 tyX8_ok nmX8 8 (WB_8 a c ((up u 13 (5) ((u 13 5 + 1))))) rfl 7 (by decide) (List.mem_of_getElem? (i := 45) rfl) rfl rfl rfl (Nat.le_of_ble_eq_true rfl) (WB_8_p7 a c ((up u 13 (5) ((u 13 5 + 1)))) (N (u 13 5 + 1))) dX5_readWet_32 ?_
      refine z_aload_n C 0 dX5_readWet_35 rfl ?_
      refine z_iconst C dX5_readWet_36 ?_
      refine z_put C hK (hDD _) inX5_readWet_X5 tyX5 tyX5_ok nmX5 13 (WB_13 a c ((up (up u 13 (5) ((u 13 5 + 1))) 8 (7) (N (u 13 5 + 1))))) rfl 7 (by decide) (List.mem_of_getElem? (i := 1) rfl) rfl (narrow_zI_bool (by omega)) (fits_zI_bool (by omega)) (Nat.le_of_ble_eq_true rfl) (WB_13_p7 a c ((up (up u 13 (5) ((u 13 5 + 1))) 8 (7) (N (u 13 5 + 1)))) 1) dX5_readWet_37 ?_
      refine z_aload_n C 0 dX5_readWet_40 rfl ?_
      refine z_callV C hK hDD (c_X5_readSemicolon (zl x) (zG x) a c ((up (up (up u 13 (5) ((u 13 5 + 1))) 8 (7) (N (u 13 5 + 1))) 13 (7) (1))) K N S (hT) (L1)) gX5_readWet_X5_readSemicolon rfl zy_X5_readSemicolon 13 (WB_13 a c ((up (up (up u 13 (5) ((u 13 5 + 1))) 8 (7) (N (u 13 5 + 1))) 13 (7) (1)))) rfl ⟨by omega, by decide⟩ rfl (Nat.le_of_ble_eq_true rfl) (st := []) (stk2 := fun z6 => [.int (zI z6)]) rfl (fun _ => rfl) dX5_readWet_41 (fun z6 u7 h8 => ?_)
      replace h8 : u7 = up (((up (up (up u 13 (5) ((u 13 5 + 1))) 8 (7) (N (u 13 5 + 1))) 13 (7) (1)))) 13 5 (adv K (((u 13 5 + 1)))) ∧ ((z6 = 1 ∧ K (adv K (((u 13 5 + 1)))) = 3) ∨ (z6 = 0 ∧ ¬ (K (adv K (((u 13 5 + 1)))) = 3))) := h8
      rw [adv_on y1] at h8
      obtain ⟨e2, KS⟩ := h8
      rw [e2]
      change Z x 0 0 (WB a c (up (up (up (up u 13 (5) ((u 13 5 + 1))) 8 (7) (N (u 13 5 + 1))) 13 (7) (1)) 13 (5) ((u 13 5 + 1 + 1)))) _ _ _
      exact kret z6 ((up (up (up (up u 13 (5) ((u 13 5 + 1))) 8 (7) (N (u 13 5 + 1))) 13 (7) (1)) 13 (5) ((u 13 5 + 1 + 1)))) _ _ (KS.elim (fun q => Or.inr ⟨q.1, Frm_13 (Frm_13 (Frm_8 (Frm_13 (Frm_rf u)))), _, Or.inr (Or.inr (Or.inr (Or.inl (⟨hk, by omega, n1, q.2, rfl, rfl⟩)))), DC_wet hD0 n1.2⟩) (fun q => Or.inl ⟨q.1, Frm_13 (Frm_13 (Frm_8 (Frm_13 (Frm_rf u)))), Or.inr (Or.inr (Or.inr (Or.inl (⟨hk, Or.inr (Or.inr ⟨by omega, n1, q.2, rfl⟩)⟩))))⟩)) (by omega) dX5_readWet_44
    · have n1 : ¬ (K (u 13 5 + 1) = 2 ∧ 0 ≤ N (u 13 5 + 1) ∧ N (u 13 5 + 1) ≤ 9) := by omega
      refine z_iconst C dX5_readWet_17 ?_
      exact kret 0 ((up u 13 (5) ((u 13 5 + 1)))) _ _ (by first | exact Or.inl ⟨rfl, Frm_rf u, Or.inr (Or.inr (Or.inr (Or.inl (⟨hk, Or.inl ⟨by omega, rfl⟩⟩))))⟩ | exact Or.inl ⟨rfl, Frm_13 (Frm_rf u), Or.inr (Or.inr (Or.inr (Or.inl (⟨hk, Or.inr (Or.inl ⟨by omega, n1, rfl⟩)⟩))))⟩) (by omega) dX5_readWet_18
-- NoteBells$Reader.readPace
theorem inX5_readPace_X5 : ∀ w ∈ wsX50, w ∈ wsX5_readPace := fun w h => List.mem_cons_of_mem _ (List.mem_append_left _ (List.mem_append_right _ (h)))
theorem inX5_readPace_X8 : ∀ w ∈ wsX80, w ∈ wsX5_readPace := fun w h => List.mem_cons_of_mem _ (List.mem_append_right _ (h))
set_option maxHeartbeats 8000000 in
set_option maxRecDepth 100000 in
theorem c_X5_readPace (l : Launch) (D : va_G) (a : Nat → Nat) (c : Nat → ClassId) (u : zU) (K N S : Int → Int) (Dr : zU) (hT : Tok (u 14) (u 15) (u 16) K N S) (hl : Liv K (u 13 5)) (hD : DC u Dr) (hk : K (u 13 5) = 8) : ZM l D (zTy c) (WB a c) yX5_readPace wsX5_readPace 3 [.ref (a 13)] u rI (fun z u' => (z = 0 ∧ Frm (u) u' ∧ ItNo K N Dr (u 13 5) (u' 13 5)) ∨ (z = 1 ∧ Frm (u) u' ∧ ∃ D1 : zU, ItOk K N Dr (u 13 5) (u' 13 5) D1 ∧ DC u' D1)) := by
  refine ZM.ofZ (cc := cX5_readPace) (maxL := 1) [(0, .ref (a 13))] rfl (by decide +kernel) rfl (Nat.le_of_ble_eq_true rfl) (WB_addr a c) ?_
  intro x C hK _ _ hDD kret
  have hD0 := hD
  have L0 := hl
  have hl0 := hl.1
  have y0 : K (u 13 5) ≠ 0 := by omega
  obtain ⟨r0a, r0b, r0c, r0d, r0e⟩ := hT _ hl
  obtain ⟨d1, d2, d3, d4, d5, d6⟩ := hD
  refine z_aload_n C 0 dX5_readPace_0 rfl ?_
  refine z_get C hK (v := .int (zI (u 13 8))) inX5_readPace_X5 13 (WB_13 a c u) rfl 8 (by decide) (List.mem_of_getElem? (i := 1) rfl) rfl dX5_readPace_1 ?_
  refine z_if_ne C 16 dX5_readPace_4 (by decide) (by omega) (fun h1 => ?_) (fun h1 => ?_)
  · skip
    refine z_iconst C dX5_readPace_16 ?_
    exact kret 0 u _ _ (by first | exact Or.inl ⟨rfl, Frm_rf u, Or.inr (Or.inr (Or.inr (Or.inr (Or.inl (⟨hk, Or.inl ⟨by omega, rfl⟩⟩)))))⟩ | exact Or.inl ⟨rfl, Frm_13 (Frm_rf u), Or.inr (Or.inr (Or.inr (Or.inr (Or.inl (⟨hk, Or.inr (Or.inl ⟨by omega, n1, rfl⟩)⟩)))))⟩) (by omega) dX5_readPace_17
  · skip
    refine z_aload_n C 0 dX5_readPace_7 rfl ?_
    refine z_iconst C dX5_readPace_8 ?_
    refine z_iconst C dX5_readPace_9 ?_
    refine z_callV C hK hDD (c_X5_readNumber (zl x) (zG x) a c u 1 4 K N S (hT) (L0) (by omega) (by omega)) gX5_readPace_X5_readNumber rfl zy_X5_readNumber 13 (WB_13 a c u) rfl ⟨by omega, by decide⟩ rfl (Nat.le_of_ble_eq_true rfl) (st := []) (stk2 := fun z2 => [.int (zI z2)]) rfl (fun _ => rfl) dX5_readPace_10 (fun z2 u3 h4 => ?_)
    rw [adv_on y0] at h4
    obtain ⟨e1, KN1⟩ := h4
    rw [e1]
    have L1 : Liv K (u 13 5 + 1) := Liv_next L0 y0
    obtain ⟨r1a, r1b, r1c, r1d, r1e⟩ := hT _ L1
    change Z x 0 0 (WB a c (up u 13 (5) ((u 13 5 + 1)))) _ _ _
    refine z_if_ne C 18 dX5_readPace_13 (by decide) (by omega) (fun h5 => ?_) (fun h5 => ?_)
    · have n1 : K (u 13 5 + 1) = 2 ∧ 1 ≤ N (u 13 5 + 1) ∧ N (u 13 5 + 1) ≤ 4 := by omega
      have y1 : K (u 13 5 + 1) ≠ 0 := by omega
      refine z_aload_n C 0 dX5_readPace_18 rfl ?_
      refine z_get C hK (v := .ref (a 8)) inX5_readPace_X5 13 (WB_13 a c ((up u 13 (5) ((u 13 5 + 1))))) rfl 1 (by decide) (List.mem_of_getElem? (i := 2) rfl) rfl dX5_readPace_19 ?_
      refine z_aload_n C 0 dX5_readPace_22 rfl ?_
      refine z_get C hK (v := .ref (a 16)) inX5_readPace_X5 13 (WB_13 a c ((up u 13 (5) ((u 13 5 + 1))))) rfl 4 (by decide) (List.mem_of_getElem? (i := 3) rfl) rfl dX5_readPace_23 ?_
      refine z_aload_n C 0 dX5_readPace_26 rfl ?_
      refine z_get C hK (v := .int (zI ((u 13 5 + 1)))) inX5_readPace_X5 13 (WB_13 a c ((up u 13 (5) ((u 13 5 + 1))))) rfl 5 (by decide) (List.mem_of_getElem? (i := 4) rfl) rfl dX5_readPace_27 ?_
      refine z_iald C hK 0 (g := (u 16)) (i := ((u 13 5 + 1))) 16 (WB_16 a c ((up u 13 (5) ((u 13 5 + 1))))) rfl (by decide) (by omega) dX5_readPace_30 ?_
      refine z_as (b := N (u 13 5 + 1)) (r1d n1.1) ?_
      refine z_putN C hK (hDD _) inX5_readPace_X8 tyX8 tyX8_ok nmX8 8 (WB_8 a c ((up u 13 (5) ((u 13 5 + 1))))) rfl 8 (by decide) (List.mem_of_getElem? (i := 46) rfl) rfl rfl rfl (Nat.le_of_ble_eq_true rfl) (WB_8_p8 a c ((up u 13 (5) ((u 13 5 + 1)))) (N (u 13 5 + 1))) dX5_readPace_31 ?_
      refine z_aload_n C 0 dX5_readPace_34 rfl ?_
      refine z_iconst C dX5_readPace_35 ?_
      refine z_put C hK (hDD _) inX5_readPace_X5 tyX5 tyX5_ok nmX5 13 (WB_13 a c ((up (up u 13 (5) ((u 13 5 + 1))) 8 (8) (N (u 13 5 + 1))))) rfl 8 (by decide) (List.mem_of_getElem? (i := 1) rfl) rfl (narrow_zI_bool (by omega)) (fits_zI_bool (by omega)) (Nat.le_of_ble_eq_true rfl) (WB_13_p8 a c ((up (up u 13 (5) ((u 13 5 + 1))) 8 (8) (N (u 13 5 + 1)))) 1) dX5_readPace_36 ?_
      refine z_aload_n C 0 dX5_readPace_39 rfl ?_
      refine z_callV C hK hDD (c_X5_readSemicolon (zl x) (zG x) a c ((up (up (up u 13 (5) ((u 13 5 + 1))) 8 (8) (N (u 13 5 + 1))) 13 (8) (1))) K N S (hT) (L1)) gX5_readPace_X5_readSemicolon rfl zy_X5_readSemicolon 13 (WB_13 a c ((up (up (up u 13 (5) ((u 13 5 + 1))) 8 (8) (N (u 13 5 + 1))) 13 (8) (1)))) rfl ⟨by omega, by decide⟩ rfl (Nat.le_of_ble_eq_true rfl) (st := []) (stk2 := fun z6 => [.int (zI z6)]) rfl (fun _ => rfl) dX5_readPace_40 (fun z6 u7 h8 => ?_)
      replace h8 : u7 = up (((up (up (up u 13 (5) ((u 13 5 + 1))) 8 (8) (N (u 13 5 + 1))) 13 (8) (1)))) 13 5 (adv K (((u 13 5 + 1)))) ∧ ((z6 = 1 ∧ K (adv K (((u 13 5 + 1)))) = 3) ∨ (z6 = 0 ∧ ¬ (K (adv K (((u 13 5 + 1)))) = 3))) := h8
      rw [adv_on y1] at h8
      obtain ⟨e2, KS⟩ := h8
      rw [e2]
      change Z x 0 0 (WB a c (up (up (up (up u 13 (5) ((u 13 5 + 1))) 8 (8) (N (u 13 5 + 1))) 13 (8) (1)) 13 (5) ((u 13 5 + 1 + 1)))) _ _ _
      exact kret z6 ((up (up (up (up u 13 (5) ((u 13 5 + 1))) 8 (8) (N (u 13 5 + 1))) 13 (8) (1)) 13 (5) ((u 13 5 + 1 + 1)))) _ _ (KS.elim (fun q => Or.inr ⟨q.1, Frm_13 (Frm_13 (Frm_8 (Frm_13 (Frm_rf u)))), _, Or.inr (Or.inr (Or.inr (Or.inr ((⟨hk, by omega, n1, q.2, rfl, rfl⟩))))), DC_pace hD0 n1.2⟩) (fun q => Or.inl ⟨q.1, Frm_13 (Frm_13 (Frm_8 (Frm_13 (Frm_rf u)))), Or.inr (Or.inr (Or.inr (Or.inr (Or.inl (⟨hk, Or.inr (Or.inr ⟨by omega, n1, q.2, rfl⟩)⟩)))))⟩)) (by omega) dX5_readPace_43
    · have n1 : ¬ (K (u 13 5 + 1) = 2 ∧ 1 ≤ N (u 13 5 + 1) ∧ N (u 13 5 + 1) ≤ 4) := by omega
      refine z_iconst C dX5_readPace_16 ?_
      exact kret 0 ((up u 13 (5) ((u 13 5 + 1)))) _ _ (by first | exact Or.inl ⟨rfl, Frm_rf u, Or.inr (Or.inr (Or.inr (Or.inr (Or.inl (⟨hk, Or.inl ⟨by omega, rfl⟩⟩)))))⟩ | exact Or.inl ⟨rfl, Frm_13 (Frm_rf u), Or.inr (Or.inr (Or.inr (Or.inr (Or.inl (⟨hk, Or.inr (Or.inl ⟨by omega, n1, rfl⟩)⟩)))))⟩) (by omega) dX5_readPace_17
-- NoteBells$Reader.readItem
theorem inX5_readItem_X5 : ∀ w ∈ wsX50, w ∈ wsX5_readItem := fun w h => List.mem_cons_of_mem _ (List.mem_append_left _ (List.mem_append_right _ (h)))
set_option maxHeartbeats 8000000 in
set_option maxRecDepth 100000 in
theorem c_X5_readItem (l : Launch) (D : va_G) (a : Nat → Nat) (c : Nat → ClassId) (u : zU) (K N S : Int → Int) (Dr : zU) (hT : Tok (u 14) (u 15) (u 16) K N S) (hl : Liv K (u 13 5)) (hD : DC u Dr) : ZM l D (zTy c) (WB a c) yX5_readItem wsX5_readItem 4 [.ref (a 13)] u rI (fun z u' => (z = 0 ∧ Frm (u) u' ∧ ItNo K N Dr (u 13 5) (u' 13 5)) ∨ (z = 1 ∧ Frm (u) u' ∧ ∃ D1 : zU, ItOk K N Dr (u 13 5) (u' 13 5) D1 ∧ DC u' D1)) := by
  refine ZM.ofZ (cc := cX5_readItem) (maxL := 1) [(0, .ref (a 13))] rfl (by decide +kernel) rfl (Nat.le_of_ble_eq_true rfl) (WB_addr a c) ?_
  intro x C hK _ _ hDD kret
  obtain ⟨r0a, r0b, r0c, r0d, r0e⟩ := hT _ hl
  have hl0 := hl.1
  refine z_aload_n C 0 dX5_readItem_0 rfl ?_
  refine z_get C hK (v := .ref (a 14)) inX5_readItem_X5 13 (WB_13 a c u) rfl 2 (by decide) (List.mem_of_getElem? (i := 1) rfl) rfl dX5_readItem_1 ?_
  refine z_aload_n C 0 dX5_readItem_4 rfl ?_
  refine z_get C hK (v := .int (zI (u 13 5))) inX5_readItem_X5 13 (WB_13 a c u) rfl 5 (by decide) (List.mem_of_getElem? (i := 2) rfl) rfl dX5_readItem_5 ?_
  refine z_iald C hK 0 (g := (u 14)) (i := (u 13 5)) 14 (WB_14 a c u) rfl (by decide) (by omega) dX5_readItem_8 ?_
  refine z_as (b := K (u 13 5)) (r0b) ?_
  by_cases h1 : (K (u 13 5)) < 4 ∨ 8 < (K (u 13 5))
  · refine z_tableOut C 69 dX5_readItem_9 (by omega) h1 (by decide) ?_
    refine z_iconst C dX5_readItem_69 ?_
    exact kret 0 u _ _ (Or.inl ⟨rfl, Frm_rf u, Or.inr (Or.inr (Or.inr (Or.inr (Or.inr ⟨by omega, rfl⟩))))⟩) (by omega) dX5_readItem_70
  by_cases h3 : (K (u 13 5)) = 4
  · refine z_tableIn C (off := 35) 44 dX5_readItem_9 (by omega) ⟨by omega, by omega⟩ (by rw [h3]; rfl) (by decide) ?_
    refine z_aload_n C 0 dX5_readItem_44 rfl ?_
    refine z_callV C hK hDD (c_X5_readLevel (zl x) (zG x) a c u K N S Dr (hT) (hl) (hD) (by omega)) gX5_readItem_X5_readLevel rfl zy_X5_readLevel 13 (WB_13 a c u) rfl ⟨by omega, by decide⟩ rfl (Nat.le_of_ble_eq_true rfl) (st := []) (stk2 := fun z4 => [.int (zI z4)]) rfl (fun _ => rfl) dX5_readItem_45 (fun z4 u5 h6 => ?_)
    have KR := h6
    exact kret z4 u5 _ _ (KR) (by omega) dX5_readItem_48
  by_cases h7 : (K (u 13 5)) = 5
  · refine z_tableIn C (off := 40) 49 dX5_readItem_9 (by omega) ⟨by omega, by omega⟩ (by rw [h7]; rfl) (by decide) ?_
    refine z_aload_n C 0 dX5_readItem_49 rfl ?_
    refine z_callV C hK hDD (c_X5_readMan (zl x) (zG x) a c u K N S Dr (hT) (hl) (hD) (by omega)) gX5_readItem_X5_readMan rfl zy_X5_readMan 13 (WB_13 a c u) rfl ⟨by omega, by decide⟩ rfl (Nat.le_of_ble_eq_true rfl) (st := []) (stk2 := fun z8 => [.int (zI z8)]) rfl (fun _ => rfl) dX5_readItem_50 (fun z8 u9 h10 => ?_)
    have KR := h10
    exact kret z8 u9 _ _ (KR) (by omega) dX5_readItem_53
  by_cases h11 : (K (u 13 5)) = 6
  · refine z_tableIn C (off := 45) 54 dX5_readItem_9 (by omega) ⟨by omega, by omega⟩ (by rw [h11]; rfl) (by decide) ?_
    refine z_aload_n C 0 dX5_readItem_54 rfl ?_
    refine z_callV C hK hDD (c_X5_readEar (zl x) (zG x) a c u K N S Dr (hT) (hl) (hD) (by omega)) gX5_readItem_X5_readEar rfl zy_X5_readEar 13 (WB_13 a c u) rfl ⟨by omega, by decide⟩ rfl (Nat.le_of_ble_eq_true rfl) (st := []) (stk2 := fun z12 => [.int (zI z12)]) rfl (fun _ => rfl) dX5_readItem_55 (fun z12 u13 h14 => ?_)
    have KR := h14
    exact kret z12 u13 _ _ (KR) (by omega) dX5_readItem_58
  by_cases h15 : (K (u 13 5)) = 7
  · refine z_tableIn C (off := 50) 59 dX5_readItem_9 (by omega) ⟨by omega, by omega⟩ (by rw [h15]; rfl) (by decide) ?_
    refine z_aload_n C 0 dX5_readItem_59 rfl ?_
    refine z_callV C hK hDD (c_X5_readWet (zl x) (zG x) a c u K N S Dr (hT) (hl) (hD) (by omega)) gX5_readItem_X5_readWet rfl zy_X5_readWet 13 (WB_13 a c u) rfl ⟨by omega, by decide⟩ rfl (Nat.le_of_ble_eq_true rfl) (st := []) (stk2 := fun z16 => [.int (zI z16)]) rfl (fun _ => rfl) dX5_readItem_60 (fun z16 u17 h18 => ?_)
    have KR := h18
    exact kret z16 u17 _ _ (KR) (by omega) dX5_readItem_63
  have h19 : (K (u 13 5)) = 8 := by omega
  refine z_tableIn C (off := 55) 64 dX5_readItem_9 (by omega) ⟨by omega, by omega⟩ (by rw [h19]; rfl) (by decide) ?_
  refine z_aload_n C 0 dX5_readItem_64 rfl ?_
  refine z_callV C hK hDD (c_X5_readPace (zl x) (zG x) a c u K N S Dr (hT) (hl) (hD) (by omega)) gX5_readItem_X5_readPace rfl zy_X5_readPace 13 (WB_13 a c u) rfl ⟨by omega, by decide⟩ rfl (Nat.le_of_ble_eq_true rfl) (st := []) (stk2 := fun z20 => [.int (zI z20)]) rfl (fun _ => rfl) dX5_readItem_65 (fun z20 u21 h22 => ?_)
  have KR := h22
  exact kret z20 u21 _ _ (KR) (by omega) dX5_readItem_68
