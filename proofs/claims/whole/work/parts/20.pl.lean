/-! ===== contracts: the pluckers ===== -/
theorem pq_of {u : zU} (hI : IB u) (h : 1 ≤ u 17 8) : PQ (u 17 8) (u 3 8) (u 20) := ⟨⟨h, hI.notes.2⟩, hI.pace, fun i h0 h1 => hI.minute i h0 h1, fun i j h0 h1 h2 => hI.mono i j h0 h1 h2⟩
theorem fw_put {f F : Int → Int} {i v : Int} (h : ∀ k : Int, 0 ≤ k → k < i → f k = F k) (hv : v = F i) : ∀ k : Int, 0 ≤ k → k < i + 1 → (fun j => if j = i then v else f j) k = F k := by
  intro k h0 h1
  show (if k = i then v else f k) = F k
  by_cases e : k = i
  · rw [if_pos e, e, hv]
  · rw [if_neg e]; exact h k h0 (by omega)
theorem nz_put {M : Int → Nat → Bool} {i : Int} (h : ∀ k : Int, 0 ≤ k → k < i → nz (M k)) (hi : nz (M i)) : ∀ k : Int, 0 ≤ k → k < i + 1 → nz (M k) := by
  intro k h0 h1
  by_cases e : k = i
  · rw [e]; exact hi
  · exact h k h0 (by omega)
theorem us3_self (u : zU) : u = us (us (us u 42 (u 42)) 43 (u 43)) 41 (u 41) := by
  rw [us_self u 42, us_self u 43, us_self u 41]
theorem us_keep (u : zU) (f g : Int → Int) : us (us u 42 f) 43 g = us (us (us u 42 f) 43 g) 41 (u 41) := (us_self (us (us u 42 f) 43 g) 41).symm
theorem PlC_of {u : zU} {k : Nat} {b b' : Int} (hk : (u 17 8).toNat = k) (hz : ∀ k : Int, 0 ≤ k → k < u 17 8 → nz (plM u k)) (h : Bst b b' (fun t => CanE (u 20) (u 3 8) (u 17 8) (plE u) k (fun _ => false) (plM u) t)) : Bst b b' (PlC u) := by
  subst hk
  exact Bst_congr h (fun t => ⟨fun q => ⟨hz, q⟩, fun q => q.2⟩)

theorem zy_X4_giveToMen : zY yX4_giveToMen 2 := ⟨by decide +kernel, by decide +kernel, by decide +kernel⟩
theorem zy_X4_giveTo : zY yX4_giveTo 3 := ⟨by decide +kernel, by decide +kernel, by decide +kernel⟩
theorem zy_X4_chooseEchoes : zY yX4_chooseEchoes 1 := ⟨by decide +kernel, by decide +kernel, by decide +kernel⟩
theorem zy_X4_chooseEchoOf : zY yX4_chooseEchoOf 2 := ⟨by decide +kernel, by decide +kernel, by decide +kernel⟩
theorem zy_X4_fewest : zY yX4_fewest 0 := ⟨by decide +kernel, by decide +kernel, by decide +kernel⟩
-- NoteBells$Pluckers.giveToMen
theorem inX4_giveToMen_X4 : ∀ w ∈ wsX40, w ∈ wsX4_giveToMen := fun w h => List.mem_cons_of_mem _ (List.mem_append_left _ (List.mem_append_left _ (List.mem_append_right _ (h))))
theorem inX4_giveToMen_X2 : ∀ w ∈ wsX20, w ∈ wsX4_giveToMen := fun w h => List.mem_cons_of_mem _ (List.mem_append_right _ (h))
set_option maxHeartbeats 8000000 in
set_option maxRecDepth 100000 in
theorem c_X4_giveToMen_0 (l : Launch) (D : va_G) (a : Nat → Nat) (c : Nat → ClassId) (u : zU) (i used : Int) (E : Int → Bool) (X L : Int → Nat → Bool) (T : Int → Int) (hi : i = u 17 8 - 0) (b_i : 0 ≤ i) (hu : 0 ≤ used ∧ used ≤ 3) (hQ : PQ (u 17 8) (u 3 8) (u 20)) (hb : 0 ≤ u 41 8 ∧ u 41 8 ≤ 4) (hX : ∀ k : Int, 0 ≤ k → k < u 17 8 → u 42 k = ((bn (X k) 8 : Nat) : Int)) (hE : ∀ k : Int, 0 ≤ k → k < u 17 8 → u 43 k = if E k = true then 1 else 0) (hL : ∀ j : Int, 0 ≤ j → j < used → u 44 j = ((bn (L j) 8 : Nat) : Int)) (hT : ∀ j : Int, 0 ≤ j → j < used → u 45 j = T j ∧ 0 ≤ T j ∧ ∀ k : Int, i ≤ k → k < u 17 8 → T j ≤ u 20 k) : ZM l D (zTy c) (WB a c) yX4_giveToMen wsX4_giveToMen 3 [.ref (a 41), .int (zI i), .int (zI used)] u rV (fun z u' => ∃ b' : Int, u' = up u 41 8 b' ∧ Bst (u 41 8) b' (fun t => Can (u 20) (u 3 8) (u 17 8) E X 0 L T used t)) := by
  refine ZM.ofV (cc := cX4_giveToMen) (maxL := 4) [(0, .ref (a 41)), (1, .int (zI i)), (2, .int (zI used))] rfl (by decide +kernel) rfl (Nat.le_of_ble_eq_true rfl) (WB_addr a c) ?_
  intro x C hK _ _ hDD kret
  have hq1 := hQ.1
  have hq2 := hQ.2.1
  refine z_iload_n C 2 dX4_giveToMen_0 rfl ?_
  refine z_aload_n C 0 dX4_giveToMen_1 rfl ?_
  refine z_get C hK (v := .int (zI (u 41 8))) inX4_giveToMen_X4 41 (WB_41 a c u) rfl 8 (by decide) (List.mem_of_getElem? (i := 1) rfl) rfl dX4_giveToMen_2 ?_
  refine z_icmp_lt C 9 dX4_giveToMen_5 (by decide) (by omega) (fun h1 => ?_) (fun h1 => ?_)
  · skip
    refine z_iload_n C 1 dX4_giveToMen_9 rfl ?_
    refine z_aload_n C 0 dX4_giveToMen_10 rfl ?_
    refine z_get C hK (v := .ref (a 17)) inX4_giveToMen_X4 41 (WB_41 a c u) rfl 1 (by decide) (List.mem_of_getElem? (i := 2) rfl) rfl dX4_giveToMen_11 ?_
    refine z_getN C hK (v := .int (zI (u 17 8))) inX4_giveToMen_X2 17 (WB_17 a c u) rfl 8 (by decide) (List.mem_of_getElem? (i := 34) rfl) rfl dX4_giveToMen_14 ?_
    refine z_icmp_lt C 26 dX4_giveToMen_17 (by decide) (by omega) (fun h2 => ?_) (fun h2 => ?_)
    · exfalso; omega
    · skip
      refine z_aload_n C 0 dX4_giveToMen_20 rfl ?_
      refine z_iload_n C 2 dX4_giveToMen_21 rfl ?_
      refine z_put C hK (hDD _) inX4_giveToMen_X4 tyX4 tyX4_ok nmX4 41 (WB_41 a c u) rfl 8 (by decide) (List.mem_of_getElem? (i := 1) rfl) rfl rfl rfl (Nat.le_of_ble_eq_true rfl) (WB_41_p8 a c u used) dX4_giveToMen_22 ?_
      exact kret 0 (up u 41 8 used) _ _ (⟨used, rfl, Bst_used hu.1 (by omega)⟩) dX4_giveToMen_25
  · skip
    exact kret 0 u _ _ (⟨u 41 8, (up_self u 41 8).symm, Bst_none hb.1 (fun t h => by have := Can_ge h; omega)⟩) dX4_giveToMen_8
-- NoteBells$Pluckers.giveTo
theorem inX4_giveTo_X4 : ∀ w ∈ wsX40, w ∈ wsX4_giveTo := fun w h => List.mem_cons_of_mem _ (List.mem_append_left _ (List.mem_append_left _ (List.mem_append_right _ (h))))
theorem inX4_giveTo_X2 : ∀ w ∈ wsX20, w ∈ wsX4_giveTo := fun w h => List.mem_cons_of_mem _ (List.mem_append_right _ (h))
theorem inX4_giveTo_X8 : ∀ w ∈ wsX80, w ∈ wsX4_giveTo := fun w h => List.mem_cons_of_mem _ (List.mem_append_left _ (List.mem_append_right _ (h)))
set_option maxHeartbeats 8000000 in
set_option maxRecDepth 100000 in
theorem c_X4_giveTo_1 (l : Launch) (D : va_G) (a : Nat → Nat) (c : Nat → ClassId) (u : zU) (m i used : Int) (E : Int → Bool) (X L : Int → Nat → Bool) (T : Int → Int) (hi : i = u 17 8 - 1) (b_i : 0 ≤ i ∧ i < u 17 8) (hm : 0 ≤ m ∧ m ≤ used ∧ m < 3) (hu : 0 ≤ used ∧ used ≤ 3) (hQ : PQ (u 17 8) (u 3 8) (u 20)) (hb : 0 ≤ u 41 8 ∧ u 41 8 ≤ 4) (hX : ∀ k : Int, 0 ≤ k → k < u 17 8 → u 42 k = ((bn (X k) 8 : Nat) : Int)) (hE : ∀ k : Int, 0 ≤ k → k < u 17 8 → u 43 k = if E k = true then 1 else 0) (hL : ∀ j : Int, 0 ≤ j → j < used → u 44 j = ((bn (L j) 8 : Nat) : Int)) (hT : ∀ j : Int, 0 ≤ j → j < used → u 45 j = T j ∧ 0 ≤ T j ∧ ∀ k : Int, i ≤ k → k < u 17 8 → T j ≤ u 20 k) : ZM l D (zTy c) (WB a c) yX4_giveTo wsX4_giveTo 4 [.ref (a 41), .int (zI m), .int (zI i), .int (zI used)] u rV (fun z u' => ∃ b' : Int, u' = up u 41 8 b' ∧ Bst (u 41 8) b' (fun t => Gv (u 20) (u 3 8) (u 17 8) E X 0 i L T used m t)) := by
  refine ZM.ofV (cc := cX4_giveTo) (maxL := 8) [(0, .ref (a 41)), (1, .int (zI m)), (2, .int (zI i)), (3, .int (zI used))] rfl (by decide +kernel) rfl (Nat.le_of_ble_eq_true rfl) (WB_addr a c) ?_
  intro x C hK _ _ hDD kret
  have hq1 := hQ.1
  have hq2 := hQ.2.1
  have hmi := hQ.2.2.1 i (by omega) (by omega)
  refine z_iload_n C 1 dX4_giveTo_0 rfl ?_
  refine z_iload_n C 3 dX4_giveTo_1 rfl ?_
  refine z_icmp_ne C 9 dX4_giveTo_2 (by decide) (by omega) (fun h1 => ?_) (fun h1 => ?_)
  · skip
    refine z_iconst C dX4_giveTo_9 ?_
    refine z_istore C [(4, .int (zI 0)), (0, .ref (a 41)), (1, .int (zI m)), (2, .int (zI i)), (3, .int (zI used))] dX4_giveTo_10 (by decide) rfl ?_
    refine z_aload_n C 1 dX4_giveTo_12 rfl ?_
    refine z_get C hK (v := .ref (a 44)) inX4_giveTo_X4 41 (WB_41 a c u) rfl 5 (by decide) (List.mem_of_getElem? (i := 1) rfl) rfl dX4_giveTo_13 ?_
    refine z_iload_n C 2 dX4_giveTo_16 rfl ?_
    refine z_iald C hK 0 (g := (u 44)) (i := m) 44 (WB_44 a c u) rfl (by decide) (by omega) dX4_giveTo_17 ?_
    refine z_as (b := u 44 (m)) rfl ?_
    refine z_istore C [(5, .int (zI (u 44 (m)))), (4, .int (zI 0)), (0, .ref (a 41)), (1, .int (zI m)), (2, .int (zI i)), (3, .int (zI used))] dX4_giveTo_18 (by decide) rfl ?_
    refine z_aload_n C 2 dX4_giveTo_20 rfl ?_
    refine z_get C hK (v := .ref (a 45)) inX4_giveTo_X4 41 (WB_41 a c u) rfl 6 (by decide) (List.mem_of_getElem? (i := 2) rfl) rfl dX4_giveTo_21 ?_
    refine z_iload_n C 3 dX4_giveTo_24 rfl ?_
    refine z_iald C hK 0 (g := (u 45)) (i := m) 45 (WB_45 a c u) rfl (by decide) (by omega) dX4_giveTo_25 ?_
    refine z_as (b := u 45 (m)) rfl ?_
    refine z_istore C [(6, .int (zI (u 45 (m)))), (5, .int (zI (u 44 (m)))), (4, .int (zI 0)), (0, .ref (a 41)), (1, .int (zI m)), (2, .int (zI i)), (3, .int (zI used))] dX4_giveTo_26 (by decide) rfl ?_
    refine z_aload_n C 3 dX4_giveTo_28 rfl ?_
    refine z_get C hK (v := .ref (a 42)) inX4_giveTo_X4 41 (WB_41 a c u) rfl 3 (by decide) (List.mem_of_getElem? (i := 3) rfl) rfl dX4_giveTo_29 ?_
    refine z_iload_n C 5 dX4_giveTo_32 rfl ?_
    refine z_iald C hK 0 (g := (u 42)) (i := i) 42 (WB_42 a c u) rfl (by decide) (by omega) dX4_giveTo_33 ?_
    refine z_as (b := u 42 (i)) rfl ?_
    refine z_as (b := ((bn (X i) 8 : Nat) : Int)) (hX i (by omega) (by omega)) ?_
    refine z_istore C [(7, .int (zI (((bn (X i) 8 : Nat) : Int)))), (6, .int (zI (u 45 (m)))), (5, .int (zI (u 44 (m)))), (4, .int (zI 0)), (0, .ref (a 41)), (1, .int (zI m)), (2, .int (zI i)), (3, .int (zI used))] dX4_giveTo_34 (by decide) rfl ?_
    refine z_iload C 3 dX4_giveTo_36 rfl ?_
    refine z_if_ne C 71 dX4_giveTo_38 (by decide) (by omega) (fun h2 => ?_) (fun h2 => ?_)
    · skip
      refine z_iload C 0 dX4_giveTo_71 rfl ?_
      refine z_if_ne C 77 dX4_giveTo_73 (by decide) (by have h1 := bn_8 (X i) (n := 8) (by omega); have h2 := bn_8 (fun q => X i q && sprd (L m) (u 3 8 * (u 20 i - T m)) q) (n := 8) (by omega); omega) (fun h3 => ?_) (fun h3 => ?_)
      · have hz : nz (lvs (u 20) (u 3 8) X L T i m used) := by first | exact nz_yes (lvs_new (by omega)) h3 | exact nz_yes (lvs_old (by omega)) h3
        refine z_aload_n C 4 dX4_giveTo_77 rfl ?_
        refine z_get C hK (v := .ref (a 44)) inX4_giveTo_X4 41 (WB_41 a c u) rfl 5 (by decide) (List.mem_of_getElem? (i := 1) rfl) rfl dX4_giveTo_78 ?_
        refine z_iload_n C 5 dX4_giveTo_81 rfl ?_
        refine z_iload C 0 dX4_giveTo_82 rfl ?_
        refine z_iast C hK (hDD _) 0 (g := u 44) 44 (WB_44 a c u) rfl (by decide) (by omega) (WB_44_set a c u m (((bn (X i) 8 : Nat) : Int))) dX4_giveTo_84 ?_
        refine z_aload_n C 4 dX4_giveTo_85 rfl ?_
        refine z_get C hK (v := .ref (a 45)) inX4_giveTo_X4 41 (WB_41 a c ((up u 44 (m) (((bn (X i) 8 : Nat) : Int))))) rfl 6 (by decide) (List.mem_of_getElem? (i := 2) rfl) rfl dX4_giveTo_86 ?_
        refine z_iload_n C 5 dX4_giveTo_89 rfl ?_
        refine z_aload_n C 4 dX4_giveTo_90 rfl ?_
        refine z_get C hK (v := .ref (a 17)) inX4_giveTo_X4 41 (WB_41 a c ((up u 44 (m) (((bn (X i) 8 : Nat) : Int))))) rfl 1 (by decide) (List.mem_of_getElem? (i := 5) rfl) rfl dX4_giveTo_91 ?_
        refine z_getN C hK (v := .ref (a 20)) inX4_giveTo_X2 17 (WB_17 a c ((up u 44 (m) (((bn (X i) 8 : Nat) : Int))))) rfl 2 (by decide) (List.mem_of_getElem? (i := 36) rfl) rfl dX4_giveTo_94 ?_
        refine z_iload_n C 6 dX4_giveTo_97 rfl ?_
        refine z_iald C hK 0 (g := (u 20)) (i := i) 20 (WB_20 a c ((up u 44 (m) (((bn (X i) 8 : Nat) : Int))))) rfl (by decide) (by omega) dX4_giveTo_98 ?_
        refine z_as (b := u 20 (i)) rfl ?_
        refine z_iast C hK (hDD _) 0 (g := (up u 44 (m) (((bn (X i) 8 : Nat) : Int))) 45) 45 (WB_45 a c ((up u 44 (m) (((bn (X i) 8 : Nat) : Int))))) rfl (by decide) (by omega) (WB_45_set a c ((up u 44 (m) (((bn (X i) 8 : Nat) : Int)))) m (u 20 (i))) dX4_giveTo_99 ?_
        refine z_aload_n C 4 dX4_giveTo_100 rfl ?_
        refine z_iload_n C 6 dX4_giveTo_101 rfl ?_
        refine z_iconst C dX4_giveTo_102 ?_
        refine z_iadd C dX4_giveTo_103 ?_
        refine z_iload C 3 dX4_giveTo_104 rfl ?_
        refine z_if_eq C 115 dX4_giveTo_106 (by decide) (by omega) (fun h4 => ?_) (fun h4 => ?_)
        · skip
          refine z_iload_n C 7 dX4_giveTo_115 rfl ?_
          refine z_callV C hK hDD (c_X4_giveToMen_0 (zl x) (zG x) a c ((up (up u 44 (m) (((bn (X i) 8 : Nat) : Int))) 45 (m) (u 20 (i)))) (i + 1) used E X ((fun j => if j = m then lvs (u 20) (u 3 8) X L T i m used else L j)) ((fun j => if j = m then u 20 i else T j)) (show (i + 1) = (u 17 8) - 0 by omega) (show 0 ≤ (i + 1) by omega) (show 0 ≤ used ∧ used ≤ 3 by omega) (hQ) (show 0 ≤ (u 41 8) ∧ (u 41 8) ≤ 4 by omega) (hX) (hE) (pl_hL hL (by first | exact Or.inl (by omega) | exact Or.inr ⟨by omega, by omega⟩) (by first | exact lvs_new (by omega) | exact lvs_old (by omega))) (pl_hT (by omega) hmi.1 hQ.2.2.2 hT (by first | exact Or.inl (by omega) | exact Or.inr ⟨by omega, by omega⟩))) gX4_giveTo_X4_giveToMen rfl zy_X4_giveToMen 41 (WB_41 a c ((up (up u 44 (m) (((bn (X i) 8 : Nat) : Int))) 45 (m) (u 20 (i))))) rfl ⟨by omega, by decide⟩ rfl (Nat.le_of_ble_eq_true rfl) (st := []) (stk2 := fun _ => []) rfl (fun _ => rfl) dX4_giveTo_116 (fun z5 u6 h7 => ?_)
          obtain ⟨b2, e1, hB⟩ := h7
          rw [e1]
          change Z x 0 0 (WB a c (up (up (up u 44 (m) (((bn (X i) 8 : Nat) : Int))) 45 (m) (u 20 (i))) 41 (8) (b2))) _ _ _
          refine z_aload_n C 4 dX4_giveTo_119 rfl ?_
          refine z_get C hK (v := .ref (a 44)) inX4_giveTo_X4 41 (WB_41 a c ((up (up (up u 44 (m) (((bn (X i) 8 : Nat) : Int))) 45 (m) (u 20 (i))) 41 (8) (b2)))) rfl 5 (by decide) (List.mem_of_getElem? (i := 1) rfl) rfl dX4_giveTo_120 ?_
          refine z_iload_n C 5 dX4_giveTo_123 rfl ?_
          refine z_iload C 2 dX4_giveTo_124 rfl ?_
          refine z_iast C hK (hDD _) 0 (g := (up (up (up u 44 (m) (((bn (X i) 8 : Nat) : Int))) 45 (m) (u 20 (i))) 41 (8) (b2)) 44) 44 (WB_44 a c ((up (up (up u 44 (m) (((bn (X i) 8 : Nat) : Int))) 45 (m) (u 20 (i))) 41 (8) (b2)))) rfl (by decide) (by omega) (WB_44_set a c ((up (up (up u 44 (m) (((bn (X i) 8 : Nat) : Int))) 45 (m) (u 20 (i))) 41 (8) (b2))) m (u 44 (m))) dX4_giveTo_126 ?_
          refine z_aload_n C 4 dX4_giveTo_127 rfl ?_
          refine z_get C hK (v := .ref (a 45)) inX4_giveTo_X4 41 (WB_41 a c ((up (up (up (up u 44 (m) (((bn (X i) 8 : Nat) : Int))) 45 (m) (u 20 (i))) 41 (8) (b2)) 44 (m) (u 44 (m))))) rfl 6 (by decide) (List.mem_of_getElem? (i := 2) rfl) rfl dX4_giveTo_128 ?_
          refine z_iload_n C 5 dX4_giveTo_131 rfl ?_
          refine z_iload C 1 dX4_giveTo_132 rfl ?_
          refine z_iast C hK (hDD _) 0 (g := (up (up (up (up u 44 (m) (((bn (X i) 8 : Nat) : Int))) 45 (m) (u 20 (i))) 41 (8) (b2)) 44 (m) (u 44 (m))) 45) 45 (WB_45 a c ((up (up (up (up u 44 (m) (((bn (X i) 8 : Nat) : Int))) 45 (m) (u 20 (i))) 41 (8) (b2)) 44 (m) (u 44 (m))))) rfl (by decide) (by omega) (WB_45_set a c ((up (up (up (up u 44 (m) (((bn (X i) 8 : Nat) : Int))) 45 (m) (u 20 (i))) 41 (8) (b2)) 44 (m) (u 44 (m)))) m (u 45 (m))) dX4_giveTo_134 ?_
          refine z_ws (ws' := (WB a c (up u 41 (8) (b2)))) (congrArg (WB a c) (pl_rest u m _ _ _)) ?_
          exact kret 0 (up u 41 8 b2) _ _ (⟨b2, rfl, Bst_congr hB (fun t => ⟨fun q => ⟨hz, by first | (rw [if_pos (by omega)]; exact q) | (rw [if_neg (by omega)]; exact q)⟩, fun q => by have q2 := q.2; first | (rw [if_pos (show m = used by omega)] at q2; exact q2) | (rw [if_neg (show ¬ m = used by omega)] at q2; exact q2)⟩)⟩) dX4_giveTo_135
        · skip
          refine z_iload_n C 7 dX4_giveTo_109 rfl ?_
          refine z_iconst C dX4_giveTo_110 ?_
          refine z_iadd C dX4_giveTo_111 ?_
          refine z_goto C 116 dX4_giveTo_112 (by decide) ?_
          refine z_callV C hK hDD (c_X4_giveToMen_0 (zl x) (zG x) a c ((up (up u 44 (m) (((bn (X i) 8 : Nat) : Int))) 45 (m) (u 20 (i)))) (i + 1) (used + 1) E X ((fun j => if j = m then lvs (u 20) (u 3 8) X L T i m used else L j)) ((fun j => if j = m then u 20 i else T j)) (show (i + 1) = (u 17 8) - 0 by omega) (show 0 ≤ (i + 1) by omega) (show 0 ≤ (used + 1) ∧ (used + 1) ≤ 3 by omega) (hQ) (show 0 ≤ (u 41 8) ∧ (u 41 8) ≤ 4 by omega) (hX) (hE) (pl_hL hL (by first | exact Or.inl (by omega) | exact Or.inr ⟨by omega, by omega⟩) (by first | exact lvs_new (by omega) | exact lvs_old (by omega))) (pl_hT (by omega) hmi.1 hQ.2.2.2 hT (by first | exact Or.inl (by omega) | exact Or.inr ⟨by omega, by omega⟩))) gX4_giveTo_X4_giveToMen rfl zy_X4_giveToMen 41 (WB_41 a c ((up (up u 44 (m) (((bn (X i) 8 : Nat) : Int))) 45 (m) (u 20 (i))))) rfl ⟨by omega, by decide⟩ rfl (Nat.le_of_ble_eq_true rfl) (st := []) (stk2 := fun _ => []) rfl (fun _ => rfl) dX4_giveTo_116 (fun z8 u9 h10 => ?_)
          obtain ⟨b2, e1, hB⟩ := h10
          rw [e1]
          change Z x 0 0 (WB a c (up (up (up u 44 (m) (((bn (X i) 8 : Nat) : Int))) 45 (m) (u 20 (i))) 41 (8) (b2))) _ _ _
          refine z_aload_n C 4 dX4_giveTo_119 rfl ?_
          refine z_get C hK (v := .ref (a 44)) inX4_giveTo_X4 41 (WB_41 a c ((up (up (up u 44 (m) (((bn (X i) 8 : Nat) : Int))) 45 (m) (u 20 (i))) 41 (8) (b2)))) rfl 5 (by decide) (List.mem_of_getElem? (i := 1) rfl) rfl dX4_giveTo_120 ?_
          refine z_iload_n C 5 dX4_giveTo_123 rfl ?_
          refine z_iload C 2 dX4_giveTo_124 rfl ?_
          refine z_iast C hK (hDD _) 0 (g := (up (up (up u 44 (m) (((bn (X i) 8 : Nat) : Int))) 45 (m) (u 20 (i))) 41 (8) (b2)) 44) 44 (WB_44 a c ((up (up (up u 44 (m) (((bn (X i) 8 : Nat) : Int))) 45 (m) (u 20 (i))) 41 (8) (b2)))) rfl (by decide) (by omega) (WB_44_set a c ((up (up (up u 44 (m) (((bn (X i) 8 : Nat) : Int))) 45 (m) (u 20 (i))) 41 (8) (b2))) m (u 44 (m))) dX4_giveTo_126 ?_
          refine z_aload_n C 4 dX4_giveTo_127 rfl ?_
          refine z_get C hK (v := .ref (a 45)) inX4_giveTo_X4 41 (WB_41 a c ((up (up (up (up u 44 (m) (((bn (X i) 8 : Nat) : Int))) 45 (m) (u 20 (i))) 41 (8) (b2)) 44 (m) (u 44 (m))))) rfl 6 (by decide) (List.mem_of_getElem? (i := 2) rfl) rfl dX4_giveTo_128 ?_
          refine z_iload_n C 5 dX4_giveTo_131 rfl ?_
          refine z_iload C 1 dX4_giveTo_132 rfl ?_
          refine z_iast C hK (hDD _) 0 (g := (up (up (up (up u 44 (m) (((bn (X i) 8 : Nat) : Int))) 45 (m) (u 20 (i))) 41 (8) (b2)) 44 (m) (u 44 (m))) 45) 45 (WB_45 a c ((up (up (up (up u 44 (m) (((bn (X i) 8 : Nat) : Int))) 45 (m) (u 20 (i))) 41 (8) (b2)) 44 (m) (u 44 (m))))) rfl (by decide) (by omega) (WB_45_set a c ((up (up (up (up u 44 (m) (((bn (X i) 8 : Nat) : Int))) 45 (m) (u 20 (i))) 41 (8) (b2)) 44 (m) (u 44 (m)))) m (u 45 (m))) dX4_giveTo_134 ?_
          refine z_ws (ws' := (WB a c (up u 41 (8) (b2)))) (congrArg (WB a c) (pl_rest u m _ _ _)) ?_
          exact kret 0 (up u 41 8 b2) _ _ (⟨b2, rfl, Bst_congr hB (fun t => ⟨fun q => ⟨hz, by first | (rw [if_pos (by omega)]; exact q) | (rw [if_neg (by omega)]; exact q)⟩, fun q => by have q2 := q.2; first | (rw [if_pos (show m = used by omega)] at q2; exact q2) | (rw [if_neg (show ¬ m = used by omega)] at q2; exact q2)⟩)⟩) dX4_giveTo_135
      · have hz : ¬ nz (lvs (u 20) (u 3 8) X L T i m used) := by first | exact nz_no (lvs_new (by omega)) h3 | exact nz_no (lvs_old (by omega)) h3
        exact kret 0 u _ _ (⟨u 41 8, (up_self u 41 8).symm, Bst_none hb.1 (fun t h => absurd h.1 hz)⟩) dX4_giveTo_76
    · skip
      refine z_iload C 0 dX4_giveTo_41 rfl ?_
      refine z_iload C 2 dX4_giveTo_43 rfl ?_
      refine z_as (b := ((bn (L m) 8 : Nat) : Int)) (hL m (by omega) (by omega)) ?_
      refine z_aload_n C 4 dX4_giveTo_45 rfl ?_
      refine z_get C hK (v := .ref (a 3)) inX4_giveTo_X4 41 (WB_41 a c u) rfl 0 (by decide) (List.mem_of_getElem? (i := 4) rfl) rfl dX4_giveTo_46 ?_
      refine z_getN C hK (v := .int (zI (u 3 8))) inX4_giveTo_X8 3 (WB_3 a c u) rfl 8 (by decide) (List.mem_of_getElem? (i := 37) rfl) rfl dX4_giveTo_49 ?_
      refine z_aload_n C 4 dX4_giveTo_52 rfl ?_
      refine z_get C hK (v := .ref (a 17)) inX4_giveTo_X4 41 (WB_41 a c u) rfl 1 (by decide) (List.mem_of_getElem? (i := 5) rfl) rfl dX4_giveTo_53 ?_
      refine z_getN C hK (v := .ref (a 20)) inX4_giveTo_X2 17 (WB_17 a c u) rfl 2 (by decide) (List.mem_of_getElem? (i := 36) rfl) rfl dX4_giveTo_56 ?_
      refine z_iload_n C 6 dX4_giveTo_59 rfl ?_
      refine z_iald C hK 0 (g := (u 20)) (i := i) 20 (WB_20 a c u) rfl (by decide) (by omega) dX4_giveTo_60 ?_
      refine z_as (b := u 20 (i)) rfl ?_
      have hTm := hT m (by omega) (by omega)
      have hTi := hTm.2.2 i (Int.le_refl _) (by omega)
      have hsp := pl_pc (d := u 20 i - T m) hq2 (by omega)
      refine z_iload C 1 dX4_giveTo_61 rfl ?_
      refine z_as (b := T m) ((hT m (by omega) (by omega)).1) ?_
      refine z_isub C dX4_giveTo_63 ?_
      refine z_imul C dX4_giveTo_64 ?_
      refine z_callSN C hK hDD (c_X10_spread (zl x) (zG x) ((WB a c)) (WB_addr a c) u ((L m)) ((u 3 8) * ((u 20 (i)) - (T m))) (by omega)) ggX4_giveTo_X10_spread (List.mem_of_getElem? (i := 32) rfl) (List.mem_of_getElem? (i := 7) rfl) (List.mem_of_getElem? (i := 6) rfl) rfl zy_X10_spread ⟨by omega, by decide⟩ rfl (Nat.le_of_ble_eq_true rfl) (st := [.int (zI (((bn (X i) 8 : Nat) : Int)))]) (stk2 := fun z11 => [.int (zI z11), .int (zI (((bn (X i) 8 : Nat) : Int)))]) rfl (fun _ => rfl) dX4_giveTo_65 (fun z11 u12 h13 => ?_)
      rw [h13.1]; replace h13 := h13.2
      refine z_as (b := ((bn (sprd ((L m)) ((u 3 8) * ((u 20 (i)) - (T m)))) 8 : Nat) : Int)) h13 ?_
      refine z_iand C (((bn (fun q => X i q && sprd (L m) (u 3 8 * (u 20 i - T m)) q) 8 : Nat) : Int)) dX4_giveTo_68 (by rw [zI_and, bn_and]) ?_
      refine z_istore C [(7, .int (zI (((bn (fun q => X i q && sprd (L m) (u 3 8 * (u 20 i - T m)) q) 8 : Nat) : Int)))), (6, .int (zI (u 45 (m)))), (5, .int (zI (u 44 (m)))), (4, .int (zI 0)), (0, .ref (a 41)), (1, .int (zI m)), (2, .int (zI i)), (3, .int (zI used))] dX4_giveTo_69 (by decide) rfl ?_
      refine z_iload C 0 dX4_giveTo_71 rfl ?_
      refine z_if_ne C 77 dX4_giveTo_73 (by decide) (by have h1 := bn_8 (X i) (n := 8) (by omega); have h2 := bn_8 (fun q => X i q && sprd (L m) (u 3 8 * (u 20 i - T m)) q) (n := 8) (by omega); omega) (fun h14 => ?_) (fun h14 => ?_)
      · have hz : nz (lvs (u 20) (u 3 8) X L T i m used) := by first | exact nz_yes (lvs_new (by omega)) h14 | exact nz_yes (lvs_old (by omega)) h14
        refine z_aload_n C 4 dX4_giveTo_77 rfl ?_
        refine z_get C hK (v := .ref (a 44)) inX4_giveTo_X4 41 (WB_41 a c u) rfl 5 (by decide) (List.mem_of_getElem? (i := 1) rfl) rfl dX4_giveTo_78 ?_
        refine z_iload_n C 5 dX4_giveTo_81 rfl ?_
        refine z_iload C 0 dX4_giveTo_82 rfl ?_
        refine z_iast C hK (hDD _) 0 (g := u 44) 44 (WB_44 a c u) rfl (by decide) (by omega) (WB_44_set a c u m (((bn (fun q => X i q && sprd (L m) (u 3 8 * (u 20 i - T m)) q) 8 : Nat) : Int))) dX4_giveTo_84 ?_
        refine z_aload_n C 4 dX4_giveTo_85 rfl ?_
        refine z_get C hK (v := .ref (a 45)) inX4_giveTo_X4 41 (WB_41 a c ((up u 44 (m) (((bn (fun q => X i q && sprd (L m) (u 3 8 * (u 20 i - T m)) q) 8 : Nat) : Int))))) rfl 6 (by decide) (List.mem_of_getElem? (i := 2) rfl) rfl dX4_giveTo_86 ?_
        refine z_iload_n C 5 dX4_giveTo_89 rfl ?_
        refine z_aload_n C 4 dX4_giveTo_90 rfl ?_
        refine z_get C hK (v := .ref (a 17)) inX4_giveTo_X4 41 (WB_41 a c ((up u 44 (m) (((bn (fun q => X i q && sprd (L m) (u 3 8 * (u 20 i - T m)) q) 8 : Nat) : Int))))) rfl 1 (by decide) (List.mem_of_getElem? (i := 5) rfl) rfl dX4_giveTo_91 ?_
        refine z_getN C hK (v := .ref (a 20)) inX4_giveTo_X2 17 (WB_17 a c ((up u 44 (m) (((bn (fun q => X i q && sprd (L m) (u 3 8 * (u 20 i - T m)) q) 8 : Nat) : Int))))) rfl 2 (by decide) (List.mem_of_getElem? (i := 36) rfl) rfl dX4_giveTo_94 ?_
        refine z_iload_n C 6 dX4_giveTo_97 rfl ?_
        refine z_iald C hK 0 (g := (u 20)) (i := i) 20 (WB_20 a c ((up u 44 (m) (((bn (fun q => X i q && sprd (L m) (u 3 8 * (u 20 i - T m)) q) 8 : Nat) : Int))))) rfl (by decide) (by omega) dX4_giveTo_98 ?_
        refine z_as (b := u 20 (i)) rfl ?_
        refine z_iast C hK (hDD _) 0 (g := (up u 44 (m) (((bn (fun q => X i q && sprd (L m) (u 3 8 * (u 20 i - T m)) q) 8 : Nat) : Int))) 45) 45 (WB_45 a c ((up u 44 (m) (((bn (fun q => X i q && sprd (L m) (u 3 8 * (u 20 i - T m)) q) 8 : Nat) : Int))))) rfl (by decide) (by omega) (WB_45_set a c ((up u 44 (m) (((bn (fun q => X i q && sprd (L m) (u 3 8 * (u 20 i - T m)) q) 8 : Nat) : Int)))) m (u 20 (i))) dX4_giveTo_99 ?_
        refine z_aload_n C 4 dX4_giveTo_100 rfl ?_
        refine z_iload_n C 6 dX4_giveTo_101 rfl ?_
        refine z_iconst C dX4_giveTo_102 ?_
        refine z_iadd C dX4_giveTo_103 ?_
        refine z_iload C 3 dX4_giveTo_104 rfl ?_
        refine z_if_eq C 115 dX4_giveTo_106 (by decide) (by omega) (fun h15 => ?_) (fun h15 => ?_)
        · skip
          refine z_iload_n C 7 dX4_giveTo_115 rfl ?_
          refine z_callV C hK hDD (c_X4_giveToMen_0 (zl x) (zG x) a c ((up (up u 44 (m) (((bn (fun q => X i q && sprd (L m) (u 3 8 * (u 20 i - T m)) q) 8 : Nat) : Int))) 45 (m) (u 20 (i)))) (i + 1) used E X ((fun j => if j = m then lvs (u 20) (u 3 8) X L T i m used else L j)) ((fun j => if j = m then u 20 i else T j)) (show (i + 1) = (u 17 8) - 0 by omega) (show 0 ≤ (i + 1) by omega) (show 0 ≤ used ∧ used ≤ 3 by omega) (hQ) (show 0 ≤ (u 41 8) ∧ (u 41 8) ≤ 4 by omega) (hX) (hE) (pl_hL hL (by first | exact Or.inl (by omega) | exact Or.inr ⟨by omega, by omega⟩) (by first | exact lvs_new (by omega) | exact lvs_old (by omega))) (pl_hT (by omega) hmi.1 hQ.2.2.2 hT (by first | exact Or.inl (by omega) | exact Or.inr ⟨by omega, by omega⟩))) gX4_giveTo_X4_giveToMen rfl zy_X4_giveToMen 41 (WB_41 a c ((up (up u 44 (m) (((bn (fun q => X i q && sprd (L m) (u 3 8 * (u 20 i - T m)) q) 8 : Nat) : Int))) 45 (m) (u 20 (i))))) rfl ⟨by omega, by decide⟩ rfl (Nat.le_of_ble_eq_true rfl) (st := []) (stk2 := fun _ => []) rfl (fun _ => rfl) dX4_giveTo_116 (fun z16 u17 h18 => ?_)
          obtain ⟨b2, e1, hB⟩ := h18
          rw [e1]
          change Z x 0 0 (WB a c (up (up (up u 44 (m) (((bn (fun q => X i q && sprd (L m) (u 3 8 * (u 20 i - T m)) q) 8 : Nat) : Int))) 45 (m) (u 20 (i))) 41 (8) (b2))) _ _ _
          refine z_aload_n C 4 dX4_giveTo_119 rfl ?_
          refine z_get C hK (v := .ref (a 44)) inX4_giveTo_X4 41 (WB_41 a c ((up (up (up u 44 (m) (((bn (fun q => X i q && sprd (L m) (u 3 8 * (u 20 i - T m)) q) 8 : Nat) : Int))) 45 (m) (u 20 (i))) 41 (8) (b2)))) rfl 5 (by decide) (List.mem_of_getElem? (i := 1) rfl) rfl dX4_giveTo_120 ?_
          refine z_iload_n C 5 dX4_giveTo_123 rfl ?_
          refine z_iload C 2 dX4_giveTo_124 rfl ?_
          refine z_iast C hK (hDD _) 0 (g := (up (up (up u 44 (m) (((bn (fun q => X i q && sprd (L m) (u 3 8 * (u 20 i - T m)) q) 8 : Nat) : Int))) 45 (m) (u 20 (i))) 41 (8) (b2)) 44) 44 (WB_44 a c ((up (up (up u 44 (m) (((bn (fun q => X i q && sprd (L m) (u 3 8 * (u 20 i - T m)) q) 8 : Nat) : Int))) 45 (m) (u 20 (i))) 41 (8) (b2)))) rfl (by decide) (by omega) (WB_44_set a c ((up (up (up u 44 (m) (((bn (fun q => X i q && sprd (L m) (u 3 8 * (u 20 i - T m)) q) 8 : Nat) : Int))) 45 (m) (u 20 (i))) 41 (8) (b2))) m (u 44 (m))) dX4_giveTo_126 ?_
          refine z_aload_n C 4 dX4_giveTo_127 rfl ?_
          refine z_get C hK (v := .ref (a 45)) inX4_giveTo_X4 41 (WB_41 a c ((up (up (up (up u 44 (m) (((bn (fun q => X i q && sprd (L m) (u 3 8 * (u 20 i - T m)) q) 8 : Nat) : Int))) 45 (m) (u 20 (i))) 41 (8) (b2)) 44 (m) (u 44 (m))))) rfl 6 (by decide) (List.mem_of_getElem? (i := 2) rfl) rfl dX4_giveTo_128 ?_
          refine z_iload_n C 5 dX4_giveTo_131 rfl ?_
          refine z_iload C 1 dX4_giveTo_132 rfl ?_
          refine z_iast C hK (hDD _) 0 (g := (up (up (up (up u 44 (m) (((bn (fun q => X i q && sprd (L m) (u 3 8 * (u 20 i - T m)) q) 8 : Nat) : Int))) 45 (m) (u 20 (i))) 41 (8) (b2)) 44 (m) (u 44 (m))) 45) 45 (WB_45 a c ((up (up (up (up u 44 (m) (((bn (fun q => X i q && sprd (L m) (u 3 8 * (u 20 i - T m)) q) 8 : Nat) : Int))) 45 (m) (u 20 (i))) 41 (8) (b2)) 44 (m) (u 44 (m))))) rfl (by decide) (by omega) (WB_45_set a c ((up (up (up (up u 44 (m) (((bn (fun q => X i q && sprd (L m) (u 3 8 * (u 20 i - T m)) q) 8 : Nat) : Int))) 45 (m) (u 20 (i))) 41 (8) (b2)) 44 (m) (u 44 (m)))) m (u 45 (m))) dX4_giveTo_134 ?_
          refine z_ws (ws' := (WB a c (up u 41 (8) (b2)))) (congrArg (WB a c) (pl_rest u m _ _ _)) ?_
          exact kret 0 (up u 41 8 b2) _ _ (⟨b2, rfl, Bst_congr hB (fun t => ⟨fun q => ⟨hz, by first | (rw [if_pos (by omega)]; exact q) | (rw [if_neg (by omega)]; exact q)⟩, fun q => by have q2 := q.2; first | (rw [if_pos (show m = used by omega)] at q2; exact q2) | (rw [if_neg (show ¬ m = used by omega)] at q2; exact q2)⟩)⟩) dX4_giveTo_135
        · skip
          refine z_iload_n C 7 dX4_giveTo_109 rfl ?_
          refine z_iconst C dX4_giveTo_110 ?_
          refine z_iadd C dX4_giveTo_111 ?_
          refine z_goto C 116 dX4_giveTo_112 (by decide) ?_
          refine z_callV C hK hDD (c_X4_giveToMen_0 (zl x) (zG x) a c ((up (up u 44 (m) (((bn (fun q => X i q && sprd (L m) (u 3 8 * (u 20 i - T m)) q) 8 : Nat) : Int))) 45 (m) (u 20 (i)))) (i + 1) (used + 1) E X ((fun j => if j = m then lvs (u 20) (u 3 8) X L T i m used else L j)) ((fun j => if j = m then u 20 i else T j)) (show (i + 1) = (u 17 8) - 0 by omega) (show 0 ≤ (i + 1) by omega) (show 0 ≤ (used + 1) ∧ (used + 1) ≤ 3 by omega) (hQ) (show 0 ≤ (u 41 8) ∧ (u 41 8) ≤ 4 by omega) (hX) (hE) (pl_hL hL (by first | exact Or.inl (by omega) | exact Or.inr ⟨by omega, by omega⟩) (by first | exact lvs_new (by omega) | exact lvs_old (by omega))) (pl_hT (by omega) hmi.1 hQ.2.2.2 hT (by first | exact Or.inl (by omega) | exact Or.inr ⟨by omega, by omega⟩))) gX4_giveTo_X4_giveToMen rfl zy_X4_giveToMen 41 (WB_41 a c ((up (up u 44 (m) (((bn (fun q => X i q && sprd (L m) (u 3 8 * (u 20 i - T m)) q) 8 : Nat) : Int))) 45 (m) (u 20 (i))))) rfl ⟨by omega, by decide⟩ rfl (Nat.le_of_ble_eq_true rfl) (st := []) (stk2 := fun _ => []) rfl (fun _ => rfl) dX4_giveTo_116 (fun z19 u20 h21 => ?_)
          obtain ⟨b2, e1, hB⟩ := h21
          rw [e1]
          change Z x 0 0 (WB a c (up (up (up u 44 (m) (((bn (fun q => X i q && sprd (L m) (u 3 8 * (u 20 i - T m)) q) 8 : Nat) : Int))) 45 (m) (u 20 (i))) 41 (8) (b2))) _ _ _
          refine z_aload_n C 4 dX4_giveTo_119 rfl ?_
          refine z_get C hK (v := .ref (a 44)) inX4_giveTo_X4 41 (WB_41 a c ((up (up (up u 44 (m) (((bn (fun q => X i q && sprd (L m) (u 3 8 * (u 20 i - T m)) q) 8 : Nat) : Int))) 45 (m) (u 20 (i))) 41 (8) (b2)))) rfl 5 (by decide) (List.mem_of_getElem? (i := 1) rfl) rfl dX4_giveTo_120 ?_
          refine z_iload_n C 5 dX4_giveTo_123 rfl ?_
          refine z_iload C 2 dX4_giveTo_124 rfl ?_
          refine z_iast C hK (hDD _) 0 (g := (up (up (up u 44 (m) (((bn (fun q => X i q && sprd (L m) (u 3 8 * (u 20 i - T m)) q) 8 : Nat) : Int))) 45 (m) (u 20 (i))) 41 (8) (b2)) 44) 44 (WB_44 a c ((up (up (up u 44 (m) (((bn (fun q => X i q && sprd (L m) (u 3 8 * (u 20 i - T m)) q) 8 : Nat) : Int))) 45 (m) (u 20 (i))) 41 (8) (b2)))) rfl (by decide) (by omega) (WB_44_set a c ((up (up (up u 44 (m) (((bn (fun q => X i q && sprd (L m) (u 3 8 * (u 20 i - T m)) q) 8 : Nat) : Int))) 45 (m) (u 20 (i))) 41 (8) (b2))) m (u 44 (m))) dX4_giveTo_126 ?_
          refine z_aload_n C 4 dX4_giveTo_127 rfl ?_
          refine z_get C hK (v := .ref (a 45)) inX4_giveTo_X4 41 (WB_41 a c ((up (up (up (up u 44 (m) (((bn (fun q => X i q && sprd (L m) (u 3 8 * (u 20 i - T m)) q) 8 : Nat) : Int))) 45 (m) (u 20 (i))) 41 (8) (b2)) 44 (m) (u 44 (m))))) rfl 6 (by decide) (List.mem_of_getElem? (i := 2) rfl) rfl dX4_giveTo_128 ?_
          refine z_iload_n C 5 dX4_giveTo_131 rfl ?_
          refine z_iload C 1 dX4_giveTo_132 rfl ?_
          refine z_iast C hK (hDD _) 0 (g := (up (up (up (up u 44 (m) (((bn (fun q => X i q && sprd (L m) (u 3 8 * (u 20 i - T m)) q) 8 : Nat) : Int))) 45 (m) (u 20 (i))) 41 (8) (b2)) 44 (m) (u 44 (m))) 45) 45 (WB_45 a c ((up (up (up (up u 44 (m) (((bn (fun q => X i q && sprd (L m) (u 3 8 * (u 20 i - T m)) q) 8 : Nat) : Int))) 45 (m) (u 20 (i))) 41 (8) (b2)) 44 (m) (u 44 (m))))) rfl (by decide) (by omega) (WB_45_set a c ((up (up (up (up u 44 (m) (((bn (fun q => X i q && sprd (L m) (u 3 8 * (u 20 i - T m)) q) 8 : Nat) : Int))) 45 (m) (u 20 (i))) 41 (8) (b2)) 44 (m) (u 44 (m)))) m (u 45 (m))) dX4_giveTo_134 ?_
          refine z_ws (ws' := (WB a c (up u 41 (8) (b2)))) (congrArg (WB a c) (pl_rest u m _ _ _)) ?_
          exact kret 0 (up u 41 8 b2) _ _ (⟨b2, rfl, Bst_congr hB (fun t => ⟨fun q => ⟨hz, by first | (rw [if_pos (by omega)]; exact q) | (rw [if_neg (by omega)]; exact q)⟩, fun q => by have q2 := q.2; first | (rw [if_pos (show m = used by omega)] at q2; exact q2) | (rw [if_neg (show ¬ m = used by omega)] at q2; exact q2)⟩)⟩) dX4_giveTo_135
      · have hz : ¬ nz (lvs (u 20) (u 3 8) X L T i m used) := by first | exact nz_no (lvs_new (by omega)) h14 | exact nz_no (lvs_old (by omega)) h14
        exact kret 0 u _ _ (⟨u 41 8, (up_self u 41 8).symm, Bst_none hb.1 (fun t h => absurd h.1 hz)⟩) dX4_giveTo_76
  · skip
    refine z_iconst C dX4_giveTo_5 ?_
    refine z_goto C 10 dX4_giveTo_6 (by decide) ?_
    refine z_istore C [(4, .int (zI 1)), (0, .ref (a 41)), (1, .int (zI m)), (2, .int (zI i)), (3, .int (zI used))] dX4_giveTo_10 (by decide) rfl ?_
    refine z_aload_n C 1 dX4_giveTo_12 rfl ?_
    refine z_get C hK (v := .ref (a 44)) inX4_giveTo_X4 41 (WB_41 a c u) rfl 5 (by decide) (List.mem_of_getElem? (i := 1) rfl) rfl dX4_giveTo_13 ?_
    refine z_iload_n C 2 dX4_giveTo_16 rfl ?_
    refine z_iald C hK 0 (g := (u 44)) (i := m) 44 (WB_44 a c u) rfl (by decide) (by omega) dX4_giveTo_17 ?_
    refine z_as (b := u 44 (m)) rfl ?_
    refine z_istore C [(5, .int (zI (u 44 (m)))), (4, .int (zI 1)), (0, .ref (a 41)), (1, .int (zI m)), (2, .int (zI i)), (3, .int (zI used))] dX4_giveTo_18 (by decide) rfl ?_
    refine z_aload_n C 2 dX4_giveTo_20 rfl ?_
    refine z_get C hK (v := .ref (a 45)) inX4_giveTo_X4 41 (WB_41 a c u) rfl 6 (by decide) (List.mem_of_getElem? (i := 2) rfl) rfl dX4_giveTo_21 ?_
    refine z_iload_n C 3 dX4_giveTo_24 rfl ?_
    refine z_iald C hK 0 (g := (u 45)) (i := m) 45 (WB_45 a c u) rfl (by decide) (by omega) dX4_giveTo_25 ?_
    refine z_as (b := u 45 (m)) rfl ?_
    refine z_istore C [(6, .int (zI (u 45 (m)))), (5, .int (zI (u 44 (m)))), (4, .int (zI 1)), (0, .ref (a 41)), (1, .int (zI m)), (2, .int (zI i)), (3, .int (zI used))] dX4_giveTo_26 (by decide) rfl ?_
    refine z_aload_n C 3 dX4_giveTo_28 rfl ?_
    refine z_get C hK (v := .ref (a 42)) inX4_giveTo_X4 41 (WB_41 a c u) rfl 3 (by decide) (List.mem_of_getElem? (i := 3) rfl) rfl dX4_giveTo_29 ?_
    refine z_iload_n C 5 dX4_giveTo_32 rfl ?_
    refine z_iald C hK 0 (g := (u 42)) (i := i) 42 (WB_42 a c u) rfl (by decide) (by omega) dX4_giveTo_33 ?_
    refine z_as (b := u 42 (i)) rfl ?_
    refine z_as (b := ((bn (X i) 8 : Nat) : Int)) (hX i (by omega) (by omega)) ?_
    refine z_istore C [(7, .int (zI (((bn (X i) 8 : Nat) : Int)))), (6, .int (zI (u 45 (m)))), (5, .int (zI (u 44 (m)))), (4, .int (zI 1)), (0, .ref (a 41)), (1, .int (zI m)), (2, .int (zI i)), (3, .int (zI used))] dX4_giveTo_34 (by decide) rfl ?_
    refine z_iload C 3 dX4_giveTo_36 rfl ?_
    refine z_if_ne C 71 dX4_giveTo_38 (by decide) (by omega) (fun h22 => ?_) (fun h22 => ?_)
    · skip
      refine z_iload C 0 dX4_giveTo_71 rfl ?_
      refine z_if_ne C 77 dX4_giveTo_73 (by decide) (by have h1 := bn_8 (X i) (n := 8) (by omega); have h2 := bn_8 (fun q => X i q && sprd (L m) (u 3 8 * (u 20 i - T m)) q) (n := 8) (by omega); omega) (fun h23 => ?_) (fun h23 => ?_)
      · have hz : nz (lvs (u 20) (u 3 8) X L T i m used) := by first | exact nz_yes (lvs_new (by omega)) h23 | exact nz_yes (lvs_old (by omega)) h23
        refine z_aload_n C 4 dX4_giveTo_77 rfl ?_
        refine z_get C hK (v := .ref (a 44)) inX4_giveTo_X4 41 (WB_41 a c u) rfl 5 (by decide) (List.mem_of_getElem? (i := 1) rfl) rfl dX4_giveTo_78 ?_
        refine z_iload_n C 5 dX4_giveTo_81 rfl ?_
        refine z_iload C 0 dX4_giveTo_82 rfl ?_
        refine z_iast C hK (hDD _) 0 (g := u 44) 44 (WB_44 a c u) rfl (by decide) (by omega) (WB_44_set a c u m (((bn (X i) 8 : Nat) : Int))) dX4_giveTo_84 ?_
        refine z_aload_n C 4 dX4_giveTo_85 rfl ?_
        refine z_get C hK (v := .ref (a 45)) inX4_giveTo_X4 41 (WB_41 a c ((up u 44 (m) (((bn (X i) 8 : Nat) : Int))))) rfl 6 (by decide) (List.mem_of_getElem? (i := 2) rfl) rfl dX4_giveTo_86 ?_
        refine z_iload_n C 5 dX4_giveTo_89 rfl ?_
        refine z_aload_n C 4 dX4_giveTo_90 rfl ?_
        refine z_get C hK (v := .ref (a 17)) inX4_giveTo_X4 41 (WB_41 a c ((up u 44 (m) (((bn (X i) 8 : Nat) : Int))))) rfl 1 (by decide) (List.mem_of_getElem? (i := 5) rfl) rfl dX4_giveTo_91 ?_
        refine z_getN C hK (v := .ref (a 20)) inX4_giveTo_X2 17 (WB_17 a c ((up u 44 (m) (((bn (X i) 8 : Nat) : Int))))) rfl 2 (by decide) (List.mem_of_getElem? (i := 36) rfl) rfl dX4_giveTo_94 ?_
        refine z_iload_n C 6 dX4_giveTo_97 rfl ?_
        refine z_iald C hK 0 (g := (u 20)) (i := i) 20 (WB_20 a c ((up u 44 (m) (((bn (X i) 8 : Nat) : Int))))) rfl (by decide) (by omega) dX4_giveTo_98 ?_
        refine z_as (b := u 20 (i)) rfl ?_
        refine z_iast C hK (hDD _) 0 (g := (up u 44 (m) (((bn (X i) 8 : Nat) : Int))) 45) 45 (WB_45 a c ((up u 44 (m) (((bn (X i) 8 : Nat) : Int))))) rfl (by decide) (by omega) (WB_45_set a c ((up u 44 (m) (((bn (X i) 8 : Nat) : Int)))) m (u 20 (i))) dX4_giveTo_99 ?_
        refine z_aload_n C 4 dX4_giveTo_100 rfl ?_
        refine z_iload_n C 6 dX4_giveTo_101 rfl ?_
        refine z_iconst C dX4_giveTo_102 ?_
        refine z_iadd C dX4_giveTo_103 ?_
        refine z_iload C 3 dX4_giveTo_104 rfl ?_
        refine z_if_eq C 115 dX4_giveTo_106 (by decide) (by omega) (fun h24 => ?_) (fun h24 => ?_)
        · skip
          refine z_iload_n C 7 dX4_giveTo_115 rfl ?_
          refine z_callV C hK hDD (c_X4_giveToMen_0 (zl x) (zG x) a c ((up (up u 44 (m) (((bn (X i) 8 : Nat) : Int))) 45 (m) (u 20 (i)))) (i + 1) used E X ((fun j => if j = m then lvs (u 20) (u 3 8) X L T i m used else L j)) ((fun j => if j = m then u 20 i else T j)) (show (i + 1) = (u 17 8) - 0 by omega) (show 0 ≤ (i + 1) by omega) (show 0 ≤ used ∧ used ≤ 3 by omega) (hQ) (show 0 ≤ (u 41 8) ∧ (u 41 8) ≤ 4 by omega) (hX) (hE) (pl_hL hL (by first | exact Or.inl (by omega) | exact Or.inr ⟨by omega, by omega⟩) (by first | exact lvs_new (by omega) | exact lvs_old (by omega))) (pl_hT (by omega) hmi.1 hQ.2.2.2 hT (by first | exact Or.inl (by omega) | exact Or.inr ⟨by omega, by omega⟩))) gX4_giveTo_X4_giveToMen rfl zy_X4_giveToMen 41 (WB_41 a c ((up (up u 44 (m) (((bn (X i) 8 : Nat) : Int))) 45 (m) (u 20 (i))))) rfl ⟨by omega, by decide⟩ rfl (Nat.le_of_ble_eq_true rfl) (st := []) (stk2 := fun _ => []) rfl (fun _ => rfl) dX4_giveTo_116 (fun z25 u26 h27 => ?_)
          obtain ⟨b2, e1, hB⟩ := h27
          rw [e1]
          change Z x 0 0 (WB a c (up (up (up u 44 (m) (((bn (X i) 8 : Nat) : Int))) 45 (m) (u 20 (i))) 41 (8) (b2))) _ _ _
          refine z_aload_n C 4 dX4_giveTo_119 rfl ?_
          refine z_get C hK (v := .ref (a 44)) inX4_giveTo_X4 41 (WB_41 a c ((up (up (up u 44 (m) (((bn (X i) 8 : Nat) : Int))) 45 (m) (u 20 (i))) 41 (8) (b2)))) rfl 5 (by decide) (List.mem_of_getElem? (i := 1) rfl) rfl dX4_giveTo_120 ?_
          refine z_iload_n C 5 dX4_giveTo_123 rfl ?_
          refine z_iload C 2 dX4_giveTo_124 rfl ?_
          refine z_iast C hK (hDD _) 0 (g := (up (up (up u 44 (m) (((bn (X i) 8 : Nat) : Int))) 45 (m) (u 20 (i))) 41 (8) (b2)) 44) 44 (WB_44 a c ((up (up (up u 44 (m) (((bn (X i) 8 : Nat) : Int))) 45 (m) (u 20 (i))) 41 (8) (b2)))) rfl (by decide) (by omega) (WB_44_set a c ((up (up (up u 44 (m) (((bn (X i) 8 : Nat) : Int))) 45 (m) (u 20 (i))) 41 (8) (b2))) m (u 44 (m))) dX4_giveTo_126 ?_
          refine z_aload_n C 4 dX4_giveTo_127 rfl ?_
          refine z_get C hK (v := .ref (a 45)) inX4_giveTo_X4 41 (WB_41 a c ((up (up (up (up u 44 (m) (((bn (X i) 8 : Nat) : Int))) 45 (m) (u 20 (i))) 41 (8) (b2)) 44 (m) (u 44 (m))))) rfl 6 (by decide) (List.mem_of_getElem? (i := 2) rfl) rfl dX4_giveTo_128 ?_
          refine z_iload_n C 5 dX4_giveTo_131 rfl ?_
          refine z_iload C 1 dX4_giveTo_132 rfl ?_
          refine z_iast C hK (hDD _) 0 (g := (up (up (up (up u 44 (m) (((bn (X i) 8 : Nat) : Int))) 45 (m) (u 20 (i))) 41 (8) (b2)) 44 (m) (u 44 (m))) 45) 45 (WB_45 a c ((up (up (up (up u 44 (m) (((bn (X i) 8 : Nat) : Int))) 45 (m) (u 20 (i))) 41 (8) (b2)) 44 (m) (u 44 (m))))) rfl (by decide) (by omega) (WB_45_set a c ((up (up (up (up u 44 (m) (((bn (X i) 8 : Nat) : Int))) 45 (m) (u 20 (i))) 41 (8) (b2)) 44 (m) (u 44 (m)))) m (u 45 (m))) dX4_giveTo_134 ?_
          refine z_ws (ws' := (WB a c (up u 41 (8) (b2)))) (congrArg (WB a c) (pl_rest u m _ _ _)) ?_
          exact kret 0 (up u 41 8 b2) _ _ (⟨b2, rfl, Bst_congr hB (fun t => ⟨fun q => ⟨hz, by first | (rw [if_pos (by omega)]; exact q) | (rw [if_neg (by omega)]; exact q)⟩, fun q => by have q2 := q.2; first | (rw [if_pos (show m = used by omega)] at q2; exact q2) | (rw [if_neg (show ¬ m = used by omega)] at q2; exact q2)⟩)⟩) dX4_giveTo_135
        · skip
          refine z_iload_n C 7 dX4_giveTo_109 rfl ?_
          refine z_iconst C dX4_giveTo_110 ?_
          refine z_iadd C dX4_giveTo_111 ?_
          refine z_goto C 116 dX4_giveTo_112 (by decide) ?_
          refine z_callV C hK hDD (c_X4_giveToMen_0 (zl x) (zG x) a c ((up (up u 44 (m) (((bn (X i) 8 : Nat) : Int))) 45 (m) (u 20 (i)))) (i + 1) (used + 1) E X ((fun j => if j = m then lvs (u 20) (u 3 8) X L T i m used else L j)) ((fun j => if j = m then u 20 i else T j)) (show (i + 1) = (u 17 8) - 0 by omega) (show 0 ≤ (i + 1) by omega) (show 0 ≤ (used + 1) ∧ (used + 1) ≤ 3 by omega) (hQ) (show 0 ≤ (u 41 8) ∧ (u 41 8) ≤ 4 by omega) (hX) (hE) (pl_hL hL (by first | exact Or.inl (by omega) | exact Or.inr ⟨by omega, by omega⟩) (by first | exact lvs_new (by omega) | exact lvs_old (by omega))) (pl_hT (by omega) hmi.1 hQ.2.2.2 hT (by first | exact Or.inl (by omega) | exact Or.inr ⟨by omega, by omega⟩))) gX4_giveTo_X4_giveToMen rfl zy_X4_giveToMen 41 (WB_41 a c ((up (up u 44 (m) (((bn (X i) 8 : Nat) : Int))) 45 (m) (u 20 (i))))) rfl ⟨by omega, by decide⟩ rfl (Nat.le_of_ble_eq_true rfl) (st := []) (stk2 := fun _ => []) rfl (fun _ => rfl) dX4_giveTo_116 (fun z28 u29 h30 => ?_)
          obtain ⟨b2, e1, hB⟩ := h30
          rw [e1]
          change Z x 0 0 (WB a c (up (up (up u 44 (m) (((bn (X i) 8 : Nat) : Int))) 45 (m) (u 20 (i))) 41 (8) (b2))) _ _ _
          refine z_aload_n C 4 dX4_giveTo_119 rfl ?_
          refine z_get C hK (v := .ref (a 44)) inX4_giveTo_X4 41 (WB_41 a c ((up (up (up u 44 (m) (((bn (X i) 8 : Nat) : Int))) 45 (m) (u 20 (i))) 41 (8) (b2)))) rfl 5 (by decide) (List.mem_of_getElem? (i := 1) rfl) rfl dX4_giveTo_120 ?_
          refine z_iload_n C 5 dX4_giveTo_123 rfl ?_
          refine z_iload C 2 dX4_giveTo_124 rfl ?_
          refine z_iast C hK (hDD _) 0 (g := (up (up (up u 44 (m) (((bn (X i) 8 : Nat) : Int))) 45 (m) (u 20 (i))) 41 (8) (b2)) 44) 44 (WB_44 a c ((up (up (up u 44 (m) (((bn (X i) 8 : Nat) : Int))) 45 (m) (u 20 (i))) 41 (8) (b2)))) rfl (by decide) (by omega) (WB_44_set a c ((up (up (up u 44 (m) (((bn (X i) 8 : Nat) : Int))) 45 (m) (u 20 (i))) 41 (8) (b2))) m (u 44 (m))) dX4_giveTo_126 ?_
          refine z_aload_n C 4 dX4_giveTo_127 rfl ?_
          refine z_get C hK (v := .ref (a 45)) inX4_giveTo_X4 41 (WB_41 a c ((up (up (up (up u 44 (m) (((bn (X i) 8 : Nat) : Int))) 45 (m) (u 20 (i))) 41 (8) (b2)) 44 (m) (u 44 (m))))) rfl 6 (by decide) (List.mem_of_getElem? (i := 2) rfl) rfl dX4_giveTo_128 ?_
          refine z_iload_n C 5 dX4_giveTo_131 rfl ?_
          refine z_iload C 1 dX4_giveTo_132 rfl ?_
          refine z_iast C hK (hDD _) 0 (g := (up (up (up (up u 44 (m) (((bn (X i) 8 : Nat) : Int))) 45 (m) (u 20 (i))) 41 (8) (b2)) 44 (m) (u 44 (m))) 45) 45 (WB_45 a c ((up (up (up (up u 44 (m) (((bn (X i) 8 : Nat) : Int))) 45 (m) (u 20 (i))) 41 (8) (b2)) 44 (m) (u 44 (m))))) rfl (by decide) (by omega) (WB_45_set a c ((up (up (up (up u 44 (m) (((bn (X i) 8 : Nat) : Int))) 45 (m) (u 20 (i))) 41 (8) (b2)) 44 (m) (u 44 (m)))) m (u 45 (m))) dX4_giveTo_134 ?_
          refine z_ws (ws' := (WB a c (up u 41 (8) (b2)))) (congrArg (WB a c) (pl_rest u m _ _ _)) ?_
          exact kret 0 (up u 41 8 b2) _ _ (⟨b2, rfl, Bst_congr hB (fun t => ⟨fun q => ⟨hz, by first | (rw [if_pos (by omega)]; exact q) | (rw [if_neg (by omega)]; exact q)⟩, fun q => by have q2 := q.2; first | (rw [if_pos (show m = used by omega)] at q2; exact q2) | (rw [if_neg (show ¬ m = used by omega)] at q2; exact q2)⟩)⟩) dX4_giveTo_135
      · have hz : ¬ nz (lvs (u 20) (u 3 8) X L T i m used) := by first | exact nz_no (lvs_new (by omega)) h23 | exact nz_no (lvs_old (by omega)) h23
        exact kret 0 u _ _ (⟨u 41 8, (up_self u 41 8).symm, Bst_none hb.1 (fun t h => absurd h.1 hz)⟩) dX4_giveTo_76
    · skip
      refine z_iload C 0 dX4_giveTo_41 rfl ?_
      refine z_iload C 2 dX4_giveTo_43 rfl ?_
      refine z_as (b := ((bn (L m) 8 : Nat) : Int)) (hL m (by omega) (by omega)) ?_
      refine z_aload_n C 4 dX4_giveTo_45 rfl ?_
      refine z_get C hK (v := .ref (a 3)) inX4_giveTo_X4 41 (WB_41 a c u) rfl 0 (by decide) (List.mem_of_getElem? (i := 4) rfl) rfl dX4_giveTo_46 ?_
      refine z_getN C hK (v := .int (zI (u 3 8))) inX4_giveTo_X8 3 (WB_3 a c u) rfl 8 (by decide) (List.mem_of_getElem? (i := 37) rfl) rfl dX4_giveTo_49 ?_
      refine z_aload_n C 4 dX4_giveTo_52 rfl ?_
      refine z_get C hK (v := .ref (a 17)) inX4_giveTo_X4 41 (WB_41 a c u) rfl 1 (by decide) (List.mem_of_getElem? (i := 5) rfl) rfl dX4_giveTo_53 ?_
      refine z_getN C hK (v := .ref (a 20)) inX4_giveTo_X2 17 (WB_17 a c u) rfl 2 (by decide) (List.mem_of_getElem? (i := 36) rfl) rfl dX4_giveTo_56 ?_
      refine z_iload_n C 6 dX4_giveTo_59 rfl ?_
      refine z_iald C hK 0 (g := (u 20)) (i := i) 20 (WB_20 a c u) rfl (by decide) (by omega) dX4_giveTo_60 ?_
      refine z_as (b := u 20 (i)) rfl ?_
      have hTm := hT m (by omega) (by omega)
      have hTi := hTm.2.2 i (Int.le_refl _) (by omega)
      have hsp := pl_pc (d := u 20 i - T m) hq2 (by omega)
      refine z_iload C 1 dX4_giveTo_61 rfl ?_
      refine z_as (b := T m) ((hT m (by omega) (by omega)).1) ?_
      refine z_isub C dX4_giveTo_63 ?_
      refine z_imul C dX4_giveTo_64 ?_
      refine z_callSN C hK hDD (c_X10_spread (zl x) (zG x) ((WB a c)) (WB_addr a c) u ((L m)) ((u 3 8) * ((u 20 (i)) - (T m))) (by omega)) ggX4_giveTo_X10_spread (List.mem_of_getElem? (i := 32) rfl) (List.mem_of_getElem? (i := 7) rfl) (List.mem_of_getElem? (i := 6) rfl) rfl zy_X10_spread ⟨by omega, by decide⟩ rfl (Nat.le_of_ble_eq_true rfl) (st := [.int (zI (((bn (X i) 8 : Nat) : Int)))]) (stk2 := fun z31 => [.int (zI z31), .int (zI (((bn (X i) 8 : Nat) : Int)))]) rfl (fun _ => rfl) dX4_giveTo_65 (fun z31 u32 h33 => ?_)
      rw [h33.1]; replace h33 := h33.2
      refine z_as (b := ((bn (sprd ((L m)) ((u 3 8) * ((u 20 (i)) - (T m)))) 8 : Nat) : Int)) h33 ?_
      refine z_iand C (((bn (fun q => X i q && sprd (L m) (u 3 8 * (u 20 i - T m)) q) 8 : Nat) : Int)) dX4_giveTo_68 (by rw [zI_and, bn_and]) ?_
      refine z_istore C [(7, .int (zI (((bn (fun q => X i q && sprd (L m) (u 3 8 * (u 20 i - T m)) q) 8 : Nat) : Int)))), (6, .int (zI (u 45 (m)))), (5, .int (zI (u 44 (m)))), (4, .int (zI 1)), (0, .ref (a 41)), (1, .int (zI m)), (2, .int (zI i)), (3, .int (zI used))] dX4_giveTo_69 (by decide) rfl ?_
      refine z_iload C 0 dX4_giveTo_71 rfl ?_
      refine z_if_ne C 77 dX4_giveTo_73 (by decide) (by have h1 := bn_8 (X i) (n := 8) (by omega); have h2 := bn_8 (fun q => X i q && sprd (L m) (u 3 8 * (u 20 i - T m)) q) (n := 8) (by omega); omega) (fun h34 => ?_) (fun h34 => ?_)
      · have hz : nz (lvs (u 20) (u 3 8) X L T i m used) := by first | exact nz_yes (lvs_new (by omega)) h34 | exact nz_yes (lvs_old (by omega)) h34
        refine z_aload_n C 4 dX4_giveTo_77 rfl ?_
        refine z_get C hK (v := .ref (a 44)) inX4_giveTo_X4 41 (WB_41 a c u) rfl 5 (by decide) (List.mem_of_getElem? (i := 1) rfl) rfl dX4_giveTo_78 ?_
        refine z_iload_n C 5 dX4_giveTo_81 rfl ?_
        refine z_iload C 0 dX4_giveTo_82 rfl ?_
        refine z_iast C hK (hDD _) 0 (g := u 44) 44 (WB_44 a c u) rfl (by decide) (by omega) (WB_44_set a c u m (((bn (fun q => X i q && sprd (L m) (u 3 8 * (u 20 i - T m)) q) 8 : Nat) : Int))) dX4_giveTo_84 ?_
        refine z_aload_n C 4 dX4_giveTo_85 rfl ?_
        refine z_get C hK (v := .ref (a 45)) inX4_giveTo_X4 41 (WB_41 a c ((up u 44 (m) (((bn (fun q => X i q && sprd (L m) (u 3 8 * (u 20 i - T m)) q) 8 : Nat) : Int))))) rfl 6 (by decide) (List.mem_of_getElem? (i := 2) rfl) rfl dX4_giveTo_86 ?_
        refine z_iload_n C 5 dX4_giveTo_89 rfl ?_
        refine z_aload_n C 4 dX4_giveTo_90 rfl ?_
        refine z_get C hK (v := .ref (a 17)) inX4_giveTo_X4 41 (WB_41 a c ((up u 44 (m) (((bn (fun q => X i q && sprd (L m) (u 3 8 * (u 20 i - T m)) q) 8 : Nat) : Int))))) rfl 1 (by decide) (List.mem_of_getElem? (i := 5) rfl) rfl dX4_giveTo_91 ?_
        refine z_getN C hK (v := .ref (a 20)) inX4_giveTo_X2 17 (WB_17 a c ((up u 44 (m) (((bn (fun q => X i q && sprd (L m) (u 3 8 * (u 20 i - T m)) q) 8 : Nat) : Int))))) rfl 2 (by decide) (List.mem_of_getElem? (i := 36) rfl) rfl dX4_giveTo_94 ?_
        refine z_iload_n C 6 dX4_giveTo_97 rfl ?_
        refine z_iald C hK 0 (g := (u 20)) (i := i) 20 (WB_20 a c ((up u 44 (m) (((bn (fun q => X i q && sprd (L m) (u 3 8 * (u 20 i - T m)) q) 8 : Nat) : Int))))) rfl (by decide) (by omega) dX4_giveTo_98 ?_
        refine z_as (b := u 20 (i)) rfl ?_
        refine z_iast C hK (hDD _) 0 (g := (up u 44 (m) (((bn (fun q => X i q && sprd (L m) (u 3 8 * (u 20 i - T m)) q) 8 : Nat) : Int))) 45) 45 (WB_45 a c ((up u 44 (m) (((bn (fun q => X i q && sprd (L m) (u 3 8 * (u 20 i - T m)) q) 8 : Nat) : Int))))) rfl (by decide) (by omega) (WB_45_set a c ((up u 44 (m) (((bn (fun q => X i q && sprd (L m) (u 3 8 * (u 20 i - T m)) q) 8 : Nat) : Int)))) m (u 20 (i))) dX4_giveTo_99 ?_
        refine z_aload_n C 4 dX4_giveTo_100 rfl ?_
        refine z_iload_n C 6 dX4_giveTo_101 rfl ?_
        refine z_iconst C dX4_giveTo_102 ?_
        refine z_iadd C dX4_giveTo_103 ?_
        refine z_iload C 3 dX4_giveTo_104 rfl ?_
        refine z_if_eq C 115 dX4_giveTo_106 (by decide) (by omega) (fun h35 => ?_) (fun h35 => ?_)
        · skip
          refine z_iload_n C 7 dX4_giveTo_115 rfl ?_
          refine z_callV C hK hDD (c_X4_giveToMen_0 (zl x) (zG x) a c ((up (up u 44 (m) (((bn (fun q => X i q && sprd (L m) (u 3 8 * (u 20 i - T m)) q) 8 : Nat) : Int))) 45 (m) (u 20 (i)))) (i + 1) used E X ((fun j => if j = m then lvs (u 20) (u 3 8) X L T i m used else L j)) ((fun j => if j = m then u 20 i else T j)) (show (i + 1) = (u 17 8) - 0 by omega) (show 0 ≤ (i + 1) by omega) (show 0 ≤ used ∧ used ≤ 3 by omega) (hQ) (show 0 ≤ (u 41 8) ∧ (u 41 8) ≤ 4 by omega) (hX) (hE) (pl_hL hL (by first | exact Or.inl (by omega) | exact Or.inr ⟨by omega, by omega⟩) (by first | exact lvs_new (by omega) | exact lvs_old (by omega))) (pl_hT (by omega) hmi.1 hQ.2.2.2 hT (by first | exact Or.inl (by omega) | exact Or.inr ⟨by omega, by omega⟩))) gX4_giveTo_X4_giveToMen rfl zy_X4_giveToMen 41 (WB_41 a c ((up (up u 44 (m) (((bn (fun q => X i q && sprd (L m) (u 3 8 * (u 20 i - T m)) q) 8 : Nat) : Int))) 45 (m) (u 20 (i))))) rfl ⟨by omega, by decide⟩ rfl (Nat.le_of_ble_eq_true rfl) (st := []) (stk2 := fun _ => []) rfl (fun _ => rfl) dX4_giveTo_116 (fun z36 u37 h38 => ?_)
          obtain ⟨b2, e1, hB⟩ := h38
          rw [e1]
          change Z x 0 0 (WB a c (up (up (up u 44 (m) (((bn (fun q => X i q && sprd (L m) (u 3 8 * (u 20 i - T m)) q) 8 : Nat) : Int))) 45 (m) (u 20 (i))) 41 (8) (b2))) _ _ _
          refine z_aload_n C 4 dX4_giveTo_119 rfl ?_
          refine z_get C hK (v := .ref (a 44)) inX4_giveTo_X4 41 (WB_41 a c ((up (up (up u 44 (m) (((bn (fun q => X i q && sprd (L m) (u 3 8 * (u 20 i - T m)) q) 8 : Nat) : Int))) 45 (m) (u 20 (i))) 41 (8) (b2)))) rfl 5 (by decide) (List.mem_of_getElem? (i := 1) rfl) rfl dX4_giveTo_120 ?_
          refine z_iload_n C 5 dX4_giveTo_123 rfl ?_
          refine z_iload C 2 dX4_giveTo_124 rfl ?_
          refine z_iast C hK (hDD _) 0 (g := (up (up (up u 44 (m) (((bn (fun q => X i q && sprd (L m) (u 3 8 * (u 20 i - T m)) q) 8 : Nat) : Int))) 45 (m) (u 20 (i))) 41 (8) (b2)) 44) 44 (WB_44 a c ((up (up (up u 44 (m) (((bn (fun q => X i q && sprd (L m) (u 3 8 * (u 20 i - T m)) q) 8 : Nat) : Int))) 45 (m) (u 20 (i))) 41 (8) (b2)))) rfl (by decide) (by omega) (WB_44_set a c ((up (up (up u 44 (m) (((bn (fun q => X i q && sprd (L m) (u 3 8 * (u 20 i - T m)) q) 8 : Nat) : Int))) 45 (m) (u 20 (i))) 41 (8) (b2))) m (u 44 (m))) dX4_giveTo_126 ?_
          refine z_aload_n C 4 dX4_giveTo_127 rfl ?_
          refine z_get C hK (v := .ref (a 45)) inX4_giveTo_X4 41 (WB_41 a c ((up (up (up (up u 44 (m) (((bn (fun q => X i q && sprd (L m) (u 3 8 * (u 20 i - T m)) q) 8 : Nat) : Int))) 45 (m) (u 20 (i))) 41 (8) (b2)) 44 (m) (u 44 (m))))) rfl 6 (by decide) (List.mem_of_getElem? (i := 2) rfl) rfl dX4_giveTo_128 ?_
          refine z_iload_n C 5 dX4_giveTo_131 rfl ?_
          refine z_iload C 1 dX4_giveTo_132 rfl ?_
          refine z_iast C hK (hDD _) 0 (g := (up (up (up (up u 44 (m) (((bn (fun q => X i q && sprd (L m) (u 3 8 * (u 20 i - T m)) q) 8 : Nat) : Int))) 45 (m) (u 20 (i))) 41 (8) (b2)) 44 (m) (u 44 (m))) 45) 45 (WB_45 a c ((up (up (up (up u 44 (m) (((bn (fun q => X i q && sprd (L m) (u 3 8 * (u 20 i - T m)) q) 8 : Nat) : Int))) 45 (m) (u 20 (i))) 41 (8) (b2)) 44 (m) (u 44 (m))))) rfl (by decide) (by omega) (WB_45_set a c ((up (up (up (up u 44 (m) (((bn (fun q => X i q && sprd (L m) (u 3 8 * (u 20 i - T m)) q) 8 : Nat) : Int))) 45 (m) (u 20 (i))) 41 (8) (b2)) 44 (m) (u 44 (m)))) m (u 45 (m))) dX4_giveTo_134 ?_
          refine z_ws (ws' := (WB a c (up u 41 (8) (b2)))) (congrArg (WB a c) (pl_rest u m _ _ _)) ?_
          exact kret 0 (up u 41 8 b2) _ _ (⟨b2, rfl, Bst_congr hB (fun t => ⟨fun q => ⟨hz, by first | (rw [if_pos (by omega)]; exact q) | (rw [if_neg (by omega)]; exact q)⟩, fun q => by have q2 := q.2; first | (rw [if_pos (show m = used by omega)] at q2; exact q2) | (rw [if_neg (show ¬ m = used by omega)] at q2; exact q2)⟩)⟩) dX4_giveTo_135
        · skip
          refine z_iload_n C 7 dX4_giveTo_109 rfl ?_
          refine z_iconst C dX4_giveTo_110 ?_
          refine z_iadd C dX4_giveTo_111 ?_
          refine z_goto C 116 dX4_giveTo_112 (by decide) ?_
          refine z_callV C hK hDD (c_X4_giveToMen_0 (zl x) (zG x) a c ((up (up u 44 (m) (((bn (fun q => X i q && sprd (L m) (u 3 8 * (u 20 i - T m)) q) 8 : Nat) : Int))) 45 (m) (u 20 (i)))) (i + 1) (used + 1) E X ((fun j => if j = m then lvs (u 20) (u 3 8) X L T i m used else L j)) ((fun j => if j = m then u 20 i else T j)) (show (i + 1) = (u 17 8) - 0 by omega) (show 0 ≤ (i + 1) by omega) (show 0 ≤ (used + 1) ∧ (used + 1) ≤ 3 by omega) (hQ) (show 0 ≤ (u 41 8) ∧ (u 41 8) ≤ 4 by omega) (hX) (hE) (pl_hL hL (by first | exact Or.inl (by omega) | exact Or.inr ⟨by omega, by omega⟩) (by first | exact lvs_new (by omega) | exact lvs_old (by omega))) (pl_hT (by omega) hmi.1 hQ.2.2.2 hT (by first | exact Or.inl (by omega) | exact Or.inr ⟨by omega, by omega⟩))) gX4_giveTo_X4_giveToMen rfl zy_X4_giveToMen 41 (WB_41 a c ((up (up u 44 (m) (((bn (fun q => X i q && sprd (L m) (u 3 8 * (u 20 i - T m)) q) 8 : Nat) : Int))) 45 (m) (u 20 (i))))) rfl ⟨by omega, by decide⟩ rfl (Nat.le_of_ble_eq_true rfl) (st := []) (stk2 := fun _ => []) rfl (fun _ => rfl) dX4_giveTo_116 (fun z39 u40 h41 => ?_)
          obtain ⟨b2, e1, hB⟩ := h41
          rw [e1]
          change Z x 0 0 (WB a c (up (up (up u 44 (m) (((bn (fun q => X i q && sprd (L m) (u 3 8 * (u 20 i - T m)) q) 8 : Nat) : Int))) 45 (m) (u 20 (i))) 41 (8) (b2))) _ _ _
          refine z_aload_n C 4 dX4_giveTo_119 rfl ?_
          refine z_get C hK (v := .ref (a 44)) inX4_giveTo_X4 41 (WB_41 a c ((up (up (up u 44 (m) (((bn (fun q => X i q && sprd (L m) (u 3 8 * (u 20 i - T m)) q) 8 : Nat) : Int))) 45 (m) (u 20 (i))) 41 (8) (b2)))) rfl 5 (by decide) (List.mem_of_getElem? (i := 1) rfl) rfl dX4_giveTo_120 ?_
          refine z_iload_n C 5 dX4_giveTo_123 rfl ?_
          refine z_iload C 2 dX4_giveTo_124 rfl ?_
          refine z_iast C hK (hDD _) 0 (g := (up (up (up u 44 (m) (((bn (fun q => X i q && sprd (L m) (u 3 8 * (u 20 i - T m)) q) 8 : Nat) : Int))) 45 (m) (u 20 (i))) 41 (8) (b2)) 44) 44 (WB_44 a c ((up (up (up u 44 (m) (((bn (fun q => X i q && sprd (L m) (u 3 8 * (u 20 i - T m)) q) 8 : Nat) : Int))) 45 (m) (u 20 (i))) 41 (8) (b2)))) rfl (by decide) (by omega) (WB_44_set a c ((up (up (up u 44 (m) (((bn (fun q => X i q && sprd (L m) (u 3 8 * (u 20 i - T m)) q) 8 : Nat) : Int))) 45 (m) (u 20 (i))) 41 (8) (b2))) m (u 44 (m))) dX4_giveTo_126 ?_
          refine z_aload_n C 4 dX4_giveTo_127 rfl ?_
          refine z_get C hK (v := .ref (a 45)) inX4_giveTo_X4 41 (WB_41 a c ((up (up (up (up u 44 (m) (((bn (fun q => X i q && sprd (L m) (u 3 8 * (u 20 i - T m)) q) 8 : Nat) : Int))) 45 (m) (u 20 (i))) 41 (8) (b2)) 44 (m) (u 44 (m))))) rfl 6 (by decide) (List.mem_of_getElem? (i := 2) rfl) rfl dX4_giveTo_128 ?_
          refine z_iload_n C 5 dX4_giveTo_131 rfl ?_
          refine z_iload C 1 dX4_giveTo_132 rfl ?_
          refine z_iast C hK (hDD _) 0 (g := (up (up (up (up u 44 (m) (((bn (fun q => X i q && sprd (L m) (u 3 8 * (u 20 i - T m)) q) 8 : Nat) : Int))) 45 (m) (u 20 (i))) 41 (8) (b2)) 44 (m) (u 44 (m))) 45) 45 (WB_45 a c ((up (up (up (up u 44 (m) (((bn (fun q => X i q && sprd (L m) (u 3 8 * (u 20 i - T m)) q) 8 : Nat) : Int))) 45 (m) (u 20 (i))) 41 (8) (b2)) 44 (m) (u 44 (m))))) rfl (by decide) (by omega) (WB_45_set a c ((up (up (up (up u 44 (m) (((bn (fun q => X i q && sprd (L m) (u 3 8 * (u 20 i - T m)) q) 8 : Nat) : Int))) 45 (m) (u 20 (i))) 41 (8) (b2)) 44 (m) (u 44 (m)))) m (u 45 (m))) dX4_giveTo_134 ?_
          refine z_ws (ws' := (WB a c (up u 41 (8) (b2)))) (congrArg (WB a c) (pl_rest u m _ _ _)) ?_
          exact kret 0 (up u 41 8 b2) _ _ (⟨b2, rfl, Bst_congr hB (fun t => ⟨fun q => ⟨hz, by first | (rw [if_pos (by omega)]; exact q) | (rw [if_neg (by omega)]; exact q)⟩, fun q => by have q2 := q.2; first | (rw [if_pos (show m = used by omega)] at q2; exact q2) | (rw [if_neg (show ¬ m = used by omega)] at q2; exact q2)⟩)⟩) dX4_giveTo_135
      · have hz : ¬ nz (lvs (u 20) (u 3 8) X L T i m used) := by first | exact nz_no (lvs_new (by omega)) h34 | exact nz_no (lvs_old (by omega)) h34
        exact kret 0 u _ _ (⟨u 41 8, (up_self u 41 8).symm, Bst_none hb.1 (fun t h => absurd h.1 hz)⟩) dX4_giveTo_76
-- NoteBells$Pluckers.giveToMen
set_option maxHeartbeats 8000000 in
set_option maxRecDepth 100000 in
theorem c_X4_giveToMen_1 (l : Launch) (D : va_G) (a : Nat → Nat) (c : Nat → ClassId) (u : zU) (i used : Int) (E : Int → Bool) (X L : Int → Nat → Bool) (T : Int → Int) (hi : i = u 17 8 - 1) (b_i : 0 ≤ i) (hu : 0 ≤ used ∧ used ≤ 3) (hQ : PQ (u 17 8) (u 3 8) (u 20)) (hb : 0 ≤ u 41 8 ∧ u 41 8 ≤ 4) (hX : ∀ k : Int, 0 ≤ k → k < u 17 8 → u 42 k = ((bn (X k) 8 : Nat) : Int)) (hE : ∀ k : Int, 0 ≤ k → k < u 17 8 → u 43 k = if E k = true then 1 else 0) (hL : ∀ j : Int, 0 ≤ j → j < used → u 44 j = ((bn (L j) 8 : Nat) : Int)) (hT : ∀ j : Int, 0 ≤ j → j < used → u 45 j = T j ∧ 0 ≤ T j ∧ ∀ k : Int, i ≤ k → k < u 17 8 → T j ≤ u 20 k) : ZM l D (zTy c) (WB a c) yX4_giveToMen wsX4_giveToMen 5 [.ref (a 41), .int (zI i), .int (zI used)] u rV (fun z u' => ∃ b' : Int, u' = up u 41 8 b' ∧ Bst (u 41 8) b' (fun t => Can (u 20) (u 3 8) (u 17 8) E X 1 L T used t)) := by
  refine ZM.ofV (cc := cX4_giveToMen) (maxL := 4) [(0, .ref (a 41)), (1, .int (zI i)), (2, .int (zI used))] rfl (by decide +kernel) rfl (Nat.le_of_ble_eq_true rfl) (WB_addr a c) ?_
  intro x C hK _ _ hDD kret
  have hq1 := hQ.1
  have hq2 := hQ.2.1
  refine z_iload_n C 2 dX4_giveToMen_0 rfl ?_
  refine z_aload_n C 0 dX4_giveToMen_1 rfl ?_
  refine z_get C hK (v := .int (zI (u 41 8))) inX4_giveToMen_X4 41 (WB_41 a c u) rfl 8 (by decide) (List.mem_of_getElem? (i := 1) rfl) rfl dX4_giveToMen_2 ?_
  refine z_icmp_lt C 9 dX4_giveToMen_5 (by decide) (by omega) (fun h1 => ?_) (fun h1 => ?_)
  · skip
    refine z_iload_n C 1 dX4_giveToMen_9 rfl ?_
    refine z_aload_n C 0 dX4_giveToMen_10 rfl ?_
    refine z_get C hK (v := .ref (a 17)) inX4_giveToMen_X4 41 (WB_41 a c u) rfl 1 (by decide) (List.mem_of_getElem? (i := 2) rfl) rfl dX4_giveToMen_11 ?_
    refine z_getN C hK (v := .int (zI (u 17 8))) inX4_giveToMen_X2 17 (WB_17 a c u) rfl 8 (by decide) (List.mem_of_getElem? (i := 34) rfl) rfl dX4_giveToMen_14 ?_
    refine z_icmp_lt C 26 dX4_giveToMen_17 (by decide) (by omega) (fun h2 => ?_) (fun h2 => ?_)
    · skip
      refine z_aload_n C 0 dX4_giveToMen_26 rfl ?_
      refine z_get C hK (v := .ref (a 43)) inX4_giveToMen_X4 41 (WB_41 a c u) rfl 4 (by decide) (List.mem_of_getElem? (i := 3) rfl) rfl dX4_giveToMen_27 ?_
      refine z_iload_n C 1 dX4_giveToMen_30 rfl ?_
      refine z_zald C hK 1 (g := (u 43)) (i := i) 43 (WB_43 a c u) rfl (by decide) (by omega) dX4_giveToMen_31 ?_
      refine z_as (b := u 43 (i)) rfl ?_
      refine z_as (b := (if E i = true then 1 else 0)) (hE i (by omega) (by omega)) ?_
      refine z_if_eq C 44 dX4_giveToMen_32 (by decide) (by split <;> omega) (fun h3 => ?_) (fun h3 => ?_)
      · have hEi := ite01_eq h3
        refine z_iconst C dX4_giveToMen_44 ?_
        refine z_ws (ws' := (WB a c (up u 41 (8) ((u 41 8))))) (congrArg (WB a c) (up_self u 41 8).symm) ?_
        refine z_istore_n C [(3, .int (zI 0)), (0, .ref (a 41)), (1, .int (zI i)), (2, .int (zI used))] dX4_giveToMen_45 rfl (by decide) rfl ?_
        have L46_4 : ∀ (fu : Nat) (m : Int) (b : Int), (0 ≤ m ∧ m ≤ used + 1 ∧ m ≤ 3) → (E i = false) → (Bst (u 41 8) b (fun t => ∃ k : Int, 0 ≤ k ∧ k < m ∧ Gv (u 20) (u 3 8) (u 17 8) E X 0 i L T used k t)) → 3 - m < (fu : Int) → Z x 0 0 (WB a c (up u 41 (8) (b))) [(0, .ref (a 41)), (1, .int (zI i)), (2, .int (zI used)), (3, .int (zI m))] 46 [] := by
          intro fu
          induction fu with
          | zero => intro m b hm hEf hB hmeas; exfalso; omega
          | succ fu ih46 =>
            intro m b hm hEf hB hmeas
            refine z_iload_n C 3 dX4_giveToMen_46 rfl ?_
            refine z_iload_n C 2 dX4_giveToMen_47 rfl ?_
            refine z_icmp_gt C 69 dX4_giveToMen_48 (by decide) (by omega) (fun h5 => ?_) (fun h5 => ?_)
            · skip
              exact kret 0 (up u 41 8 b) _ _ (⟨b, rfl, Bst_congr hB (Can_give (by omega) hEf (by omega))⟩) dX4_giveToMen_69
            · skip
              refine z_iload_n C 3 dX4_giveToMen_51 rfl ?_
              refine z_iconst C dX4_giveToMen_52 ?_
              refine z_icmp_ge C 69 dX4_giveToMen_53 (by decide) (by omega) (fun h6 => ?_) (fun h6 => ?_)
              · skip
                exact kret 0 (up u 41 8 b) _ _ (⟨b, rfl, Bst_congr hB (Can_give (by omega) hEf (by omega))⟩) dX4_giveToMen_69
              · skip
                refine z_aload_n C 0 dX4_giveToMen_56 rfl ?_
                refine z_iload_n C 3 dX4_giveToMen_57 rfl ?_
                refine z_iload_n C 1 dX4_giveToMen_58 rfl ?_
                refine z_iload_n C 2 dX4_giveToMen_59 rfl ?_
                refine z_callV C hK hDD (c_X4_giveTo_1 (zl x) (zG x) a c ((up u 41 (8) (b))) m i used E X L T (show i = (u 17 8) - 1 by omega) (show 0 ≤ i ∧ i < (u 17 8) by omega) (show 0 ≤ m ∧ m ≤ used ∧ m < 3 by omega) (show 0 ≤ used ∧ used ≤ 3 by omega) (hQ) (show 0 ≤ b ∧ b ≤ 4 from ⟨hB.1.1, Int.le_trans hB.1.2 hb.2⟩) (hX) (hE) (hL) (hT)) gX4_giveToMen_X4_giveTo rfl zy_X4_giveTo 41 (WB_41 a c ((up u 41 (8) (b)))) rfl ⟨by omega, by decide⟩ rfl (Nat.le_of_ble_eq_true rfl) (st := []) (stk2 := fun _ => []) rfl (fun _ => rfl) dX4_giveToMen_60 (fun z7 u8 h9 => ?_)
                obtain ⟨b2, e1, hB2⟩ := h9
                rw [e1]
                change Z x 0 0 (WB a c (up u 41 (8) (b2))) _ _ _
                refine z_iinc C 3 [(3, .int (zI (m + 1))), (0, .ref (a 41)), (1, .int (zI i)), (2, .int (zI used))] dX4_giveToMen_63 rfl (by decide) rfl ?_
                refine z_goto C 46 dX4_giveToMen_66 (by decide) ?_
                refine z_lv [(0, .ref (a 41)), (1, .int (zI i)), (2, .int (zI used)), (3, .int (zI (m + 1)))] [1, 2, 3, 0] rfl ?_
                exact ih46 (m + 1) b2 (by omega) (hEf) (Bst_trans hB hB2 (gv_grow hm.1)) (by omega)
        refine z_lv [(0, .ref (a 41)), (1, .int (zI i)), (2, .int (zI used)), (3, .int (zI 0))] [1, 2, 3, 0] rfl ?_
        exact L46_4 (((3 - 0 : Int)).toNat + 1) 0 ((u 41 8)) (by omega) (hEi) (Bst_gv0 hb.1) (by omega)
      · have hEi := ite01_ne h3
        refine z_aload_n C 0 dX4_giveToMen_35 rfl ?_
        refine z_iload_n C 1 dX4_giveToMen_36 rfl ?_
        refine z_iconst C dX4_giveToMen_37 ?_
        refine z_iadd C dX4_giveToMen_38 ?_
        refine z_iload_n C 2 dX4_giveToMen_39 rfl ?_
        refine z_callV C hK hDD (c_X4_giveToMen_0 (zl x) (zG x) a c u (i + 1) used E X L T (by omega) (by omega) (by omega) (hQ) (by omega) (hX) (hE) (hL) (fun j h0 h1 => ⟨(hT j h0 h1).1, (hT j h0 h1).2.1, fun k h2 h3 => (hT j h0 h1).2.2 k (by omega) h3⟩)) gX4_giveToMen_X4_giveToMen rfl zy_X4_giveToMen 41 (WB_41 a c u) rfl ⟨by omega, by decide⟩ rfl (Nat.le_of_ble_eq_true rfl) (st := []) (stk2 := fun _ => []) rfl (fun _ => rfl) dX4_giveToMen_40 (fun z10 u11 h12 => ?_)
        obtain ⟨b2, e1, hB⟩ := h12
        rw [e1]
        change Z x 0 0 (WB a c (up u 41 (8) (b2))) _ _ _
        exact kret 0 (up u 41 8 b2) _ _ (⟨b2, rfl, Bst_congr hB (Can_echo (by omega) hEi)⟩) dX4_giveToMen_43
    · exfalso; omega
  · skip
    exact kret 0 u _ _ (⟨u 41 8, (up_self u 41 8).symm, Bst_none hb.1 (fun t h => by have := Can_ge h; omega)⟩) dX4_giveToMen_8
-- NoteBells$Pluckers.giveTo
set_option maxHeartbeats 8000000 in
set_option maxRecDepth 100000 in
theorem c_X4_giveTo_2 (l : Launch) (D : va_G) (a : Nat → Nat) (c : Nat → ClassId) (u : zU) (m i used : Int) (E : Int → Bool) (X L : Int → Nat → Bool) (T : Int → Int) (hi : i = u 17 8 - 2) (b_i : 0 ≤ i ∧ i < u 17 8) (hm : 0 ≤ m ∧ m ≤ used ∧ m < 3) (hu : 0 ≤ used ∧ used ≤ 3) (hQ : PQ (u 17 8) (u 3 8) (u 20)) (hb : 0 ≤ u 41 8 ∧ u 41 8 ≤ 4) (hX : ∀ k : Int, 0 ≤ k → k < u 17 8 → u 42 k = ((bn (X k) 8 : Nat) : Int)) (hE : ∀ k : Int, 0 ≤ k → k < u 17 8 → u 43 k = if E k = true then 1 else 0) (hL : ∀ j : Int, 0 ≤ j → j < used → u 44 j = ((bn (L j) 8 : Nat) : Int)) (hT : ∀ j : Int, 0 ≤ j → j < used → u 45 j = T j ∧ 0 ≤ T j ∧ ∀ k : Int, i ≤ k → k < u 17 8 → T j ≤ u 20 k) : ZM l D (zTy c) (WB a c) yX4_giveTo wsX4_giveTo 6 [.ref (a 41), .int (zI m), .int (zI i), .int (zI used)] u rV (fun z u' => ∃ b' : Int, u' = up u 41 8 b' ∧ Bst (u 41 8) b' (fun t => Gv (u 20) (u 3 8) (u 17 8) E X 1 i L T used m t)) := by
  refine ZM.ofV (cc := cX4_giveTo) (maxL := 8) [(0, .ref (a 41)), (1, .int (zI m)), (2, .int (zI i)), (3, .int (zI used))] rfl (by decide +kernel) rfl (Nat.le_of_ble_eq_true rfl) (WB_addr a c) ?_
  intro x C hK _ _ hDD kret
  have hq1 := hQ.1
  have hq2 := hQ.2.1
  have hmi := hQ.2.2.1 i (by omega) (by omega)
  refine z_iload_n C 1 dX4_giveTo_0 rfl ?_
  refine z_iload_n C 3 dX4_giveTo_1 rfl ?_
  refine z_icmp_ne C 9 dX4_giveTo_2 (by decide) (by omega) (fun h1 => ?_) (fun h1 => ?_)
  · skip
    refine z_iconst C dX4_giveTo_9 ?_
    refine z_istore C [(4, .int (zI 0)), (0, .ref (a 41)), (1, .int (zI m)), (2, .int (zI i)), (3, .int (zI used))] dX4_giveTo_10 (by decide) rfl ?_
    refine z_aload_n C 1 dX4_giveTo_12 rfl ?_
    refine z_get C hK (v := .ref (a 44)) inX4_giveTo_X4 41 (WB_41 a c u) rfl 5 (by decide) (List.mem_of_getElem? (i := 1) rfl) rfl dX4_giveTo_13 ?_
    refine z_iload_n C 2 dX4_giveTo_16 rfl ?_
    refine z_iald C hK 0 (g := (u 44)) (i := m) 44 (WB_44 a c u) rfl (by decide) (by omega) dX4_giveTo_17 ?_
    refine z_as (b := u 44 (m)) rfl ?_
    refine z_istore C [(5, .int (zI (u 44 (m)))), (4, .int (zI 0)), (0, .ref (a 41)), (1, .int (zI m)), (2, .int (zI i)), (3, .int (zI used))] dX4_giveTo_18 (by decide) rfl ?_
    refine z_aload_n C 2 dX4_giveTo_20 rfl ?_
    refine z_get C hK (v := .ref (a 45)) inX4_giveTo_X4 41 (WB_41 a c u) rfl 6 (by decide) (List.mem_of_getElem? (i := 2) rfl) rfl dX4_giveTo_21 ?_
    refine z_iload_n C 3 dX4_giveTo_24 rfl ?_
    refine z_iald C hK 0 (g := (u 45)) (i := m) 45 (WB_45 a c u) rfl (by decide) (by omega) dX4_giveTo_25 ?_
    refine z_as (b := u 45 (m)) rfl ?_
    refine z_istore C [(6, .int (zI (u 45 (m)))), (5, .int (zI (u 44 (m)))), (4, .int (zI 0)), (0, .ref (a 41)), (1, .int (zI m)), (2, .int (zI i)), (3, .int (zI used))] dX4_giveTo_26 (by decide) rfl ?_
    refine z_aload_n C 3 dX4_giveTo_28 rfl ?_
    refine z_get C hK (v := .ref (a 42)) inX4_giveTo_X4 41 (WB_41 a c u) rfl 3 (by decide) (List.mem_of_getElem? (i := 3) rfl) rfl dX4_giveTo_29 ?_
    refine z_iload_n C 5 dX4_giveTo_32 rfl ?_
    refine z_iald C hK 0 (g := (u 42)) (i := i) 42 (WB_42 a c u) rfl (by decide) (by omega) dX4_giveTo_33 ?_
    refine z_as (b := u 42 (i)) rfl ?_
    refine z_as (b := ((bn (X i) 8 : Nat) : Int)) (hX i (by omega) (by omega)) ?_
    refine z_istore C [(7, .int (zI (((bn (X i) 8 : Nat) : Int)))), (6, .int (zI (u 45 (m)))), (5, .int (zI (u 44 (m)))), (4, .int (zI 0)), (0, .ref (a 41)), (1, .int (zI m)), (2, .int (zI i)), (3, .int (zI used))] dX4_giveTo_34 (by decide) rfl ?_
    refine z_iload C 3 dX4_giveTo_36 rfl ?_
    refine z_if_ne C 71 dX4_giveTo_38 (by decide) (by omega) (fun h2 => ?_) (fun h2 => ?_)
    · skip
      refine z_iload C 0 dX4_giveTo_71 rfl ?_
      refine z_if_ne C 77 dX4_giveTo_73 (by decide) (by have h1 := bn_8 (X i) (n := 8) (by omega); have h2 := bn_8 (fun q => X i q && sprd (L m) (u 3 8 * (u 20 i - T m)) q) (n := 8) (by omega); omega) (fun h3 => ?_) (fun h3 => ?_)
      · have hz : nz (lvs (u 20) (u 3 8) X L T i m used) := by first | exact nz_yes (lvs_new (by omega)) h3 | exact nz_yes (lvs_old (by omega)) h3
        refine z_aload_n C 4 dX4_giveTo_77 rfl ?_
        refine z_get C hK (v := .ref (a 44)) inX4_giveTo_X4 41 (WB_41 a c u) rfl 5 (by decide) (List.mem_of_getElem? (i := 1) rfl) rfl dX4_giveTo_78 ?_
        refine z_iload_n C 5 dX4_giveTo_81 rfl ?_
        refine z_iload C 0 dX4_giveTo_82 rfl ?_
        refine z_iast C hK (hDD _) 0 (g := u 44) 44 (WB_44 a c u) rfl (by decide) (by omega) (WB_44_set a c u m (((bn (X i) 8 : Nat) : Int))) dX4_giveTo_84 ?_
        refine z_aload_n C 4 dX4_giveTo_85 rfl ?_
        refine z_get C hK (v := .ref (a 45)) inX4_giveTo_X4 41 (WB_41 a c ((up u 44 (m) (((bn (X i) 8 : Nat) : Int))))) rfl 6 (by decide) (List.mem_of_getElem? (i := 2) rfl) rfl dX4_giveTo_86 ?_
        refine z_iload_n C 5 dX4_giveTo_89 rfl ?_
        refine z_aload_n C 4 dX4_giveTo_90 rfl ?_
        refine z_get C hK (v := .ref (a 17)) inX4_giveTo_X4 41 (WB_41 a c ((up u 44 (m) (((bn (X i) 8 : Nat) : Int))))) rfl 1 (by decide) (List.mem_of_getElem? (i := 5) rfl) rfl dX4_giveTo_91 ?_
        refine z_getN C hK (v := .ref (a 20)) inX4_giveTo_X2 17 (WB_17 a c ((up u 44 (m) (((bn (X i) 8 : Nat) : Int))))) rfl 2 (by decide) (List.mem_of_getElem? (i := 36) rfl) rfl dX4_giveTo_94 ?_
        refine z_iload_n C 6 dX4_giveTo_97 rfl ?_
        refine z_iald C hK 0 (g := (u 20)) (i := i) 20 (WB_20 a c ((up u 44 (m) (((bn (X i) 8 : Nat) : Int))))) rfl (by decide) (by omega) dX4_giveTo_98 ?_
        refine z_as (b := u 20 (i)) rfl ?_
        refine z_iast C hK (hDD _) 0 (g := (up u 44 (m) (((bn (X i) 8 : Nat) : Int))) 45) 45 (WB_45 a c ((up u 44 (m) (((bn (X i) 8 : Nat) : Int))))) rfl (by decide) (by omega) (WB_45_set a c ((up u 44 (m) (((bn (X i) 8 : Nat) : Int)))) m (u 20 (i))) dX4_giveTo_99 ?_
        refine z_aload_n C 4 dX4_giveTo_100 rfl ?_
        refine z_iload_n C 6 dX4_giveTo_101 rfl ?_
        refine z_iconst C dX4_giveTo_102 ?_
        refine z_iadd C dX4_giveTo_103 ?_
        refine z_iload C 3 dX4_giveTo_104 rfl ?_
        refine z_if_eq C 115 dX4_giveTo_106 (by decide) (by omega) (fun h4 => ?_) (fun h4 => ?_)
        · skip
          refine z_iload_n C 7 dX4_giveTo_115 rfl ?_
          refine z_callV C hK hDD (c_X4_giveToMen_1 (zl x) (zG x) a c ((up (up u 44 (m) (((bn (X i) 8 : Nat) : Int))) 45 (m) (u 20 (i)))) (i + 1) used E X ((fun j => if j = m then lvs (u 20) (u 3 8) X L T i m used else L j)) ((fun j => if j = m then u 20 i else T j)) (show (i + 1) = (u 17 8) - 1 by omega) (show 0 ≤ (i + 1) by omega) (show 0 ≤ used ∧ used ≤ 3 by omega) (hQ) (show 0 ≤ (u 41 8) ∧ (u 41 8) ≤ 4 by omega) (hX) (hE) (pl_hL hL (by first | exact Or.inl (by omega) | exact Or.inr ⟨by omega, by omega⟩) (by first | exact lvs_new (by omega) | exact lvs_old (by omega))) (pl_hT (by omega) hmi.1 hQ.2.2.2 hT (by first | exact Or.inl (by omega) | exact Or.inr ⟨by omega, by omega⟩))) gX4_giveTo_X4_giveToMen rfl zy_X4_giveToMen 41 (WB_41 a c ((up (up u 44 (m) (((bn (X i) 8 : Nat) : Int))) 45 (m) (u 20 (i))))) rfl ⟨by omega, by decide⟩ rfl (Nat.le_of_ble_eq_true rfl) (st := []) (stk2 := fun _ => []) rfl (fun _ => rfl) dX4_giveTo_116 (fun z5 u6 h7 => ?_)
          obtain ⟨b2, e1, hB⟩ := h7
          rw [e1]
          change Z x 0 0 (WB a c (up (up (up u 44 (m) (((bn (X i) 8 : Nat) : Int))) 45 (m) (u 20 (i))) 41 (8) (b2))) _ _ _
          refine z_aload_n C 4 dX4_giveTo_119 rfl ?_
          refine z_get C hK (v := .ref (a 44)) inX4_giveTo_X4 41 (WB_41 a c ((up (up (up u 44 (m) (((bn (X i) 8 : Nat) : Int))) 45 (m) (u 20 (i))) 41 (8) (b2)))) rfl 5 (by decide) (List.mem_of_getElem? (i := 1) rfl) rfl dX4_giveTo_120 ?_
          refine z_iload_n C 5 dX4_giveTo_123 rfl ?_
          refine z_iload C 2 dX4_giveTo_124 rfl ?_
          refine z_iast C hK (hDD _) 0 (g := (up (up (up u 44 (m) (((bn (X i) 8 : Nat) : Int))) 45 (m) (u 20 (i))) 41 (8) (b2)) 44) 44 (WB_44 a c ((up (up (up u 44 (m) (((bn (X i) 8 : Nat) : Int))) 45 (m) (u 20 (i))) 41 (8) (b2)))) rfl (by decide) (by omega) (WB_44_set a c ((up (up (up u 44 (m) (((bn (X i) 8 : Nat) : Int))) 45 (m) (u 20 (i))) 41 (8) (b2))) m (u 44 (m))) dX4_giveTo_126 ?_
          refine z_aload_n C 4 dX4_giveTo_127 rfl ?_
          refine z_get C hK (v := .ref (a 45)) inX4_giveTo_X4 41 (WB_41 a c ((up (up (up (up u 44 (m) (((bn (X i) 8 : Nat) : Int))) 45 (m) (u 20 (i))) 41 (8) (b2)) 44 (m) (u 44 (m))))) rfl 6 (by decide) (List.mem_of_getElem? (i := 2) rfl) rfl dX4_giveTo_128 ?_
          refine z_iload_n C 5 dX4_giveTo_131 rfl ?_
          refine z_iload C 1 dX4_giveTo_132 rfl ?_
          refine z_iast C hK (hDD _) 0 (g := (up (up (up (up u 44 (m) (((bn (X i) 8 : Nat) : Int))) 45 (m) (u 20 (i))) 41 (8) (b2)) 44 (m) (u 44 (m))) 45) 45 (WB_45 a c ((up (up (up (up u 44 (m) (((bn (X i) 8 : Nat) : Int))) 45 (m) (u 20 (i))) 41 (8) (b2)) 44 (m) (u 44 (m))))) rfl (by decide) (by omega) (WB_45_set a c ((up (up (up (up u 44 (m) (((bn (X i) 8 : Nat) : Int))) 45 (m) (u 20 (i))) 41 (8) (b2)) 44 (m) (u 44 (m)))) m (u 45 (m))) dX4_giveTo_134 ?_
          refine z_ws (ws' := (WB a c (up u 41 (8) (b2)))) (congrArg (WB a c) (pl_rest u m _ _ _)) ?_
          exact kret 0 (up u 41 8 b2) _ _ (⟨b2, rfl, Bst_congr hB (fun t => ⟨fun q => ⟨hz, by first | (rw [if_pos (by omega)]; exact q) | (rw [if_neg (by omega)]; exact q)⟩, fun q => by have q2 := q.2; first | (rw [if_pos (show m = used by omega)] at q2; exact q2) | (rw [if_neg (show ¬ m = used by omega)] at q2; exact q2)⟩)⟩) dX4_giveTo_135
        · skip
          refine z_iload_n C 7 dX4_giveTo_109 rfl ?_
          refine z_iconst C dX4_giveTo_110 ?_
          refine z_iadd C dX4_giveTo_111 ?_
          refine z_goto C 116 dX4_giveTo_112 (by decide) ?_
          refine z_callV C hK hDD (c_X4_giveToMen_1 (zl x) (zG x) a c ((up (up u 44 (m) (((bn (X i) 8 : Nat) : Int))) 45 (m) (u 20 (i)))) (i + 1) (used + 1) E X ((fun j => if j = m then lvs (u 20) (u 3 8) X L T i m used else L j)) ((fun j => if j = m then u 20 i else T j)) (show (i + 1) = (u 17 8) - 1 by omega) (show 0 ≤ (i + 1) by omega) (show 0 ≤ (used + 1) ∧ (used + 1) ≤ 3 by omega) (hQ) (show 0 ≤ (u 41 8) ∧ (u 41 8) ≤ 4 by omega) (hX) (hE) (pl_hL hL (by first | exact Or.inl (by omega) | exact Or.inr ⟨by omega, by omega⟩) (by first | exact lvs_new (by omega) | exact lvs_old (by omega))) (pl_hT (by omega) hmi.1 hQ.2.2.2 hT (by first | exact Or.inl (by omega) | exact Or.inr ⟨by omega, by omega⟩))) gX4_giveTo_X4_giveToMen rfl zy_X4_giveToMen 41 (WB_41 a c ((up (up u 44 (m) (((bn (X i) 8 : Nat) : Int))) 45 (m) (u 20 (i))))) rfl ⟨by omega, by decide⟩ rfl (Nat.le_of_ble_eq_true rfl) (st := []) (stk2 := fun _ => []) rfl (fun _ => rfl) dX4_giveTo_116 (fun z8 u9 h10 => ?_)
          obtain ⟨b2, e1, hB⟩ := h10
          rw [e1]
          change Z x 0 0 (WB a c (up (up (up u 44 (m) (((bn (X i) 8 : Nat) : Int))) 45 (m) (u 20 (i))) 41 (8) (b2))) _ _ _
          refine z_aload_n C 4 dX4_giveTo_119 rfl ?_
          refine z_get C hK (v := .ref (a 44)) inX4_giveTo_X4 41 (WB_41 a c ((up (up (up u 44 (m) (((bn (X i) 8 : Nat) : Int))) 45 (m) (u 20 (i))) 41 (8) (b2)))) rfl 5 (by decide) (List.mem_of_getElem? (i := 1) rfl) rfl dX4_giveTo_120 ?_
          refine z_iload_n C 5 dX4_giveTo_123 rfl ?_
          refine z_iload C 2 dX4_giveTo_124 rfl ?_
          refine z_iast C hK (hDD _) 0 (g := (up (up (up u 44 (m) (((bn (X i) 8 : Nat) : Int))) 45 (m) (u 20 (i))) 41 (8) (b2)) 44) 44 (WB_44 a c ((up (up (up u 44 (m) (((bn (X i) 8 : Nat) : Int))) 45 (m) (u 20 (i))) 41 (8) (b2)))) rfl (by decide) (by omega) (WB_44_set a c ((up (up (up u 44 (m) (((bn (X i) 8 : Nat) : Int))) 45 (m) (u 20 (i))) 41 (8) (b2))) m (u 44 (m))) dX4_giveTo_126 ?_
          refine z_aload_n C 4 dX4_giveTo_127 rfl ?_
          refine z_get C hK (v := .ref (a 45)) inX4_giveTo_X4 41 (WB_41 a c ((up (up (up (up u 44 (m) (((bn (X i) 8 : Nat) : Int))) 45 (m) (u 20 (i))) 41 (8) (b2)) 44 (m) (u 44 (m))))) rfl 6 (by decide) (List.mem_of_getElem? (i := 2) rfl) rfl dX4_giveTo_128 ?_
          refine z_iload_n C 5 dX4_giveTo_131 rfl ?_
          refine z_iload C 1 dX4_giveTo_132 rfl ?_
          refine z_iast C hK (hDD _) 0 (g := (up (up (up (up u 44 (m) (((bn (X i) 8 : Nat) : Int))) 45 (m) (u 20 (i))) 41 (8) (b2)) 44 (m) (u 44 (m))) 45) 45 (WB_45 a c ((up (up (up (up u 44 (m) (((bn (X i) 8 : Nat) : Int))) 45 (m) (u 20 (i))) 41 (8) (b2)) 44 (m) (u 44 (m))))) rfl (by decide) (by omega) (WB_45_set a c ((up (up (up (up u 44 (m) (((bn (X i) 8 : Nat) : Int))) 45 (m) (u 20 (i))) 41 (8) (b2)) 44 (m) (u 44 (m)))) m (u 45 (m))) dX4_giveTo_134 ?_
          refine z_ws (ws' := (WB a c (up u 41 (8) (b2)))) (congrArg (WB a c) (pl_rest u m _ _ _)) ?_
          exact kret 0 (up u 41 8 b2) _ _ (⟨b2, rfl, Bst_congr hB (fun t => ⟨fun q => ⟨hz, by first | (rw [if_pos (by omega)]; exact q) | (rw [if_neg (by omega)]; exact q)⟩, fun q => by have q2 := q.2; first | (rw [if_pos (show m = used by omega)] at q2; exact q2) | (rw [if_neg (show ¬ m = used by omega)] at q2; exact q2)⟩)⟩) dX4_giveTo_135
      · have hz : ¬ nz (lvs (u 20) (u 3 8) X L T i m used) := by first | exact nz_no (lvs_new (by omega)) h3 | exact nz_no (lvs_old (by omega)) h3
        exact kret 0 u _ _ (⟨u 41 8, (up_self u 41 8).symm, Bst_none hb.1 (fun t h => absurd h.1 hz)⟩) dX4_giveTo_76
    · skip
      refine z_iload C 0 dX4_giveTo_41 rfl ?_
      refine z_iload C 2 dX4_giveTo_43 rfl ?_
      refine z_as (b := ((bn (L m) 8 : Nat) : Int)) (hL m (by omega) (by omega)) ?_
      refine z_aload_n C 4 dX4_giveTo_45 rfl ?_
      refine z_get C hK (v := .ref (a 3)) inX4_giveTo_X4 41 (WB_41 a c u) rfl 0 (by decide) (List.mem_of_getElem? (i := 4) rfl) rfl dX4_giveTo_46 ?_
      refine z_getN C hK (v := .int (zI (u 3 8))) inX4_giveTo_X8 3 (WB_3 a c u) rfl 8 (by decide) (List.mem_of_getElem? (i := 37) rfl) rfl dX4_giveTo_49 ?_
      refine z_aload_n C 4 dX4_giveTo_52 rfl ?_
      refine z_get C hK (v := .ref (a 17)) inX4_giveTo_X4 41 (WB_41 a c u) rfl 1 (by decide) (List.mem_of_getElem? (i := 5) rfl) rfl dX4_giveTo_53 ?_
      refine z_getN C hK (v := .ref (a 20)) inX4_giveTo_X2 17 (WB_17 a c u) rfl 2 (by decide) (List.mem_of_getElem? (i := 36) rfl) rfl dX4_giveTo_56 ?_
      refine z_iload_n C 6 dX4_giveTo_59 rfl ?_
      refine z_iald C hK 0 (g := (u 20)) (i := i) 20 (WB_20 a c u) rfl (by decide) (by omega) dX4_giveTo_60 ?_
      refine z_as (b := u 20 (i)) rfl ?_
      have hTm := hT m (by omega) (by omega)
      have hTi := hTm.2.2 i (Int.le_refl _) (by omega)
      have hsp := pl_pc (d := u 20 i - T m) hq2 (by omega)
      refine z_iload C 1 dX4_giveTo_61 rfl ?_
      refine z_as (b := T m) ((hT m (by omega) (by omega)).1) ?_
      refine z_isub C dX4_giveTo_63 ?_
      refine z_imul C dX4_giveTo_64 ?_
      refine z_callSN C hK hDD (c_X10_spread (zl x) (zG x) ((WB a c)) (WB_addr a c) u ((L m)) ((u 3 8) * ((u 20 (i)) - (T m))) (by omega)) ggX4_giveTo_X10_spread (List.mem_of_getElem? (i := 32) rfl) (List.mem_of_getElem? (i := 7) rfl) (List.mem_of_getElem? (i := 6) rfl) rfl zy_X10_spread ⟨by omega, by decide⟩ rfl (Nat.le_of_ble_eq_true rfl) (st := [.int (zI (((bn (X i) 8 : Nat) : Int)))]) (stk2 := fun z11 => [.int (zI z11), .int (zI (((bn (X i) 8 : Nat) : Int)))]) rfl (fun _ => rfl) dX4_giveTo_65 (fun z11 u12 h13 => ?_)
      rw [h13.1]; replace h13 := h13.2
      refine z_as (b := ((bn (sprd ((L m)) ((u 3 8) * ((u 20 (i)) - (T m)))) 8 : Nat) : Int)) h13 ?_
      refine z_iand C (((bn (fun q => X i q && sprd (L m) (u 3 8 * (u 20 i - T m)) q) 8 : Nat) : Int)) dX4_giveTo_68 (by rw [zI_and, bn_and]) ?_
      refine z_istore C [(7, .int (zI (((bn (fun q => X i q && sprd (L m) (u 3 8 * (u 20 i - T m)) q) 8 : Nat) : Int)))), (6, .int (zI (u 45 (m)))), (5, .int (zI (u 44 (m)))), (4, .int (zI 0)), (0, .ref (a 41)), (1, .int (zI m)), (2, .int (zI i)), (3, .int (zI used))] dX4_giveTo_69 (by decide) rfl ?_
      refine z_iload C 0 dX4_giveTo_71 rfl ?_
      refine z_if_ne C 77 dX4_giveTo_73 (by decide) (by have h1 := bn_8 (X i) (n := 8) (by omega); have h2 := bn_8 (fun q => X i q && sprd (L m) (u 3 8 * (u 20 i - T m)) q) (n := 8) (by omega); omega) (fun h14 => ?_) (fun h14 => ?_)
      · have hz : nz (lvs (u 20) (u 3 8) X L T i m used) := by first | exact nz_yes (lvs_new (by omega)) h14 | exact nz_yes (lvs_old (by omega)) h14
        refine z_aload_n C 4 dX4_giveTo_77 rfl ?_
        refine z_get C hK (v := .ref (a 44)) inX4_giveTo_X4 41 (WB_41 a c u) rfl 5 (by decide) (List.mem_of_getElem? (i := 1) rfl) rfl dX4_giveTo_78 ?_
        refine z_iload_n C 5 dX4_giveTo_81 rfl ?_
        refine z_iload C 0 dX4_giveTo_82 rfl ?_
        refine z_iast C hK (hDD _) 0 (g := u 44) 44 (WB_44 a c u) rfl (by decide) (by omega) (WB_44_set a c u m (((bn (fun q => X i q && sprd (L m) (u 3 8 * (u 20 i - T m)) q) 8 : Nat) : Int))) dX4_giveTo_84 ?_
        refine z_aload_n C 4 dX4_giveTo_85 rfl ?_
        refine z_get C hK (v := .ref (a 45)) inX4_giveTo_X4 41 (WB_41 a c ((up u 44 (m) (((bn (fun q => X i q && sprd (L m) (u 3 8 * (u 20 i - T m)) q) 8 : Nat) : Int))))) rfl 6 (by decide) (List.mem_of_getElem? (i := 2) rfl) rfl dX4_giveTo_86 ?_
        refine z_iload_n C 5 dX4_giveTo_89 rfl ?_
        refine z_aload_n C 4 dX4_giveTo_90 rfl ?_
        refine z_get C hK (v := .ref (a 17)) inX4_giveTo_X4 41 (WB_41 a c ((up u 44 (m) (((bn (fun q => X i q && sprd (L m) (u 3 8 * (u 20 i - T m)) q) 8 : Nat) : Int))))) rfl 1 (by decide) (List.mem_of_getElem? (i := 5) rfl) rfl dX4_giveTo_91 ?_
        refine z_getN C hK (v := .ref (a 20)) inX4_giveTo_X2 17 (WB_17 a c ((up u 44 (m) (((bn (fun q => X i q && sprd (L m) (u 3 8 * (u 20 i - T m)) q) 8 : Nat) : Int))))) rfl 2 (by decide) (List.mem_of_getElem? (i := 36) rfl) rfl dX4_giveTo_94 ?_
        refine z_iload_n C 6 dX4_giveTo_97 rfl ?_
        refine z_iald C hK 0 (g := (u 20)) (i := i) 20 (WB_20 a c ((up u 44 (m) (((bn (fun q => X i q && sprd (L m) (u 3 8 * (u 20 i - T m)) q) 8 : Nat) : Int))))) rfl (by decide) (by omega) dX4_giveTo_98 ?_
        refine z_as (b := u 20 (i)) rfl ?_
        refine z_iast C hK (hDD _) 0 (g := (up u 44 (m) (((bn (fun q => X i q && sprd (L m) (u 3 8 * (u 20 i - T m)) q) 8 : Nat) : Int))) 45) 45 (WB_45 a c ((up u 44 (m) (((bn (fun q => X i q && sprd (L m) (u 3 8 * (u 20 i - T m)) q) 8 : Nat) : Int))))) rfl (by decide) (by omega) (WB_45_set a c ((up u 44 (m) (((bn (fun q => X i q && sprd (L m) (u 3 8 * (u 20 i - T m)) q) 8 : Nat) : Int)))) m (u 20 (i))) dX4_giveTo_99 ?_
        refine z_aload_n C 4 dX4_giveTo_100 rfl ?_
        refine z_iload_n C 6 dX4_giveTo_101 rfl ?_
        refine z_iconst C dX4_giveTo_102 ?_
        refine z_iadd C dX4_giveTo_103 ?_
        refine z_iload C 3 dX4_giveTo_104 rfl ?_
        refine z_if_eq C 115 dX4_giveTo_106 (by decide) (by omega) (fun h15 => ?_) (fun h15 => ?_)
        · skip
          refine z_iload_n C 7 dX4_giveTo_115 rfl ?_
          refine z_callV C hK hDD (c_X4_giveToMen_1 (zl x) (zG x) a c ((up (up u 44 (m) (((bn (fun q => X i q && sprd (L m) (u 3 8 * (u 20 i - T m)) q) 8 : Nat) : Int))) 45 (m) (u 20 (i)))) (i + 1) used E X ((fun j => if j = m then lvs (u 20) (u 3 8) X L T i m used else L j)) ((fun j => if j = m then u 20 i else T j)) (show (i + 1) = (u 17 8) - 1 by omega) (show 0 ≤ (i + 1) by omega) (show 0 ≤ used ∧ used ≤ 3 by omega) (hQ) (show 0 ≤ (u 41 8) ∧ (u 41 8) ≤ 4 by omega) (hX) (hE) (pl_hL hL (by first | exact Or.inl (by omega) | exact Or.inr ⟨by omega, by omega⟩) (by first | exact lvs_new (by omega) | exact lvs_old (by omega))) (pl_hT (by omega) hmi.1 hQ.2.2.2 hT (by first | exact Or.inl (by omega) | exact Or.inr ⟨by omega, by omega⟩))) gX4_giveTo_X4_giveToMen rfl zy_X4_giveToMen 41 (WB_41 a c ((up (up u 44 (m) (((bn (fun q => X i q && sprd (L m) (u 3 8 * (u 20 i - T m)) q) 8 : Nat) : Int))) 45 (m) (u 20 (i))))) rfl ⟨by omega, by decide⟩ rfl (Nat.le_of_ble_eq_true rfl) (st := []) (stk2 := fun _ => []) rfl (fun _ => rfl) dX4_giveTo_116 (fun z16 u17 h18 => ?_)
          obtain ⟨b2, e1, hB⟩ := h18
          rw [e1]
          change Z x 0 0 (WB a c (up (up (up u 44 (m) (((bn (fun q => X i q && sprd (L m) (u 3 8 * (u 20 i - T m)) q) 8 : Nat) : Int))) 45 (m) (u 20 (i))) 41 (8) (b2))) _ _ _
          refine z_aload_n C 4 dX4_giveTo_119 rfl ?_
          refine z_get C hK (v := .ref (a 44)) inX4_giveTo_X4 41 (WB_41 a c ((up (up (up u 44 (m) (((bn (fun q => X i q && sprd (L m) (u 3 8 * (u 20 i - T m)) q) 8 : Nat) : Int))) 45 (m) (u 20 (i))) 41 (8) (b2)))) rfl 5 (by decide) (List.mem_of_getElem? (i := 1) rfl) rfl dX4_giveTo_120 ?_
          refine z_iload_n C 5 dX4_giveTo_123 rfl ?_
          refine z_iload C 2 dX4_giveTo_124 rfl ?_
          refine z_iast C hK (hDD _) 0 (g := (up (up (up u 44 (m) (((bn (fun q => X i q && sprd (L m) (u 3 8 * (u 20 i - T m)) q) 8 : Nat) : Int))) 45 (m) (u 20 (i))) 41 (8) (b2)) 44) 44 (WB_44 a c ((up (up (up u 44 (m) (((bn (fun q => X i q && sprd (L m) (u 3 8 * (u 20 i - T m)) q) 8 : Nat) : Int))) 45 (m) (u 20 (i))) 41 (8) (b2)))) rfl (by decide) (by omega) (WB_44_set a c ((up (up (up u 44 (m) (((bn (fun q => X i q && sprd (L m) (u 3 8 * (u 20 i - T m)) q) 8 : Nat) : Int))) 45 (m) (u 20 (i))) 41 (8) (b2))) m (u 44 (m))) dX4_giveTo_126 ?_
          refine z_aload_n C 4 dX4_giveTo_127 rfl ?_
          refine z_get C hK (v := .ref (a 45)) inX4_giveTo_X4 41 (WB_41 a c ((up (up (up (up u 44 (m) (((bn (fun q => X i q && sprd (L m) (u 3 8 * (u 20 i - T m)) q) 8 : Nat) : Int))) 45 (m) (u 20 (i))) 41 (8) (b2)) 44 (m) (u 44 (m))))) rfl 6 (by decide) (List.mem_of_getElem? (i := 2) rfl) rfl dX4_giveTo_128 ?_
          refine z_iload_n C 5 dX4_giveTo_131 rfl ?_
          refine z_iload C 1 dX4_giveTo_132 rfl ?_
          refine z_iast C hK (hDD _) 0 (g := (up (up (up (up u 44 (m) (((bn (fun q => X i q && sprd (L m) (u 3 8 * (u 20 i - T m)) q) 8 : Nat) : Int))) 45 (m) (u 20 (i))) 41 (8) (b2)) 44 (m) (u 44 (m))) 45) 45 (WB_45 a c ((up (up (up (up u 44 (m) (((bn (fun q => X i q && sprd (L m) (u 3 8 * (u 20 i - T m)) q) 8 : Nat) : Int))) 45 (m) (u 20 (i))) 41 (8) (b2)) 44 (m) (u 44 (m))))) rfl (by decide) (by omega) (WB_45_set a c ((up (up (up (up u 44 (m) (((bn (fun q => X i q && sprd (L m) (u 3 8 * (u 20 i - T m)) q) 8 : Nat) : Int))) 45 (m) (u 20 (i))) 41 (8) (b2)) 44 (m) (u 44 (m)))) m (u 45 (m))) dX4_giveTo_134 ?_
          refine z_ws (ws' := (WB a c (up u 41 (8) (b2)))) (congrArg (WB a c) (pl_rest u m _ _ _)) ?_
          exact kret 0 (up u 41 8 b2) _ _ (⟨b2, rfl, Bst_congr hB (fun t => ⟨fun q => ⟨hz, by first | (rw [if_pos (by omega)]; exact q) | (rw [if_neg (by omega)]; exact q)⟩, fun q => by have q2 := q.2; first | (rw [if_pos (show m = used by omega)] at q2; exact q2) | (rw [if_neg (show ¬ m = used by omega)] at q2; exact q2)⟩)⟩) dX4_giveTo_135
        · skip
          refine z_iload_n C 7 dX4_giveTo_109 rfl ?_
          refine z_iconst C dX4_giveTo_110 ?_
          refine z_iadd C dX4_giveTo_111 ?_
          refine z_goto C 116 dX4_giveTo_112 (by decide) ?_
          refine z_callV C hK hDD (c_X4_giveToMen_1 (zl x) (zG x) a c ((up (up u 44 (m) (((bn (fun q => X i q && sprd (L m) (u 3 8 * (u 20 i - T m)) q) 8 : Nat) : Int))) 45 (m) (u 20 (i)))) (i + 1) (used + 1) E X ((fun j => if j = m then lvs (u 20) (u 3 8) X L T i m used else L j)) ((fun j => if j = m then u 20 i else T j)) (show (i + 1) = (u 17 8) - 1 by omega) (show 0 ≤ (i + 1) by omega) (show 0 ≤ (used + 1) ∧ (used + 1) ≤ 3 by omega) (hQ) (show 0 ≤ (u 41 8) ∧ (u 41 8) ≤ 4 by omega) (hX) (hE) (pl_hL hL (by first | exact Or.inl (by omega) | exact Or.inr ⟨by omega, by omega⟩) (by first | exact lvs_new (by omega) | exact lvs_old (by omega))) (pl_hT (by omega) hmi.1 hQ.2.2.2 hT (by first | exact Or.inl (by omega) | exact Or.inr ⟨by omega, by omega⟩))) gX4_giveTo_X4_giveToMen rfl zy_X4_giveToMen 41 (WB_41 a c ((up (up u 44 (m) (((bn (fun q => X i q && sprd (L m) (u 3 8 * (u 20 i - T m)) q) 8 : Nat) : Int))) 45 (m) (u 20 (i))))) rfl ⟨by omega, by decide⟩ rfl (Nat.le_of_ble_eq_true rfl) (st := []) (stk2 := fun _ => []) rfl (fun _ => rfl) dX4_giveTo_116 (fun z19 u20 h21 => ?_)
          obtain ⟨b2, e1, hB⟩ := h21
          rw [e1]
          change Z x 0 0 (WB a c (up (up (up u 44 (m) (((bn (fun q => X i q && sprd (L m) (u 3 8 * (u 20 i - T m)) q) 8 : Nat) : Int))) 45 (m) (u 20 (i))) 41 (8) (b2))) _ _ _
          refine z_aload_n C 4 dX4_giveTo_119 rfl ?_
          refine z_get C hK (v := .ref (a 44)) inX4_giveTo_X4 41 (WB_41 a c ((up (up (up u 44 (m) (((bn (fun q => X i q && sprd (L m) (u 3 8 * (u 20 i - T m)) q) 8 : Nat) : Int))) 45 (m) (u 20 (i))) 41 (8) (b2)))) rfl 5 (by decide) (List.mem_of_getElem? (i := 1) rfl) rfl dX4_giveTo_120 ?_
          refine z_iload_n C 5 dX4_giveTo_123 rfl ?_
          refine z_iload C 2 dX4_giveTo_124 rfl ?_
          refine z_iast C hK (hDD _) 0 (g := (up (up (up u 44 (m) (((bn (fun q => X i q && sprd (L m) (u 3 8 * (u 20 i - T m)) q) 8 : Nat) : Int))) 45 (m) (u 20 (i))) 41 (8) (b2)) 44) 44 (WB_44 a c ((up (up (up u 44 (m) (((bn (fun q => X i q && sprd (L m) (u 3 8 * (u 20 i - T m)) q) 8 : Nat) : Int))) 45 (m) (u 20 (i))) 41 (8) (b2)))) rfl (by decide) (by omega) (WB_44_set a c ((up (up (up u 44 (m) (((bn (fun q => X i q && sprd (L m) (u 3 8 * (u 20 i - T m)) q) 8 : Nat) : Int))) 45 (m) (u 20 (i))) 41 (8) (b2))) m (u 44 (m))) dX4_giveTo_126 ?_
          refine z_aload_n C 4 dX4_giveTo_127 rfl ?_
          refine z_get C hK (v := .ref (a 45)) inX4_giveTo_X4 41 (WB_41 a c ((up (up (up (up u 44 (m) (((bn (fun q => X i q && sprd (L m) (u 3 8 * (u 20 i - T m)) q) 8 : Nat) : Int))) 45 (m) (u 20 (i))) 41 (8) (b2)) 44 (m) (u 44 (m))))) rfl 6 (by decide) (List.mem_of_getElem? (i := 2) rfl) rfl dX4_giveTo_128 ?_
          refine z_iload_n C 5 dX4_giveTo_131 rfl ?_
          refine z_iload C 1 dX4_giveTo_132 rfl ?_
          refine z_iast C hK (hDD _) 0 (g := (up (up (up (up u 44 (m) (((bn (fun q => X i q && sprd (L m) (u 3 8 * (u 20 i - T m)) q) 8 : Nat) : Int))) 45 (m) (u 20 (i))) 41 (8) (b2)) 44 (m) (u 44 (m))) 45) 45 (WB_45 a c ((up (up (up (up u 44 (m) (((bn (fun q => X i q && sprd (L m) (u 3 8 * (u 20 i - T m)) q) 8 : Nat) : Int))) 45 (m) (u 20 (i))) 41 (8) (b2)) 44 (m) (u 44 (m))))) rfl (by decide) (by omega) (WB_45_set a c ((up (up (up (up u 44 (m) (((bn (fun q => X i q && sprd (L m) (u 3 8 * (u 20 i - T m)) q) 8 : Nat) : Int))) 45 (m) (u 20 (i))) 41 (8) (b2)) 44 (m) (u 44 (m)))) m (u 45 (m))) dX4_giveTo_134 ?_
          refine z_ws (ws' := (WB a c (up u 41 (8) (b2)))) (congrArg (WB a c) (pl_rest u m _ _ _)) ?_
          exact kret 0 (up u 41 8 b2) _ _ (⟨b2, rfl, Bst_congr hB (fun t => ⟨fun q => ⟨hz, by first | (rw [if_pos (by omega)]; exact q) | (rw [if_neg (by omega)]; exact q)⟩, fun q => by have q2 := q.2; first | (rw [if_pos (show m = used by omega)] at q2; exact q2) | (rw [if_neg (show ¬ m = used by omega)] at q2; exact q2)⟩)⟩) dX4_giveTo_135
      · have hz : ¬ nz (lvs (u 20) (u 3 8) X L T i m used) := by first | exact nz_no (lvs_new (by omega)) h14 | exact nz_no (lvs_old (by omega)) h14
        exact kret 0 u _ _ (⟨u 41 8, (up_self u 41 8).symm, Bst_none hb.1 (fun t h => absurd h.1 hz)⟩) dX4_giveTo_76
  · skip
    refine z_iconst C dX4_giveTo_5 ?_
    refine z_goto C 10 dX4_giveTo_6 (by decide) ?_
    refine z_istore C [(4, .int (zI 1)), (0, .ref (a 41)), (1, .int (zI m)), (2, .int (zI i)), (3, .int (zI used))] dX4_giveTo_10 (by decide) rfl ?_
    refine z_aload_n C 1 dX4_giveTo_12 rfl ?_
    refine z_get C hK (v := .ref (a 44)) inX4_giveTo_X4 41 (WB_41 a c u) rfl 5 (by decide) (List.mem_of_getElem? (i := 1) rfl) rfl dX4_giveTo_13 ?_
    refine z_iload_n C 2 dX4_giveTo_16 rfl ?_
    refine z_iald C hK 0 (g := (u 44)) (i := m) 44 (WB_44 a c u) rfl (by decide) (by omega) dX4_giveTo_17 ?_
    refine z_as (b := u 44 (m)) rfl ?_
    refine z_istore C [(5, .int (zI (u 44 (m)))), (4, .int (zI 1)), (0, .ref (a 41)), (1, .int (zI m)), (2, .int (zI i)), (3, .int (zI used))] dX4_giveTo_18 (by decide) rfl ?_
    refine z_aload_n C 2 dX4_giveTo_20 rfl ?_
    refine z_get C hK (v := .ref (a 45)) inX4_giveTo_X4 41 (WB_41 a c u) rfl 6 (by decide) (List.mem_of_getElem? (i := 2) rfl) rfl dX4_giveTo_21 ?_
    refine z_iload_n C 3 dX4_giveTo_24 rfl ?_
    refine z_iald C hK 0 (g := (u 45)) (i := m) 45 (WB_45 a c u) rfl (by decide) (by omega) dX4_giveTo_25 ?_
    refine z_as (b := u 45 (m)) rfl ?_
    refine z_istore C [(6, .int (zI (u 45 (m)))), (5, .int (zI (u 44 (m)))), (4, .int (zI 1)), (0, .ref (a 41)), (1, .int (zI m)), (2, .int (zI i)), (3, .int (zI used))] dX4_giveTo_26 (by decide) rfl ?_
    refine z_aload_n C 3 dX4_giveTo_28 rfl ?_
    refine z_get C hK (v := .ref (a 42)) inX4_giveTo_X4 41 (WB_41 a c u) rfl 3 (by decide) (List.mem_of_getElem? (i := 3) rfl) rfl dX4_giveTo_29 ?_
    refine z_iload_n C 5 dX4_giveTo_32 rfl ?_
    refine z_iald C hK 0 (g := (u 42)) (i := i) 42 (WB_42 a c u) rfl (by decide) (by omega) dX4_giveTo_33 ?_
    refine z_as (b := u 42 (i)) rfl ?_
    refine z_as (b := ((bn (X i) 8 : Nat) : Int)) (hX i (by omega) (by omega)) ?_
    refine z_istore C [(7, .int (zI (((bn (X i) 8 : Nat) : Int)))), (6, .int (zI (u 45 (m)))), (5, .int (zI (u 44 (m)))), (4, .int (zI 1)), (0, .ref (a 41)), (1, .int (zI m)), (2, .int (zI i)), (3, .int (zI used))] dX4_giveTo_34 (by decide) rfl ?_
    refine z_iload C 3 dX4_giveTo_36 rfl ?_
    refine z_if_ne C 71 dX4_giveTo_38 (by decide) (by omega) (fun h22 => ?_) (fun h22 => ?_)
    · skip
      refine z_iload C 0 dX4_giveTo_71 rfl ?_
      refine z_if_ne C 77 dX4_giveTo_73 (by decide) (by have h1 := bn_8 (X i) (n := 8) (by omega); have h2 := bn_8 (fun q => X i q && sprd (L m) (u 3 8 * (u 20 i - T m)) q) (n := 8) (by omega); omega) (fun h23 => ?_) (fun h23 => ?_)
      · have hz : nz (lvs (u 20) (u 3 8) X L T i m used) := by first | exact nz_yes (lvs_new (by omega)) h23 | exact nz_yes (lvs_old (by omega)) h23
        refine z_aload_n C 4 dX4_giveTo_77 rfl ?_
        refine z_get C hK (v := .ref (a 44)) inX4_giveTo_X4 41 (WB_41 a c u) rfl 5 (by decide) (List.mem_of_getElem? (i := 1) rfl) rfl dX4_giveTo_78 ?_
        refine z_iload_n C 5 dX4_giveTo_81 rfl ?_
        refine z_iload C 0 dX4_giveTo_82 rfl ?_
        refine z_iast C hK (hDD _) 0 (g := u 44) 44 (WB_44 a c u) rfl (by decide) (by omega) (WB_44_set a c u m (((bn (X i) 8 : Nat) : Int))) dX4_giveTo_84 ?_
        refine z_aload_n C 4 dX4_giveTo_85 rfl ?_
        refine z_get C hK (v := .ref (a 45)) inX4_giveTo_X4 41 (WB_41 a c ((up u 44 (m) (((bn (X i) 8 : Nat) : Int))))) rfl 6 (by decide) (List.mem_of_getElem? (i := 2) rfl) rfl dX4_giveTo_86 ?_
        refine z_iload_n C 5 dX4_giveTo_89 rfl ?_
        refine z_aload_n C 4 dX4_giveTo_90 rfl ?_
        refine z_get C hK (v := .ref (a 17)) inX4_giveTo_X4 41 (WB_41 a c ((up u 44 (m) (((bn (X i) 8 : Nat) : Int))))) rfl 1 (by decide) (List.mem_of_getElem? (i := 5) rfl) rfl dX4_giveTo_91 ?_
        refine z_getN C hK (v := .ref (a 20)) inX4_giveTo_X2 17 (WB_17 a c ((up u 44 (m) (((bn (X i) 8 : Nat) : Int))))) rfl 2 (by decide) (List.mem_of_getElem? (i := 36) rfl) rfl dX4_giveTo_94 ?_
        refine z_iload_n C 6 dX4_giveTo_97 rfl ?_
        refine z_iald C hK 0 (g := (u 20)) (i := i) 20 (WB_20 a c ((up u 44 (m) (((bn (X i) 8 : Nat) : Int))))) rfl (by decide) (by omega) dX4_giveTo_98 ?_
        refine z_as (b := u 20 (i)) rfl ?_
        refine z_iast C hK (hDD _) 0 (g := (up u 44 (m) (((bn (X i) 8 : Nat) : Int))) 45) 45 (WB_45 a c ((up u 44 (m) (((bn (X i) 8 : Nat) : Int))))) rfl (by decide) (by omega) (WB_45_set a c ((up u 44 (m) (((bn (X i) 8 : Nat) : Int)))) m (u 20 (i))) dX4_giveTo_99 ?_
        refine z_aload_n C 4 dX4_giveTo_100 rfl ?_
        refine z_iload_n C 6 dX4_giveTo_101 rfl ?_
        refine z_iconst C dX4_giveTo_102 ?_
        refine z_iadd C dX4_giveTo_103 ?_
        refine z_iload C 3 dX4_giveTo_104 rfl ?_
        refine z_if_eq C 115 dX4_giveTo_106 (by decide) (by omega) (fun h24 => ?_) (fun h24 => ?_)
        · skip
          refine z_iload_n C 7 dX4_giveTo_115 rfl ?_
          refine z_callV C hK hDD (c_X4_giveToMen_1 (zl x) (zG x) a c ((up (up u 44 (m) (((bn (X i) 8 : Nat) : Int))) 45 (m) (u 20 (i)))) (i + 1) used E X ((fun j => if j = m then lvs (u 20) (u 3 8) X L T i m used else L j)) ((fun j => if j = m then u 20 i else T j)) (show (i + 1) = (u 17 8) - 1 by omega) (show 0 ≤ (i + 1) by omega) (show 0 ≤ used ∧ used ≤ 3 by omega) (hQ) (show 0 ≤ (u 41 8) ∧ (u 41 8) ≤ 4 by omega) (hX) (hE) (pl_hL hL (by first | exact Or.inl (by omega) | exact Or.inr ⟨by omega, by omega⟩) (by first | exact lvs_new (by omega) | exact lvs_old (by omega))) (pl_hT (by omega) hmi.1 hQ.2.2.2 hT (by first | exact Or.inl (by omega) | exact Or.inr ⟨by omega, by omega⟩))) gX4_giveTo_X4_giveToMen rfl zy_X4_giveToMen 41 (WB_41 a c ((up (up u 44 (m) (((bn (X i) 8 : Nat) : Int))) 45 (m) (u 20 (i))))) rfl ⟨by omega, by decide⟩ rfl (Nat.le_of_ble_eq_true rfl) (st := []) (stk2 := fun _ => []) rfl (fun _ => rfl) dX4_giveTo_116 (fun z25 u26 h27 => ?_)
          obtain ⟨b2, e1, hB⟩ := h27
          rw [e1]
          change Z x 0 0 (WB a c (up (up (up u 44 (m) (((bn (X i) 8 : Nat) : Int))) 45 (m) (u 20 (i))) 41 (8) (b2))) _ _ _
          refine z_aload_n C 4 dX4_giveTo_119 rfl ?_
          refine z_get C hK (v := .ref (a 44)) inX4_giveTo_X4 41 (WB_41 a c ((up (up (up u 44 (m) (((bn (X i) 8 : Nat) : Int))) 45 (m) (u 20 (i))) 41 (8) (b2)))) rfl 5 (by decide) (List.mem_of_getElem? (i := 1) rfl) rfl dX4_giveTo_120 ?_
          refine z_iload_n C 5 dX4_giveTo_123 rfl ?_
          refine z_iload C 2 dX4_giveTo_124 rfl ?_
          refine z_iast C hK (hDD _) 0 (g := (up (up (up u 44 (m) (((bn (X i) 8 : Nat) : Int))) 45 (m) (u 20 (i))) 41 (8) (b2)) 44) 44 (WB_44 a c ((up (up (up u 44 (m) (((bn (X i) 8 : Nat) : Int))) 45 (m) (u 20 (i))) 41 (8) (b2)))) rfl (by decide) (by omega) (WB_44_set a c ((up (up (up u 44 (m) (((bn (X i) 8 : Nat) : Int))) 45 (m) (u 20 (i))) 41 (8) (b2))) m (u 44 (m))) dX4_giveTo_126 ?_
          refine z_aload_n C 4 dX4_giveTo_127 rfl ?_
          refine z_get C hK (v := .ref (a 45)) inX4_giveTo_X4 41 (WB_41 a c ((up (up (up (up u 44 (m) (((bn (X i) 8 : Nat) : Int))) 45 (m) (u 20 (i))) 41 (8) (b2)) 44 (m) (u 44 (m))))) rfl 6 (by decide) (List.mem_of_getElem? (i := 2) rfl) rfl dX4_giveTo_128 ?_
          refine z_iload_n C 5 dX4_giveTo_131 rfl ?_
          refine z_iload C 1 dX4_giveTo_132 rfl ?_
          refine z_iast C hK (hDD _) 0 (g := (up (up (up (up u 44 (m) (((bn (X i) 8 : Nat) : Int))) 45 (m) (u 20 (i))) 41 (8) (b2)) 44 (m) (u 44 (m))) 45) 45 (WB_45 a c ((up (up (up (up u 44 (m) (((bn (X i) 8 : Nat) : Int))) 45 (m) (u 20 (i))) 41 (8) (b2)) 44 (m) (u 44 (m))))) rfl (by decide) (by omega) (WB_45_set a c ((up (up (up (up u 44 (m) (((bn (X i) 8 : Nat) : Int))) 45 (m) (u 20 (i))) 41 (8) (b2)) 44 (m) (u 44 (m)))) m (u 45 (m))) dX4_giveTo_134 ?_
          refine z_ws (ws' := (WB a c (up u 41 (8) (b2)))) (congrArg (WB a c) (pl_rest u m _ _ _)) ?_
          exact kret 0 (up u 41 8 b2) _ _ (⟨b2, rfl, Bst_congr hB (fun t => ⟨fun q => ⟨hz, by first | (rw [if_pos (by omega)]; exact q) | (rw [if_neg (by omega)]; exact q)⟩, fun q => by have q2 := q.2; first | (rw [if_pos (show m = used by omega)] at q2; exact q2) | (rw [if_neg (show ¬ m = used by omega)] at q2; exact q2)⟩)⟩) dX4_giveTo_135
        · skip
          refine z_iload_n C 7 dX4_giveTo_109 rfl ?_
          refine z_iconst C dX4_giveTo_110 ?_
          refine z_iadd C dX4_giveTo_111 ?_
          refine z_goto C 116 dX4_giveTo_112 (by decide) ?_
          refine z_callV C hK hDD (c_X4_giveToMen_1 (zl x) (zG x) a c ((up (up u 44 (m) (((bn (X i) 8 : Nat) : Int))) 45 (m) (u 20 (i)))) (i + 1) (used + 1) E X ((fun j => if j = m then lvs (u 20) (u 3 8) X L T i m used else L j)) ((fun j => if j = m then u 20 i else T j)) (show (i + 1) = (u 17 8) - 1 by omega) (show 0 ≤ (i + 1) by omega) (show 0 ≤ (used + 1) ∧ (used + 1) ≤ 3 by omega) (hQ) (show 0 ≤ (u 41 8) ∧ (u 41 8) ≤ 4 by omega) (hX) (hE) (pl_hL hL (by first | exact Or.inl (by omega) | exact Or.inr ⟨by omega, by omega⟩) (by first | exact lvs_new (by omega) | exact lvs_old (by omega))) (pl_hT (by omega) hmi.1 hQ.2.2.2 hT (by first | exact Or.inl (by omega) | exact Or.inr ⟨by omega, by omega⟩))) gX4_giveTo_X4_giveToMen rfl zy_X4_giveToMen 41 (WB_41 a c ((up (up u 44 (m) (((bn (X i) 8 : Nat) : Int))) 45 (m) (u 20 (i))))) rfl ⟨by omega, by decide⟩ rfl (Nat.le_of_ble_eq_true rfl) (st := []) (stk2 := fun _ => []) rfl (fun _ => rfl) dX4_giveTo_116 (fun z28 u29 h30 => ?_)
          obtain ⟨b2, e1, hB⟩ := h30
          rw [e1]
          change Z x 0 0 (WB a c (up (up (up u 44 (m) (((bn (X i) 8 : Nat) : Int))) 45 (m) (u 20 (i))) 41 (8) (b2))) _ _ _
          refine z_aload_n C 4 dX4_giveTo_119 rfl ?_
          refine z_get C hK (v := .ref (a 44)) inX4_giveTo_X4 41 (WB_41 a c ((up (up (up u 44 (m) (((bn (X i) 8 : Nat) : Int))) 45 (m) (u 20 (i))) 41 (8) (b2)))) rfl 5 (by decide) (List.mem_of_getElem? (i := 1) rfl) rfl dX4_giveTo_120 ?_
          refine z_iload_n C 5 dX4_giveTo_123 rfl ?_
          refine z_iload C 2 dX4_giveTo_124 rfl ?_
          refine z_iast C hK (hDD _) 0 (g := (up (up (up u 44 (m) (((bn (X i) 8 : Nat) : Int))) 45 (m) (u 20 (i))) 41 (8) (b2)) 44) 44 (WB_44 a c ((up (up (up u 44 (m) (((bn (X i) 8 : Nat) : Int))) 45 (m) (u 20 (i))) 41 (8) (b2)))) rfl (by decide) (by omega) (WB_44_set a c ((up (up (up u 44 (m) (((bn (X i) 8 : Nat) : Int))) 45 (m) (u 20 (i))) 41 (8) (b2))) m (u 44 (m))) dX4_giveTo_126 ?_
          refine z_aload_n C 4 dX4_giveTo_127 rfl ?_
          refine z_get C hK (v := .ref (a 45)) inX4_giveTo_X4 41 (WB_41 a c ((up (up (up (up u 44 (m) (((bn (X i) 8 : Nat) : Int))) 45 (m) (u 20 (i))) 41 (8) (b2)) 44 (m) (u 44 (m))))) rfl 6 (by decide) (List.mem_of_getElem? (i := 2) rfl) rfl dX4_giveTo_128 ?_
          refine z_iload_n C 5 dX4_giveTo_131 rfl ?_
          refine z_iload C 1 dX4_giveTo_132 rfl ?_
          refine z_iast C hK (hDD _) 0 (g := (up (up (up (up u 44 (m) (((bn (X i) 8 : Nat) : Int))) 45 (m) (u 20 (i))) 41 (8) (b2)) 44 (m) (u 44 (m))) 45) 45 (WB_45 a c ((up (up (up (up u 44 (m) (((bn (X i) 8 : Nat) : Int))) 45 (m) (u 20 (i))) 41 (8) (b2)) 44 (m) (u 44 (m))))) rfl (by decide) (by omega) (WB_45_set a c ((up (up (up (up u 44 (m) (((bn (X i) 8 : Nat) : Int))) 45 (m) (u 20 (i))) 41 (8) (b2)) 44 (m) (u 44 (m)))) m (u 45 (m))) dX4_giveTo_134 ?_
          refine z_ws (ws' := (WB a c (up u 41 (8) (b2)))) (congrArg (WB a c) (pl_rest u m _ _ _)) ?_
          exact kret 0 (up u 41 8 b2) _ _ (⟨b2, rfl, Bst_congr hB (fun t => ⟨fun q => ⟨hz, by first | (rw [if_pos (by omega)]; exact q) | (rw [if_neg (by omega)]; exact q)⟩, fun q => by have q2 := q.2; first | (rw [if_pos (show m = used by omega)] at q2; exact q2) | (rw [if_neg (show ¬ m = used by omega)] at q2; exact q2)⟩)⟩) dX4_giveTo_135
      · have hz : ¬ nz (lvs (u 20) (u 3 8) X L T i m used) := by first | exact nz_no (lvs_new (by omega)) h23 | exact nz_no (lvs_old (by omega)) h23
        exact kret 0 u _ _ (⟨u 41 8, (up_self u 41 8).symm, Bst_none hb.1 (fun t h => absurd h.1 hz)⟩) dX4_giveTo_76
    · skip
      refine z_iload C 0 dX4_giveTo_41 rfl ?_
      refine z_iload C 2 dX4_giveTo_43 rfl ?_
      refine z_as (b := ((bn (L m) 8 : Nat) : Int)) (hL m (by omega) (by omega)) ?_
      refine z_aload_n C 4 dX4_giveTo_45 rfl ?_
      refine z_get C hK (v := .ref (a 3)) inX4_giveTo_X4 41 (WB_41 a c u) rfl 0 (by decide) (List.mem_of_getElem? (i := 4) rfl) rfl dX4_giveTo_46 ?_
      refine z_getN C hK (v := .int (zI (u 3 8))) inX4_giveTo_X8 3 (WB_3 a c u) rfl 8 (by decide) (List.mem_of_getElem? (i := 37) rfl) rfl dX4_giveTo_49 ?_
      refine z_aload_n C 4 dX4_giveTo_52 rfl ?_
      refine z_get C hK (v := .ref (a 17)) inX4_giveTo_X4 41 (WB_41 a c u) rfl 1 (by decide) (List.mem_of_getElem? (i := 5) rfl) rfl dX4_giveTo_53 ?_
      refine z_getN C hK (v := .ref (a 20)) inX4_giveTo_X2 17 (WB_17 a c u) rfl 2 (by decide) (List.mem_of_getElem? (i := 36) rfl) rfl dX4_giveTo_56 ?_
      refine z_iload_n C 6 dX4_giveTo_59 rfl ?_
      refine z_iald C hK 0 (g := (u 20)) (i := i) 20 (WB_20 a c u) rfl (by decide) (by omega) dX4_giveTo_60 ?_
      refine z_as (b := u 20 (i)) rfl ?_
      have hTm := hT m (by omega) (by omega)
      have hTi := hTm.2.2 i (Int.le_refl _) (by omega)
      have hsp := pl_pc (d := u 20 i - T m) hq2 (by omega)
      refine z_iload C 1 dX4_giveTo_61 rfl ?_
      refine z_as (b := T m) ((hT m (by omega) (by omega)).1) ?_
      refine z_isub C dX4_giveTo_63 ?_
      refine z_imul C dX4_giveTo_64 ?_
      refine z_callSN C hK hDD (c_X10_spread (zl x) (zG x) ((WB a c)) (WB_addr a c) u ((L m)) ((u 3 8) * ((u 20 (i)) - (T m))) (by omega)) ggX4_giveTo_X10_spread (List.mem_of_getElem? (i := 32) rfl) (List.mem_of_getElem? (i := 7) rfl) (List.mem_of_getElem? (i := 6) rfl) rfl zy_X10_spread ⟨by omega, by decide⟩ rfl (Nat.le_of_ble_eq_true rfl) (st := [.int (zI (((bn (X i) 8 : Nat) : Int)))]) (stk2 := fun z31 => [.int (zI z31), .int (zI (((bn (X i) 8 : Nat) : Int)))]) rfl (fun _ => rfl) dX4_giveTo_65 (fun z31 u32 h33 => ?_)
      rw [h33.1]; replace h33 := h33.2
      refine z_as (b := ((bn (sprd ((L m)) ((u 3 8) * ((u 20 (i)) - (T m)))) 8 : Nat) : Int)) h33 ?_
      refine z_iand C (((bn (fun q => X i q && sprd (L m) (u 3 8 * (u 20 i - T m)) q) 8 : Nat) : Int)) dX4_giveTo_68 (by rw [zI_and, bn_and]) ?_
      refine z_istore C [(7, .int (zI (((bn (fun q => X i q && sprd (L m) (u 3 8 * (u 20 i - T m)) q) 8 : Nat) : Int)))), (6, .int (zI (u 45 (m)))), (5, .int (zI (u 44 (m)))), (4, .int (zI 1)), (0, .ref (a 41)), (1, .int (zI m)), (2, .int (zI i)), (3, .int (zI used))] dX4_giveTo_69 (by decide) rfl ?_
      refine z_iload C 0 dX4_giveTo_71 rfl ?_
      refine z_if_ne C 77 dX4_giveTo_73 (by decide) (by have h1 := bn_8 (X i) (n := 8) (by omega); have h2 := bn_8 (fun q => X i q && sprd (L m) (u 3 8 * (u 20 i - T m)) q) (n := 8) (by omega); omega) (fun h34 => ?_) (fun h34 => ?_)
      · have hz : nz (lvs (u 20) (u 3 8) X L T i m used) := by first | exact nz_yes (lvs_new (by omega)) h34 | exact nz_yes (lvs_old (by omega)) h34
        refine z_aload_n C 4 dX4_giveTo_77 rfl ?_
        refine z_get C hK (v := .ref (a 44)) inX4_giveTo_X4 41 (WB_41 a c u) rfl 5 (by decide) (List.mem_of_getElem? (i := 1) rfl) rfl dX4_giveTo_78 ?_
        refine z_iload_n C 5 dX4_giveTo_81 rfl ?_
        refine z_iload C 0 dX4_giveTo_82 rfl ?_
        refine z_iast C hK (hDD _) 0 (g := u 44) 44 (WB_44 a c u) rfl (by decide) (by omega) (WB_44_set a c u m (((bn (fun q => X i q && sprd (L m) (u 3 8 * (u 20 i - T m)) q) 8 : Nat) : Int))) dX4_giveTo_84 ?_
        refine z_aload_n C 4 dX4_giveTo_85 rfl ?_
        refine z_get C hK (v := .ref (a 45)) inX4_giveTo_X4 41 (WB_41 a c ((up u 44 (m) (((bn (fun q => X i q && sprd (L m) (u 3 8 * (u 20 i - T m)) q) 8 : Nat) : Int))))) rfl 6 (by decide) (List.mem_of_getElem? (i := 2) rfl) rfl dX4_giveTo_86 ?_
        refine z_iload_n C 5 dX4_giveTo_89 rfl ?_
        refine z_aload_n C 4 dX4_giveTo_90 rfl ?_
        refine z_get C hK (v := .ref (a 17)) inX4_giveTo_X4 41 (WB_41 a c ((up u 44 (m) (((bn (fun q => X i q && sprd (L m) (u 3 8 * (u 20 i - T m)) q) 8 : Nat) : Int))))) rfl 1 (by decide) (List.mem_of_getElem? (i := 5) rfl) rfl dX4_giveTo_91 ?_
        refine z_getN C hK (v := .ref (a 20)) inX4_giveTo_X2 17 (WB_17 a c ((up u 44 (m) (((bn (fun q => X i q && sprd (L m) (u 3 8 * (u 20 i - T m)) q) 8 : Nat) : Int))))) rfl 2 (by decide) (List.mem_of_getElem? (i := 36) rfl) rfl dX4_giveTo_94 ?_
        refine z_iload_n C 6 dX4_giveTo_97 rfl ?_
        refine z_iald C hK 0 (g := (u 20)) (i := i) 20 (WB_20 a c ((up u 44 (m) (((bn (fun q => X i q && sprd (L m) (u 3 8 * (u 20 i - T m)) q) 8 : Nat) : Int))))) rfl (by decide) (by omega) dX4_giveTo_98 ?_
        refine z_as (b := u 20 (i)) rfl ?_
        refine z_iast C hK (hDD _) 0 (g := (up u 44 (m) (((bn (fun q => X i q && sprd (L m) (u 3 8 * (u 20 i - T m)) q) 8 : Nat) : Int))) 45) 45 (WB_45 a c ((up u 44 (m) (((bn (fun q => X i q && sprd (L m) (u 3 8 * (u 20 i - T m)) q) 8 : Nat) : Int))))) rfl (by decide) (by omega) (WB_45_set a c ((up u 44 (m) (((bn (fun q => X i q && sprd (L m) (u 3 8 * (u 20 i - T m)) q) 8 : Nat) : Int)))) m (u 20 (i))) dX4_giveTo_99 ?_
        refine z_aload_n C 4 dX4_giveTo_100 rfl ?_
        refine z_iload_n C 6 dX4_giveTo_101 rfl ?_
        refine z_iconst C dX4_giveTo_102 ?_
        refine z_iadd C dX4_giveTo_103 ?_
        refine z_iload C 3 dX4_giveTo_104 rfl ?_
        refine z_if_eq C 115 dX4_giveTo_106 (by decide) (by omega) (fun h35 => ?_) (fun h35 => ?_)
        · skip
          refine z_iload_n C 7 dX4_giveTo_115 rfl ?_
          refine z_callV C hK hDD (c_X4_giveToMen_1 (zl x) (zG x) a c ((up (up u 44 (m) (((bn (fun q => X i q && sprd (L m) (u 3 8 * (u 20 i - T m)) q) 8 : Nat) : Int))) 45 (m) (u 20 (i)))) (i + 1) used E X ((fun j => if j = m then lvs (u 20) (u 3 8) X L T i m used else L j)) ((fun j => if j = m then u 20 i else T j)) (show (i + 1) = (u 17 8) - 1 by omega) (show 0 ≤ (i + 1) by omega) (show 0 ≤ used ∧ used ≤ 3 by omega) (hQ) (show 0 ≤ (u 41 8) ∧ (u 41 8) ≤ 4 by omega) (hX) (hE) (pl_hL hL (by first | exact Or.inl (by omega) | exact Or.inr ⟨by omega, by omega⟩) (by first | exact lvs_new (by omega) | exact lvs_old (by omega))) (pl_hT (by omega) hmi.1 hQ.2.2.2 hT (by first | exact Or.inl (by omega) | exact Or.inr ⟨by omega, by omega⟩))) gX4_giveTo_X4_giveToMen rfl zy_X4_giveToMen 41 (WB_41 a c ((up (up u 44 (m) (((bn (fun q => X i q && sprd (L m) (u 3 8 * (u 20 i - T m)) q) 8 : Nat) : Int))) 45 (m) (u 20 (i))))) rfl ⟨by omega, by decide⟩ rfl (Nat.le_of_ble_eq_true rfl) (st := []) (stk2 := fun _ => []) rfl (fun _ => rfl) dX4_giveTo_116 (fun z36 u37 h38 => ?_)
          obtain ⟨b2, e1, hB⟩ := h38
          rw [e1]
          change Z x 0 0 (WB a c (up (up (up u 44 (m) (((bn (fun q => X i q && sprd (L m) (u 3 8 * (u 20 i - T m)) q) 8 : Nat) : Int))) 45 (m) (u 20 (i))) 41 (8) (b2))) _ _ _
          refine z_aload_n C 4 dX4_giveTo_119 rfl ?_
          refine z_get C hK (v := .ref (a 44)) inX4_giveTo_X4 41 (WB_41 a c ((up (up (up u 44 (m) (((bn (fun q => X i q && sprd (L m) (u 3 8 * (u 20 i - T m)) q) 8 : Nat) : Int))) 45 (m) (u 20 (i))) 41 (8) (b2)))) rfl 5 (by decide) (List.mem_of_getElem? (i := 1) rfl) rfl dX4_giveTo_120 ?_
          refine z_iload_n C 5 dX4_giveTo_123 rfl ?_
          refine z_iload C 2 dX4_giveTo_124 rfl ?_
          refine z_iast C hK (hDD _) 0 (g := (up (up (up u 44 (m) (((bn (fun q => X i q && sprd (L m) (u 3 8 * (u 20 i - T m)) q) 8 : Nat) : Int))) 45 (m) (u 20 (i))) 41 (8) (b2)) 44) 44 (WB_44 a c ((up (up (up u 44 (m) (((bn (fun q => X i q && sprd (L m) (u 3 8 * (u 20 i - T m)) q) 8 : Nat) : Int))) 45 (m) (u 20 (i))) 41 (8) (b2)))) rfl (by decide) (by omega) (WB_44_set a c ((up (up (up u 44 (m) (((bn (fun q => X i q && sprd (L m) (u 3 8 * (u 20 i - T m)) q) 8 : Nat) : Int))) 45 (m) (u 20 (i))) 41 (8) (b2))) m (u 44 (m))) dX4_giveTo_126 ?_
          refine z_aload_n C 4 dX4_giveTo_127 rfl ?_
          refine z_get C hK (v := .ref (a 45)) inX4_giveTo_X4 41 (WB_41 a c ((up (up (up (up u 44 (m) (((bn (fun q => X i q && sprd (L m) (u 3 8 * (u 20 i - T m)) q) 8 : Nat) : Int))) 45 (m) (u 20 (i))) 41 (8) (b2)) 44 (m) (u 44 (m))))) rfl 6 (by decide) (List.mem_of_getElem? (i := 2) rfl) rfl dX4_giveTo_128 ?_
          refine z_iload_n C 5 dX4_giveTo_131 rfl ?_
          refine z_iload C 1 dX4_giveTo_132 rfl ?_
          refine z_iast C hK (hDD _) 0 (g := (up (up (up (up u 44 (m) (((bn (fun q => X i q && sprd (L m) (u 3 8 * (u 20 i - T m)) q) 8 : Nat) : Int))) 45 (m) (u 20 (i))) 41 (8) (b2)) 44 (m) (u 44 (m))) 45) 45 (WB_45 a c ((up (up (up (up u 44 (m) (((bn (fun q => X i q && sprd (L m) (u 3 8 * (u 20 i - T m)) q) 8 : Nat) : Int))) 45 (m) (u 20 (i))) 41 (8) (b2)) 44 (m) (u 44 (m))))) rfl (by decide) (by omega) (WB_45_set a c ((up (up (up (up u 44 (m) (((bn (fun q => X i q && sprd (L m) (u 3 8 * (u 20 i - T m)) q) 8 : Nat) : Int))) 45 (m) (u 20 (i))) 41 (8) (b2)) 44 (m) (u 44 (m)))) m (u 45 (m))) dX4_giveTo_134 ?_
          refine z_ws (ws' := (WB a c (up u 41 (8) (b2)))) (congrArg (WB a c) (pl_rest u m _ _ _)) ?_
          exact kret 0 (up u 41 8 b2) _ _ (⟨b2, rfl, Bst_congr hB (fun t => ⟨fun q => ⟨hz, by first | (rw [if_pos (by omega)]; exact q) | (rw [if_neg (by omega)]; exact q)⟩, fun q => by have q2 := q.2; first | (rw [if_pos (show m = used by omega)] at q2; exact q2) | (rw [if_neg (show ¬ m = used by omega)] at q2; exact q2)⟩)⟩) dX4_giveTo_135
        · skip
          refine z_iload_n C 7 dX4_giveTo_109 rfl ?_
          refine z_iconst C dX4_giveTo_110 ?_
          refine z_iadd C dX4_giveTo_111 ?_
          refine z_goto C 116 dX4_giveTo_112 (by decide) ?_
          refine z_callV C hK hDD (c_X4_giveToMen_1 (zl x) (zG x) a c ((up (up u 44 (m) (((bn (fun q => X i q && sprd (L m) (u 3 8 * (u 20 i - T m)) q) 8 : Nat) : Int))) 45 (m) (u 20 (i)))) (i + 1) (used + 1) E X ((fun j => if j = m then lvs (u 20) (u 3 8) X L T i m used else L j)) ((fun j => if j = m then u 20 i else T j)) (show (i + 1) = (u 17 8) - 1 by omega) (show 0 ≤ (i + 1) by omega) (show 0 ≤ (used + 1) ∧ (used + 1) ≤ 3 by omega) (hQ) (show 0 ≤ (u 41 8) ∧ (u 41 8) ≤ 4 by omega) (hX) (hE) (pl_hL hL (by first | exact Or.inl (by omega) | exact Or.inr ⟨by omega, by omega⟩) (by first | exact lvs_new (by omega) | exact lvs_old (by omega))) (pl_hT (by omega) hmi.1 hQ.2.2.2 hT (by first | exact Or.inl (by omega) | exact Or.inr ⟨by omega, by omega⟩))) gX4_giveTo_X4_giveToMen rfl zy_X4_giveToMen 41 (WB_41 a c ((up (up u 44 (m) (((bn (fun q => X i q && sprd (L m) (u 3 8 * (u 20 i - T m)) q) 8 : Nat) : Int))) 45 (m) (u 20 (i))))) rfl ⟨by omega, by decide⟩ rfl (Nat.le_of_ble_eq_true rfl) (st := []) (stk2 := fun _ => []) rfl (fun _ => rfl) dX4_giveTo_116 (fun z39 u40 h41 => ?_)
          obtain ⟨b2, e1, hB⟩ := h41
          rw [e1]
          change Z x 0 0 (WB a c (up (up (up u 44 (m) (((bn (fun q => X i q && sprd (L m) (u 3 8 * (u 20 i - T m)) q) 8 : Nat) : Int))) 45 (m) (u 20 (i))) 41 (8) (b2))) _ _ _
          refine z_aload_n C 4 dX4_giveTo_119 rfl ?_
          refine z_get C hK (v := .ref (a 44)) inX4_giveTo_X4 41 (WB_41 a c ((up (up (up u 44 (m) (((bn (fun q => X i q && sprd (L m) (u 3 8 * (u 20 i - T m)) q) 8 : Nat) : Int))) 45 (m) (u 20 (i))) 41 (8) (b2)))) rfl 5 (by decide) (List.mem_of_getElem? (i := 1) rfl) rfl dX4_giveTo_120 ?_
          refine z_iload_n C 5 dX4_giveTo_123 rfl ?_
          refine z_iload C 2 dX4_giveTo_124 rfl ?_
          refine z_iast C hK (hDD _) 0 (g := (up (up (up u 44 (m) (((bn (fun q => X i q && sprd (L m) (u 3 8 * (u 20 i - T m)) q) 8 : Nat) : Int))) 45 (m) (u 20 (i))) 41 (8) (b2)) 44) 44 (WB_44 a c ((up (up (up u 44 (m) (((bn (fun q => X i q && sprd (L m) (u 3 8 * (u 20 i - T m)) q) 8 : Nat) : Int))) 45 (m) (u 20 (i))) 41 (8) (b2)))) rfl (by decide) (by omega) (WB_44_set a c ((up (up (up u 44 (m) (((bn (fun q => X i q && sprd (L m) (u 3 8 * (u 20 i - T m)) q) 8 : Nat) : Int))) 45 (m) (u 20 (i))) 41 (8) (b2))) m (u 44 (m))) dX4_giveTo_126 ?_
          refine z_aload_n C 4 dX4_giveTo_127 rfl ?_
          refine z_get C hK (v := .ref (a 45)) inX4_giveTo_X4 41 (WB_41 a c ((up (up (up (up u 44 (m) (((bn (fun q => X i q && sprd (L m) (u 3 8 * (u 20 i - T m)) q) 8 : Nat) : Int))) 45 (m) (u 20 (i))) 41 (8) (b2)) 44 (m) (u 44 (m))))) rfl 6 (by decide) (List.mem_of_getElem? (i := 2) rfl) rfl dX4_giveTo_128 ?_
          refine z_iload_n C 5 dX4_giveTo_131 rfl ?_
          refine z_iload C 1 dX4_giveTo_132 rfl ?_
          refine z_iast C hK (hDD _) 0 (g := (up (up (up (up u 44 (m) (((bn (fun q => X i q && sprd (L m) (u 3 8 * (u 20 i - T m)) q) 8 : Nat) : Int))) 45 (m) (u 20 (i))) 41 (8) (b2)) 44 (m) (u 44 (m))) 45) 45 (WB_45 a c ((up (up (up (up u 44 (m) (((bn (fun q => X i q && sprd (L m) (u 3 8 * (u 20 i - T m)) q) 8 : Nat) : Int))) 45 (m) (u 20 (i))) 41 (8) (b2)) 44 (m) (u 44 (m))))) rfl (by decide) (by omega) (WB_45_set a c ((up (up (up (up u 44 (m) (((bn (fun q => X i q && sprd (L m) (u 3 8 * (u 20 i - T m)) q) 8 : Nat) : Int))) 45 (m) (u 20 (i))) 41 (8) (b2)) 44 (m) (u 44 (m)))) m (u 45 (m))) dX4_giveTo_134 ?_
          refine z_ws (ws' := (WB a c (up u 41 (8) (b2)))) (congrArg (WB a c) (pl_rest u m _ _ _)) ?_
          exact kret 0 (up u 41 8 b2) _ _ (⟨b2, rfl, Bst_congr hB (fun t => ⟨fun q => ⟨hz, by first | (rw [if_pos (by omega)]; exact q) | (rw [if_neg (by omega)]; exact q)⟩, fun q => by have q2 := q.2; first | (rw [if_pos (show m = used by omega)] at q2; exact q2) | (rw [if_neg (show ¬ m = used by omega)] at q2; exact q2)⟩)⟩) dX4_giveTo_135
      · have hz : ¬ nz (lvs (u 20) (u 3 8) X L T i m used) := by first | exact nz_no (lvs_new (by omega)) h34 | exact nz_no (lvs_old (by omega)) h34
        exact kret 0 u _ _ (⟨u 41 8, (up_self u 41 8).symm, Bst_none hb.1 (fun t h => absurd h.1 hz)⟩) dX4_giveTo_76
-- NoteBells$Pluckers.giveToMen
set_option maxHeartbeats 8000000 in
set_option maxRecDepth 100000 in
theorem c_X4_giveToMen_2 (l : Launch) (D : va_G) (a : Nat → Nat) (c : Nat → ClassId) (u : zU) (i used : Int) (E : Int → Bool) (X L : Int → Nat → Bool) (T : Int → Int) (hi : i = u 17 8 - 2) (b_i : 0 ≤ i) (hu : 0 ≤ used ∧ used ≤ 3) (hQ : PQ (u 17 8) (u 3 8) (u 20)) (hb : 0 ≤ u 41 8 ∧ u 41 8 ≤ 4) (hX : ∀ k : Int, 0 ≤ k → k < u 17 8 → u 42 k = ((bn (X k) 8 : Nat) : Int)) (hE : ∀ k : Int, 0 ≤ k → k < u 17 8 → u 43 k = if E k = true then 1 else 0) (hL : ∀ j : Int, 0 ≤ j → j < used → u 44 j = ((bn (L j) 8 : Nat) : Int)) (hT : ∀ j : Int, 0 ≤ j → j < used → u 45 j = T j ∧ 0 ≤ T j ∧ ∀ k : Int, i ≤ k → k < u 17 8 → T j ≤ u 20 k) : ZM l D (zTy c) (WB a c) yX4_giveToMen wsX4_giveToMen 7 [.ref (a 41), .int (zI i), .int (zI used)] u rV (fun z u' => ∃ b' : Int, u' = up u 41 8 b' ∧ Bst (u 41 8) b' (fun t => Can (u 20) (u 3 8) (u 17 8) E X 2 L T used t)) := by
  refine ZM.ofV (cc := cX4_giveToMen) (maxL := 4) [(0, .ref (a 41)), (1, .int (zI i)), (2, .int (zI used))] rfl (by decide +kernel) rfl (Nat.le_of_ble_eq_true rfl) (WB_addr a c) ?_
  intro x C hK _ _ hDD kret
  have hq1 := hQ.1
  have hq2 := hQ.2.1
  refine z_iload_n C 2 dX4_giveToMen_0 rfl ?_
  refine z_aload_n C 0 dX4_giveToMen_1 rfl ?_
  refine z_get C hK (v := .int (zI (u 41 8))) inX4_giveToMen_X4 41 (WB_41 a c u) rfl 8 (by decide) (List.mem_of_getElem? (i := 1) rfl) rfl dX4_giveToMen_2 ?_
  refine z_icmp_lt C 9 dX4_giveToMen_5 (by decide) (by omega) (fun h1 => ?_) (fun h1 => ?_)
  · skip
    refine z_iload_n C 1 dX4_giveToMen_9 rfl ?_
    refine z_aload_n C 0 dX4_giveToMen_10 rfl ?_
    refine z_get C hK (v := .ref (a 17)) inX4_giveToMen_X4 41 (WB_41 a c u) rfl 1 (by decide) (List.mem_of_getElem? (i := 2) rfl) rfl dX4_giveToMen_11 ?_
    refine z_getN C hK (v := .int (zI (u 17 8))) inX4_giveToMen_X2 17 (WB_17 a c u) rfl 8 (by decide) (List.mem_of_getElem? (i := 34) rfl) rfl dX4_giveToMen_14 ?_
    refine z_icmp_lt C 26 dX4_giveToMen_17 (by decide) (by omega) (fun h2 => ?_) (fun h2 => ?_)
    · skip
      refine z_aload_n C 0 dX4_giveToMen_26 rfl ?_
      refine z_get C hK (v := .ref (a 43)) inX4_giveToMen_X4 41 (WB_41 a c u) rfl 4 (by decide) (List.mem_of_getElem? (i := 3) rfl) rfl dX4_giveToMen_27 ?_
      refine z_iload_n C 1 dX4_giveToMen_30 rfl ?_
      refine z_zald C hK 1 (g := (u 43)) (i := i) 43 (WB_43 a c u) rfl (by decide) (by omega) dX4_giveToMen_31 ?_
      refine z_as (b := u 43 (i)) rfl ?_
      refine z_as (b := (if E i = true then 1 else 0)) (hE i (by omega) (by omega)) ?_
      refine z_if_eq C 44 dX4_giveToMen_32 (by decide) (by split <;> omega) (fun h3 => ?_) (fun h3 => ?_)
      · have hEi := ite01_eq h3
        refine z_iconst C dX4_giveToMen_44 ?_
        refine z_ws (ws' := (WB a c (up u 41 (8) ((u 41 8))))) (congrArg (WB a c) (up_self u 41 8).symm) ?_
        refine z_istore_n C [(3, .int (zI 0)), (0, .ref (a 41)), (1, .int (zI i)), (2, .int (zI used))] dX4_giveToMen_45 rfl (by decide) rfl ?_
        have L46_4 : ∀ (fu : Nat) (m : Int) (b : Int), (0 ≤ m ∧ m ≤ used + 1 ∧ m ≤ 3) → (E i = false) → (Bst (u 41 8) b (fun t => ∃ k : Int, 0 ≤ k ∧ k < m ∧ Gv (u 20) (u 3 8) (u 17 8) E X 1 i L T used k t)) → 3 - m < (fu : Int) → Z x 0 0 (WB a c (up u 41 (8) (b))) [(0, .ref (a 41)), (1, .int (zI i)), (2, .int (zI used)), (3, .int (zI m))] 46 [] := by
          intro fu
          induction fu with
          | zero => intro m b hm hEf hB hmeas; exfalso; omega
          | succ fu ih46 =>
            intro m b hm hEf hB hmeas
            refine z_iload_n C 3 dX4_giveToMen_46 rfl ?_
            refine z_iload_n C 2 dX4_giveToMen_47 rfl ?_
            refine z_icmp_gt C 69 dX4_giveToMen_48 (by decide) (by omega) (fun h5 => ?_) (fun h5 => ?_)
            · skip
              exact kret 0 (up u 41 8 b) _ _ (⟨b, rfl, Bst_congr hB (Can_give (by omega) hEf (by omega))⟩) dX4_giveToMen_69
            · skip
              refine z_iload_n C 3 dX4_giveToMen_51 rfl ?_
              refine z_iconst C dX4_giveToMen_52 ?_
              refine z_icmp_ge C 69 dX4_giveToMen_53 (by decide) (by omega) (fun h6 => ?_) (fun h6 => ?_)
              · skip
                exact kret 0 (up u 41 8 b) _ _ (⟨b, rfl, Bst_congr hB (Can_give (by omega) hEf (by omega))⟩) dX4_giveToMen_69
              · skip
                refine z_aload_n C 0 dX4_giveToMen_56 rfl ?_
                refine z_iload_n C 3 dX4_giveToMen_57 rfl ?_
                refine z_iload_n C 1 dX4_giveToMen_58 rfl ?_
                refine z_iload_n C 2 dX4_giveToMen_59 rfl ?_
                refine z_callV C hK hDD (c_X4_giveTo_2 (zl x) (zG x) a c ((up u 41 (8) (b))) m i used E X L T (show i = (u 17 8) - 2 by omega) (show 0 ≤ i ∧ i < (u 17 8) by omega) (show 0 ≤ m ∧ m ≤ used ∧ m < 3 by omega) (show 0 ≤ used ∧ used ≤ 3 by omega) (hQ) (show 0 ≤ b ∧ b ≤ 4 from ⟨hB.1.1, Int.le_trans hB.1.2 hb.2⟩) (hX) (hE) (hL) (hT)) gX4_giveToMen_X4_giveTo rfl zy_X4_giveTo 41 (WB_41 a c ((up u 41 (8) (b)))) rfl ⟨by omega, by decide⟩ rfl (Nat.le_of_ble_eq_true rfl) (st := []) (stk2 := fun _ => []) rfl (fun _ => rfl) dX4_giveToMen_60 (fun z7 u8 h9 => ?_)
                obtain ⟨b2, e1, hB2⟩ := h9
                rw [e1]
                change Z x 0 0 (WB a c (up u 41 (8) (b2))) _ _ _
                refine z_iinc C 3 [(3, .int (zI (m + 1))), (0, .ref (a 41)), (1, .int (zI i)), (2, .int (zI used))] dX4_giveToMen_63 rfl (by decide) rfl ?_
                refine z_goto C 46 dX4_giveToMen_66 (by decide) ?_
                refine z_lv [(0, .ref (a 41)), (1, .int (zI i)), (2, .int (zI used)), (3, .int (zI (m + 1)))] [1, 2, 3, 0] rfl ?_
                exact ih46 (m + 1) b2 (by omega) (hEf) (Bst_trans hB hB2 (gv_grow hm.1)) (by omega)
        refine z_lv [(0, .ref (a 41)), (1, .int (zI i)), (2, .int (zI used)), (3, .int (zI 0))] [1, 2, 3, 0] rfl ?_
        exact L46_4 (((3 - 0 : Int)).toNat + 1) 0 ((u 41 8)) (by omega) (hEi) (Bst_gv0 hb.1) (by omega)
      · have hEi := ite01_ne h3
        refine z_aload_n C 0 dX4_giveToMen_35 rfl ?_
        refine z_iload_n C 1 dX4_giveToMen_36 rfl ?_
        refine z_iconst C dX4_giveToMen_37 ?_
        refine z_iadd C dX4_giveToMen_38 ?_
        refine z_iload_n C 2 dX4_giveToMen_39 rfl ?_
        refine z_callV C hK hDD (c_X4_giveToMen_1 (zl x) (zG x) a c u (i + 1) used E X L T (by omega) (by omega) (by omega) (hQ) (by omega) (hX) (hE) (hL) (fun j h0 h1 => ⟨(hT j h0 h1).1, (hT j h0 h1).2.1, fun k h2 h3 => (hT j h0 h1).2.2 k (by omega) h3⟩)) gX4_giveToMen_X4_giveToMen rfl zy_X4_giveToMen 41 (WB_41 a c u) rfl ⟨by omega, by decide⟩ rfl (Nat.le_of_ble_eq_true rfl) (st := []) (stk2 := fun _ => []) rfl (fun _ => rfl) dX4_giveToMen_40 (fun z10 u11 h12 => ?_)
        obtain ⟨b2, e1, hB⟩ := h12
        rw [e1]
        change Z x 0 0 (WB a c (up u 41 (8) (b2))) _ _ _
        exact kret 0 (up u 41 8 b2) _ _ (⟨b2, rfl, Bst_congr hB (Can_echo (by omega) hEi)⟩) dX4_giveToMen_43
    · exfalso; omega
  · skip
    exact kret 0 u _ _ (⟨u 41 8, (up_self u 41 8).symm, Bst_none hb.1 (fun t h => by have := Can_ge h; omega)⟩) dX4_giveToMen_8
-- NoteBells$Pluckers.giveTo
set_option maxHeartbeats 8000000 in
set_option maxRecDepth 100000 in
theorem c_X4_giveTo_3 (l : Launch) (D : va_G) (a : Nat → Nat) (c : Nat → ClassId) (u : zU) (m i used : Int) (E : Int → Bool) (X L : Int → Nat → Bool) (T : Int → Int) (hi : i = u 17 8 - 3) (b_i : 0 ≤ i ∧ i < u 17 8) (hm : 0 ≤ m ∧ m ≤ used ∧ m < 3) (hu : 0 ≤ used ∧ used ≤ 3) (hQ : PQ (u 17 8) (u 3 8) (u 20)) (hb : 0 ≤ u 41 8 ∧ u 41 8 ≤ 4) (hX : ∀ k : Int, 0 ≤ k → k < u 17 8 → u 42 k = ((bn (X k) 8 : Nat) : Int)) (hE : ∀ k : Int, 0 ≤ k → k < u 17 8 → u 43 k = if E k = true then 1 else 0) (hL : ∀ j : Int, 0 ≤ j → j < used → u 44 j = ((bn (L j) 8 : Nat) : Int)) (hT : ∀ j : Int, 0 ≤ j → j < used → u 45 j = T j ∧ 0 ≤ T j ∧ ∀ k : Int, i ≤ k → k < u 17 8 → T j ≤ u 20 k) : ZM l D (zTy c) (WB a c) yX4_giveTo wsX4_giveTo 8 [.ref (a 41), .int (zI m), .int (zI i), .int (zI used)] u rV (fun z u' => ∃ b' : Int, u' = up u 41 8 b' ∧ Bst (u 41 8) b' (fun t => Gv (u 20) (u 3 8) (u 17 8) E X 2 i L T used m t)) := by
  refine ZM.ofV (cc := cX4_giveTo) (maxL := 8) [(0, .ref (a 41)), (1, .int (zI m)), (2, .int (zI i)), (3, .int (zI used))] rfl (by decide +kernel) rfl (Nat.le_of_ble_eq_true rfl) (WB_addr a c) ?_
  intro x C hK _ _ hDD kret
  have hq1 := hQ.1
  have hq2 := hQ.2.1
  have hmi := hQ.2.2.1 i (by omega) (by omega)
  refine z_iload_n C 1 dX4_giveTo_0 rfl ?_
  refine z_iload_n C 3 dX4_giveTo_1 rfl ?_
  refine z_icmp_ne C 9 dX4_giveTo_2 (by decide) (by omega) (fun h1 => ?_) (fun h1 => ?_)
  · skip
    refine z_iconst C dX4_giveTo_9 ?_
    refine z_istore C [(4, .int (zI 0)), (0, .ref (a 41)), (1, .int (zI m)), (2, .int (zI i)), (3, .int (zI used))] dX4_giveTo_10 (by decide) rfl ?_
    refine z_aload_n C 1 dX4_giveTo_12 rfl ?_
    refine z_get C hK (v := .ref (a 44)) inX4_giveTo_X4 41 (WB_41 a c u) rfl 5 (by decide) (List.mem_of_getElem? (i := 1) rfl) rfl dX4_giveTo_13 ?_
    refine z_iload_n C 2 dX4_giveTo_16 rfl ?_
    refine z_iald C hK 0 (g := (u 44)) (i := m) 44 (WB_44 a c u) rfl (by decide) (by omega) dX4_giveTo_17 ?_
    refine z_as (b := u 44 (m)) rfl ?_
    refine z_istore C [(5, .int (zI (u 44 (m)))), (4, .int (zI 0)), (0, .ref (a 41)), (1, .int (zI m)), (2, .int (zI i)), (3, .int (zI used))] dX4_giveTo_18 (by decide) rfl ?_
    refine z_aload_n C 2 dX4_giveTo_20 rfl ?_
    refine z_get C hK (v := .ref (a 45)) inX4_giveTo_X4 41 (WB_41 a c u) rfl 6 (by decide) (List.mem_of_getElem? (i := 2) rfl) rfl dX4_giveTo_21 ?_
    refine z_iload_n C 3 dX4_giveTo_24 rfl ?_
    refine z_iald C hK 0 (g := (u 45)) (i := m) 45 (WB_45 a c u) rfl (by decide) (by omega) dX4_giveTo_25 ?_
    refine z_as (b := u 45 (m)) rfl ?_
    refine z_istore C [(6, .int (zI (u 45 (m)))), (5, .int (zI (u 44 (m)))), (4, .int (zI 0)), (0, .ref (a 41)), (1, .int (zI m)), (2, .int (zI i)), (3, .int (zI used))] dX4_giveTo_26 (by decide) rfl ?_
    refine z_aload_n C 3 dX4_giveTo_28 rfl ?_
    refine z_get C hK (v := .ref (a 42)) inX4_giveTo_X4 41 (WB_41 a c u) rfl 3 (by decide) (List.mem_of_getElem? (i := 3) rfl) rfl dX4_giveTo_29 ?_
    refine z_iload_n C 5 dX4_giveTo_32 rfl ?_
    refine z_iald C hK 0 (g := (u 42)) (i := i) 42 (WB_42 a c u) rfl (by decide) (by omega) dX4_giveTo_33 ?_
    refine z_as (b := u 42 (i)) rfl ?_
    refine z_as (b := ((bn (X i) 8 : Nat) : Int)) (hX i (by omega) (by omega)) ?_
    refine z_istore C [(7, .int (zI (((bn (X i) 8 : Nat) : Int)))), (6, .int (zI (u 45 (m)))), (5, .int (zI (u 44 (m)))), (4, .int (zI 0)), (0, .ref (a 41)), (1, .int (zI m)), (2, .int (zI i)), (3, .int (zI used))] dX4_giveTo_34 (by decide) rfl ?_
    refine z_iload C 3 dX4_giveTo_36 rfl ?_
    refine z_if_ne C 71 dX4_giveTo_38 (by decide) (by omega) (fun h2 => ?_) (fun h2 => ?_)
    · skip
      refine z_iload C 0 dX4_giveTo_71 rfl ?_
      refine z_if_ne C 77 dX4_giveTo_73 (by decide) (by have h1 := bn_8 (X i) (n := 8) (by omega); have h2 := bn_8 (fun q => X i q && sprd (L m) (u 3 8 * (u 20 i - T m)) q) (n := 8) (by omega); omega) (fun h3 => ?_) (fun h3 => ?_)
      · have hz : nz (lvs (u 20) (u 3 8) X L T i m used) := by first | exact nz_yes (lvs_new (by omega)) h3 | exact nz_yes (lvs_old (by omega)) h3
        refine z_aload_n C 4 dX4_giveTo_77 rfl ?_
        refine z_get C hK (v := .ref (a 44)) inX4_giveTo_X4 41 (WB_41 a c u) rfl 5 (by decide) (List.mem_of_getElem? (i := 1) rfl) rfl dX4_giveTo_78 ?_
        refine z_iload_n C 5 dX4_giveTo_81 rfl ?_
        refine z_iload C 0 dX4_giveTo_82 rfl ?_
        refine z_iast C hK (hDD _) 0 (g := u 44) 44 (WB_44 a c u) rfl (by decide) (by omega) (WB_44_set a c u m (((bn (X i) 8 : Nat) : Int))) dX4_giveTo_84 ?_
        refine z_aload_n C 4 dX4_giveTo_85 rfl ?_
        refine z_get C hK (v := .ref (a 45)) inX4_giveTo_X4 41 (WB_41 a c ((up u 44 (m) (((bn (X i) 8 : Nat) : Int))))) rfl 6 (by decide) (List.mem_of_getElem? (i := 2) rfl) rfl dX4_giveTo_86 ?_
        refine z_iload_n C 5 dX4_giveTo_89 rfl ?_
        refine z_aload_n C 4 dX4_giveTo_90 rfl ?_
        refine z_get C hK (v := .ref (a 17)) inX4_giveTo_X4 41 (WB_41 a c ((up u 44 (m) (((bn (X i) 8 : Nat) : Int))))) rfl 1 (by decide) (List.mem_of_getElem? (i := 5) rfl) rfl dX4_giveTo_91 ?_
        refine z_getN C hK (v := .ref (a 20)) inX4_giveTo_X2 17 (WB_17 a c ((up u 44 (m) (((bn (X i) 8 : Nat) : Int))))) rfl 2 (by decide) (List.mem_of_getElem? (i := 36) rfl) rfl dX4_giveTo_94 ?_
        refine z_iload_n C 6 dX4_giveTo_97 rfl ?_
        refine z_iald C hK 0 (g := (u 20)) (i := i) 20 (WB_20 a c ((up u 44 (m) (((bn (X i) 8 : Nat) : Int))))) rfl (by decide) (by omega) dX4_giveTo_98 ?_
        refine z_as (b := u 20 (i)) rfl ?_
        refine z_iast C hK (hDD _) 0 (g := (up u 44 (m) (((bn (X i) 8 : Nat) : Int))) 45) 45 (WB_45 a c ((up u 44 (m) (((bn (X i) 8 : Nat) : Int))))) rfl (by decide) (by omega) (WB_45_set a c ((up u 44 (m) (((bn (X i) 8 : Nat) : Int)))) m (u 20 (i))) dX4_giveTo_99 ?_
        refine z_aload_n C 4 dX4_giveTo_100 rfl ?_
        refine z_iload_n C 6 dX4_giveTo_101 rfl ?_
        refine z_iconst C dX4_giveTo_102 ?_
        refine z_iadd C dX4_giveTo_103 ?_
        refine z_iload C 3 dX4_giveTo_104 rfl ?_
        refine z_if_eq C 115 dX4_giveTo_106 (by decide) (by omega) (fun h4 => ?_) (fun h4 => ?_)
        · skip
          refine z_iload_n C 7 dX4_giveTo_115 rfl ?_
          refine z_callV C hK hDD (c_X4_giveToMen_2 (zl x) (zG x) a c ((up (up u 44 (m) (((bn (X i) 8 : Nat) : Int))) 45 (m) (u 20 (i)))) (i + 1) used E X ((fun j => if j = m then lvs (u 20) (u 3 8) X L T i m used else L j)) ((fun j => if j = m then u 20 i else T j)) (show (i + 1) = (u 17 8) - 2 by omega) (show 0 ≤ (i + 1) by omega) (show 0 ≤ used ∧ used ≤ 3 by omega) (hQ) (show 0 ≤ (u 41 8) ∧ (u 41 8) ≤ 4 by omega) (hX) (hE) (pl_hL hL (by first | exact Or.inl (by omega) | exact Or.inr ⟨by omega, by omega⟩) (by first | exact lvs_new (by omega) | exact lvs_old (by omega))) (pl_hT (by omega) hmi.1 hQ.2.2.2 hT (by first | exact Or.inl (by omega) | exact Or.inr ⟨by omega, by omega⟩))) gX4_giveTo_X4_giveToMen rfl zy_X4_giveToMen 41 (WB_41 a c ((up (up u 44 (m) (((bn (X i) 8 : Nat) : Int))) 45 (m) (u 20 (i))))) rfl ⟨by omega, by decide⟩ rfl (Nat.le_of_ble_eq_true rfl) (st := []) (stk2 := fun _ => []) rfl (fun _ => rfl) dX4_giveTo_116 (fun z5 u6 h7 => ?_)
          obtain ⟨b2, e1, hB⟩ := h7
          rw [e1]
          change Z x 0 0 (WB a c (up (up (up u 44 (m) (((bn (X i) 8 : Nat) : Int))) 45 (m) (u 20 (i))) 41 (8) (b2))) _ _ _
          refine z_aload_n C 4 dX4_giveTo_119 rfl ?_
          refine z_get C hK (v := .ref (a 44)) inX4_giveTo_X4 41 (WB_41 a c ((up (up (up u 44 (m) (((bn (X i) 8 : Nat) : Int))) 45 (m) (u 20 (i))) 41 (8) (b2)))) rfl 5 (by decide) (List.mem_of_getElem? (i := 1) rfl) rfl dX4_giveTo_120 ?_
          refine z_iload_n C 5 dX4_giveTo_123 rfl ?_
          refine z_iload C 2 dX4_giveTo_124 rfl ?_
          refine z_iast C hK (hDD _) 0 (g := (up (up (up u 44 (m) (((bn (X i) 8 : Nat) : Int))) 45 (m) (u 20 (i))) 41 (8) (b2)) 44) 44 (WB_44 a c ((up (up (up u 44 (m) (((bn (X i) 8 : Nat) : Int))) 45 (m) (u 20 (i))) 41 (8) (b2)))) rfl (by decide) (by omega) (WB_44_set a c ((up (up (up u 44 (m) (((bn (X i) 8 : Nat) : Int))) 45 (m) (u 20 (i))) 41 (8) (b2))) m (u 44 (m))) dX4_giveTo_126 ?_
          refine z_aload_n C 4 dX4_giveTo_127 rfl ?_
          refine z_get C hK (v := .ref (a 45)) inX4_giveTo_X4 41 (WB_41 a c ((up (up (up (up u 44 (m) (((bn (X i) 8 : Nat) : Int))) 45 (m) (u 20 (i))) 41 (8) (b2)) 44 (m) (u 44 (m))))) rfl 6 (by decide) (List.mem_of_getElem? (i := 2) rfl) rfl dX4_giveTo_128 ?_
          refine z_iload_n C 5 dX4_giveTo_131 rfl ?_
          refine z_iload C 1 dX4_giveTo_132 rfl ?_
          refine z_iast C hK (hDD _) 0 (g := (up (up (up (up u 44 (m) (((bn (X i) 8 : Nat) : Int))) 45 (m) (u 20 (i))) 41 (8) (b2)) 44 (m) (u 44 (m))) 45) 45 (WB_45 a c ((up (up (up (up u 44 (m) (((bn (X i) 8 : Nat) : Int))) 45 (m) (u 20 (i))) 41 (8) (b2)) 44 (m) (u 44 (m))))) rfl (by decide) (by omega) (WB_45_set a c ((up (up (up (up u 44 (m) (((bn (X i) 8 : Nat) : Int))) 45 (m) (u 20 (i))) 41 (8) (b2)) 44 (m) (u 44 (m)))) m (u 45 (m))) dX4_giveTo_134 ?_
          refine z_ws (ws' := (WB a c (up u 41 (8) (b2)))) (congrArg (WB a c) (pl_rest u m _ _ _)) ?_
          exact kret 0 (up u 41 8 b2) _ _ (⟨b2, rfl, Bst_congr hB (fun t => ⟨fun q => ⟨hz, by first | (rw [if_pos (by omega)]; exact q) | (rw [if_neg (by omega)]; exact q)⟩, fun q => by have q2 := q.2; first | (rw [if_pos (show m = used by omega)] at q2; exact q2) | (rw [if_neg (show ¬ m = used by omega)] at q2; exact q2)⟩)⟩) dX4_giveTo_135
        · skip
          refine z_iload_n C 7 dX4_giveTo_109 rfl ?_
          refine z_iconst C dX4_giveTo_110 ?_
          refine z_iadd C dX4_giveTo_111 ?_
          refine z_goto C 116 dX4_giveTo_112 (by decide) ?_
          refine z_callV C hK hDD (c_X4_giveToMen_2 (zl x) (zG x) a c ((up (up u 44 (m) (((bn (X i) 8 : Nat) : Int))) 45 (m) (u 20 (i)))) (i + 1) (used + 1) E X ((fun j => if j = m then lvs (u 20) (u 3 8) X L T i m used else L j)) ((fun j => if j = m then u 20 i else T j)) (show (i + 1) = (u 17 8) - 2 by omega) (show 0 ≤ (i + 1) by omega) (show 0 ≤ (used + 1) ∧ (used + 1) ≤ 3 by omega) (hQ) (show 0 ≤ (u 41 8) ∧ (u 41 8) ≤ 4 by omega) (hX) (hE) (pl_hL hL (by first | exact Or.inl (by omega) | exact Or.inr ⟨by omega, by omega⟩) (by first | exact lvs_new (by omega) | exact lvs_old (by omega))) (pl_hT (by omega) hmi.1 hQ.2.2.2 hT (by first | exact Or.inl (by omega) | exact Or.inr ⟨by omega, by omega⟩))) gX4_giveTo_X4_giveToMen rfl zy_X4_giveToMen 41 (WB_41 a c ((up (up u 44 (m) (((bn (X i) 8 : Nat) : Int))) 45 (m) (u 20 (i))))) rfl ⟨by omega, by decide⟩ rfl (Nat.le_of_ble_eq_true rfl) (st := []) (stk2 := fun _ => []) rfl (fun _ => rfl) dX4_giveTo_116 (fun z8 u9 h10 => ?_)
          obtain ⟨b2, e1, hB⟩ := h10
          rw [e1]
          change Z x 0 0 (WB a c (up (up (up u 44 (m) (((bn (X i) 8 : Nat) : Int))) 45 (m) (u 20 (i))) 41 (8) (b2))) _ _ _
          refine z_aload_n C 4 dX4_giveTo_119 rfl ?_
          refine z_get C hK (v := .ref (a 44)) inX4_giveTo_X4 41 (WB_41 a c ((up (up (up u 44 (m) (((bn (X i) 8 : Nat) : Int))) 45 (m) (u 20 (i))) 41 (8) (b2)))) rfl 5 (by decide) (List.mem_of_getElem? (i := 1) rfl) rfl dX4_giveTo_120 ?_
          refine z_iload_n C 5 dX4_giveTo_123 rfl ?_
          refine z_iload C 2 dX4_giveTo_124 rfl ?_
          refine z_iast C hK (hDD _) 0 (g := (up (up (up u 44 (m) (((bn (X i) 8 : Nat) : Int))) 45 (m) (u 20 (i))) 41 (8) (b2)) 44) 44 (WB_44 a c ((up (up (up u 44 (m) (((bn (X i) 8 : Nat) : Int))) 45 (m) (u 20 (i))) 41 (8) (b2)))) rfl (by decide) (by omega) (WB_44_set a c ((up (up (up u 44 (m) (((bn (X i) 8 : Nat) : Int))) 45 (m) (u 20 (i))) 41 (8) (b2))) m (u 44 (m))) dX4_giveTo_126 ?_
          refine z_aload_n C 4 dX4_giveTo_127 rfl ?_
          refine z_get C hK (v := .ref (a 45)) inX4_giveTo_X4 41 (WB_41 a c ((up (up (up (up u 44 (m) (((bn (X i) 8 : Nat) : Int))) 45 (m) (u 20 (i))) 41 (8) (b2)) 44 (m) (u 44 (m))))) rfl 6 (by decide) (List.mem_of_getElem? (i := 2) rfl) rfl dX4_giveTo_128 ?_
          refine z_iload_n C 5 dX4_giveTo_131 rfl ?_
          refine z_iload C 1 dX4_giveTo_132 rfl ?_
          refine z_iast C hK (hDD _) 0 (g := (up (up (up (up u 44 (m) (((bn (X i) 8 : Nat) : Int))) 45 (m) (u 20 (i))) 41 (8) (b2)) 44 (m) (u 44 (m))) 45) 45 (WB_45 a c ((up (up (up (up u 44 (m) (((bn (X i) 8 : Nat) : Int))) 45 (m) (u 20 (i))) 41 (8) (b2)) 44 (m) (u 44 (m))))) rfl (by decide) (by omega) (WB_45_set a c ((up (up (up (up u 44 (m) (((bn (X i) 8 : Nat) : Int))) 45 (m) (u 20 (i))) 41 (8) (b2)) 44 (m) (u 44 (m)))) m (u 45 (m))) dX4_giveTo_134 ?_
          refine z_ws (ws' := (WB a c (up u 41 (8) (b2)))) (congrArg (WB a c) (pl_rest u m _ _ _)) ?_
          exact kret 0 (up u 41 8 b2) _ _ (⟨b2, rfl, Bst_congr hB (fun t => ⟨fun q => ⟨hz, by first | (rw [if_pos (by omega)]; exact q) | (rw [if_neg (by omega)]; exact q)⟩, fun q => by have q2 := q.2; first | (rw [if_pos (show m = used by omega)] at q2; exact q2) | (rw [if_neg (show ¬ m = used by omega)] at q2; exact q2)⟩)⟩) dX4_giveTo_135
      · have hz : ¬ nz (lvs (u 20) (u 3 8) X L T i m used) := by first | exact nz_no (lvs_new (by omega)) h3 | exact nz_no (lvs_old (by omega)) h3
        exact kret 0 u _ _ (⟨u 41 8, (up_self u 41 8).symm, Bst_none hb.1 (fun t h => absurd h.1 hz)⟩) dX4_giveTo_76
    · skip
      refine z_iload C 0 dX4_giveTo_41 rfl ?_
      refine z_iload C 2 dX4_giveTo_43 rfl ?_
      refine z_as (b := ((bn (L m) 8 : Nat) : Int)) (hL m (by omega) (by omega)) ?_
      refine z_aload_n C 4 dX4_giveTo_45 rfl ?_
      refine z_get C hK (v := .ref (a 3)) inX4_giveTo_X4 41 (WB_41 a c u) rfl 0 (by decide) (List.mem_of_getElem? (i := 4) rfl) rfl dX4_giveTo_46 ?_
      refine z_getN C hK (v := .int (zI (u 3 8))) inX4_giveTo_X8 3 (WB_3 a c u) rfl 8 (by decide) (List.mem_of_getElem? (i := 37) rfl) rfl dX4_giveTo_49 ?_
      refine z_aload_n C 4 dX4_giveTo_52 rfl ?_
      refine z_get C hK (v := .ref (a 17)) inX4_giveTo_X4 41 (WB_41 a c u) rfl 1 (by decide) (List.mem_of_getElem? (i := 5) rfl) rfl dX4_giveTo_53 ?_
      refine z_getN C hK (v := .ref (a 20)) inX4_giveTo_X2 17 (WB_17 a c u) rfl 2 (by decide) (List.mem_of_getElem? (i := 36) rfl) rfl dX4_giveTo_56 ?_
      refine z_iload_n C 6 dX4_giveTo_59 rfl ?_
      refine z_iald C hK 0 (g := (u 20)) (i := i) 20 (WB_20 a c u) rfl (by decide) (by omega) dX4_giveTo_60 ?_
      refine z_as (b := u 20 (i)) rfl ?_
      have hTm := hT m (by omega) (by omega)
      have hTi := hTm.2.2 i (Int.le_refl _) (by omega)
      have hsp := pl_pc (d := u 20 i - T m) hq2 (by omega)
      refine z_iload C 1 dX4_giveTo_61 rfl ?_
      refine z_as (b := T m) ((hT m (by omega) (by omega)).1) ?_
      refine z_isub C dX4_giveTo_63 ?_
      refine z_imul C dX4_giveTo_64 ?_
      refine z_callSN C hK hDD (c_X10_spread (zl x) (zG x) ((WB a c)) (WB_addr a c) u ((L m)) ((u 3 8) * ((u 20 (i)) - (T m))) (by omega)) ggX4_giveTo_X10_spread (List.mem_of_getElem? (i := 32) rfl) (List.mem_of_getElem? (i := 7) rfl) (List.mem_of_getElem? (i := 6) rfl) rfl zy_X10_spread ⟨by omega, by decide⟩ rfl (Nat.le_of_ble_eq_true rfl) (st := [.int (zI (((bn (X i) 8 : Nat) : Int)))]) (stk2 := fun z11 => [.int (zI z11), .int (zI (((bn (X i) 8 : Nat) : Int)))]) rfl (fun _ => rfl) dX4_giveTo_65 (fun z11 u12 h13 => ?_)
      rw [h13.1]; replace h13 := h13.2
      refine z_as (b := ((bn (sprd ((L m)) ((u 3 8) * ((u 20 (i)) - (T m)))) 8 : Nat) : Int)) h13 ?_
      refine z_iand C (((bn (fun q => X i q && sprd (L m) (u 3 8 * (u 20 i - T m)) q) 8 : Nat) : Int)) dX4_giveTo_68 (by rw [zI_and, bn_and]) ?_
      refine z_istore C [(7, .int (zI (((bn (fun q => X i q && sprd (L m) (u 3 8 * (u 20 i - T m)) q) 8 : Nat) : Int)))), (6, .int (zI (u 45 (m)))), (5, .int (zI (u 44 (m)))), (4, .int (zI 0)), (0, .ref (a 41)), (1, .int (zI m)), (2, .int (zI i)), (3, .int (zI used))] dX4_giveTo_69 (by decide) rfl ?_
      refine z_iload C 0 dX4_giveTo_71 rfl ?_
      refine z_if_ne C 77 dX4_giveTo_73 (by decide) (by have h1 := bn_8 (X i) (n := 8) (by omega); have h2 := bn_8 (fun q => X i q && sprd (L m) (u 3 8 * (u 20 i - T m)) q) (n := 8) (by omega); omega) (fun h14 => ?_) (fun h14 => ?_)
      · have hz : nz (lvs (u 20) (u 3 8) X L T i m used) := by first | exact nz_yes (lvs_new (by omega)) h14 | exact nz_yes (lvs_old (by omega)) h14
        refine z_aload_n C 4 dX4_giveTo_77 rfl ?_
        refine z_get C hK (v := .ref (a 44)) inX4_giveTo_X4 41 (WB_41 a c u) rfl 5 (by decide) (List.mem_of_getElem? (i := 1) rfl) rfl dX4_giveTo_78 ?_
        refine z_iload_n C 5 dX4_giveTo_81 rfl ?_
        refine z_iload C 0 dX4_giveTo_82 rfl ?_
        refine z_iast C hK (hDD _) 0 (g := u 44) 44 (WB_44 a c u) rfl (by decide) (by omega) (WB_44_set a c u m (((bn (fun q => X i q && sprd (L m) (u 3 8 * (u 20 i - T m)) q) 8 : Nat) : Int))) dX4_giveTo_84 ?_
        refine z_aload_n C 4 dX4_giveTo_85 rfl ?_
        refine z_get C hK (v := .ref (a 45)) inX4_giveTo_X4 41 (WB_41 a c ((up u 44 (m) (((bn (fun q => X i q && sprd (L m) (u 3 8 * (u 20 i - T m)) q) 8 : Nat) : Int))))) rfl 6 (by decide) (List.mem_of_getElem? (i := 2) rfl) rfl dX4_giveTo_86 ?_
        refine z_iload_n C 5 dX4_giveTo_89 rfl ?_
        refine z_aload_n C 4 dX4_giveTo_90 rfl ?_
        refine z_get C hK (v := .ref (a 17)) inX4_giveTo_X4 41 (WB_41 a c ((up u 44 (m) (((bn (fun q => X i q && sprd (L m) (u 3 8 * (u 20 i - T m)) q) 8 : Nat) : Int))))) rfl 1 (by decide) (List.mem_of_getElem? (i := 5) rfl) rfl dX4_giveTo_91 ?_
        refine z_getN C hK (v := .ref (a 20)) inX4_giveTo_X2 17 (WB_17 a c ((up u 44 (m) (((bn (fun q => X i q && sprd (L m) (u 3 8 * (u 20 i - T m)) q) 8 : Nat) : Int))))) rfl 2 (by decide) (List.mem_of_getElem? (i := 36) rfl) rfl dX4_giveTo_94 ?_
        refine z_iload_n C 6 dX4_giveTo_97 rfl ?_
        refine z_iald C hK 0 (g := (u 20)) (i := i) 20 (WB_20 a c ((up u 44 (m) (((bn (fun q => X i q && sprd (L m) (u 3 8 * (u 20 i - T m)) q) 8 : Nat) : Int))))) rfl (by decide) (by omega) dX4_giveTo_98 ?_
        refine z_as (b := u 20 (i)) rfl ?_
        refine z_iast C hK (hDD _) 0 (g := (up u 44 (m) (((bn (fun q => X i q && sprd (L m) (u 3 8 * (u 20 i - T m)) q) 8 : Nat) : Int))) 45) 45 (WB_45 a c ((up u 44 (m) (((bn (fun q => X i q && sprd (L m) (u 3 8 * (u 20 i - T m)) q) 8 : Nat) : Int))))) rfl (by decide) (by omega) (WB_45_set a c ((up u 44 (m) (((bn (fun q => X i q && sprd (L m) (u 3 8 * (u 20 i - T m)) q) 8 : Nat) : Int)))) m (u 20 (i))) dX4_giveTo_99 ?_
        refine z_aload_n C 4 dX4_giveTo_100 rfl ?_
        refine z_iload_n C 6 dX4_giveTo_101 rfl ?_
        refine z_iconst C dX4_giveTo_102 ?_
        refine z_iadd C dX4_giveTo_103 ?_
        refine z_iload C 3 dX4_giveTo_104 rfl ?_
        refine z_if_eq C 115 dX4_giveTo_106 (by decide) (by omega) (fun h15 => ?_) (fun h15 => ?_)
        · skip
          refine z_iload_n C 7 dX4_giveTo_115 rfl ?_
          refine z_callV C hK hDD (c_X4_giveToMen_2 (zl x) (zG x) a c ((up (up u 44 (m) (((bn (fun q => X i q && sprd (L m) (u 3 8 * (u 20 i - T m)) q) 8 : Nat) : Int))) 45 (m) (u 20 (i)))) (i + 1) used E X ((fun j => if j = m then lvs (u 20) (u 3 8) X L T i m used else L j)) ((fun j => if j = m then u 20 i else T j)) (show (i + 1) = (u 17 8) - 2 by omega) (show 0 ≤ (i + 1) by omega) (show 0 ≤ used ∧ used ≤ 3 by omega) (hQ) (show 0 ≤ (u 41 8) ∧ (u 41 8) ≤ 4 by omega) (hX) (hE) (pl_hL hL (by first | exact Or.inl (by omega) | exact Or.inr ⟨by omega, by omega⟩) (by first | exact lvs_new (by omega) | exact lvs_old (by omega))) (pl_hT (by omega) hmi.1 hQ.2.2.2 hT (by first | exact Or.inl (by omega) | exact Or.inr ⟨by omega, by omega⟩))) gX4_giveTo_X4_giveToMen rfl zy_X4_giveToMen 41 (WB_41 a c ((up (up u 44 (m) (((bn (fun q => X i q && sprd (L m) (u 3 8 * (u 20 i - T m)) q) 8 : Nat) : Int))) 45 (m) (u 20 (i))))) rfl ⟨by omega, by decide⟩ rfl (Nat.le_of_ble_eq_true rfl) (st := []) (stk2 := fun _ => []) rfl (fun _ => rfl) dX4_giveTo_116 (fun z16 u17 h18 => ?_)
          obtain ⟨b2, e1, hB⟩ := h18
          rw [e1]
          change Z x 0 0 (WB a c (up (up (up u 44 (m) (((bn (fun q => X i q && sprd (L m) (u 3 8 * (u 20 i - T m)) q) 8 : Nat) : Int))) 45 (m) (u 20 (i))) 41 (8) (b2))) _ _ _
          refine z_aload_n C 4 dX4_giveTo_119 rfl ?_
          refine z_get C hK (v := .ref (a 44)) inX4_giveTo_X4 41 (WB_41 a c ((up (up (up u 44 (m) (((bn (fun q => X i q && sprd (L m) (u 3 8 * (u 20 i - T m)) q) 8 : Nat) : Int))) 45 (m) (u 20 (i))) 41 (8) (b2)))) rfl 5 (by decide) (List.mem_of_getElem? (i := 1) rfl) rfl dX4_giveTo_120 ?_
          refine z_iload_n C 5 dX4_giveTo_123 rfl ?_
          refine z_iload C 2 dX4_giveTo_124 rfl ?_
          refine z_iast C hK (hDD _) 0 (g := (up (up (up u 44 (m) (((bn (fun q => X i q && sprd (L m) (u 3 8 * (u 20 i - T m)) q) 8 : Nat) : Int))) 45 (m) (u 20 (i))) 41 (8) (b2)) 44) 44 (WB_44 a c ((up (up (up u 44 (m) (((bn (fun q => X i q && sprd (L m) (u 3 8 * (u 20 i - T m)) q) 8 : Nat) : Int))) 45 (m) (u 20 (i))) 41 (8) (b2)))) rfl (by decide) (by omega) (WB_44_set a c ((up (up (up u 44 (m) (((bn (fun q => X i q && sprd (L m) (u 3 8 * (u 20 i - T m)) q) 8 : Nat) : Int))) 45 (m) (u 20 (i))) 41 (8) (b2))) m (u 44 (m))) dX4_giveTo_126 ?_
          refine z_aload_n C 4 dX4_giveTo_127 rfl ?_
          refine z_get C hK (v := .ref (a 45)) inX4_giveTo_X4 41 (WB_41 a c ((up (up (up (up u 44 (m) (((bn (fun q => X i q && sprd (L m) (u 3 8 * (u 20 i - T m)) q) 8 : Nat) : Int))) 45 (m) (u 20 (i))) 41 (8) (b2)) 44 (m) (u 44 (m))))) rfl 6 (by decide) (List.mem_of_getElem? (i := 2) rfl) rfl dX4_giveTo_128 ?_
          refine z_iload_n C 5 dX4_giveTo_131 rfl ?_
          refine z_iload C 1 dX4_giveTo_132 rfl ?_
          refine z_iast C hK (hDD _) 0 (g := (up (up (up (up u 44 (m) (((bn (fun q => X i q && sprd (L m) (u 3 8 * (u 20 i - T m)) q) 8 : Nat) : Int))) 45 (m) (u 20 (i))) 41 (8) (b2)) 44 (m) (u 44 (m))) 45) 45 (WB_45 a c ((up (up (up (up u 44 (m) (((bn (fun q => X i q && sprd (L m) (u 3 8 * (u 20 i - T m)) q) 8 : Nat) : Int))) 45 (m) (u 20 (i))) 41 (8) (b2)) 44 (m) (u 44 (m))))) rfl (by decide) (by omega) (WB_45_set a c ((up (up (up (up u 44 (m) (((bn (fun q => X i q && sprd (L m) (u 3 8 * (u 20 i - T m)) q) 8 : Nat) : Int))) 45 (m) (u 20 (i))) 41 (8) (b2)) 44 (m) (u 44 (m)))) m (u 45 (m))) dX4_giveTo_134 ?_
          refine z_ws (ws' := (WB a c (up u 41 (8) (b2)))) (congrArg (WB a c) (pl_rest u m _ _ _)) ?_
          exact kret 0 (up u 41 8 b2) _ _ (⟨b2, rfl, Bst_congr hB (fun t => ⟨fun q => ⟨hz, by first | (rw [if_pos (by omega)]; exact q) | (rw [if_neg (by omega)]; exact q)⟩, fun q => by have q2 := q.2; first | (rw [if_pos (show m = used by omega)] at q2; exact q2) | (rw [if_neg (show ¬ m = used by omega)] at q2; exact q2)⟩)⟩) dX4_giveTo_135
        · skip
          refine z_iload_n C 7 dX4_giveTo_109 rfl ?_
          refine z_iconst C dX4_giveTo_110 ?_
          refine z_iadd C dX4_giveTo_111 ?_
          refine z_goto C 116 dX4_giveTo_112 (by decide) ?_
          refine z_callV C hK hDD (c_X4_giveToMen_2 (zl x) (zG x) a c ((up (up u 44 (m) (((bn (fun q => X i q && sprd (L m) (u 3 8 * (u 20 i - T m)) q) 8 : Nat) : Int))) 45 (m) (u 20 (i)))) (i + 1) (used + 1) E X ((fun j => if j = m then lvs (u 20) (u 3 8) X L T i m used else L j)) ((fun j => if j = m then u 20 i else T j)) (show (i + 1) = (u 17 8) - 2 by omega) (show 0 ≤ (i + 1) by omega) (show 0 ≤ (used + 1) ∧ (used + 1) ≤ 3 by omega) (hQ) (show 0 ≤ (u 41 8) ∧ (u 41 8) ≤ 4 by omega) (hX) (hE) (pl_hL hL (by first | exact Or.inl (by omega) | exact Or.inr ⟨by omega, by omega⟩) (by first | exact lvs_new (by omega) | exact lvs_old (by omega))) (pl_hT (by omega) hmi.1 hQ.2.2.2 hT (by first | exact Or.inl (by omega) | exact Or.inr ⟨by omega, by omega⟩))) gX4_giveTo_X4_giveToMen rfl zy_X4_giveToMen 41 (WB_41 a c ((up (up u 44 (m) (((bn (fun q => X i q && sprd (L m) (u 3 8 * (u 20 i - T m)) q) 8 : Nat) : Int))) 45 (m) (u 20 (i))))) rfl ⟨by omega, by decide⟩ rfl (Nat.le_of_ble_eq_true rfl) (st := []) (stk2 := fun _ => []) rfl (fun _ => rfl) dX4_giveTo_116 (fun z19 u20 h21 => ?_)
          obtain ⟨b2, e1, hB⟩ := h21
          rw [e1]
          change Z x 0 0 (WB a c (up (up (up u 44 (m) (((bn (fun q => X i q && sprd (L m) (u 3 8 * (u 20 i - T m)) q) 8 : Nat) : Int))) 45 (m) (u 20 (i))) 41 (8) (b2))) _ _ _
          refine z_aload_n C 4 dX4_giveTo_119 rfl ?_
          refine z_get C hK (v := .ref (a 44)) inX4_giveTo_X4 41 (WB_41 a c ((up (up (up u 44 (m) (((bn (fun q => X i q && sprd (L m) (u 3 8 * (u 20 i - T m)) q) 8 : Nat) : Int))) 45 (m) (u 20 (i))) 41 (8) (b2)))) rfl 5 (by decide) (List.mem_of_getElem? (i := 1) rfl) rfl dX4_giveTo_120 ?_
          refine z_iload_n C 5 dX4_giveTo_123 rfl ?_
          refine z_iload C 2 dX4_giveTo_124 rfl ?_
          refine z_iast C hK (hDD _) 0 (g := (up (up (up u 44 (m) (((bn (fun q => X i q && sprd (L m) (u 3 8 * (u 20 i - T m)) q) 8 : Nat) : Int))) 45 (m) (u 20 (i))) 41 (8) (b2)) 44) 44 (WB_44 a c ((up (up (up u 44 (m) (((bn (fun q => X i q && sprd (L m) (u 3 8 * (u 20 i - T m)) q) 8 : Nat) : Int))) 45 (m) (u 20 (i))) 41 (8) (b2)))) rfl (by decide) (by omega) (WB_44_set a c ((up (up (up u 44 (m) (((bn (fun q => X i q && sprd (L m) (u 3 8 * (u 20 i - T m)) q) 8 : Nat) : Int))) 45 (m) (u 20 (i))) 41 (8) (b2))) m (u 44 (m))) dX4_giveTo_126 ?_
          refine z_aload_n C 4 dX4_giveTo_127 rfl ?_
          refine z_get C hK (v := .ref (a 45)) inX4_giveTo_X4 41 (WB_41 a c ((up (up (up (up u 44 (m) (((bn (fun q => X i q && sprd (L m) (u 3 8 * (u 20 i - T m)) q) 8 : Nat) : Int))) 45 (m) (u 20 (i))) 41 (8) (b2)) 44 (m) (u 44 (m))))) rfl 6 (by decide) (List.mem_of_getElem? (i := 2) rfl) rfl dX4_giveTo_128 ?_
          refine z_iload_n C 5 dX4_giveTo_131 rfl ?_
          refine z_iload C 1 dX4_giveTo_132 rfl ?_
          refine z_iast C hK (hDD _) 0 (g := (up (up (up (up u 44 (m) (((bn (fun q => X i q && sprd (L m) (u 3 8 * (u 20 i - T m)) q) 8 : Nat) : Int))) 45 (m) (u 20 (i))) 41 (8) (b2)) 44 (m) (u 44 (m))) 45) 45 (WB_45 a c ((up (up (up (up u 44 (m) (((bn (fun q => X i q && sprd (L m) (u 3 8 * (u 20 i - T m)) q) 8 : Nat) : Int))) 45 (m) (u 20 (i))) 41 (8) (b2)) 44 (m) (u 44 (m))))) rfl (by decide) (by omega) (WB_45_set a c ((up (up (up (up u 44 (m) (((bn (fun q => X i q && sprd (L m) (u 3 8 * (u 20 i - T m)) q) 8 : Nat) : Int))) 45 (m) (u 20 (i))) 41 (8) (b2)) 44 (m) (u 44 (m)))) m (u 45 (m))) dX4_giveTo_134 ?_
          refine z_ws (ws' := (WB a c (up u 41 (8) (b2)))) (congrArg (WB a c) (pl_rest u m _ _ _)) ?_
          exact kret 0 (up u 41 8 b2) _ _ (⟨b2, rfl, Bst_congr hB (fun t => ⟨fun q => ⟨hz, by first | (rw [if_pos (by omega)]; exact q) | (rw [if_neg (by omega)]; exact q)⟩, fun q => by have q2 := q.2; first | (rw [if_pos (show m = used by omega)] at q2; exact q2) | (rw [if_neg (show ¬ m = used by omega)] at q2; exact q2)⟩)⟩) dX4_giveTo_135
      · have hz : ¬ nz (lvs (u 20) (u 3 8) X L T i m used) := by first | exact nz_no (lvs_new (by omega)) h14 | exact nz_no (lvs_old (by omega)) h14
        exact kret 0 u _ _ (⟨u 41 8, (up_self u 41 8).symm, Bst_none hb.1 (fun t h => absurd h.1 hz)⟩) dX4_giveTo_76
  · skip
    refine z_iconst C dX4_giveTo_5 ?_
    refine z_goto C 10 dX4_giveTo_6 (by decide) ?_
    refine z_istore C [(4, .int (zI 1)), (0, .ref (a 41)), (1, .int (zI m)), (2, .int (zI i)), (3, .int (zI used))] dX4_giveTo_10 (by decide) rfl ?_
    refine z_aload_n C 1 dX4_giveTo_12 rfl ?_
    refine z_get C hK (v := .ref (a 44)) inX4_giveTo_X4 41 (WB_41 a c u) rfl 5 (by decide) (List.mem_of_getElem? (i := 1) rfl) rfl dX4_giveTo_13 ?_
    refine z_iload_n C 2 dX4_giveTo_16 rfl ?_
    refine z_iald C hK 0 (g := (u 44)) (i := m) 44 (WB_44 a c u) rfl (by decide) (by omega) dX4_giveTo_17 ?_
    refine z_as (b := u 44 (m)) rfl ?_
    refine z_istore C [(5, .int (zI (u 44 (m)))), (4, .int (zI 1)), (0, .ref (a 41)), (1, .int (zI m)), (2, .int (zI i)), (3, .int (zI used))] dX4_giveTo_18 (by decide) rfl ?_
    refine z_aload_n C 2 dX4_giveTo_20 rfl ?_
    refine z_get C hK (v := .ref (a 45)) inX4_giveTo_X4 41 (WB_41 a c u) rfl 6 (by decide) (List.mem_of_getElem? (i := 2) rfl) rfl dX4_giveTo_21 ?_
    refine z_iload_n C 3 dX4_giveTo_24 rfl ?_
    refine z_iald C hK 0 (g := (u 45)) (i := m) 45 (WB_45 a c u) rfl (by decide) (by omega) dX4_giveTo_25 ?_
    refine z_as (b := u 45 (m)) rfl ?_
    refine z_istore C [(6, .int (zI (u 45 (m)))), (5, .int (zI (u 44 (m)))), (4, .int (zI 1)), (0, .ref (a 41)), (1, .int (zI m)), (2, .int (zI i)), (3, .int (zI used))] dX4_giveTo_26 (by decide) rfl ?_
    refine z_aload_n C 3 dX4_giveTo_28 rfl ?_
    refine z_get C hK (v := .ref (a 42)) inX4_giveTo_X4 41 (WB_41 a c u) rfl 3 (by decide) (List.mem_of_getElem? (i := 3) rfl) rfl dX4_giveTo_29 ?_
    refine z_iload_n C 5 dX4_giveTo_32 rfl ?_
    refine z_iald C hK 0 (g := (u 42)) (i := i) 42 (WB_42 a c u) rfl (by decide) (by omega) dX4_giveTo_33 ?_
    refine z_as (b := u 42 (i)) rfl ?_
    refine z_as (b := ((bn (X i) 8 : Nat) : Int)) (hX i (by omega) (by omega)) ?_
    refine z_istore C [(7, .int (zI (((bn (X i) 8 : Nat) : Int)))), (6, .int (zI (u 45 (m)))), (5, .int (zI (u 44 (m)))), (4, .int (zI 1)), (0, .ref (a 41)), (1, .int (zI m)), (2, .int (zI i)), (3, .int (zI used))] dX4_giveTo_34 (by decide) rfl ?_
    refine z_iload C 3 dX4_giveTo_36 rfl ?_
    refine z_if_ne C 71 dX4_giveTo_38 (by decide) (by omega) (fun h22 => ?_) (fun h22 => ?_)
    · skip
      refine z_iload C 0 dX4_giveTo_71 rfl ?_
      refine z_if_ne C 77 dX4_giveTo_73 (by decide) (by have h1 := bn_8 (X i) (n := 8) (by omega); have h2 := bn_8 (fun q => X i q && sprd (L m) (u 3 8 * (u 20 i - T m)) q) (n := 8) (by omega); omega) (fun h23 => ?_) (fun h23 => ?_)
      · have hz : nz (lvs (u 20) (u 3 8) X L T i m used) := by first | exact nz_yes (lvs_new (by omega)) h23 | exact nz_yes (lvs_old (by omega)) h23
        refine z_aload_n C 4 dX4_giveTo_77 rfl ?_
        refine z_get C hK (v := .ref (a 44)) inX4_giveTo_X4 41 (WB_41 a c u) rfl 5 (by decide) (List.mem_of_getElem? (i := 1) rfl) rfl dX4_giveTo_78 ?_
        refine z_iload_n C 5 dX4_giveTo_81 rfl ?_
        refine z_iload C 0 dX4_giveTo_82 rfl ?_
        refine z_iast C hK (hDD _) 0 (g := u 44) 44 (WB_44 a c u) rfl (by decide) (by omega) (WB_44_set a c u m (((bn (X i) 8 : Nat) : Int))) dX4_giveTo_84 ?_
        refine z_aload_n C 4 dX4_giveTo_85 rfl ?_
        refine z_get C hK (v := .ref (a 45)) inX4_giveTo_X4 41 (WB_41 a c ((up u 44 (m) (((bn (X i) 8 : Nat) : Int))))) rfl 6 (by decide) (List.mem_of_getElem? (i := 2) rfl) rfl dX4_giveTo_86 ?_
        refine z_iload_n C 5 dX4_giveTo_89 rfl ?_
        refine z_aload_n C 4 dX4_giveTo_90 rfl ?_
        refine z_get C hK (v := .ref (a 17)) inX4_giveTo_X4 41 (WB_41 a c ((up u 44 (m) (((bn (X i) 8 : Nat) : Int))))) rfl 1 (by decide) (List.mem_of_getElem? (i := 5) rfl) rfl dX4_giveTo_91 ?_
        refine z_getN C hK (v := .ref (a 20)) inX4_giveTo_X2 17 (WB_17 a c ((up u 44 (m) (((bn (X i) 8 : Nat) : Int))))) rfl 2 (by decide) (List.mem_of_getElem? (i := 36) rfl) rfl dX4_giveTo_94 ?_
        refine z_iload_n C 6 dX4_giveTo_97 rfl ?_
        refine z_iald C hK 0 (g := (u 20)) (i := i) 20 (WB_20 a c ((up u 44 (m) (((bn (X i) 8 : Nat) : Int))))) rfl (by decide) (by omega) dX4_giveTo_98 ?_
        refine z_as (b := u 20 (i)) rfl ?_
        refine z_iast C hK (hDD _) 0 (g := (up u 44 (m) (((bn (X i) 8 : Nat) : Int))) 45) 45 (WB_45 a c ((up u 44 (m) (((bn (X i) 8 : Nat) : Int))))) rfl (by decide) (by omega) (WB_45_set a c ((up u 44 (m) (((bn (X i) 8 : Nat) : Int)))) m (u 20 (i))) dX4_giveTo_99 ?_
        refine z_aload_n C 4 dX4_giveTo_100 rfl ?_
        refine z_iload_n C 6 dX4_giveTo_101 rfl ?_
        refine z_iconst C dX4_giveTo_102 ?_
        refine z_iadd C dX4_giveTo_103 ?_
        refine z_iload C 3 dX4_giveTo_104 rfl ?_
        refine z_if_eq C 115 dX4_giveTo_106 (by decide) (by omega) (fun h24 => ?_) (fun h24 => ?_)
        · skip
          refine z_iload_n C 7 dX4_giveTo_115 rfl ?_
          refine z_callV C hK hDD (c_X4_giveToMen_2 (zl x) (zG x) a c ((up (up u 44 (m) (((bn (X i) 8 : Nat) : Int))) 45 (m) (u 20 (i)))) (i + 1) used E X ((fun j => if j = m then lvs (u 20) (u 3 8) X L T i m used else L j)) ((fun j => if j = m then u 20 i else T j)) (show (i + 1) = (u 17 8) - 2 by omega) (show 0 ≤ (i + 1) by omega) (show 0 ≤ used ∧ used ≤ 3 by omega) (hQ) (show 0 ≤ (u 41 8) ∧ (u 41 8) ≤ 4 by omega) (hX) (hE) (pl_hL hL (by first | exact Or.inl (by omega) | exact Or.inr ⟨by omega, by omega⟩) (by first | exact lvs_new (by omega) | exact lvs_old (by omega))) (pl_hT (by omega) hmi.1 hQ.2.2.2 hT (by first | exact Or.inl (by omega) | exact Or.inr ⟨by omega, by omega⟩))) gX4_giveTo_X4_giveToMen rfl zy_X4_giveToMen 41 (WB_41 a c ((up (up u 44 (m) (((bn (X i) 8 : Nat) : Int))) 45 (m) (u 20 (i))))) rfl ⟨by omega, by decide⟩ rfl (Nat.le_of_ble_eq_true rfl) (st := []) (stk2 := fun _ => []) rfl (fun _ => rfl) dX4_giveTo_116 (fun z25 u26 h27 => ?_)
          obtain ⟨b2, e1, hB⟩ := h27
          rw [e1]
          change Z x 0 0 (WB a c (up (up (up u 44 (m) (((bn (X i) 8 : Nat) : Int))) 45 (m) (u 20 (i))) 41 (8) (b2))) _ _ _
          refine z_aload_n C 4 dX4_giveTo_119 rfl ?_
          refine z_get C hK (v := .ref (a 44)) inX4_giveTo_X4 41 (WB_41 a c ((up (up (up u 44 (m) (((bn (X i) 8 : Nat) : Int))) 45 (m) (u 20 (i))) 41 (8) (b2)))) rfl 5 (by decide) (List.mem_of_getElem? (i := 1) rfl) rfl dX4_giveTo_120 ?_
          refine z_iload_n C 5 dX4_giveTo_123 rfl ?_
          refine z_iload C 2 dX4_giveTo_124 rfl ?_
          refine z_iast C hK (hDD _) 0 (g := (up (up (up u 44 (m) (((bn (X i) 8 : Nat) : Int))) 45 (m) (u 20 (i))) 41 (8) (b2)) 44) 44 (WB_44 a c ((up (up (up u 44 (m) (((bn (X i) 8 : Nat) : Int))) 45 (m) (u 20 (i))) 41 (8) (b2)))) rfl (by decide) (by omega) (WB_44_set a c ((up (up (up u 44 (m) (((bn (X i) 8 : Nat) : Int))) 45 (m) (u 20 (i))) 41 (8) (b2))) m (u 44 (m))) dX4_giveTo_126 ?_
          refine z_aload_n C 4 dX4_giveTo_127 rfl ?_
          refine z_get C hK (v := .ref (a 45)) inX4_giveTo_X4 41 (WB_41 a c ((up (up (up (up u 44 (m) (((bn (X i) 8 : Nat) : Int))) 45 (m) (u 20 (i))) 41 (8) (b2)) 44 (m) (u 44 (m))))) rfl 6 (by decide) (List.mem_of_getElem? (i := 2) rfl) rfl dX4_giveTo_128 ?_
          refine z_iload_n C 5 dX4_giveTo_131 rfl ?_
          refine z_iload C 1 dX4_giveTo_132 rfl ?_
          refine z_iast C hK (hDD _) 0 (g := (up (up (up (up u 44 (m) (((bn (X i) 8 : Nat) : Int))) 45 (m) (u 20 (i))) 41 (8) (b2)) 44 (m) (u 44 (m))) 45) 45 (WB_45 a c ((up (up (up (up u 44 (m) (((bn (X i) 8 : Nat) : Int))) 45 (m) (u 20 (i))) 41 (8) (b2)) 44 (m) (u 44 (m))))) rfl (by decide) (by omega) (WB_45_set a c ((up (up (up (up u 44 (m) (((bn (X i) 8 : Nat) : Int))) 45 (m) (u 20 (i))) 41 (8) (b2)) 44 (m) (u 44 (m)))) m (u 45 (m))) dX4_giveTo_134 ?_
          refine z_ws (ws' := (WB a c (up u 41 (8) (b2)))) (congrArg (WB a c) (pl_rest u m _ _ _)) ?_
          exact kret 0 (up u 41 8 b2) _ _ (⟨b2, rfl, Bst_congr hB (fun t => ⟨fun q => ⟨hz, by first | (rw [if_pos (by omega)]; exact q) | (rw [if_neg (by omega)]; exact q)⟩, fun q => by have q2 := q.2; first | (rw [if_pos (show m = used by omega)] at q2; exact q2) | (rw [if_neg (show ¬ m = used by omega)] at q2; exact q2)⟩)⟩) dX4_giveTo_135
        · skip
          refine z_iload_n C 7 dX4_giveTo_109 rfl ?_
          refine z_iconst C dX4_giveTo_110 ?_
          refine z_iadd C dX4_giveTo_111 ?_
          refine z_goto C 116 dX4_giveTo_112 (by decide) ?_
          refine z_callV C hK hDD (c_X4_giveToMen_2 (zl x) (zG x) a c ((up (up u 44 (m) (((bn (X i) 8 : Nat) : Int))) 45 (m) (u 20 (i)))) (i + 1) (used + 1) E X ((fun j => if j = m then lvs (u 20) (u 3 8) X L T i m used else L j)) ((fun j => if j = m then u 20 i else T j)) (show (i + 1) = (u 17 8) - 2 by omega) (show 0 ≤ (i + 1) by omega) (show 0 ≤ (used + 1) ∧ (used + 1) ≤ 3 by omega) (hQ) (show 0 ≤ (u 41 8) ∧ (u 41 8) ≤ 4 by omega) (hX) (hE) (pl_hL hL (by first | exact Or.inl (by omega) | exact Or.inr ⟨by omega, by omega⟩) (by first | exact lvs_new (by omega) | exact lvs_old (by omega))) (pl_hT (by omega) hmi.1 hQ.2.2.2 hT (by first | exact Or.inl (by omega) | exact Or.inr ⟨by omega, by omega⟩))) gX4_giveTo_X4_giveToMen rfl zy_X4_giveToMen 41 (WB_41 a c ((up (up u 44 (m) (((bn (X i) 8 : Nat) : Int))) 45 (m) (u 20 (i))))) rfl ⟨by omega, by decide⟩ rfl (Nat.le_of_ble_eq_true rfl) (st := []) (stk2 := fun _ => []) rfl (fun _ => rfl) dX4_giveTo_116 (fun z28 u29 h30 => ?_)
          obtain ⟨b2, e1, hB⟩ := h30
          rw [e1]
          change Z x 0 0 (WB a c (up (up (up u 44 (m) (((bn (X i) 8 : Nat) : Int))) 45 (m) (u 20 (i))) 41 (8) (b2))) _ _ _
          refine z_aload_n C 4 dX4_giveTo_119 rfl ?_
          refine z_get C hK (v := .ref (a 44)) inX4_giveTo_X4 41 (WB_41 a c ((up (up (up u 44 (m) (((bn (X i) 8 : Nat) : Int))) 45 (m) (u 20 (i))) 41 (8) (b2)))) rfl 5 (by decide) (List.mem_of_getElem? (i := 1) rfl) rfl dX4_giveTo_120 ?_
          refine z_iload_n C 5 dX4_giveTo_123 rfl ?_
          refine z_iload C 2 dX4_giveTo_124 rfl ?_
          refine z_iast C hK (hDD _) 0 (g := (up (up (up u 44 (m) (((bn (X i) 8 : Nat) : Int))) 45 (m) (u 20 (i))) 41 (8) (b2)) 44) 44 (WB_44 a c ((up (up (up u 44 (m) (((bn (X i) 8 : Nat) : Int))) 45 (m) (u 20 (i))) 41 (8) (b2)))) rfl (by decide) (by omega) (WB_44_set a c ((up (up (up u 44 (m) (((bn (X i) 8 : Nat) : Int))) 45 (m) (u 20 (i))) 41 (8) (b2))) m (u 44 (m))) dX4_giveTo_126 ?_
          refine z_aload_n C 4 dX4_giveTo_127 rfl ?_
          refine z_get C hK (v := .ref (a 45)) inX4_giveTo_X4 41 (WB_41 a c ((up (up (up (up u 44 (m) (((bn (X i) 8 : Nat) : Int))) 45 (m) (u 20 (i))) 41 (8) (b2)) 44 (m) (u 44 (m))))) rfl 6 (by decide) (List.mem_of_getElem? (i := 2) rfl) rfl dX4_giveTo_128 ?_
          refine z_iload_n C 5 dX4_giveTo_131 rfl ?_
          refine z_iload C 1 dX4_giveTo_132 rfl ?_
          refine z_iast C hK (hDD _) 0 (g := (up (up (up (up u 44 (m) (((bn (X i) 8 : Nat) : Int))) 45 (m) (u 20 (i))) 41 (8) (b2)) 44 (m) (u 44 (m))) 45) 45 (WB_45 a c ((up (up (up (up u 44 (m) (((bn (X i) 8 : Nat) : Int))) 45 (m) (u 20 (i))) 41 (8) (b2)) 44 (m) (u 44 (m))))) rfl (by decide) (by omega) (WB_45_set a c ((up (up (up (up u 44 (m) (((bn (X i) 8 : Nat) : Int))) 45 (m) (u 20 (i))) 41 (8) (b2)) 44 (m) (u 44 (m)))) m (u 45 (m))) dX4_giveTo_134 ?_
          refine z_ws (ws' := (WB a c (up u 41 (8) (b2)))) (congrArg (WB a c) (pl_rest u m _ _ _)) ?_
          exact kret 0 (up u 41 8 b2) _ _ (⟨b2, rfl, Bst_congr hB (fun t => ⟨fun q => ⟨hz, by first | (rw [if_pos (by omega)]; exact q) | (rw [if_neg (by omega)]; exact q)⟩, fun q => by have q2 := q.2; first | (rw [if_pos (show m = used by omega)] at q2; exact q2) | (rw [if_neg (show ¬ m = used by omega)] at q2; exact q2)⟩)⟩) dX4_giveTo_135
      · have hz : ¬ nz (lvs (u 20) (u 3 8) X L T i m used) := by first | exact nz_no (lvs_new (by omega)) h23 | exact nz_no (lvs_old (by omega)) h23
        exact kret 0 u _ _ (⟨u 41 8, (up_self u 41 8).symm, Bst_none hb.1 (fun t h => absurd h.1 hz)⟩) dX4_giveTo_76
    · skip
      refine z_iload C 0 dX4_giveTo_41 rfl ?_
      refine z_iload C 2 dX4_giveTo_43 rfl ?_
      refine z_as (b := ((bn (L m) 8 : Nat) : Int)) (hL m (by omega) (by omega)) ?_
      refine z_aload_n C 4 dX4_giveTo_45 rfl ?_
      refine z_get C hK (v := .ref (a 3)) inX4_giveTo_X4 41 (WB_41 a c u) rfl 0 (by decide) (List.mem_of_getElem? (i := 4) rfl) rfl dX4_giveTo_46 ?_
      refine z_getN C hK (v := .int (zI (u 3 8))) inX4_giveTo_X8 3 (WB_3 a c u) rfl 8 (by decide) (List.mem_of_getElem? (i := 37) rfl) rfl dX4_giveTo_49 ?_
      refine z_aload_n C 4 dX4_giveTo_52 rfl ?_
      refine z_get C hK (v := .ref (a 17)) inX4_giveTo_X4 41 (WB_41 a c u) rfl 1 (by decide) (List.mem_of_getElem? (i := 5) rfl) rfl dX4_giveTo_53 ?_
      refine z_getN C hK (v := .ref (a 20)) inX4_giveTo_X2 17 (WB_17 a c u) rfl 2 (by decide) (List.mem_of_getElem? (i := 36) rfl) rfl dX4_giveTo_56 ?_
      refine z_iload_n C 6 dX4_giveTo_59 rfl ?_
      refine z_iald C hK 0 (g := (u 20)) (i := i) 20 (WB_20 a c u) rfl (by decide) (by omega) dX4_giveTo_60 ?_
      refine z_as (b := u 20 (i)) rfl ?_
      have hTm := hT m (by omega) (by omega)
      have hTi := hTm.2.2 i (Int.le_refl _) (by omega)
      have hsp := pl_pc (d := u 20 i - T m) hq2 (by omega)
      refine z_iload C 1 dX4_giveTo_61 rfl ?_
      refine z_as (b := T m) ((hT m (by omega) (by omega)).1) ?_
      refine z_isub C dX4_giveTo_63 ?_
      refine z_imul C dX4_giveTo_64 ?_
      refine z_callSN C hK hDD (c_X10_spread (zl x) (zG x) ((WB a c)) (WB_addr a c) u ((L m)) ((u 3 8) * ((u 20 (i)) - (T m))) (by omega)) ggX4_giveTo_X10_spread (List.mem_of_getElem? (i := 32) rfl) (List.mem_of_getElem? (i := 7) rfl) (List.mem_of_getElem? (i := 6) rfl) rfl zy_X10_spread ⟨by omega, by decide⟩ rfl (Nat.le_of_ble_eq_true rfl) (st := [.int (zI (((bn (X i) 8 : Nat) : Int)))]) (stk2 := fun z31 => [.int (zI z31), .int (zI (((bn (X i) 8 : Nat) : Int)))]) rfl (fun _ => rfl) dX4_giveTo_65 (fun z31 u32 h33 => ?_)
      rw [h33.1]; replace h33 := h33.2
      refine z_as (b := ((bn (sprd ((L m)) ((u 3 8) * ((u 20 (i)) - (T m)))) 8 : Nat) : Int)) h33 ?_
      refine z_iand C (((bn (fun q => X i q && sprd (L m) (u 3 8 * (u 20 i - T m)) q) 8 : Nat) : Int)) dX4_giveTo_68 (by rw [zI_and, bn_and]) ?_
      refine z_istore C [(7, .int (zI (((bn (fun q => X i q && sprd (L m) (u 3 8 * (u 20 i - T m)) q) 8 : Nat) : Int)))), (6, .int (zI (u 45 (m)))), (5, .int (zI (u 44 (m)))), (4, .int (zI 1)), (0, .ref (a 41)), (1, .int (zI m)), (2, .int (zI i)), (3, .int (zI used))] dX4_giveTo_69 (by decide) rfl ?_
      refine z_iload C 0 dX4_giveTo_71 rfl ?_
      refine z_if_ne C 77 dX4_giveTo_73 (by decide) (by have h1 := bn_8 (X i) (n := 8) (by omega); have h2 := bn_8 (fun q => X i q && sprd (L m) (u 3 8 * (u 20 i - T m)) q) (n := 8) (by omega); omega) (fun h34 => ?_) (fun h34 => ?_)
      · have hz : nz (lvs (u 20) (u 3 8) X L T i m used) := by first | exact nz_yes (lvs_new (by omega)) h34 | exact nz_yes (lvs_old (by omega)) h34
        refine z_aload_n C 4 dX4_giveTo_77 rfl ?_
        refine z_get C hK (v := .ref (a 44)) inX4_giveTo_X4 41 (WB_41 a c u) rfl 5 (by decide) (List.mem_of_getElem? (i := 1) rfl) rfl dX4_giveTo_78 ?_
        refine z_iload_n C 5 dX4_giveTo_81 rfl ?_
        refine z_iload C 0 dX4_giveTo_82 rfl ?_
        refine z_iast C hK (hDD _) 0 (g := u 44) 44 (WB_44 a c u) rfl (by decide) (by omega) (WB_44_set a c u m (((bn (fun q => X i q && sprd (L m) (u 3 8 * (u 20 i - T m)) q) 8 : Nat) : Int))) dX4_giveTo_84 ?_
        refine z_aload_n C 4 dX4_giveTo_85 rfl ?_
        refine z_get C hK (v := .ref (a 45)) inX4_giveTo_X4 41 (WB_41 a c ((up u 44 (m) (((bn (fun q => X i q && sprd (L m) (u 3 8 * (u 20 i - T m)) q) 8 : Nat) : Int))))) rfl 6 (by decide) (List.mem_of_getElem? (i := 2) rfl) rfl dX4_giveTo_86 ?_
        refine z_iload_n C 5 dX4_giveTo_89 rfl ?_
        refine z_aload_n C 4 dX4_giveTo_90 rfl ?_
        refine z_get C hK (v := .ref (a 17)) inX4_giveTo_X4 41 (WB_41 a c ((up u 44 (m) (((bn (fun q => X i q && sprd (L m) (u 3 8 * (u 20 i - T m)) q) 8 : Nat) : Int))))) rfl 1 (by decide) (List.mem_of_getElem? (i := 5) rfl) rfl dX4_giveTo_91 ?_
        refine z_getN C hK (v := .ref (a 20)) inX4_giveTo_X2 17 (WB_17 a c ((up u 44 (m) (((bn (fun q => X i q && sprd (L m) (u 3 8 * (u 20 i - T m)) q) 8 : Nat) : Int))))) rfl 2 (by decide) (List.mem_of_getElem? (i := 36) rfl) rfl dX4_giveTo_94 ?_
        refine z_iload_n C 6 dX4_giveTo_97 rfl ?_
        refine z_iald C hK 0 (g := (u 20)) (i := i) 20 (WB_20 a c ((up u 44 (m) (((bn (fun q => X i q && sprd (L m) (u 3 8 * (u 20 i - T m)) q) 8 : Nat) : Int))))) rfl (by decide) (by omega) dX4_giveTo_98 ?_
        refine z_as (b := u 20 (i)) rfl ?_
        refine z_iast C hK (hDD _) 0 (g := (up u 44 (m) (((bn (fun q => X i q && sprd (L m) (u 3 8 * (u 20 i - T m)) q) 8 : Nat) : Int))) 45) 45 (WB_45 a c ((up u 44 (m) (((bn (fun q => X i q && sprd (L m) (u 3 8 * (u 20 i - T m)) q) 8 : Nat) : Int))))) rfl (by decide) (by omega) (WB_45_set a c ((up u 44 (m) (((bn (fun q => X i q && sprd (L m) (u 3 8 * (u 20 i - T m)) q) 8 : Nat) : Int)))) m (u 20 (i))) dX4_giveTo_99 ?_
        refine z_aload_n C 4 dX4_giveTo_100 rfl ?_
        refine z_iload_n C 6 dX4_giveTo_101 rfl ?_
        refine z_iconst C dX4_giveTo_102 ?_
        refine z_iadd C dX4_giveTo_103 ?_
        refine z_iload C 3 dX4_giveTo_104 rfl ?_
        refine z_if_eq C 115 dX4_giveTo_106 (by decide) (by omega) (fun h35 => ?_) (fun h35 => ?_)
        · skip
          refine z_iload_n C 7 dX4_giveTo_115 rfl ?_
          refine z_callV C hK hDD (c_X4_giveToMen_2 (zl x) (zG x) a c ((up (up u 44 (m) (((bn (fun q => X i q && sprd (L m) (u 3 8 * (u 20 i - T m)) q) 8 : Nat) : Int))) 45 (m) (u 20 (i)))) (i + 1) used E X ((fun j => if j = m then lvs (u 20) (u 3 8) X L T i m used else L j)) ((fun j => if j = m then u 20 i else T j)) (show (i + 1) = (u 17 8) - 2 by omega) (show 0 ≤ (i + 1) by omega) (show 0 ≤ used ∧ used ≤ 3 by omega) (hQ) (show 0 ≤ (u 41 8) ∧ (u 41 8) ≤ 4 by omega) (hX) (hE) (pl_hL hL (by first | exact Or.inl (by omega) | exact Or.inr ⟨by omega, by omega⟩) (by first | exact lvs_new (by omega) | exact lvs_old (by omega))) (pl_hT (by omega) hmi.1 hQ.2.2.2 hT (by first | exact Or.inl (by omega) | exact Or.inr ⟨by omega, by omega⟩))) gX4_giveTo_X4_giveToMen rfl zy_X4_giveToMen 41 (WB_41 a c ((up (up u 44 (m) (((bn (fun q => X i q && sprd (L m) (u 3 8 * (u 20 i - T m)) q) 8 : Nat) : Int))) 45 (m) (u 20 (i))))) rfl ⟨by omega, by decide⟩ rfl (Nat.le_of_ble_eq_true rfl) (st := []) (stk2 := fun _ => []) rfl (fun _ => rfl) dX4_giveTo_116 (fun z36 u37 h38 => ?_)
          obtain ⟨b2, e1, hB⟩ := h38
          rw [e1]
          change Z x 0 0 (WB a c (up (up (up u 44 (m) (((bn (fun q => X i q && sprd (L m) (u 3 8 * (u 20 i - T m)) q) 8 : Nat) : Int))) 45 (m) (u 20 (i))) 41 (8) (b2))) _ _ _
          refine z_aload_n C 4 dX4_giveTo_119 rfl ?_
          refine z_get C hK (v := .ref (a 44)) inX4_giveTo_X4 41 (WB_41 a c ((up (up (up u 44 (m) (((bn (fun q => X i q && sprd (L m) (u 3 8 * (u 20 i - T m)) q) 8 : Nat) : Int))) 45 (m) (u 20 (i))) 41 (8) (b2)))) rfl 5 (by decide) (List.mem_of_getElem? (i := 1) rfl) rfl dX4_giveTo_120 ?_
          refine z_iload_n C 5 dX4_giveTo_123 rfl ?_
          refine z_iload C 2 dX4_giveTo_124 rfl ?_
          refine z_iast C hK (hDD _) 0 (g := (up (up (up u 44 (m) (((bn (fun q => X i q && sprd (L m) (u 3 8 * (u 20 i - T m)) q) 8 : Nat) : Int))) 45 (m) (u 20 (i))) 41 (8) (b2)) 44) 44 (WB_44 a c ((up (up (up u 44 (m) (((bn (fun q => X i q && sprd (L m) (u 3 8 * (u 20 i - T m)) q) 8 : Nat) : Int))) 45 (m) (u 20 (i))) 41 (8) (b2)))) rfl (by decide) (by omega) (WB_44_set a c ((up (up (up u 44 (m) (((bn (fun q => X i q && sprd (L m) (u 3 8 * (u 20 i - T m)) q) 8 : Nat) : Int))) 45 (m) (u 20 (i))) 41 (8) (b2))) m (u 44 (m))) dX4_giveTo_126 ?_
          refine z_aload_n C 4 dX4_giveTo_127 rfl ?_
          refine z_get C hK (v := .ref (a 45)) inX4_giveTo_X4 41 (WB_41 a c ((up (up (up (up u 44 (m) (((bn (fun q => X i q && sprd (L m) (u 3 8 * (u 20 i - T m)) q) 8 : Nat) : Int))) 45 (m) (u 20 (i))) 41 (8) (b2)) 44 (m) (u 44 (m))))) rfl 6 (by decide) (List.mem_of_getElem? (i := 2) rfl) rfl dX4_giveTo_128 ?_
          refine z_iload_n C 5 dX4_giveTo_131 rfl ?_
          refine z_iload C 1 dX4_giveTo_132 rfl ?_
          refine z_iast C hK (hDD _) 0 (g := (up (up (up (up u 44 (m) (((bn (fun q => X i q && sprd (L m) (u 3 8 * (u 20 i - T m)) q) 8 : Nat) : Int))) 45 (m) (u 20 (i))) 41 (8) (b2)) 44 (m) (u 44 (m))) 45) 45 (WB_45 a c ((up (up (up (up u 44 (m) (((bn (fun q => X i q && sprd (L m) (u 3 8 * (u 20 i - T m)) q) 8 : Nat) : Int))) 45 (m) (u 20 (i))) 41 (8) (b2)) 44 (m) (u 44 (m))))) rfl (by decide) (by omega) (WB_45_set a c ((up (up (up (up u 44 (m) (((bn (fun q => X i q && sprd (L m) (u 3 8 * (u 20 i - T m)) q) 8 : Nat) : Int))) 45 (m) (u 20 (i))) 41 (8) (b2)) 44 (m) (u 44 (m)))) m (u 45 (m))) dX4_giveTo_134 ?_
          refine z_ws (ws' := (WB a c (up u 41 (8) (b2)))) (congrArg (WB a c) (pl_rest u m _ _ _)) ?_
          exact kret 0 (up u 41 8 b2) _ _ (⟨b2, rfl, Bst_congr hB (fun t => ⟨fun q => ⟨hz, by first | (rw [if_pos (by omega)]; exact q) | (rw [if_neg (by omega)]; exact q)⟩, fun q => by have q2 := q.2; first | (rw [if_pos (show m = used by omega)] at q2; exact q2) | (rw [if_neg (show ¬ m = used by omega)] at q2; exact q2)⟩)⟩) dX4_giveTo_135
        · skip
          refine z_iload_n C 7 dX4_giveTo_109 rfl ?_
          refine z_iconst C dX4_giveTo_110 ?_
          refine z_iadd C dX4_giveTo_111 ?_
          refine z_goto C 116 dX4_giveTo_112 (by decide) ?_
          refine z_callV C hK hDD (c_X4_giveToMen_2 (zl x) (zG x) a c ((up (up u 44 (m) (((bn (fun q => X i q && sprd (L m) (u 3 8 * (u 20 i - T m)) q) 8 : Nat) : Int))) 45 (m) (u 20 (i)))) (i + 1) (used + 1) E X ((fun j => if j = m then lvs (u 20) (u 3 8) X L T i m used else L j)) ((fun j => if j = m then u 20 i else T j)) (show (i + 1) = (u 17 8) - 2 by omega) (show 0 ≤ (i + 1) by omega) (show 0 ≤ (used + 1) ∧ (used + 1) ≤ 3 by omega) (hQ) (show 0 ≤ (u 41 8) ∧ (u 41 8) ≤ 4 by omega) (hX) (hE) (pl_hL hL (by first | exact Or.inl (by omega) | exact Or.inr ⟨by omega, by omega⟩) (by first | exact lvs_new (by omega) | exact lvs_old (by omega))) (pl_hT (by omega) hmi.1 hQ.2.2.2 hT (by first | exact Or.inl (by omega) | exact Or.inr ⟨by omega, by omega⟩))) gX4_giveTo_X4_giveToMen rfl zy_X4_giveToMen 41 (WB_41 a c ((up (up u 44 (m) (((bn (fun q => X i q && sprd (L m) (u 3 8 * (u 20 i - T m)) q) 8 : Nat) : Int))) 45 (m) (u 20 (i))))) rfl ⟨by omega, by decide⟩ rfl (Nat.le_of_ble_eq_true rfl) (st := []) (stk2 := fun _ => []) rfl (fun _ => rfl) dX4_giveTo_116 (fun z39 u40 h41 => ?_)
          obtain ⟨b2, e1, hB⟩ := h41
          rw [e1]
          change Z x 0 0 (WB a c (up (up (up u 44 (m) (((bn (fun q => X i q && sprd (L m) (u 3 8 * (u 20 i - T m)) q) 8 : Nat) : Int))) 45 (m) (u 20 (i))) 41 (8) (b2))) _ _ _
          refine z_aload_n C 4 dX4_giveTo_119 rfl ?_
          refine z_get C hK (v := .ref (a 44)) inX4_giveTo_X4 41 (WB_41 a c ((up (up (up u 44 (m) (((bn (fun q => X i q && sprd (L m) (u 3 8 * (u 20 i - T m)) q) 8 : Nat) : Int))) 45 (m) (u 20 (i))) 41 (8) (b2)))) rfl 5 (by decide) (List.mem_of_getElem? (i := 1) rfl) rfl dX4_giveTo_120 ?_
          refine z_iload_n C 5 dX4_giveTo_123 rfl ?_
          refine z_iload C 2 dX4_giveTo_124 rfl ?_
          refine z_iast C hK (hDD _) 0 (g := (up (up (up u 44 (m) (((bn (fun q => X i q && sprd (L m) (u 3 8 * (u 20 i - T m)) q) 8 : Nat) : Int))) 45 (m) (u 20 (i))) 41 (8) (b2)) 44) 44 (WB_44 a c ((up (up (up u 44 (m) (((bn (fun q => X i q && sprd (L m) (u 3 8 * (u 20 i - T m)) q) 8 : Nat) : Int))) 45 (m) (u 20 (i))) 41 (8) (b2)))) rfl (by decide) (by omega) (WB_44_set a c ((up (up (up u 44 (m) (((bn (fun q => X i q && sprd (L m) (u 3 8 * (u 20 i - T m)) q) 8 : Nat) : Int))) 45 (m) (u 20 (i))) 41 (8) (b2))) m (u 44 (m))) dX4_giveTo_126 ?_
          refine z_aload_n C 4 dX4_giveTo_127 rfl ?_
          refine z_get C hK (v := .ref (a 45)) inX4_giveTo_X4 41 (WB_41 a c ((up (up (up (up u 44 (m) (((bn (fun q => X i q && sprd (L m) (u 3 8 * (u 20 i - T m)) q) 8 : Nat) : Int))) 45 (m) (u 20 (i))) 41 (8) (b2)) 44 (m) (u 44 (m))))) rfl 6 (by decide) (List.mem_of_getElem? (i := 2) rfl) rfl dX4_giveTo_128 ?_
          refine z_iload_n C 5 dX4_giveTo_131 rfl ?_
          refine z_iload C 1 dX4_giveTo_132 rfl ?_
          refine z_iast C hK (hDD _) 0 (g := (up (up (up (up u 44 (m) (((bn (fun q => X i q && sprd (L m) (u 3 8 * (u 20 i - T m)) q) 8 : Nat) : Int))) 45 (m) (u 20 (i))) 41 (8) (b2)) 44 (m) (u 44 (m))) 45) 45 (WB_45 a c ((up (up (up (up u 44 (m) (((bn (fun q => X i q && sprd (L m) (u 3 8 * (u 20 i - T m)) q) 8 : Nat) : Int))) 45 (m) (u 20 (i))) 41 (8) (b2)) 44 (m) (u 44 (m))))) rfl (by decide) (by omega) (WB_45_set a c ((up (up (up (up u 44 (m) (((bn (fun q => X i q && sprd (L m) (u 3 8 * (u 20 i - T m)) q) 8 : Nat) : Int))) 45 (m) (u 20 (i))) 41 (8) (b2)) 44 (m) (u 44 (m)))) m (u 45 (m))) dX4_giveTo_134 ?_
          refine z_ws (ws' := (WB a c (up u 41 (8) (b2)))) (congrArg (WB a c) (pl_rest u m _ _ _)) ?_
          exact kret 0 (up u 41 8 b2) _ _ (⟨b2, rfl, Bst_congr hB (fun t => ⟨fun q => ⟨hz, by first | (rw [if_pos (by omega)]; exact q) | (rw [if_neg (by omega)]; exact q)⟩, fun q => by have q2 := q.2; first | (rw [if_pos (show m = used by omega)] at q2; exact q2) | (rw [if_neg (show ¬ m = used by omega)] at q2; exact q2)⟩)⟩) dX4_giveTo_135
      · have hz : ¬ nz (lvs (u 20) (u 3 8) X L T i m used) := by first | exact nz_no (lvs_new (by omega)) h34 | exact nz_no (lvs_old (by omega)) h34
        exact kret 0 u _ _ (⟨u 41 8, (up_self u 41 8).symm, Bst_none hb.1 (fun t h => absurd h.1 hz)⟩) dX4_giveTo_76
-- NoteBells$Pluckers.giveToMen
set_option maxHeartbeats 8000000 in
set_option maxRecDepth 100000 in
theorem c_X4_giveToMen_3 (l : Launch) (D : va_G) (a : Nat → Nat) (c : Nat → ClassId) (u : zU) (i used : Int) (E : Int → Bool) (X L : Int → Nat → Bool) (T : Int → Int) (hi : i = u 17 8 - 3) (b_i : 0 ≤ i) (hu : 0 ≤ used ∧ used ≤ 3) (hQ : PQ (u 17 8) (u 3 8) (u 20)) (hb : 0 ≤ u 41 8 ∧ u 41 8 ≤ 4) (hX : ∀ k : Int, 0 ≤ k → k < u 17 8 → u 42 k = ((bn (X k) 8 : Nat) : Int)) (hE : ∀ k : Int, 0 ≤ k → k < u 17 8 → u 43 k = if E k = true then 1 else 0) (hL : ∀ j : Int, 0 ≤ j → j < used → u 44 j = ((bn (L j) 8 : Nat) : Int)) (hT : ∀ j : Int, 0 ≤ j → j < used → u 45 j = T j ∧ 0 ≤ T j ∧ ∀ k : Int, i ≤ k → k < u 17 8 → T j ≤ u 20 k) : ZM l D (zTy c) (WB a c) yX4_giveToMen wsX4_giveToMen 9 [.ref (a 41), .int (zI i), .int (zI used)] u rV (fun z u' => ∃ b' : Int, u' = up u 41 8 b' ∧ Bst (u 41 8) b' (fun t => Can (u 20) (u 3 8) (u 17 8) E X 3 L T used t)) := by
  refine ZM.ofV (cc := cX4_giveToMen) (maxL := 4) [(0, .ref (a 41)), (1, .int (zI i)), (2, .int (zI used))] rfl (by decide +kernel) rfl (Nat.le_of_ble_eq_true rfl) (WB_addr a c) ?_
  intro x C hK _ _ hDD kret
  have hq1 := hQ.1
  have hq2 := hQ.2.1
  refine z_iload_n C 2 dX4_giveToMen_0 rfl ?_
  refine z_aload_n C 0 dX4_giveToMen_1 rfl ?_
  refine z_get C hK (v := .int (zI (u 41 8))) inX4_giveToMen_X4 41 (WB_41 a c u) rfl 8 (by decide) (List.mem_of_getElem? (i := 1) rfl) rfl dX4_giveToMen_2 ?_
  refine z_icmp_lt C 9 dX4_giveToMen_5 (by decide) (by omega) (fun h1 => ?_) (fun h1 => ?_)
  · skip
    refine z_iload_n C 1 dX4_giveToMen_9 rfl ?_
    refine z_aload_n C 0 dX4_giveToMen_10 rfl ?_
    refine z_get C hK (v := .ref (a 17)) inX4_giveToMen_X4 41 (WB_41 a c u) rfl 1 (by decide) (List.mem_of_getElem? (i := 2) rfl) rfl dX4_giveToMen_11 ?_
    refine z_getN C hK (v := .int (zI (u 17 8))) inX4_giveToMen_X2 17 (WB_17 a c u) rfl 8 (by decide) (List.mem_of_getElem? (i := 34) rfl) rfl dX4_giveToMen_14 ?_
    refine z_icmp_lt C 26 dX4_giveToMen_17 (by decide) (by omega) (fun h2 => ?_) (fun h2 => ?_)
    · skip
      refine z_aload_n C 0 dX4_giveToMen_26 rfl ?_
      refine z_get C hK (v := .ref (a 43)) inX4_giveToMen_X4 41 (WB_41 a c u) rfl 4 (by decide) (List.mem_of_getElem? (i := 3) rfl) rfl dX4_giveToMen_27 ?_
      refine z_iload_n C 1 dX4_giveToMen_30 rfl ?_
      refine z_zald C hK 1 (g := (u 43)) (i := i) 43 (WB_43 a c u) rfl (by decide) (by omega) dX4_giveToMen_31 ?_
      refine z_as (b := u 43 (i)) rfl ?_
      refine z_as (b := (if E i = true then 1 else 0)) (hE i (by omega) (by omega)) ?_
      refine z_if_eq C 44 dX4_giveToMen_32 (by decide) (by split <;> omega) (fun h3 => ?_) (fun h3 => ?_)
      · have hEi := ite01_eq h3
        refine z_iconst C dX4_giveToMen_44 ?_
        refine z_ws (ws' := (WB a c (up u 41 (8) ((u 41 8))))) (congrArg (WB a c) (up_self u 41 8).symm) ?_
        refine z_istore_n C [(3, .int (zI 0)), (0, .ref (a 41)), (1, .int (zI i)), (2, .int (zI used))] dX4_giveToMen_45 rfl (by decide) rfl ?_
        have L46_4 : ∀ (fu : Nat) (m : Int) (b : Int), (0 ≤ m ∧ m ≤ used + 1 ∧ m ≤ 3) → (E i = false) → (Bst (u 41 8) b (fun t => ∃ k : Int, 0 ≤ k ∧ k < m ∧ Gv (u 20) (u 3 8) (u 17 8) E X 2 i L T used k t)) → 3 - m < (fu : Int) → Z x 0 0 (WB a c (up u 41 (8) (b))) [(0, .ref (a 41)), (1, .int (zI i)), (2, .int (zI used)), (3, .int (zI m))] 46 [] := by
          intro fu
          induction fu with
          | zero => intro m b hm hEf hB hmeas; exfalso; omega
          | succ fu ih46 =>
            intro m b hm hEf hB hmeas
            refine z_iload_n C 3 dX4_giveToMen_46 rfl ?_
            refine z_iload_n C 2 dX4_giveToMen_47 rfl ?_
            refine z_icmp_gt C 69 dX4_giveToMen_48 (by decide) (by omega) (fun h5 => ?_) (fun h5 => ?_)
            · skip
              exact kret 0 (up u 41 8 b) _ _ (⟨b, rfl, Bst_congr hB (Can_give (by omega) hEf (by omega))⟩) dX4_giveToMen_69
            · skip
              refine z_iload_n C 3 dX4_giveToMen_51 rfl ?_
              refine z_iconst C dX4_giveToMen_52 ?_
              refine z_icmp_ge C 69 dX4_giveToMen_53 (by decide) (by omega) (fun h6 => ?_) (fun h6 => ?_)
              · skip
                exact kret 0 (up u 41 8 b) _ _ (⟨b, rfl, Bst_congr hB (Can_give (by omega) hEf (by omega))⟩) dX4_giveToMen_69
              · skip
                refine z_aload_n C 0 dX4_giveToMen_56 rfl ?_
                refine z_iload_n C 3 dX4_giveToMen_57 rfl ?_
                refine z_iload_n C 1 dX4_giveToMen_58 rfl ?_
                refine z_iload_n C 2 dX4_giveToMen_59 rfl ?_
                refine z_callV C hK hDD (c_X4_giveTo_3 (zl x) (zG x) a c ((up u 41 (8) (b))) m i used E X L T (show i = (u 17 8) - 3 by omega) (show 0 ≤ i ∧ i < (u 17 8) by omega) (show 0 ≤ m ∧ m ≤ used ∧ m < 3 by omega) (show 0 ≤ used ∧ used ≤ 3 by omega) (hQ) (show 0 ≤ b ∧ b ≤ 4 from ⟨hB.1.1, Int.le_trans hB.1.2 hb.2⟩) (hX) (hE) (hL) (hT)) gX4_giveToMen_X4_giveTo rfl zy_X4_giveTo 41 (WB_41 a c ((up u 41 (8) (b)))) rfl ⟨by omega, by decide⟩ rfl (Nat.le_of_ble_eq_true rfl) (st := []) (stk2 := fun _ => []) rfl (fun _ => rfl) dX4_giveToMen_60 (fun z7 u8 h9 => ?_)
                obtain ⟨b2, e1, hB2⟩ := h9
                rw [e1]
                change Z x 0 0 (WB a c (up u 41 (8) (b2))) _ _ _
                refine z_iinc C 3 [(3, .int (zI (m + 1))), (0, .ref (a 41)), (1, .int (zI i)), (2, .int (zI used))] dX4_giveToMen_63 rfl (by decide) rfl ?_
                refine z_goto C 46 dX4_giveToMen_66 (by decide) ?_
                refine z_lv [(0, .ref (a 41)), (1, .int (zI i)), (2, .int (zI used)), (3, .int (zI (m + 1)))] [1, 2, 3, 0] rfl ?_
                exact ih46 (m + 1) b2 (by omega) (hEf) (Bst_trans hB hB2 (gv_grow hm.1)) (by omega)
        refine z_lv [(0, .ref (a 41)), (1, .int (zI i)), (2, .int (zI used)), (3, .int (zI 0))] [1, 2, 3, 0] rfl ?_
        exact L46_4 (((3 - 0 : Int)).toNat + 1) 0 ((u 41 8)) (by omega) (hEi) (Bst_gv0 hb.1) (by omega)
      · have hEi := ite01_ne h3
        refine z_aload_n C 0 dX4_giveToMen_35 rfl ?_
        refine z_iload_n C 1 dX4_giveToMen_36 rfl ?_
        refine z_iconst C dX4_giveToMen_37 ?_
        refine z_iadd C dX4_giveToMen_38 ?_
        refine z_iload_n C 2 dX4_giveToMen_39 rfl ?_
        refine z_callV C hK hDD (c_X4_giveToMen_2 (zl x) (zG x) a c u (i + 1) used E X L T (by omega) (by omega) (by omega) (hQ) (by omega) (hX) (hE) (hL) (fun j h0 h1 => ⟨(hT j h0 h1).1, (hT j h0 h1).2.1, fun k h2 h3 => (hT j h0 h1).2.2 k (by omega) h3⟩)) gX4_giveToMen_X4_giveToMen rfl zy_X4_giveToMen 41 (WB_41 a c u) rfl ⟨by omega, by decide⟩ rfl (Nat.le_of_ble_eq_true rfl) (st := []) (stk2 := fun _ => []) rfl (fun _ => rfl) dX4_giveToMen_40 (fun z10 u11 h12 => ?_)
        obtain ⟨b2, e1, hB⟩ := h12
        rw [e1]
        change Z x 0 0 (WB a c (up u 41 (8) (b2))) _ _ _
        exact kret 0 (up u 41 8 b2) _ _ (⟨b2, rfl, Bst_congr hB (Can_echo (by omega) hEi)⟩) dX4_giveToMen_43
    · exfalso; omega
  · skip
    exact kret 0 u _ _ (⟨u 41 8, (up_self u 41 8).symm, Bst_none hb.1 (fun t h => by have := Can_ge h; omega)⟩) dX4_giveToMen_8
-- NoteBells$Pluckers.giveTo
set_option maxHeartbeats 8000000 in
set_option maxRecDepth 100000 in
theorem c_X4_giveTo_4 (l : Launch) (D : va_G) (a : Nat → Nat) (c : Nat → ClassId) (u : zU) (m i used : Int) (E : Int → Bool) (X L : Int → Nat → Bool) (T : Int → Int) (hi : i = u 17 8 - 4) (b_i : 0 ≤ i ∧ i < u 17 8) (hm : 0 ≤ m ∧ m ≤ used ∧ m < 3) (hu : 0 ≤ used ∧ used ≤ 3) (hQ : PQ (u 17 8) (u 3 8) (u 20)) (hb : 0 ≤ u 41 8 ∧ u 41 8 ≤ 4) (hX : ∀ k : Int, 0 ≤ k → k < u 17 8 → u 42 k = ((bn (X k) 8 : Nat) : Int)) (hE : ∀ k : Int, 0 ≤ k → k < u 17 8 → u 43 k = if E k = true then 1 else 0) (hL : ∀ j : Int, 0 ≤ j → j < used → u 44 j = ((bn (L j) 8 : Nat) : Int)) (hT : ∀ j : Int, 0 ≤ j → j < used → u 45 j = T j ∧ 0 ≤ T j ∧ ∀ k : Int, i ≤ k → k < u 17 8 → T j ≤ u 20 k) : ZM l D (zTy c) (WB a c) yX4_giveTo wsX4_giveTo 10 [.ref (a 41), .int (zI m), .int (zI i), .int (zI used)] u rV (fun z u' => ∃ b' : Int, u' = up u 41 8 b' ∧ Bst (u 41 8) b' (fun t => Gv (u 20) (u 3 8) (u 17 8) E X 3 i L T used m t)) := by
  refine ZM.ofV (cc := cX4_giveTo) (maxL := 8) [(0, .ref (a 41)), (1, .int (zI m)), (2, .int (zI i)), (3, .int (zI used))] rfl (by decide +kernel) rfl (Nat.le_of_ble_eq_true rfl) (WB_addr a c) ?_
  intro x C hK _ _ hDD kret
  have hq1 := hQ.1
  have hq2 := hQ.2.1
  have hmi := hQ.2.2.1 i (by omega) (by omega)
  refine z_iload_n C 1 dX4_giveTo_0 rfl ?_
  refine z_iload_n C 3 dX4_giveTo_1 rfl ?_
  refine z_icmp_ne C 9 dX4_giveTo_2 (by decide) (by omega) (fun h1 => ?_) (fun h1 => ?_)
  · skip
    refine z_iconst C dX4_giveTo_9 ?_
    refine z_istore C [(4, .int (zI 0)), (0, .ref (a 41)), (1, .int (zI m)), (2, .int (zI i)), (3, .int (zI used))] dX4_giveTo_10 (by decide) rfl ?_
    refine z_aload_n C 1 dX4_giveTo_12 rfl ?_
    refine z_get C hK (v := .ref (a 44)) inX4_giveTo_X4 41 (WB_41 a c u) rfl 5 (by decide) (List.mem_of_getElem? (i := 1) rfl) rfl dX4_giveTo_13 ?_
    refine z_iload_n C 2 dX4_giveTo_16 rfl ?_
    refine z_iald C hK 0 (g := (u 44)) (i := m) 44 (WB_44 a c u) rfl (by decide) (by omega) dX4_giveTo_17 ?_
    refine z_as (b := u 44 (m)) rfl ?_
    refine z_istore C [(5, .int (zI (u 44 (m)))), (4, .int (zI 0)), (0, .ref (a 41)), (1, .int (zI m)), (2, .int (zI i)), (3, .int (zI used))] dX4_giveTo_18 (by decide) rfl ?_
    refine z_aload_n C 2 dX4_giveTo_20 rfl ?_
    refine z_get C hK (v := .ref (a 45)) inX4_giveTo_X4 41 (WB_41 a c u) rfl 6 (by decide) (List.mem_of_getElem? (i := 2) rfl) rfl dX4_giveTo_21 ?_
    refine z_iload_n C 3 dX4_giveTo_24 rfl ?_
    refine z_iald C hK 0 (g := (u 45)) (i := m) 45 (WB_45 a c u) rfl (by decide) (by omega) dX4_giveTo_25 ?_
    refine z_as (b := u 45 (m)) rfl ?_
    refine z_istore C [(6, .int (zI (u 45 (m)))), (5, .int (zI (u 44 (m)))), (4, .int (zI 0)), (0, .ref (a 41)), (1, .int (zI m)), (2, .int (zI i)), (3, .int (zI used))] dX4_giveTo_26 (by decide) rfl ?_
    refine z_aload_n C 3 dX4_giveTo_28 rfl ?_
    refine z_get C hK (v := .ref (a 42)) inX4_giveTo_X4 41 (WB_41 a c u) rfl 3 (by decide) (List.mem_of_getElem? (i := 3) rfl) rfl dX4_giveTo_29 ?_
    refine z_iload_n C 5 dX4_giveTo_32 rfl ?_
    refine z_iald C hK 0 (g := (u 42)) (i := i) 42 (WB_42 a c u) rfl (by decide) (by omega) dX4_giveTo_33 ?_
    refine z_as (b := u 42 (i)) rfl ?_
    refine z_as (b := ((bn (X i) 8 : Nat) : Int)) (hX i (by omega) (by omega)) ?_
    refine z_istore C [(7, .int (zI (((bn (X i) 8 : Nat) : Int)))), (6, .int (zI (u 45 (m)))), (5, .int (zI (u 44 (m)))), (4, .int (zI 0)), (0, .ref (a 41)), (1, .int (zI m)), (2, .int (zI i)), (3, .int (zI used))] dX4_giveTo_34 (by decide) rfl ?_
    refine z_iload C 3 dX4_giveTo_36 rfl ?_
    refine z_if_ne C 71 dX4_giveTo_38 (by decide) (by omega) (fun h2 => ?_) (fun h2 => ?_)
    · skip
      refine z_iload C 0 dX4_giveTo_71 rfl ?_
      refine z_if_ne C 77 dX4_giveTo_73 (by decide) (by have h1 := bn_8 (X i) (n := 8) (by omega); have h2 := bn_8 (fun q => X i q && sprd (L m) (u 3 8 * (u 20 i - T m)) q) (n := 8) (by omega); omega) (fun h3 => ?_) (fun h3 => ?_)
      · have hz : nz (lvs (u 20) (u 3 8) X L T i m used) := by first | exact nz_yes (lvs_new (by omega)) h3 | exact nz_yes (lvs_old (by omega)) h3
        refine z_aload_n C 4 dX4_giveTo_77 rfl ?_
        refine z_get C hK (v := .ref (a 44)) inX4_giveTo_X4 41 (WB_41 a c u) rfl 5 (by decide) (List.mem_of_getElem? (i := 1) rfl) rfl dX4_giveTo_78 ?_
        refine z_iload_n C 5 dX4_giveTo_81 rfl ?_
        refine z_iload C 0 dX4_giveTo_82 rfl ?_
        refine z_iast C hK (hDD _) 0 (g := u 44) 44 (WB_44 a c u) rfl (by decide) (by omega) (WB_44_set a c u m (((bn (X i) 8 : Nat) : Int))) dX4_giveTo_84 ?_
        refine z_aload_n C 4 dX4_giveTo_85 rfl ?_
        refine z_get C hK (v := .ref (a 45)) inX4_giveTo_X4 41 (WB_41 a c ((up u 44 (m) (((bn (X i) 8 : Nat) : Int))))) rfl 6 (by decide) (List.mem_of_getElem? (i := 2) rfl) rfl dX4_giveTo_86 ?_
        refine z_iload_n C 5 dX4_giveTo_89 rfl ?_
        refine z_aload_n C 4 dX4_giveTo_90 rfl ?_
        refine z_get C hK (v := .ref (a 17)) inX4_giveTo_X4 41 (WB_41 a c ((up u 44 (m) (((bn (X i) 8 : Nat) : Int))))) rfl 1 (by decide) (List.mem_of_getElem? (i := 5) rfl) rfl dX4_giveTo_91 ?_
        refine z_getN C hK (v := .ref (a 20)) inX4_giveTo_X2 17 (WB_17 a c ((up u 44 (m) (((bn (X i) 8 : Nat) : Int))))) rfl 2 (by decide) (List.mem_of_getElem? (i := 36) rfl) rfl dX4_giveTo_94 ?_
        refine z_iload_n C 6 dX4_giveTo_97 rfl ?_
        refine z_iald C hK 0 (g := (u 20)) (i := i) 20 (WB_20 a c ((up u 44 (m) (((bn (X i) 8 : Nat) : Int))))) rfl (by decide) (by omega) dX4_giveTo_98 ?_
        refine z_as (b := u 20 (i)) rfl ?_
        refine z_iast C hK (hDD _) 0 (g := (up u 44 (m) (((bn (X i) 8 : Nat) : Int))) 45) 45 (WB_45 a c ((up u 44 (m) (((bn (X i) 8 : Nat) : Int))))) rfl (by decide) (by omega) (WB_45_set a c ((up u 44 (m) (((bn (X i) 8 : Nat) : Int)))) m (u 20 (i))) dX4_giveTo_99 ?_
        refine z_aload_n C 4 dX4_giveTo_100 rfl ?_
        refine z_iload_n C 6 dX4_giveTo_101 rfl ?_
        refine z_iconst C dX4_giveTo_102 ?_
        refine z_iadd C dX4_giveTo_103 ?_
        refine z_iload C 3 dX4_giveTo_104 rfl ?_
        refine z_if_eq C 115 dX4_giveTo_106 (by decide) (by omega) (fun h4 => ?_) (fun h4 => ?_)
        · skip
          refine z_iload_n C 7 dX4_giveTo_115 rfl ?_
          refine z_callV C hK hDD (c_X4_giveToMen_3 (zl x) (zG x) a c ((up (up u 44 (m) (((bn (X i) 8 : Nat) : Int))) 45 (m) (u 20 (i)))) (i + 1) used E X ((fun j => if j = m then lvs (u 20) (u 3 8) X L T i m used else L j)) ((fun j => if j = m then u 20 i else T j)) (show (i + 1) = (u 17 8) - 3 by omega) (show 0 ≤ (i + 1) by omega) (show 0 ≤ used ∧ used ≤ 3 by omega) (hQ) (show 0 ≤ (u 41 8) ∧ (u 41 8) ≤ 4 by omega) (hX) (hE) (pl_hL hL (by first | exact Or.inl (by omega) | exact Or.inr ⟨by omega, by omega⟩) (by first | exact lvs_new (by omega) | exact lvs_old (by omega))) (pl_hT (by omega) hmi.1 hQ.2.2.2 hT (by first | exact Or.inl (by omega) | exact Or.inr ⟨by omega, by omega⟩))) gX4_giveTo_X4_giveToMen rfl zy_X4_giveToMen 41 (WB_41 a c ((up (up u 44 (m) (((bn (X i) 8 : Nat) : Int))) 45 (m) (u 20 (i))))) rfl ⟨by omega, by decide⟩ rfl (Nat.le_of_ble_eq_true rfl) (st := []) (stk2 := fun _ => []) rfl (fun _ => rfl) dX4_giveTo_116 (fun z5 u6 h7 => ?_)
          obtain ⟨b2, e1, hB⟩ := h7
          rw [e1]
          change Z x 0 0 (WB a c (up (up (up u 44 (m) (((bn (X i) 8 : Nat) : Int))) 45 (m) (u 20 (i))) 41 (8) (b2))) _ _ _
          refine z_aload_n C 4 dX4_giveTo_119 rfl ?_
          refine z_get C hK (v := .ref (a 44)) inX4_giveTo_X4 41 (WB_41 a c ((up (up (up u 44 (m) (((bn (X i) 8 : Nat) : Int))) 45 (m) (u 20 (i))) 41 (8) (b2)))) rfl 5 (by decide) (List.mem_of_getElem? (i := 1) rfl) rfl dX4_giveTo_120 ?_
          refine z_iload_n C 5 dX4_giveTo_123 rfl ?_
          refine z_iload C 2 dX4_giveTo_124 rfl ?_
          refine z_iast C hK (hDD _) 0 (g := (up (up (up u 44 (m) (((bn (X i) 8 : Nat) : Int))) 45 (m) (u 20 (i))) 41 (8) (b2)) 44) 44 (WB_44 a c ((up (up (up u 44 (m) (((bn (X i) 8 : Nat) : Int))) 45 (m) (u 20 (i))) 41 (8) (b2)))) rfl (by decide) (by omega) (WB_44_set a c ((up (up (up u 44 (m) (((bn (X i) 8 : Nat) : Int))) 45 (m) (u 20 (i))) 41 (8) (b2))) m (u 44 (m))) dX4_giveTo_126 ?_
          refine z_aload_n C 4 dX4_giveTo_127 rfl ?_
          refine z_get C hK (v := .ref (a 45)) inX4_giveTo_X4 41 (WB_41 a c ((up (up (up (up u 44 (m) (((bn (X i) 8 : Nat) : Int))) 45 (m) (u 20 (i))) 41 (8) (b2)) 44 (m) (u 44 (m))))) rfl 6 (by decide) (List.mem_of_getElem? (i := 2) rfl) rfl dX4_giveTo_128 ?_
          refine z_iload_n C 5 dX4_giveTo_131 rfl ?_
          refine z_iload C 1 dX4_giveTo_132 rfl ?_
          refine z_iast C hK (hDD _) 0 (g := (up (up (up (up u 44 (m) (((bn (X i) 8 : Nat) : Int))) 45 (m) (u 20 (i))) 41 (8) (b2)) 44 (m) (u 44 (m))) 45) 45 (WB_45 a c ((up (up (up (up u 44 (m) (((bn (X i) 8 : Nat) : Int))) 45 (m) (u 20 (i))) 41 (8) (b2)) 44 (m) (u 44 (m))))) rfl (by decide) (by omega) (WB_45_set a c ((up (up (up (up u 44 (m) (((bn (X i) 8 : Nat) : Int))) 45 (m) (u 20 (i))) 41 (8) (b2)) 44 (m) (u 44 (m)))) m (u 45 (m))) dX4_giveTo_134 ?_
          refine z_ws (ws' := (WB a c (up u 41 (8) (b2)))) (congrArg (WB a c) (pl_rest u m _ _ _)) ?_
          exact kret 0 (up u 41 8 b2) _ _ (⟨b2, rfl, Bst_congr hB (fun t => ⟨fun q => ⟨hz, by first | (rw [if_pos (by omega)]; exact q) | (rw [if_neg (by omega)]; exact q)⟩, fun q => by have q2 := q.2; first | (rw [if_pos (show m = used by omega)] at q2; exact q2) | (rw [if_neg (show ¬ m = used by omega)] at q2; exact q2)⟩)⟩) dX4_giveTo_135
        · skip
          refine z_iload_n C 7 dX4_giveTo_109 rfl ?_
          refine z_iconst C dX4_giveTo_110 ?_
          refine z_iadd C dX4_giveTo_111 ?_
          refine z_goto C 116 dX4_giveTo_112 (by decide) ?_
          refine z_callV C hK hDD (c_X4_giveToMen_3 (zl x) (zG x) a c ((up (up u 44 (m) (((bn (X i) 8 : Nat) : Int))) 45 (m) (u 20 (i)))) (i + 1) (used + 1) E X ((fun j => if j = m then lvs (u 20) (u 3 8) X L T i m used else L j)) ((fun j => if j = m then u 20 i else T j)) (show (i + 1) = (u 17 8) - 3 by omega) (show 0 ≤ (i + 1) by omega) (show 0 ≤ (used + 1) ∧ (used + 1) ≤ 3 by omega) (hQ) (show 0 ≤ (u 41 8) ∧ (u 41 8) ≤ 4 by omega) (hX) (hE) (pl_hL hL (by first | exact Or.inl (by omega) | exact Or.inr ⟨by omega, by omega⟩) (by first | exact lvs_new (by omega) | exact lvs_old (by omega))) (pl_hT (by omega) hmi.1 hQ.2.2.2 hT (by first | exact Or.inl (by omega) | exact Or.inr ⟨by omega, by omega⟩))) gX4_giveTo_X4_giveToMen rfl zy_X4_giveToMen 41 (WB_41 a c ((up (up u 44 (m) (((bn (X i) 8 : Nat) : Int))) 45 (m) (u 20 (i))))) rfl ⟨by omega, by decide⟩ rfl (Nat.le_of_ble_eq_true rfl) (st := []) (stk2 := fun _ => []) rfl (fun _ => rfl) dX4_giveTo_116 (fun z8 u9 h10 => ?_)
          obtain ⟨b2, e1, hB⟩ := h10
          rw [e1]
          change Z x 0 0 (WB a c (up (up (up u 44 (m) (((bn (X i) 8 : Nat) : Int))) 45 (m) (u 20 (i))) 41 (8) (b2))) _ _ _
          refine z_aload_n C 4 dX4_giveTo_119 rfl ?_
          refine z_get C hK (v := .ref (a 44)) inX4_giveTo_X4 41 (WB_41 a c ((up (up (up u 44 (m) (((bn (X i) 8 : Nat) : Int))) 45 (m) (u 20 (i))) 41 (8) (b2)))) rfl 5 (by decide) (List.mem_of_getElem? (i := 1) rfl) rfl dX4_giveTo_120 ?_
          refine z_iload_n C 5 dX4_giveTo_123 rfl ?_
          refine z_iload C 2 dX4_giveTo_124 rfl ?_
          refine z_iast C hK (hDD _) 0 (g := (up (up (up u 44 (m) (((bn (X i) 8 : Nat) : Int))) 45 (m) (u 20 (i))) 41 (8) (b2)) 44) 44 (WB_44 a c ((up (up (up u 44 (m) (((bn (X i) 8 : Nat) : Int))) 45 (m) (u 20 (i))) 41 (8) (b2)))) rfl (by decide) (by omega) (WB_44_set a c ((up (up (up u 44 (m) (((bn (X i) 8 : Nat) : Int))) 45 (m) (u 20 (i))) 41 (8) (b2))) m (u 44 (m))) dX4_giveTo_126 ?_
          refine z_aload_n C 4 dX4_giveTo_127 rfl ?_
          refine z_get C hK (v := .ref (a 45)) inX4_giveTo_X4 41 (WB_41 a c ((up (up (up (up u 44 (m) (((bn (X i) 8 : Nat) : Int))) 45 (m) (u 20 (i))) 41 (8) (b2)) 44 (m) (u 44 (m))))) rfl 6 (by decide) (List.mem_of_getElem? (i := 2) rfl) rfl dX4_giveTo_128 ?_
          refine z_iload_n C 5 dX4_giveTo_131 rfl ?_
          refine z_iload C 1 dX4_giveTo_132 rfl ?_
          refine z_iast C hK (hDD _) 0 (g := (up (up (up (up u 44 (m) (((bn (X i) 8 : Nat) : Int))) 45 (m) (u 20 (i))) 41 (8) (b2)) 44 (m) (u 44 (m))) 45) 45 (WB_45 a c ((up (up (up (up u 44 (m) (((bn (X i) 8 : Nat) : Int))) 45 (m) (u 20 (i))) 41 (8) (b2)) 44 (m) (u 44 (m))))) rfl (by decide) (by omega) (WB_45_set a c ((up (up (up (up u 44 (m) (((bn (X i) 8 : Nat) : Int))) 45 (m) (u 20 (i))) 41 (8) (b2)) 44 (m) (u 44 (m)))) m (u 45 (m))) dX4_giveTo_134 ?_
          refine z_ws (ws' := (WB a c (up u 41 (8) (b2)))) (congrArg (WB a c) (pl_rest u m _ _ _)) ?_
          exact kret 0 (up u 41 8 b2) _ _ (⟨b2, rfl, Bst_congr hB (fun t => ⟨fun q => ⟨hz, by first | (rw [if_pos (by omega)]; exact q) | (rw [if_neg (by omega)]; exact q)⟩, fun q => by have q2 := q.2; first | (rw [if_pos (show m = used by omega)] at q2; exact q2) | (rw [if_neg (show ¬ m = used by omega)] at q2; exact q2)⟩)⟩) dX4_giveTo_135
      · have hz : ¬ nz (lvs (u 20) (u 3 8) X L T i m used) := by first | exact nz_no (lvs_new (by omega)) h3 | exact nz_no (lvs_old (by omega)) h3
        exact kret 0 u _ _ (⟨u 41 8, (up_self u 41 8).symm, Bst_none hb.1 (fun t h => absurd h.1 hz)⟩) dX4_giveTo_76
    · skip
      refine z_iload C 0 dX4_giveTo_41 rfl ?_
      refine z_iload C 2 dX4_giveTo_43 rfl ?_
      refine z_as (b := ((bn (L m) 8 : Nat) : Int)) (hL m (by omega) (by omega)) ?_
      refine z_aload_n C 4 dX4_giveTo_45 rfl ?_
      refine z_get C hK (v := .ref (a 3)) inX4_giveTo_X4 41 (WB_41 a c u) rfl 0 (by decide) (List.mem_of_getElem? (i := 4) rfl) rfl dX4_giveTo_46 ?_
      refine z_getN C hK (v := .int (zI (u 3 8))) inX4_giveTo_X8 3 (WB_3 a c u) rfl 8 (by decide) (List.mem_of_getElem? (i := 37) rfl) rfl dX4_giveTo_49 ?_
      refine z_aload_n C 4 dX4_giveTo_52 rfl ?_
      refine z_get C hK (v := .ref (a 17)) inX4_giveTo_X4 41 (WB_41 a c u) rfl 1 (by decide) (List.mem_of_getElem? (i := 5) rfl) rfl dX4_giveTo_53 ?_
      refine z_getN C hK (v := .ref (a 20)) inX4_giveTo_X2 17 (WB_17 a c u) rfl 2 (by decide) (List.mem_of_getElem? (i := 36) rfl) rfl dX4_giveTo_56 ?_
      refine z_iload_n C 6 dX4_giveTo_59 rfl ?_
      refine z_iald C hK 0 (g := (u 20)) (i := i) 20 (WB_20 a c u) rfl (by decide) (by omega) dX4_giveTo_60 ?_
      refine z_as (b := u 20 (i)) rfl ?_
      have hTm := hT m (by omega) (by omega)
      have hTi := hTm.2.2 i (Int.le_refl _) (by omega)
      have hsp := pl_pc (d := u 20 i - T m) hq2 (by omega)
      refine z_iload C 1 dX4_giveTo_61 rfl ?_
      refine z_as (b := T m) ((hT m (by omega) (by omega)).1) ?_
      refine z_isub C dX4_giveTo_63 ?_
      refine z_imul C dX4_giveTo_64 ?_
      refine z_callSN C hK hDD (c_X10_spread (zl x) (zG x) ((WB a c)) (WB_addr a c) u ((L m)) ((u 3 8) * ((u 20 (i)) - (T m))) (by omega)) ggX4_giveTo_X10_spread (List.mem_of_getElem? (i := 32) rfl) (List.mem_of_getElem? (i := 7) rfl) (List.mem_of_getElem? (i := 6) rfl) rfl zy_X10_spread ⟨by omega, by decide⟩ rfl (Nat.le_of_ble_eq_true rfl) (st := [.int (zI (((bn (X i) 8 : Nat) : Int)))]) (stk2 := fun z11 => [.int (zI z11), .int (zI (((bn (X i) 8 : Nat) : Int)))]) rfl (fun _ => rfl) dX4_giveTo_65 (fun z11 u12 h13 => ?_)
      rw [h13.1]; replace h13 := h13.2
      refine z_as (b := ((bn (sprd ((L m)) ((u 3 8) * ((u 20 (i)) - (T m)))) 8 : Nat) : Int)) h13 ?_
      refine z_iand C (((bn (fun q => X i q && sprd (L m) (u 3 8 * (u 20 i - T m)) q) 8 : Nat) : Int)) dX4_giveTo_68 (by rw [zI_and, bn_and]) ?_
      refine z_istore C [(7, .int (zI (((bn (fun q => X i q && sprd (L m) (u 3 8 * (u 20 i - T m)) q) 8 : Nat) : Int)))), (6, .int (zI (u 45 (m)))), (5, .int (zI (u 44 (m)))), (4, .int (zI 0)), (0, .ref (a 41)), (1, .int (zI m)), (2, .int (zI i)), (3, .int (zI used))] dX4_giveTo_69 (by decide) rfl ?_
      refine z_iload C 0 dX4_giveTo_71 rfl ?_
      refine z_if_ne C 77 dX4_giveTo_73 (by decide) (by have h1 := bn_8 (X i) (n := 8) (by omega); have h2 := bn_8 (fun q => X i q && sprd (L m) (u 3 8 * (u 20 i - T m)) q) (n := 8) (by omega); omega) (fun h14 => ?_) (fun h14 => ?_)
      · have hz : nz (lvs (u 20) (u 3 8) X L T i m used) := by first | exact nz_yes (lvs_new (by omega)) h14 | exact nz_yes (lvs_old (by omega)) h14
        refine z_aload_n C 4 dX4_giveTo_77 rfl ?_
        refine z_get C hK (v := .ref (a 44)) inX4_giveTo_X4 41 (WB_41 a c u) rfl 5 (by decide) (List.mem_of_getElem? (i := 1) rfl) rfl dX4_giveTo_78 ?_
        refine z_iload_n C 5 dX4_giveTo_81 rfl ?_
        refine z_iload C 0 dX4_giveTo_82 rfl ?_
        refine z_iast C hK (hDD _) 0 (g := u 44) 44 (WB_44 a c u) rfl (by decide) (by omega) (WB_44_set a c u m (((bn (fun q => X i q && sprd (L m) (u 3 8 * (u 20 i - T m)) q) 8 : Nat) : Int))) dX4_giveTo_84 ?_
        refine z_aload_n C 4 dX4_giveTo_85 rfl ?_
        refine z_get C hK (v := .ref (a 45)) inX4_giveTo_X4 41 (WB_41 a c ((up u 44 (m) (((bn (fun q => X i q && sprd (L m) (u 3 8 * (u 20 i - T m)) q) 8 : Nat) : Int))))) rfl 6 (by decide) (List.mem_of_getElem? (i := 2) rfl) rfl dX4_giveTo_86 ?_
        refine z_iload_n C 5 dX4_giveTo_89 rfl ?_
        refine z_aload_n C 4 dX4_giveTo_90 rfl ?_
        refine z_get C hK (v := .ref (a 17)) inX4_giveTo_X4 41 (WB_41 a c ((up u 44 (m) (((bn (fun q => X i q && sprd (L m) (u 3 8 * (u 20 i - T m)) q) 8 : Nat) : Int))))) rfl 1 (by decide) (List.mem_of_getElem? (i := 5) rfl) rfl dX4_giveTo_91 ?_
        refine z_getN C hK (v := .ref (a 20)) inX4_giveTo_X2 17 (WB_17 a c ((up u 44 (m) (((bn (fun q => X i q && sprd (L m) (u 3 8 * (u 20 i - T m)) q) 8 : Nat) : Int))))) rfl 2 (by decide) (List.mem_of_getElem? (i := 36) rfl) rfl dX4_giveTo_94 ?_
        refine z_iload_n C 6 dX4_giveTo_97 rfl ?_
        refine z_iald C hK 0 (g := (u 20)) (i := i) 20 (WB_20 a c ((up u 44 (m) (((bn (fun q => X i q && sprd (L m) (u 3 8 * (u 20 i - T m)) q) 8 : Nat) : Int))))) rfl (by decide) (by omega) dX4_giveTo_98 ?_
        refine z_as (b := u 20 (i)) rfl ?_
        refine z_iast C hK (hDD _) 0 (g := (up u 44 (m) (((bn (fun q => X i q && sprd (L m) (u 3 8 * (u 20 i - T m)) q) 8 : Nat) : Int))) 45) 45 (WB_45 a c ((up u 44 (m) (((bn (fun q => X i q && sprd (L m) (u 3 8 * (u 20 i - T m)) q) 8 : Nat) : Int))))) rfl (by decide) (by omega) (WB_45_set a c ((up u 44 (m) (((bn (fun q => X i q && sprd (L m) (u 3 8 * (u 20 i - T m)) q) 8 : Nat) : Int)))) m (u 20 (i))) dX4_giveTo_99 ?_
        refine z_aload_n C 4 dX4_giveTo_100 rfl ?_
        refine z_iload_n C 6 dX4_giveTo_101 rfl ?_
        refine z_iconst C dX4_giveTo_102 ?_
        refine z_iadd C dX4_giveTo_103 ?_
        refine z_iload C 3 dX4_giveTo_104 rfl ?_
        refine z_if_eq C 115 dX4_giveTo_106 (by decide) (by omega) (fun h15 => ?_) (fun h15 => ?_)
        · skip
          refine z_iload_n C 7 dX4_giveTo_115 rfl ?_
          refine z_callV C hK hDD (c_X4_giveToMen_3 (zl x) (zG x) a c ((up (up u 44 (m) (((bn (fun q => X i q && sprd (L m) (u 3 8 * (u 20 i - T m)) q) 8 : Nat) : Int))) 45 (m) (u 20 (i)))) (i + 1) used E X ((fun j => if j = m then lvs (u 20) (u 3 8) X L T i m used else L j)) ((fun j => if j = m then u 20 i else T j)) (show (i + 1) = (u 17 8) - 3 by omega) (show 0 ≤ (i + 1) by omega) (show 0 ≤ used ∧ used ≤ 3 by omega) (hQ) (show 0 ≤ (u 41 8) ∧ (u 41 8) ≤ 4 by omega) (hX) (hE) (pl_hL hL (by first | exact Or.inl (by omega) | exact Or.inr ⟨by omega, by omega⟩) (by first | exact lvs_new (by omega) | exact lvs_old (by omega))) (pl_hT (by omega) hmi.1 hQ.2.2.2 hT (by first | exact Or.inl (by omega) | exact Or.inr ⟨by omega, by omega⟩))) gX4_giveTo_X4_giveToMen rfl zy_X4_giveToMen 41 (WB_41 a c ((up (up u 44 (m) (((bn (fun q => X i q && sprd (L m) (u 3 8 * (u 20 i - T m)) q) 8 : Nat) : Int))) 45 (m) (u 20 (i))))) rfl ⟨by omega, by decide⟩ rfl (Nat.le_of_ble_eq_true rfl) (st := []) (stk2 := fun _ => []) rfl (fun _ => rfl) dX4_giveTo_116 (fun z16 u17 h18 => ?_)
          obtain ⟨b2, e1, hB⟩ := h18
          rw [e1]
          change Z x 0 0 (WB a c (up (up (up u 44 (m) (((bn (fun q => X i q && sprd (L m) (u 3 8 * (u 20 i - T m)) q) 8 : Nat) : Int))) 45 (m) (u 20 (i))) 41 (8) (b2))) _ _ _
          refine z_aload_n C 4 dX4_giveTo_119 rfl ?_
          refine z_get C hK (v := .ref (a 44)) inX4_giveTo_X4 41 (WB_41 a c ((up (up (up u 44 (m) (((bn (fun q => X i q && sprd (L m) (u 3 8 * (u 20 i - T m)) q) 8 : Nat) : Int))) 45 (m) (u 20 (i))) 41 (8) (b2)))) rfl 5 (by decide) (List.mem_of_getElem? (i := 1) rfl) rfl dX4_giveTo_120 ?_
          refine z_iload_n C 5 dX4_giveTo_123 rfl ?_
          refine z_iload C 2 dX4_giveTo_124 rfl ?_
          refine z_iast C hK (hDD _) 0 (g := (up (up (up u 44 (m) (((bn (fun q => X i q && sprd (L m) (u 3 8 * (u 20 i - T m)) q) 8 : Nat) : Int))) 45 (m) (u 20 (i))) 41 (8) (b2)) 44) 44 (WB_44 a c ((up (up (up u 44 (m) (((bn (fun q => X i q && sprd (L m) (u 3 8 * (u 20 i - T m)) q) 8 : Nat) : Int))) 45 (m) (u 20 (i))) 41 (8) (b2)))) rfl (by decide) (by omega) (WB_44_set a c ((up (up (up u 44 (m) (((bn (fun q => X i q && sprd (L m) (u 3 8 * (u 20 i - T m)) q) 8 : Nat) : Int))) 45 (m) (u 20 (i))) 41 (8) (b2))) m (u 44 (m))) dX4_giveTo_126 ?_
          refine z_aload_n C 4 dX4_giveTo_127 rfl ?_
          refine z_get C hK (v := .ref (a 45)) inX4_giveTo_X4 41 (WB_41 a c ((up (up (up (up u 44 (m) (((bn (fun q => X i q && sprd (L m) (u 3 8 * (u 20 i - T m)) q) 8 : Nat) : Int))) 45 (m) (u 20 (i))) 41 (8) (b2)) 44 (m) (u 44 (m))))) rfl 6 (by decide) (List.mem_of_getElem? (i := 2) rfl) rfl dX4_giveTo_128 ?_
          refine z_iload_n C 5 dX4_giveTo_131 rfl ?_
          refine z_iload C 1 dX4_giveTo_132 rfl ?_
          refine z_iast C hK (hDD _) 0 (g := (up (up (up (up u 44 (m) (((bn (fun q => X i q && sprd (L m) (u 3 8 * (u 20 i - T m)) q) 8 : Nat) : Int))) 45 (m) (u 20 (i))) 41 (8) (b2)) 44 (m) (u 44 (m))) 45) 45 (WB_45 a c ((up (up (up (up u 44 (m) (((bn (fun q => X i q && sprd (L m) (u 3 8 * (u 20 i - T m)) q) 8 : Nat) : Int))) 45 (m) (u 20 (i))) 41 (8) (b2)) 44 (m) (u 44 (m))))) rfl (by decide) (by omega) (WB_45_set a c ((up (up (up (up u 44 (m) (((bn (fun q => X i q && sprd (L m) (u 3 8 * (u 20 i - T m)) q) 8 : Nat) : Int))) 45 (m) (u 20 (i))) 41 (8) (b2)) 44 (m) (u 44 (m)))) m (u 45 (m))) dX4_giveTo_134 ?_
          refine z_ws (ws' := (WB a c (up u 41 (8) (b2)))) (congrArg (WB a c) (pl_rest u m _ _ _)) ?_
          exact kret 0 (up u 41 8 b2) _ _ (⟨b2, rfl, Bst_congr hB (fun t => ⟨fun q => ⟨hz, by first | (rw [if_pos (by omega)]; exact q) | (rw [if_neg (by omega)]; exact q)⟩, fun q => by have q2 := q.2; first | (rw [if_pos (show m = used by omega)] at q2; exact q2) | (rw [if_neg (show ¬ m = used by omega)] at q2; exact q2)⟩)⟩) dX4_giveTo_135
        · skip
          refine z_iload_n C 7 dX4_giveTo_109 rfl ?_
          refine z_iconst C dX4_giveTo_110 ?_
          refine z_iadd C dX4_giveTo_111 ?_
          refine z_goto C 116 dX4_giveTo_112 (by decide) ?_
          refine z_callV C hK hDD (c_X4_giveToMen_3 (zl x) (zG x) a c ((up (up u 44 (m) (((bn (fun q => X i q && sprd (L m) (u 3 8 * (u 20 i - T m)) q) 8 : Nat) : Int))) 45 (m) (u 20 (i)))) (i + 1) (used + 1) E X ((fun j => if j = m then lvs (u 20) (u 3 8) X L T i m used else L j)) ((fun j => if j = m then u 20 i else T j)) (show (i + 1) = (u 17 8) - 3 by omega) (show 0 ≤ (i + 1) by omega) (show 0 ≤ (used + 1) ∧ (used + 1) ≤ 3 by omega) (hQ) (show 0 ≤ (u 41 8) ∧ (u 41 8) ≤ 4 by omega) (hX) (hE) (pl_hL hL (by first | exact Or.inl (by omega) | exact Or.inr ⟨by omega, by omega⟩) (by first | exact lvs_new (by omega) | exact lvs_old (by omega))) (pl_hT (by omega) hmi.1 hQ.2.2.2 hT (by first | exact Or.inl (by omega) | exact Or.inr ⟨by omega, by omega⟩))) gX4_giveTo_X4_giveToMen rfl zy_X4_giveToMen 41 (WB_41 a c ((up (up u 44 (m) (((bn (fun q => X i q && sprd (L m) (u 3 8 * (u 20 i - T m)) q) 8 : Nat) : Int))) 45 (m) (u 20 (i))))) rfl ⟨by omega, by decide⟩ rfl (Nat.le_of_ble_eq_true rfl) (st := []) (stk2 := fun _ => []) rfl (fun _ => rfl) dX4_giveTo_116 (fun z19 u20 h21 => ?_)
          obtain ⟨b2, e1, hB⟩ := h21
          rw [e1]
          change Z x 0 0 (WB a c (up (up (up u 44 (m) (((bn (fun q => X i q && sprd (L m) (u 3 8 * (u 20 i - T m)) q) 8 : Nat) : Int))) 45 (m) (u 20 (i))) 41 (8) (b2))) _ _ _
          refine z_aload_n C 4 dX4_giveTo_119 rfl ?_
          refine z_get C hK (v := .ref (a 44)) inX4_giveTo_X4 41 (WB_41 a c ((up (up (up u 44 (m) (((bn (fun q => X i q && sprd (L m) (u 3 8 * (u 20 i - T m)) q) 8 : Nat) : Int))) 45 (m) (u 20 (i))) 41 (8) (b2)))) rfl 5 (by decide) (List.mem_of_getElem? (i := 1) rfl) rfl dX4_giveTo_120 ?_
          refine z_iload_n C 5 dX4_giveTo_123 rfl ?_
          refine z_iload C 2 dX4_giveTo_124 rfl ?_
          refine z_iast C hK (hDD _) 0 (g := (up (up (up u 44 (m) (((bn (fun q => X i q && sprd (L m) (u 3 8 * (u 20 i - T m)) q) 8 : Nat) : Int))) 45 (m) (u 20 (i))) 41 (8) (b2)) 44) 44 (WB_44 a c ((up (up (up u 44 (m) (((bn (fun q => X i q && sprd (L m) (u 3 8 * (u 20 i - T m)) q) 8 : Nat) : Int))) 45 (m) (u 20 (i))) 41 (8) (b2)))) rfl (by decide) (by omega) (WB_44_set a c ((up (up (up u 44 (m) (((bn (fun q => X i q && sprd (L m) (u 3 8 * (u 20 i - T m)) q) 8 : Nat) : Int))) 45 (m) (u 20 (i))) 41 (8) (b2))) m (u 44 (m))) dX4_giveTo_126 ?_
          refine z_aload_n C 4 dX4_giveTo_127 rfl ?_
          refine z_get C hK (v := .ref (a 45)) inX4_giveTo_X4 41 (WB_41 a c ((up (up (up (up u 44 (m) (((bn (fun q => X i q && sprd (L m) (u 3 8 * (u 20 i - T m)) q) 8 : Nat) : Int))) 45 (m) (u 20 (i))) 41 (8) (b2)) 44 (m) (u 44 (m))))) rfl 6 (by decide) (List.mem_of_getElem? (i := 2) rfl) rfl dX4_giveTo_128 ?_
          refine z_iload_n C 5 dX4_giveTo_131 rfl ?_
          refine z_iload C 1 dX4_giveTo_132 rfl ?_
          refine z_iast C hK (hDD _) 0 (g := (up (up (up (up u 44 (m) (((bn (fun q => X i q && sprd (L m) (u 3 8 * (u 20 i - T m)) q) 8 : Nat) : Int))) 45 (m) (u 20 (i))) 41 (8) (b2)) 44 (m) (u 44 (m))) 45) 45 (WB_45 a c ((up (up (up (up u 44 (m) (((bn (fun q => X i q && sprd (L m) (u 3 8 * (u 20 i - T m)) q) 8 : Nat) : Int))) 45 (m) (u 20 (i))) 41 (8) (b2)) 44 (m) (u 44 (m))))) rfl (by decide) (by omega) (WB_45_set a c ((up (up (up (up u 44 (m) (((bn (fun q => X i q && sprd (L m) (u 3 8 * (u 20 i - T m)) q) 8 : Nat) : Int))) 45 (m) (u 20 (i))) 41 (8) (b2)) 44 (m) (u 44 (m)))) m (u 45 (m))) dX4_giveTo_134 ?_
          refine z_ws (ws' := (WB a c (up u 41 (8) (b2)))) (congrArg (WB a c) (pl_rest u m _ _ _)) ?_
          exact kret 0 (up u 41 8 b2) _ _ (⟨b2, rfl, Bst_congr hB (fun t => ⟨fun q => ⟨hz, by first | (rw [if_pos (by omega)]; exact q) | (rw [if_neg (by omega)]; exact q)⟩, fun q => by have q2 := q.2; first | (rw [if_pos (show m = used by omega)] at q2; exact q2) | (rw [if_neg (show ¬ m = used by omega)] at q2; exact q2)⟩)⟩) dX4_giveTo_135
      · have hz : ¬ nz (lvs (u 20) (u 3 8) X L T i m used) := by first | exact nz_no (lvs_new (by omega)) h14 | exact nz_no (lvs_old (by omega)) h14
        exact kret 0 u _ _ (⟨u 41 8, (up_self u 41 8).symm, Bst_none hb.1 (fun t h => absurd h.1 hz)⟩) dX4_giveTo_76
  · skip
    refine z_iconst C dX4_giveTo_5 ?_
    refine z_goto C 10 dX4_giveTo_6 (by decide) ?_
    refine z_istore C [(4, .int (zI 1)), (0, .ref (a 41)), (1, .int (zI m)), (2, .int (zI i)), (3, .int (zI used))] dX4_giveTo_10 (by decide) rfl ?_
    refine z_aload_n C 1 dX4_giveTo_12 rfl ?_
    refine z_get C hK (v := .ref (a 44)) inX4_giveTo_X4 41 (WB_41 a c u) rfl 5 (by decide) (List.mem_of_getElem? (i := 1) rfl) rfl dX4_giveTo_13 ?_
    refine z_iload_n C 2 dX4_giveTo_16 rfl ?_
    refine z_iald C hK 0 (g := (u 44)) (i := m) 44 (WB_44 a c u) rfl (by decide) (by omega) dX4_giveTo_17 ?_
    refine z_as (b := u 44 (m)) rfl ?_
    refine z_istore C [(5, .int (zI (u 44 (m)))), (4, .int (zI 1)), (0, .ref (a 41)), (1, .int (zI m)), (2, .int (zI i)), (3, .int (zI used))] dX4_giveTo_18 (by decide) rfl ?_
    refine z_aload_n C 2 dX4_giveTo_20 rfl ?_
    refine z_get C hK (v := .ref (a 45)) inX4_giveTo_X4 41 (WB_41 a c u) rfl 6 (by decide) (List.mem_of_getElem? (i := 2) rfl) rfl dX4_giveTo_21 ?_
    refine z_iload_n C 3 dX4_giveTo_24 rfl ?_
    refine z_iald C hK 0 (g := (u 45)) (i := m) 45 (WB_45 a c u) rfl (by decide) (by omega) dX4_giveTo_25 ?_
    refine z_as (b := u 45 (m)) rfl ?_
    refine z_istore C [(6, .int (zI (u 45 (m)))), (5, .int (zI (u 44 (m)))), (4, .int (zI 1)), (0, .ref (a 41)), (1, .int (zI m)), (2, .int (zI i)), (3, .int (zI used))] dX4_giveTo_26 (by decide) rfl ?_
    refine z_aload_n C 3 dX4_giveTo_28 rfl ?_
    refine z_get C hK (v := .ref (a 42)) inX4_giveTo_X4 41 (WB_41 a c u) rfl 3 (by decide) (List.mem_of_getElem? (i := 3) rfl) rfl dX4_giveTo_29 ?_
    refine z_iload_n C 5 dX4_giveTo_32 rfl ?_
    refine z_iald C hK 0 (g := (u 42)) (i := i) 42 (WB_42 a c u) rfl (by decide) (by omega) dX4_giveTo_33 ?_
    refine z_as (b := u 42 (i)) rfl ?_
    refine z_as (b := ((bn (X i) 8 : Nat) : Int)) (hX i (by omega) (by omega)) ?_
    refine z_istore C [(7, .int (zI (((bn (X i) 8 : Nat) : Int)))), (6, .int (zI (u 45 (m)))), (5, .int (zI (u 44 (m)))), (4, .int (zI 1)), (0, .ref (a 41)), (1, .int (zI m)), (2, .int (zI i)), (3, .int (zI used))] dX4_giveTo_34 (by decide) rfl ?_
    refine z_iload C 3 dX4_giveTo_36 rfl ?_
    refine z_if_ne C 71 dX4_giveTo_38 (by decide) (by omega) (fun h22 => ?_) (fun h22 => ?_)
    · skip
      refine z_iload C 0 dX4_giveTo_71 rfl ?_
      refine z_if_ne C 77 dX4_giveTo_73 (by decide) (by have h1 := bn_8 (X i) (n := 8) (by omega); have h2 := bn_8 (fun q => X i q && sprd (L m) (u 3 8 * (u 20 i - T m)) q) (n := 8) (by omega); omega) (fun h23 => ?_) (fun h23 => ?_)
      · have hz : nz (lvs (u 20) (u 3 8) X L T i m used) := by first | exact nz_yes (lvs_new (by omega)) h23 | exact nz_yes (lvs_old (by omega)) h23
        refine z_aload_n C 4 dX4_giveTo_77 rfl ?_
        refine z_get C hK (v := .ref (a 44)) inX4_giveTo_X4 41 (WB_41 a c u) rfl 5 (by decide) (List.mem_of_getElem? (i := 1) rfl) rfl dX4_giveTo_78 ?_
        refine z_iload_n C 5 dX4_giveTo_81 rfl ?_
        refine z_iload C 0 dX4_giveTo_82 rfl ?_
        refine z_iast C hK (hDD _) 0 (g := u 44) 44 (WB_44 a c u) rfl (by decide) (by omega) (WB_44_set a c u m (((bn (X i) 8 : Nat) : Int))) dX4_giveTo_84 ?_
        refine z_aload_n C 4 dX4_giveTo_85 rfl ?_
        refine z_get C hK (v := .ref (a 45)) inX4_giveTo_X4 41 (WB_41 a c ((up u 44 (m) (((bn (X i) 8 : Nat) : Int))))) rfl 6 (by decide) (List.mem_of_getElem? (i := 2) rfl) rfl dX4_giveTo_86 ?_
        refine z_iload_n C 5 dX4_giveTo_89 rfl ?_
        refine z_aload_n C 4 dX4_giveTo_90 rfl ?_
        refine z_get C hK (v := .ref (a 17)) inX4_giveTo_X4 41 (WB_41 a c ((up u 44 (m) (((bn (X i) 8 : Nat) : Int))))) rfl 1 (by decide) (List.mem_of_getElem? (i := 5) rfl) rfl dX4_giveTo_91 ?_
        refine z_getN C hK (v := .ref (a 20)) inX4_giveTo_X2 17 (WB_17 a c ((up u 44 (m) (((bn (X i) 8 : Nat) : Int))))) rfl 2 (by decide) (List.mem_of_getElem? (i := 36) rfl) rfl dX4_giveTo_94 ?_
        refine z_iload_n C 6 dX4_giveTo_97 rfl ?_
        refine z_iald C hK 0 (g := (u 20)) (i := i) 20 (WB_20 a c ((up u 44 (m) (((bn (X i) 8 : Nat) : Int))))) rfl (by decide) (by omega) dX4_giveTo_98 ?_
        refine z_as (b := u 20 (i)) rfl ?_
        refine z_iast C hK (hDD _) 0 (g := (up u 44 (m) (((bn (X i) 8 : Nat) : Int))) 45) 45 (WB_45 a c ((up u 44 (m) (((bn (X i) 8 : Nat) : Int))))) rfl (by decide) (by omega) (WB_45_set a c ((up u 44 (m) (((bn (X i) 8 : Nat) : Int)))) m (u 20 (i))) dX4_giveTo_99 ?_
        refine z_aload_n C 4 dX4_giveTo_100 rfl ?_
        refine z_iload_n C 6 dX4_giveTo_101 rfl ?_
        refine z_iconst C dX4_giveTo_102 ?_
        refine z_iadd C dX4_giveTo_103 ?_
        refine z_iload C 3 dX4_giveTo_104 rfl ?_
        refine z_if_eq C 115 dX4_giveTo_106 (by decide) (by omega) (fun h24 => ?_) (fun h24 => ?_)
        · skip
          refine z_iload_n C 7 dX4_giveTo_115 rfl ?_
          refine z_callV C hK hDD (c_X4_giveToMen_3 (zl x) (zG x) a c ((up (up u 44 (m) (((bn (X i) 8 : Nat) : Int))) 45 (m) (u 20 (i)))) (i + 1) used E X ((fun j => if j = m then lvs (u 20) (u 3 8) X L T i m used else L j)) ((fun j => if j = m then u 20 i else T j)) (show (i + 1) = (u 17 8) - 3 by omega) (show 0 ≤ (i + 1) by omega) (show 0 ≤ used ∧ used ≤ 3 by omega) (hQ) (show 0 ≤ (u 41 8) ∧ (u 41 8) ≤ 4 by omega) (hX) (hE) (pl_hL hL (by first | exact Or.inl (by omega) | exact Or.inr ⟨by omega, by omega⟩) (by first | exact lvs_new (by omega) | exact lvs_old (by omega))) (pl_hT (by omega) hmi.1 hQ.2.2.2 hT (by first | exact Or.inl (by omega) | exact Or.inr ⟨by omega, by omega⟩))) gX4_giveTo_X4_giveToMen rfl zy_X4_giveToMen 41 (WB_41 a c ((up (up u 44 (m) (((bn (X i) 8 : Nat) : Int))) 45 (m) (u 20 (i))))) rfl ⟨by omega, by decide⟩ rfl (Nat.le_of_ble_eq_true rfl) (st := []) (stk2 := fun _ => []) rfl (fun _ => rfl) dX4_giveTo_116 (fun z25 u26 h27 => ?_)
          obtain ⟨b2, e1, hB⟩ := h27
          rw [e1]
          change Z x 0 0 (WB a c (up (up (up u 44 (m) (((bn (X i) 8 : Nat) : Int))) 45 (m) (u 20 (i))) 41 (8) (b2))) _ _ _
          refine z_aload_n C 4 dX4_giveTo_119 rfl ?_
          refine z_get C hK (v := .ref (a 44)) inX4_giveTo_X4 41 (WB_41 a c ((up (up (up u 44 (m) (((bn (X i) 8 : Nat) : Int))) 45 (m) (u 20 (i))) 41 (8) (b2)))) rfl 5 (by decide) (List.mem_of_getElem? (i := 1) rfl) rfl dX4_giveTo_120 ?_
          refine z_iload_n C 5 dX4_giveTo_123 rfl ?_
          refine z_iload C 2 dX4_giveTo_124 rfl ?_
          refine z_iast C hK (hDD _) 0 (g := (up (up (up u 44 (m) (((bn (X i) 8 : Nat) : Int))) 45 (m) (u 20 (i))) 41 (8) (b2)) 44) 44 (WB_44 a c ((up (up (up u 44 (m) (((bn (X i) 8 : Nat) : Int))) 45 (m) (u 20 (i))) 41 (8) (b2)))) rfl (by decide) (by omega) (WB_44_set a c ((up (up (up u 44 (m) (((bn (X i) 8 : Nat) : Int))) 45 (m) (u 20 (i))) 41 (8) (b2))) m (u 44 (m))) dX4_giveTo_126 ?_
          refine z_aload_n C 4 dX4_giveTo_127 rfl ?_
          refine z_get C hK (v := .ref (a 45)) inX4_giveTo_X4 41 (WB_41 a c ((up (up (up (up u 44 (m) (((bn (X i) 8 : Nat) : Int))) 45 (m) (u 20 (i))) 41 (8) (b2)) 44 (m) (u 44 (m))))) rfl 6 (by decide) (List.mem_of_getElem? (i := 2) rfl) rfl dX4_giveTo_128 ?_
          refine z_iload_n C 5 dX4_giveTo_131 rfl ?_
          refine z_iload C 1 dX4_giveTo_132 rfl ?_
          refine z_iast C hK (hDD _) 0 (g := (up (up (up (up u 44 (m) (((bn (X i) 8 : Nat) : Int))) 45 (m) (u 20 (i))) 41 (8) (b2)) 44 (m) (u 44 (m))) 45) 45 (WB_45 a c ((up (up (up (up u 44 (m) (((bn (X i) 8 : Nat) : Int))) 45 (m) (u 20 (i))) 41 (8) (b2)) 44 (m) (u 44 (m))))) rfl (by decide) (by omega) (WB_45_set a c ((up (up (up (up u 44 (m) (((bn (X i) 8 : Nat) : Int))) 45 (m) (u 20 (i))) 41 (8) (b2)) 44 (m) (u 44 (m)))) m (u 45 (m))) dX4_giveTo_134 ?_
          refine z_ws (ws' := (WB a c (up u 41 (8) (b2)))) (congrArg (WB a c) (pl_rest u m _ _ _)) ?_
          exact kret 0 (up u 41 8 b2) _ _ (⟨b2, rfl, Bst_congr hB (fun t => ⟨fun q => ⟨hz, by first | (rw [if_pos (by omega)]; exact q) | (rw [if_neg (by omega)]; exact q)⟩, fun q => by have q2 := q.2; first | (rw [if_pos (show m = used by omega)] at q2; exact q2) | (rw [if_neg (show ¬ m = used by omega)] at q2; exact q2)⟩)⟩) dX4_giveTo_135
        · skip
          refine z_iload_n C 7 dX4_giveTo_109 rfl ?_
          refine z_iconst C dX4_giveTo_110 ?_
          refine z_iadd C dX4_giveTo_111 ?_
          refine z_goto C 116 dX4_giveTo_112 (by decide) ?_
          refine z_callV C hK hDD (c_X4_giveToMen_3 (zl x) (zG x) a c ((up (up u 44 (m) (((bn (X i) 8 : Nat) : Int))) 45 (m) (u 20 (i)))) (i + 1) (used + 1) E X ((fun j => if j = m then lvs (u 20) (u 3 8) X L T i m used else L j)) ((fun j => if j = m then u 20 i else T j)) (show (i + 1) = (u 17 8) - 3 by omega) (show 0 ≤ (i + 1) by omega) (show 0 ≤ (used + 1) ∧ (used + 1) ≤ 3 by omega) (hQ) (show 0 ≤ (u 41 8) ∧ (u 41 8) ≤ 4 by omega) (hX) (hE) (pl_hL hL (by first | exact Or.inl (by omega) | exact Or.inr ⟨by omega, by omega⟩) (by first | exact lvs_new (by omega) | exact lvs_old (by omega))) (pl_hT (by omega) hmi.1 hQ.2.2.2 hT (by first | exact Or.inl (by omega) | exact Or.inr ⟨by omega, by omega⟩))) gX4_giveTo_X4_giveToMen rfl zy_X4_giveToMen 41 (WB_41 a c ((up (up u 44 (m) (((bn (X i) 8 : Nat) : Int))) 45 (m) (u 20 (i))))) rfl ⟨by omega, by decide⟩ rfl (Nat.le_of_ble_eq_true rfl) (st := []) (stk2 := fun _ => []) rfl (fun _ => rfl) dX4_giveTo_116 (fun z28 u29 h30 => ?_)
          obtain ⟨b2, e1, hB⟩ := h30
          rw [e1]
          change Z x 0 0 (WB a c (up (up (up u 44 (m) (((bn (X i) 8 : Nat) : Int))) 45 (m) (u 20 (i))) 41 (8) (b2))) _ _ _
          refine z_aload_n C 4 dX4_giveTo_119 rfl ?_
          refine z_get C hK (v := .ref (a 44)) inX4_giveTo_X4 41 (WB_41 a c ((up (up (up u 44 (m) (((bn (X i) 8 : Nat) : Int))) 45 (m) (u 20 (i))) 41 (8) (b2)))) rfl 5 (by decide) (List.mem_of_getElem? (i := 1) rfl) rfl dX4_giveTo_120 ?_
          refine z_iload_n C 5 dX4_giveTo_123 rfl ?_
          refine z_iload C 2 dX4_giveTo_124 rfl ?_
          refine z_iast C hK (hDD _) 0 (g := (up (up (up u 44 (m) (((bn (X i) 8 : Nat) : Int))) 45 (m) (u 20 (i))) 41 (8) (b2)) 44) 44 (WB_44 a c ((up (up (up u 44 (m) (((bn (X i) 8 : Nat) : Int))) 45 (m) (u 20 (i))) 41 (8) (b2)))) rfl (by decide) (by omega) (WB_44_set a c ((up (up (up u 44 (m) (((bn (X i) 8 : Nat) : Int))) 45 (m) (u 20 (i))) 41 (8) (b2))) m (u 44 (m))) dX4_giveTo_126 ?_
          refine z_aload_n C 4 dX4_giveTo_127 rfl ?_
          refine z_get C hK (v := .ref (a 45)) inX4_giveTo_X4 41 (WB_41 a c ((up (up (up (up u 44 (m) (((bn (X i) 8 : Nat) : Int))) 45 (m) (u 20 (i))) 41 (8) (b2)) 44 (m) (u 44 (m))))) rfl 6 (by decide) (List.mem_of_getElem? (i := 2) rfl) rfl dX4_giveTo_128 ?_
          refine z_iload_n C 5 dX4_giveTo_131 rfl ?_
          refine z_iload C 1 dX4_giveTo_132 rfl ?_
          refine z_iast C hK (hDD _) 0 (g := (up (up (up (up u 44 (m) (((bn (X i) 8 : Nat) : Int))) 45 (m) (u 20 (i))) 41 (8) (b2)) 44 (m) (u 44 (m))) 45) 45 (WB_45 a c ((up (up (up (up u 44 (m) (((bn (X i) 8 : Nat) : Int))) 45 (m) (u 20 (i))) 41 (8) (b2)) 44 (m) (u 44 (m))))) rfl (by decide) (by omega) (WB_45_set a c ((up (up (up (up u 44 (m) (((bn (X i) 8 : Nat) : Int))) 45 (m) (u 20 (i))) 41 (8) (b2)) 44 (m) (u 44 (m)))) m (u 45 (m))) dX4_giveTo_134 ?_
          refine z_ws (ws' := (WB a c (up u 41 (8) (b2)))) (congrArg (WB a c) (pl_rest u m _ _ _)) ?_
          exact kret 0 (up u 41 8 b2) _ _ (⟨b2, rfl, Bst_congr hB (fun t => ⟨fun q => ⟨hz, by first | (rw [if_pos (by omega)]; exact q) | (rw [if_neg (by omega)]; exact q)⟩, fun q => by have q2 := q.2; first | (rw [if_pos (show m = used by omega)] at q2; exact q2) | (rw [if_neg (show ¬ m = used by omega)] at q2; exact q2)⟩)⟩) dX4_giveTo_135
      · have hz : ¬ nz (lvs (u 20) (u 3 8) X L T i m used) := by first | exact nz_no (lvs_new (by omega)) h23 | exact nz_no (lvs_old (by omega)) h23
        exact kret 0 u _ _ (⟨u 41 8, (up_self u 41 8).symm, Bst_none hb.1 (fun t h => absurd h.1 hz)⟩) dX4_giveTo_76
    · skip
      refine z_iload C 0 dX4_giveTo_41 rfl ?_
      refine z_iload C 2 dX4_giveTo_43 rfl ?_
      refine z_as (b := ((bn (L m) 8 : Nat) : Int)) (hL m (by omega) (by omega)) ?_
      refine z_aload_n C 4 dX4_giveTo_45 rfl ?_
      refine z_get C hK (v := .ref (a 3)) inX4_giveTo_X4 41 (WB_41 a c u) rfl 0 (by decide) (List.mem_of_getElem? (i := 4) rfl) rfl dX4_giveTo_46 ?_
      refine z_getN C hK (v := .int (zI (u 3 8))) inX4_giveTo_X8 3 (WB_3 a c u) rfl 8 (by decide) (List.mem_of_getElem? (i := 37) rfl) rfl dX4_giveTo_49 ?_
      refine z_aload_n C 4 dX4_giveTo_52 rfl ?_
      refine z_get C hK (v := .ref (a 17)) inX4_giveTo_X4 41 (WB_41 a c u) rfl 1 (by decide) (List.mem_of_getElem? (i := 5) rfl) rfl dX4_giveTo_53 ?_
      refine z_getN C hK (v := .ref (a 20)) inX4_giveTo_X2 17 (WB_17 a c u) rfl 2 (by decide) (List.mem_of_getElem? (i := 36) rfl) rfl dX4_giveTo_56 ?_
      refine z_iload_n C 6 dX4_giveTo_59 rfl ?_
      refine z_iald C hK 0 (g := (u 20)) (i := i) 20 (WB_20 a c u) rfl (by decide) (by omega) dX4_giveTo_60 ?_
      refine z_as (b := u 20 (i)) rfl ?_
      have hTm := hT m (by omega) (by omega)
      have hTi := hTm.2.2 i (Int.le_refl _) (by omega)
      have hsp := pl_pc (d := u 20 i - T m) hq2 (by omega)
      refine z_iload C 1 dX4_giveTo_61 rfl ?_
      refine z_as (b := T m) ((hT m (by omega) (by omega)).1) ?_
      refine z_isub C dX4_giveTo_63 ?_
      refine z_imul C dX4_giveTo_64 ?_
      refine z_callSN C hK hDD (c_X10_spread (zl x) (zG x) ((WB a c)) (WB_addr a c) u ((L m)) ((u 3 8) * ((u 20 (i)) - (T m))) (by omega)) ggX4_giveTo_X10_spread (List.mem_of_getElem? (i := 32) rfl) (List.mem_of_getElem? (i := 7) rfl) (List.mem_of_getElem? (i := 6) rfl) rfl zy_X10_spread ⟨by omega, by decide⟩ rfl (Nat.le_of_ble_eq_true rfl) (st := [.int (zI (((bn (X i) 8 : Nat) : Int)))]) (stk2 := fun z31 => [.int (zI z31), .int (zI (((bn (X i) 8 : Nat) : Int)))]) rfl (fun _ => rfl) dX4_giveTo_65 (fun z31 u32 h33 => ?_)
      rw [h33.1]; replace h33 := h33.2
      refine z_as (b := ((bn (sprd ((L m)) ((u 3 8) * ((u 20 (i)) - (T m)))) 8 : Nat) : Int)) h33 ?_
      refine z_iand C (((bn (fun q => X i q && sprd (L m) (u 3 8 * (u 20 i - T m)) q) 8 : Nat) : Int)) dX4_giveTo_68 (by rw [zI_and, bn_and]) ?_
      refine z_istore C [(7, .int (zI (((bn (fun q => X i q && sprd (L m) (u 3 8 * (u 20 i - T m)) q) 8 : Nat) : Int)))), (6, .int (zI (u 45 (m)))), (5, .int (zI (u 44 (m)))), (4, .int (zI 1)), (0, .ref (a 41)), (1, .int (zI m)), (2, .int (zI i)), (3, .int (zI used))] dX4_giveTo_69 (by decide) rfl ?_
      refine z_iload C 0 dX4_giveTo_71 rfl ?_
      refine z_if_ne C 77 dX4_giveTo_73 (by decide) (by have h1 := bn_8 (X i) (n := 8) (by omega); have h2 := bn_8 (fun q => X i q && sprd (L m) (u 3 8 * (u 20 i - T m)) q) (n := 8) (by omega); omega) (fun h34 => ?_) (fun h34 => ?_)
      · have hz : nz (lvs (u 20) (u 3 8) X L T i m used) := by first | exact nz_yes (lvs_new (by omega)) h34 | exact nz_yes (lvs_old (by omega)) h34
        refine z_aload_n C 4 dX4_giveTo_77 rfl ?_
        refine z_get C hK (v := .ref (a 44)) inX4_giveTo_X4 41 (WB_41 a c u) rfl 5 (by decide) (List.mem_of_getElem? (i := 1) rfl) rfl dX4_giveTo_78 ?_
        refine z_iload_n C 5 dX4_giveTo_81 rfl ?_
        refine z_iload C 0 dX4_giveTo_82 rfl ?_
        refine z_iast C hK (hDD _) 0 (g := u 44) 44 (WB_44 a c u) rfl (by decide) (by omega) (WB_44_set a c u m (((bn (fun q => X i q && sprd (L m) (u 3 8 * (u 20 i - T m)) q) 8 : Nat) : Int))) dX4_giveTo_84 ?_
        refine z_aload_n C 4 dX4_giveTo_85 rfl ?_
        refine z_get C hK (v := .ref (a 45)) inX4_giveTo_X4 41 (WB_41 a c ((up u 44 (m) (((bn (fun q => X i q && sprd (L m) (u 3 8 * (u 20 i - T m)) q) 8 : Nat) : Int))))) rfl 6 (by decide) (List.mem_of_getElem? (i := 2) rfl) rfl dX4_giveTo_86 ?_
        refine z_iload_n C 5 dX4_giveTo_89 rfl ?_
        refine z_aload_n C 4 dX4_giveTo_90 rfl ?_
        refine z_get C hK (v := .ref (a 17)) inX4_giveTo_X4 41 (WB_41 a c ((up u 44 (m) (((bn (fun q => X i q && sprd (L m) (u 3 8 * (u 20 i - T m)) q) 8 : Nat) : Int))))) rfl 1 (by decide) (List.mem_of_getElem? (i := 5) rfl) rfl dX4_giveTo_91 ?_
        refine z_getN C hK (v := .ref (a 20)) inX4_giveTo_X2 17 (WB_17 a c ((up u 44 (m) (((bn (fun q => X i q && sprd (L m) (u 3 8 * (u 20 i - T m)) q) 8 : Nat) : Int))))) rfl 2 (by decide) (List.mem_of_getElem? (i := 36) rfl) rfl dX4_giveTo_94 ?_
        refine z_iload_n C 6 dX4_giveTo_97 rfl ?_
        refine z_iald C hK 0 (g := (u 20)) (i := i) 20 (WB_20 a c ((up u 44 (m) (((bn (fun q => X i q && sprd (L m) (u 3 8 * (u 20 i - T m)) q) 8 : Nat) : Int))))) rfl (by decide) (by omega) dX4_giveTo_98 ?_
        refine z_as (b := u 20 (i)) rfl ?_
        refine z_iast C hK (hDD _) 0 (g := (up u 44 (m) (((bn (fun q => X i q && sprd (L m) (u 3 8 * (u 20 i - T m)) q) 8 : Nat) : Int))) 45) 45 (WB_45 a c ((up u 44 (m) (((bn (fun q => X i q && sprd (L m) (u 3 8 * (u 20 i - T m)) q) 8 : Nat) : Int))))) rfl (by decide) (by omega) (WB_45_set a c ((up u 44 (m) (((bn (fun q => X i q && sprd (L m) (u 3 8 * (u 20 i - T m)) q) 8 : Nat) : Int)))) m (u 20 (i))) dX4_giveTo_99 ?_
        refine z_aload_n C 4 dX4_giveTo_100 rfl ?_
        refine z_iload_n C 6 dX4_giveTo_101 rfl ?_
        refine z_iconst C dX4_giveTo_102 ?_
        refine z_iadd C dX4_giveTo_103 ?_
        refine z_iload C 3 dX4_giveTo_104 rfl ?_
        refine z_if_eq C 115 dX4_giveTo_106 (by decide) (by omega) (fun h35 => ?_) (fun h35 => ?_)
        · skip
          refine z_iload_n C 7 dX4_giveTo_115 rfl ?_
          refine z_callV C hK hDD (c_X4_giveToMen_3 (zl x) (zG x) a c ((up (up u 44 (m) (((bn (fun q => X i q && sprd (L m) (u 3 8 * (u 20 i - T m)) q) 8 : Nat) : Int))) 45 (m) (u 20 (i)))) (i + 1) used E X ((fun j => if j = m then lvs (u 20) (u 3 8) X L T i m used else L j)) ((fun j => if j = m then u 20 i else T j)) (show (i + 1) = (u 17 8) - 3 by omega) (show 0 ≤ (i + 1) by omega) (show 0 ≤ used ∧ used ≤ 3 by omega) (hQ) (show 0 ≤ (u 41 8) ∧ (u 41 8) ≤ 4 by omega) (hX) (hE) (pl_hL hL (by first | exact Or.inl (by omega) | exact Or.inr ⟨by omega, by omega⟩) (by first | exact lvs_new (by omega) | exact lvs_old (by omega))) (pl_hT (by omega) hmi.1 hQ.2.2.2 hT (by first | exact Or.inl (by omega) | exact Or.inr ⟨by omega, by omega⟩))) gX4_giveTo_X4_giveToMen rfl zy_X4_giveToMen 41 (WB_41 a c ((up (up u 44 (m) (((bn (fun q => X i q && sprd (L m) (u 3 8 * (u 20 i - T m)) q) 8 : Nat) : Int))) 45 (m) (u 20 (i))))) rfl ⟨by omega, by decide⟩ rfl (Nat.le_of_ble_eq_true rfl) (st := []) (stk2 := fun _ => []) rfl (fun _ => rfl) dX4_giveTo_116 (fun z36 u37 h38 => ?_)
          obtain ⟨b2, e1, hB⟩ := h38
          rw [e1]
          change Z x 0 0 (WB a c (up (up (up u 44 (m) (((bn (fun q => X i q && sprd (L m) (u 3 8 * (u 20 i - T m)) q) 8 : Nat) : Int))) 45 (m) (u 20 (i))) 41 (8) (b2))) _ _ _
          refine z_aload_n C 4 dX4_giveTo_119 rfl ?_
          refine z_get C hK (v := .ref (a 44)) inX4_giveTo_X4 41 (WB_41 a c ((up (up (up u 44 (m) (((bn (fun q => X i q && sprd (L m) (u 3 8 * (u 20 i - T m)) q) 8 : Nat) : Int))) 45 (m) (u 20 (i))) 41 (8) (b2)))) rfl 5 (by decide) (List.mem_of_getElem? (i := 1) rfl) rfl dX4_giveTo_120 ?_
          refine z_iload_n C 5 dX4_giveTo_123 rfl ?_
          refine z_iload C 2 dX4_giveTo_124 rfl ?_
          refine z_iast C hK (hDD _) 0 (g := (up (up (up u 44 (m) (((bn (fun q => X i q && sprd (L m) (u 3 8 * (u 20 i - T m)) q) 8 : Nat) : Int))) 45 (m) (u 20 (i))) 41 (8) (b2)) 44) 44 (WB_44 a c ((up (up (up u 44 (m) (((bn (fun q => X i q && sprd (L m) (u 3 8 * (u 20 i - T m)) q) 8 : Nat) : Int))) 45 (m) (u 20 (i))) 41 (8) (b2)))) rfl (by decide) (by omega) (WB_44_set a c ((up (up (up u 44 (m) (((bn (fun q => X i q && sprd (L m) (u 3 8 * (u 20 i - T m)) q) 8 : Nat) : Int))) 45 (m) (u 20 (i))) 41 (8) (b2))) m (u 44 (m))) dX4_giveTo_126 ?_
          refine z_aload_n C 4 dX4_giveTo_127 rfl ?_
          refine z_get C hK (v := .ref (a 45)) inX4_giveTo_X4 41 (WB_41 a c ((up (up (up (up u 44 (m) (((bn (fun q => X i q && sprd (L m) (u 3 8 * (u 20 i - T m)) q) 8 : Nat) : Int))) 45 (m) (u 20 (i))) 41 (8) (b2)) 44 (m) (u 44 (m))))) rfl 6 (by decide) (List.mem_of_getElem? (i := 2) rfl) rfl dX4_giveTo_128 ?_
          refine z_iload_n C 5 dX4_giveTo_131 rfl ?_
          refine z_iload C 1 dX4_giveTo_132 rfl ?_
          refine z_iast C hK (hDD _) 0 (g := (up (up (up (up u 44 (m) (((bn (fun q => X i q && sprd (L m) (u 3 8 * (u 20 i - T m)) q) 8 : Nat) : Int))) 45 (m) (u 20 (i))) 41 (8) (b2)) 44 (m) (u 44 (m))) 45) 45 (WB_45 a c ((up (up (up (up u 44 (m) (((bn (fun q => X i q && sprd (L m) (u 3 8 * (u 20 i - T m)) q) 8 : Nat) : Int))) 45 (m) (u 20 (i))) 41 (8) (b2)) 44 (m) (u 44 (m))))) rfl (by decide) (by omega) (WB_45_set a c ((up (up (up (up u 44 (m) (((bn (fun q => X i q && sprd (L m) (u 3 8 * (u 20 i - T m)) q) 8 : Nat) : Int))) 45 (m) (u 20 (i))) 41 (8) (b2)) 44 (m) (u 44 (m)))) m (u 45 (m))) dX4_giveTo_134 ?_
          refine z_ws (ws' := (WB a c (up u 41 (8) (b2)))) (congrArg (WB a c) (pl_rest u m _ _ _)) ?_
          exact kret 0 (up u 41 8 b2) _ _ (⟨b2, rfl, Bst_congr hB (fun t => ⟨fun q => ⟨hz, by first | (rw [if_pos (by omega)]; exact q) | (rw [if_neg (by omega)]; exact q)⟩, fun q => by have q2 := q.2; first | (rw [if_pos (show m = used by omega)] at q2; exact q2) | (rw [if_neg (show ¬ m = used by omega)] at q2; exact q2)⟩)⟩) dX4_giveTo_135
        · skip
          refine z_iload_n C 7 dX4_giveTo_109 rfl ?_
          refine z_iconst C dX4_giveTo_110 ?_
          refine z_iadd C dX4_giveTo_111 ?_
          refine z_goto C 116 dX4_giveTo_112 (by decide) ?_
          refine z_callV C hK hDD (c_X4_giveToMen_3 (zl x) (zG x) a c ((up (up u 44 (m) (((bn (fun q => X i q && sprd (L m) (u 3 8 * (u 20 i - T m)) q) 8 : Nat) : Int))) 45 (m) (u 20 (i)))) (i + 1) (used + 1) E X ((fun j => if j = m then lvs (u 20) (u 3 8) X L T i m used else L j)) ((fun j => if j = m then u 20 i else T j)) (show (i + 1) = (u 17 8) - 3 by omega) (show 0 ≤ (i + 1) by omega) (show 0 ≤ (used + 1) ∧ (used + 1) ≤ 3 by omega) (hQ) (show 0 ≤ (u 41 8) ∧ (u 41 8) ≤ 4 by omega) (hX) (hE) (pl_hL hL (by first | exact Or.inl (by omega) | exact Or.inr ⟨by omega, by omega⟩) (by first | exact lvs_new (by omega) | exact lvs_old (by omega))) (pl_hT (by omega) hmi.1 hQ.2.2.2 hT (by first | exact Or.inl (by omega) | exact Or.inr ⟨by omega, by omega⟩))) gX4_giveTo_X4_giveToMen rfl zy_X4_giveToMen 41 (WB_41 a c ((up (up u 44 (m) (((bn (fun q => X i q && sprd (L m) (u 3 8 * (u 20 i - T m)) q) 8 : Nat) : Int))) 45 (m) (u 20 (i))))) rfl ⟨by omega, by decide⟩ rfl (Nat.le_of_ble_eq_true rfl) (st := []) (stk2 := fun _ => []) rfl (fun _ => rfl) dX4_giveTo_116 (fun z39 u40 h41 => ?_)
          obtain ⟨b2, e1, hB⟩ := h41
          rw [e1]
          change Z x 0 0 (WB a c (up (up (up u 44 (m) (((bn (fun q => X i q && sprd (L m) (u 3 8 * (u 20 i - T m)) q) 8 : Nat) : Int))) 45 (m) (u 20 (i))) 41 (8) (b2))) _ _ _
          refine z_aload_n C 4 dX4_giveTo_119 rfl ?_
          refine z_get C hK (v := .ref (a 44)) inX4_giveTo_X4 41 (WB_41 a c ((up (up (up u 44 (m) (((bn (fun q => X i q && sprd (L m) (u 3 8 * (u 20 i - T m)) q) 8 : Nat) : Int))) 45 (m) (u 20 (i))) 41 (8) (b2)))) rfl 5 (by decide) (List.mem_of_getElem? (i := 1) rfl) rfl dX4_giveTo_120 ?_
          refine z_iload_n C 5 dX4_giveTo_123 rfl ?_
          refine z_iload C 2 dX4_giveTo_124 rfl ?_
          refine z_iast C hK (hDD _) 0 (g := (up (up (up u 44 (m) (((bn (fun q => X i q && sprd (L m) (u 3 8 * (u 20 i - T m)) q) 8 : Nat) : Int))) 45 (m) (u 20 (i))) 41 (8) (b2)) 44) 44 (WB_44 a c ((up (up (up u 44 (m) (((bn (fun q => X i q && sprd (L m) (u 3 8 * (u 20 i - T m)) q) 8 : Nat) : Int))) 45 (m) (u 20 (i))) 41 (8) (b2)))) rfl (by decide) (by omega) (WB_44_set a c ((up (up (up u 44 (m) (((bn (fun q => X i q && sprd (L m) (u 3 8 * (u 20 i - T m)) q) 8 : Nat) : Int))) 45 (m) (u 20 (i))) 41 (8) (b2))) m (u 44 (m))) dX4_giveTo_126 ?_
          refine z_aload_n C 4 dX4_giveTo_127 rfl ?_
          refine z_get C hK (v := .ref (a 45)) inX4_giveTo_X4 41 (WB_41 a c ((up (up (up (up u 44 (m) (((bn (fun q => X i q && sprd (L m) (u 3 8 * (u 20 i - T m)) q) 8 : Nat) : Int))) 45 (m) (u 20 (i))) 41 (8) (b2)) 44 (m) (u 44 (m))))) rfl 6 (by decide) (List.mem_of_getElem? (i := 2) rfl) rfl dX4_giveTo_128 ?_
          refine z_iload_n C 5 dX4_giveTo_131 rfl ?_
          refine z_iload C 1 dX4_giveTo_132 rfl ?_
          refine z_iast C hK (hDD _) 0 (g := (up (up (up (up u 44 (m) (((bn (fun q => X i q && sprd (L m) (u 3 8 * (u 20 i - T m)) q) 8 : Nat) : Int))) 45 (m) (u 20 (i))) 41 (8) (b2)) 44 (m) (u 44 (m))) 45) 45 (WB_45 a c ((up (up (up (up u 44 (m) (((bn (fun q => X i q && sprd (L m) (u 3 8 * (u 20 i - T m)) q) 8 : Nat) : Int))) 45 (m) (u 20 (i))) 41 (8) (b2)) 44 (m) (u 44 (m))))) rfl (by decide) (by omega) (WB_45_set a c ((up (up (up (up u 44 (m) (((bn (fun q => X i q && sprd (L m) (u 3 8 * (u 20 i - T m)) q) 8 : Nat) : Int))) 45 (m) (u 20 (i))) 41 (8) (b2)) 44 (m) (u 44 (m)))) m (u 45 (m))) dX4_giveTo_134 ?_
          refine z_ws (ws' := (WB a c (up u 41 (8) (b2)))) (congrArg (WB a c) (pl_rest u m _ _ _)) ?_
          exact kret 0 (up u 41 8 b2) _ _ (⟨b2, rfl, Bst_congr hB (fun t => ⟨fun q => ⟨hz, by first | (rw [if_pos (by omega)]; exact q) | (rw [if_neg (by omega)]; exact q)⟩, fun q => by have q2 := q.2; first | (rw [if_pos (show m = used by omega)] at q2; exact q2) | (rw [if_neg (show ¬ m = used by omega)] at q2; exact q2)⟩)⟩) dX4_giveTo_135
      · have hz : ¬ nz (lvs (u 20) (u 3 8) X L T i m used) := by first | exact nz_no (lvs_new (by omega)) h34 | exact nz_no (lvs_old (by omega)) h34
        exact kret 0 u _ _ (⟨u 41 8, (up_self u 41 8).symm, Bst_none hb.1 (fun t h => absurd h.1 hz)⟩) dX4_giveTo_76
-- NoteBells$Pluckers.giveToMen
set_option maxHeartbeats 8000000 in
set_option maxRecDepth 100000 in
theorem c_X4_giveToMen_4 (l : Launch) (D : va_G) (a : Nat → Nat) (c : Nat → ClassId) (u : zU) (i used : Int) (E : Int → Bool) (X L : Int → Nat → Bool) (T : Int → Int) (hi : i = u 17 8 - 4) (b_i : 0 ≤ i) (hu : 0 ≤ used ∧ used ≤ 3) (hQ : PQ (u 17 8) (u 3 8) (u 20)) (hb : 0 ≤ u 41 8 ∧ u 41 8 ≤ 4) (hX : ∀ k : Int, 0 ≤ k → k < u 17 8 → u 42 k = ((bn (X k) 8 : Nat) : Int)) (hE : ∀ k : Int, 0 ≤ k → k < u 17 8 → u 43 k = if E k = true then 1 else 0) (hL : ∀ j : Int, 0 ≤ j → j < used → u 44 j = ((bn (L j) 8 : Nat) : Int)) (hT : ∀ j : Int, 0 ≤ j → j < used → u 45 j = T j ∧ 0 ≤ T j ∧ ∀ k : Int, i ≤ k → k < u 17 8 → T j ≤ u 20 k) : ZM l D (zTy c) (WB a c) yX4_giveToMen wsX4_giveToMen 11 [.ref (a 41), .int (zI i), .int (zI used)] u rV (fun z u' => ∃ b' : Int, u' = up u 41 8 b' ∧ Bst (u 41 8) b' (fun t => Can (u 20) (u 3 8) (u 17 8) E X 4 L T used t)) := by
  refine ZM.ofV (cc := cX4_giveToMen) (maxL := 4) [(0, .ref (a 41)), (1, .int (zI i)), (2, .int (zI used))] rfl (by decide +kernel) rfl (Nat.le_of_ble_eq_true rfl) (WB_addr a c) ?_
  intro x C hK _ _ hDD kret
  have hq1 := hQ.1
  have hq2 := hQ.2.1
  refine z_iload_n C 2 dX4_giveToMen_0 rfl ?_
  refine z_aload_n C 0 dX4_giveToMen_1 rfl ?_
  refine z_get C hK (v := .int (zI (u 41 8))) inX4_giveToMen_X4 41 (WB_41 a c u) rfl 8 (by decide) (List.mem_of_getElem? (i := 1) rfl) rfl dX4_giveToMen_2 ?_
  refine z_icmp_lt C 9 dX4_giveToMen_5 (by decide) (by omega) (fun h1 => ?_) (fun h1 => ?_)
  · skip
    refine z_iload_n C 1 dX4_giveToMen_9 rfl ?_
    refine z_aload_n C 0 dX4_giveToMen_10 rfl ?_
    refine z_get C hK (v := .ref (a 17)) inX4_giveToMen_X4 41 (WB_41 a c u) rfl 1 (by decide) (List.mem_of_getElem? (i := 2) rfl) rfl dX4_giveToMen_11 ?_
    refine z_getN C hK (v := .int (zI (u 17 8))) inX4_giveToMen_X2 17 (WB_17 a c u) rfl 8 (by decide) (List.mem_of_getElem? (i := 34) rfl) rfl dX4_giveToMen_14 ?_
    refine z_icmp_lt C 26 dX4_giveToMen_17 (by decide) (by omega) (fun h2 => ?_) (fun h2 => ?_)
    · skip
      refine z_aload_n C 0 dX4_giveToMen_26 rfl ?_
      refine z_get C hK (v := .ref (a 43)) inX4_giveToMen_X4 41 (WB_41 a c u) rfl 4 (by decide) (List.mem_of_getElem? (i := 3) rfl) rfl dX4_giveToMen_27 ?_
      refine z_iload_n C 1 dX4_giveToMen_30 rfl ?_
      refine z_zald C hK 1 (g := (u 43)) (i := i) 43 (WB_43 a c u) rfl (by decide) (by omega) dX4_giveToMen_31 ?_
      refine z_as (b := u 43 (i)) rfl ?_
      refine z_as (b := (if E i = true then 1 else 0)) (hE i (by omega) (by omega)) ?_
      refine z_if_eq C 44 dX4_giveToMen_32 (by decide) (by split <;> omega) (fun h3 => ?_) (fun h3 => ?_)
      · have hEi := ite01_eq h3
        refine z_iconst C dX4_giveToMen_44 ?_
        refine z_ws (ws' := (WB a c (up u 41 (8) ((u 41 8))))) (congrArg (WB a c) (up_self u 41 8).symm) ?_
        refine z_istore_n C [(3, .int (zI 0)), (0, .ref (a 41)), (1, .int (zI i)), (2, .int (zI used))] dX4_giveToMen_45 rfl (by decide) rfl ?_
        have L46_4 : ∀ (fu : Nat) (m : Int) (b : Int), (0 ≤ m ∧ m ≤ used + 1 ∧ m ≤ 3) → (E i = false) → (Bst (u 41 8) b (fun t => ∃ k : Int, 0 ≤ k ∧ k < m ∧ Gv (u 20) (u 3 8) (u 17 8) E X 3 i L T used k t)) → 3 - m < (fu : Int) → Z x 0 0 (WB a c (up u 41 (8) (b))) [(0, .ref (a 41)), (1, .int (zI i)), (2, .int (zI used)), (3, .int (zI m))] 46 [] := by
          intro fu
          induction fu with
          | zero => intro m b hm hEf hB hmeas; exfalso; omega
          | succ fu ih46 =>
            intro m b hm hEf hB hmeas
            refine z_iload_n C 3 dX4_giveToMen_46 rfl ?_
            refine z_iload_n C 2 dX4_giveToMen_47 rfl ?_
            refine z_icmp_gt C 69 dX4_giveToMen_48 (by decide) (by omega) (fun h5 => ?_) (fun h5 => ?_)
            · skip
              exact kret 0 (up u 41 8 b) _ _ (⟨b, rfl, Bst_congr hB (Can_give (by omega) hEf (by omega))⟩) dX4_giveToMen_69
            · skip
              refine z_iload_n C 3 dX4_giveToMen_51 rfl ?_
              refine z_iconst C dX4_giveToMen_52 ?_
              refine z_icmp_ge C 69 dX4_giveToMen_53 (by decide) (by omega) (fun h6 => ?_) (fun h6 => ?_)
              · skip
                exact kret 0 (up u 41 8 b) _ _ (⟨b, rfl, Bst_congr hB (Can_give (by omega) hEf (by omega))⟩) dX4_giveToMen_69
              · skip
                refine z_aload_n C 0 dX4_giveToMen_56 rfl ?_
                refine z_iload_n C 3 dX4_giveToMen_57 rfl ?_
                refine z_iload_n C 1 dX4_giveToMen_58 rfl ?_
                refine z_iload_n C 2 dX4_giveToMen_59 rfl ?_
                refine z_callV C hK hDD (c_X4_giveTo_4 (zl x) (zG x) a c ((up u 41 (8) (b))) m i used E X L T (show i = (u 17 8) - 4 by omega) (show 0 ≤ i ∧ i < (u 17 8) by omega) (show 0 ≤ m ∧ m ≤ used ∧ m < 3 by omega) (show 0 ≤ used ∧ used ≤ 3 by omega) (hQ) (show 0 ≤ b ∧ b ≤ 4 from ⟨hB.1.1, Int.le_trans hB.1.2 hb.2⟩) (hX) (hE) (hL) (hT)) gX4_giveToMen_X4_giveTo rfl zy_X4_giveTo 41 (WB_41 a c ((up u 41 (8) (b)))) rfl ⟨by omega, by decide⟩ rfl (Nat.le_of_ble_eq_true rfl) (st := []) (stk2 := fun _ => []) rfl (fun _ => rfl) dX4_giveToMen_60 (fun z7 u8 h9 => ?_)
                obtain ⟨b2, e1, hB2⟩ := h9
                rw [e1]
                change Z x 0 0 (WB a c (up u 41 (8) (b2))) _ _ _
                refine z_iinc C 3 [(3, .int (zI (m + 1))), (0, .ref (a 41)), (1, .int (zI i)), (2, .int (zI used))] dX4_giveToMen_63 rfl (by decide) rfl ?_
                refine z_goto C 46 dX4_giveToMen_66 (by decide) ?_
                refine z_lv [(0, .ref (a 41)), (1, .int (zI i)), (2, .int (zI used)), (3, .int (zI (m + 1)))] [1, 2, 3, 0] rfl ?_
                exact ih46 (m + 1) b2 (by omega) (hEf) (Bst_trans hB hB2 (gv_grow hm.1)) (by omega)
        refine z_lv [(0, .ref (a 41)), (1, .int (zI i)), (2, .int (zI used)), (3, .int (zI 0))] [1, 2, 3, 0] rfl ?_
        exact L46_4 (((3 - 0 : Int)).toNat + 1) 0 ((u 41 8)) (by omega) (hEi) (Bst_gv0 hb.1) (by omega)
      · have hEi := ite01_ne h3
        refine z_aload_n C 0 dX4_giveToMen_35 rfl ?_
        refine z_iload_n C 1 dX4_giveToMen_36 rfl ?_
        refine z_iconst C dX4_giveToMen_37 ?_
        refine z_iadd C dX4_giveToMen_38 ?_
        refine z_iload_n C 2 dX4_giveToMen_39 rfl ?_
        refine z_callV C hK hDD (c_X4_giveToMen_3 (zl x) (zG x) a c u (i + 1) used E X L T (by omega) (by omega) (by omega) (hQ) (by omega) (hX) (hE) (hL) (fun j h0 h1 => ⟨(hT j h0 h1).1, (hT j h0 h1).2.1, fun k h2 h3 => (hT j h0 h1).2.2 k (by omega) h3⟩)) gX4_giveToMen_X4_giveToMen rfl zy_X4_giveToMen 41 (WB_41 a c u) rfl ⟨by omega, by decide⟩ rfl (Nat.le_of_ble_eq_true rfl) (st := []) (stk2 := fun _ => []) rfl (fun _ => rfl) dX4_giveToMen_40 (fun z10 u11 h12 => ?_)
        obtain ⟨b2, e1, hB⟩ := h12
        rw [e1]
        change Z x 0 0 (WB a c (up u 41 (8) (b2))) _ _ _
        exact kret 0 (up u 41 8 b2) _ _ (⟨b2, rfl, Bst_congr hB (Can_echo (by omega) hEi)⟩) dX4_giveToMen_43
    · exfalso; omega
  · skip
    exact kret 0 u _ _ (⟨u 41 8, (up_self u 41 8).symm, Bst_none hb.1 (fun t h => by have := Can_ge h; omega)⟩) dX4_giveToMen_8
-- NoteBells$Pluckers.giveTo
set_option maxHeartbeats 8000000 in
set_option maxRecDepth 100000 in
theorem c_X4_giveTo_5 (l : Launch) (D : va_G) (a : Nat → Nat) (c : Nat → ClassId) (u : zU) (m i used : Int) (E : Int → Bool) (X L : Int → Nat → Bool) (T : Int → Int) (hi : i = u 17 8 - 5) (b_i : 0 ≤ i ∧ i < u 17 8) (hm : 0 ≤ m ∧ m ≤ used ∧ m < 3) (hu : 0 ≤ used ∧ used ≤ 3) (hQ : PQ (u 17 8) (u 3 8) (u 20)) (hb : 0 ≤ u 41 8 ∧ u 41 8 ≤ 4) (hX : ∀ k : Int, 0 ≤ k → k < u 17 8 → u 42 k = ((bn (X k) 8 : Nat) : Int)) (hE : ∀ k : Int, 0 ≤ k → k < u 17 8 → u 43 k = if E k = true then 1 else 0) (hL : ∀ j : Int, 0 ≤ j → j < used → u 44 j = ((bn (L j) 8 : Nat) : Int)) (hT : ∀ j : Int, 0 ≤ j → j < used → u 45 j = T j ∧ 0 ≤ T j ∧ ∀ k : Int, i ≤ k → k < u 17 8 → T j ≤ u 20 k) : ZM l D (zTy c) (WB a c) yX4_giveTo wsX4_giveTo 12 [.ref (a 41), .int (zI m), .int (zI i), .int (zI used)] u rV (fun z u' => ∃ b' : Int, u' = up u 41 8 b' ∧ Bst (u 41 8) b' (fun t => Gv (u 20) (u 3 8) (u 17 8) E X 4 i L T used m t)) := by
  refine ZM.ofV (cc := cX4_giveTo) (maxL := 8) [(0, .ref (a 41)), (1, .int (zI m)), (2, .int (zI i)), (3, .int (zI used))] rfl (by decide +kernel) rfl (Nat.le_of_ble_eq_true rfl) (WB_addr a c) ?_
  intro x C hK _ _ hDD kret
  have hq1 := hQ.1
  have hq2 := hQ.2.1
  have hmi := hQ.2.2.1 i (by omega) (by omega)
  refine z_iload_n C 1 dX4_giveTo_0 rfl ?_
  refine z_iload_n C 3 dX4_giveTo_1 rfl ?_
  refine z_icmp_ne C 9 dX4_giveTo_2 (by decide) (by omega) (fun h1 => ?_) (fun h1 => ?_)
  · skip
    refine z_iconst C dX4_giveTo_9 ?_
    refine z_istore C [(4, .int (zI 0)), (0, .ref (a 41)), (1, .int (zI m)), (2, .int (zI i)), (3, .int (zI used))] dX4_giveTo_10 (by decide) rfl ?_
    refine z_aload_n C 1 dX4_giveTo_12 rfl ?_
    refine z_get C hK (v := .ref (a 44)) inX4_giveTo_X4 41 (WB_41 a c u) rfl 5 (by decide) (List.mem_of_getElem? (i := 1) rfl) rfl dX4_giveTo_13 ?_
    refine z_iload_n C 2 dX4_giveTo_16 rfl ?_
    refine z_iald C hK 0 (g := (u 44)) (i := m) 44 (WB_44 a c u) rfl (by decide) (by omega) dX4_giveTo_17 ?_
    refine z_as (b := u 44 (m)) rfl ?_
    refine z_istore C [(5, .int (zI (u 44 (m)))), (4, .int (zI 0)), (0, .ref (a 41)), (1, .int (zI m)), (2, .int (zI i)), (3, .int (zI used))] dX4_giveTo_18 (by decide) rfl ?_
    refine z_aload_n C 2 dX4_giveTo_20 rfl ?_
    refine z_get C hK (v := .ref (a 45)) inX4_giveTo_X4 41 (WB_41 a c u) rfl 6 (by decide) (List.mem_of_getElem? (i := 2) rfl) rfl dX4_giveTo_21 ?_
    refine z_iload_n C 3 dX4_giveTo_24 rfl ?_
    refine z_iald C hK 0 (g := (u 45)) (i := m) 45 (WB_45 a c u) rfl (by decide) (by omega) dX4_giveTo_25 ?_
    refine z_as (b := u 45 (m)) rfl ?_
    refine z_istore C [(6, .int (zI (u 45 (m)))), (5, .int (zI (u 44 (m)))), (4, .int (zI 0)), (0, .ref (a 41)), (1, .int (zI m)), (2, .int (zI i)), (3, .int (zI used))] dX4_giveTo_26 (by decide) rfl ?_
    refine z_aload_n C 3 dX4_giveTo_28 rfl ?_
    refine z_get C hK (v := .ref (a 42)) inX4_giveTo_X4 41 (WB_41 a c u) rfl 3 (by decide) (List.mem_of_getElem? (i := 3) rfl) rfl dX4_giveTo_29 ?_
    refine z_iload_n C 5 dX4_giveTo_32 rfl ?_
    refine z_iald C hK 0 (g := (u 42)) (i := i) 42 (WB_42 a c u) rfl (by decide) (by omega) dX4_giveTo_33 ?_
    refine z_as (b := u 42 (i)) rfl ?_
    refine z_as (b := ((bn (X i) 8 : Nat) : Int)) (hX i (by omega) (by omega)) ?_
    refine z_istore C [(7, .int (zI (((bn (X i) 8 : Nat) : Int)))), (6, .int (zI (u 45 (m)))), (5, .int (zI (u 44 (m)))), (4, .int (zI 0)), (0, .ref (a 41)), (1, .int (zI m)), (2, .int (zI i)), (3, .int (zI used))] dX4_giveTo_34 (by decide) rfl ?_
    refine z_iload C 3 dX4_giveTo_36 rfl ?_
    refine z_if_ne C 71 dX4_giveTo_38 (by decide) (by omega) (fun h2 => ?_) (fun h2 => ?_)
    · skip
      refine z_iload C 0 dX4_giveTo_71 rfl ?_
      refine z_if_ne C 77 dX4_giveTo_73 (by decide) (by have h1 := bn_8 (X i) (n := 8) (by omega); have h2 := bn_8 (fun q => X i q && sprd (L m) (u 3 8 * (u 20 i - T m)) q) (n := 8) (by omega); omega) (fun h3 => ?_) (fun h3 => ?_)
      · have hz : nz (lvs (u 20) (u 3 8) X L T i m used) := by first | exact nz_yes (lvs_new (by omega)) h3 | exact nz_yes (lvs_old (by omega)) h3
        refine z_aload_n C 4 dX4_giveTo_77 rfl ?_
        refine z_get C hK (v := .ref (a 44)) inX4_giveTo_X4 41 (WB_41 a c u) rfl 5 (by decide) (List.mem_of_getElem? (i := 1) rfl) rfl dX4_giveTo_78 ?_
        refine z_iload_n C 5 dX4_giveTo_81 rfl ?_
        refine z_iload C 0 dX4_giveTo_82 rfl ?_
        refine z_iast C hK (hDD _) 0 (g := u 44) 44 (WB_44 a c u) rfl (by decide) (by omega) (WB_44_set a c u m (((bn (X i) 8 : Nat) : Int))) dX4_giveTo_84 ?_
        refine z_aload_n C 4 dX4_giveTo_85 rfl ?_
        refine z_get C hK (v := .ref (a 45)) inX4_giveTo_X4 41 (WB_41 a c ((up u 44 (m) (((bn (X i) 8 : Nat) : Int))))) rfl 6 (by decide) (List.mem_of_getElem? (i := 2) rfl) rfl dX4_giveTo_86 ?_
        refine z_iload_n C 5 dX4_giveTo_89 rfl ?_
        refine z_aload_n C 4 dX4_giveTo_90 rfl ?_
        refine z_get C hK (v := .ref (a 17)) inX4_giveTo_X4 41 (WB_41 a c ((up u 44 (m) (((bn (X i) 8 : Nat) : Int))))) rfl 1 (by decide) (List.mem_of_getElem? (i := 5) rfl) rfl dX4_giveTo_91 ?_
        refine z_getN C hK (v := .ref (a 20)) inX4_giveTo_X2 17 (WB_17 a c ((up u 44 (m) (((bn (X i) 8 : Nat) : Int))))) rfl 2 (by decide) (List.mem_of_getElem? (i := 36) rfl) rfl dX4_giveTo_94 ?_
        refine z_iload_n C 6 dX4_giveTo_97 rfl ?_
        refine z_iald C hK 0 (g := (u 20)) (i := i) 20 (WB_20 a c ((up u 44 (m) (((bn (X i) 8 : Nat) : Int))))) rfl (by decide) (by omega) dX4_giveTo_98 ?_
        refine z_as (b := u 20 (i)) rfl ?_
        refine z_iast C hK (hDD _) 0 (g := (up u 44 (m) (((bn (X i) 8 : Nat) : Int))) 45) 45 (WB_45 a c ((up u 44 (m) (((bn (X i) 8 : Nat) : Int))))) rfl (by decide) (by omega) (WB_45_set a c ((up u 44 (m) (((bn (X i) 8 : Nat) : Int)))) m (u 20 (i))) dX4_giveTo_99 ?_
        refine z_aload_n C 4 dX4_giveTo_100 rfl ?_
        refine z_iload_n C 6 dX4_giveTo_101 rfl ?_
        refine z_iconst C dX4_giveTo_102 ?_
        refine z_iadd C dX4_giveTo_103 ?_
        refine z_iload C 3 dX4_giveTo_104 rfl ?_
        refine z_if_eq C 115 dX4_giveTo_106 (by decide) (by omega) (fun h4 => ?_) (fun h4 => ?_)
        · skip
          refine z_iload_n C 7 dX4_giveTo_115 rfl ?_
          refine z_callV C hK hDD (c_X4_giveToMen_4 (zl x) (zG x) a c ((up (up u 44 (m) (((bn (X i) 8 : Nat) : Int))) 45 (m) (u 20 (i)))) (i + 1) used E X ((fun j => if j = m then lvs (u 20) (u 3 8) X L T i m used else L j)) ((fun j => if j = m then u 20 i else T j)) (show (i + 1) = (u 17 8) - 4 by omega) (show 0 ≤ (i + 1) by omega) (show 0 ≤ used ∧ used ≤ 3 by omega) (hQ) (show 0 ≤ (u 41 8) ∧ (u 41 8) ≤ 4 by omega) (hX) (hE) (pl_hL hL (by first | exact Or.inl (by omega) | exact Or.inr ⟨by omega, by omega⟩) (by first | exact lvs_new (by omega) | exact lvs_old (by omega))) (pl_hT (by omega) hmi.1 hQ.2.2.2 hT (by first | exact Or.inl (by omega) | exact Or.inr ⟨by omega, by omega⟩))) gX4_giveTo_X4_giveToMen rfl zy_X4_giveToMen 41 (WB_41 a c ((up (up u 44 (m) (((bn (X i) 8 : Nat) : Int))) 45 (m) (u 20 (i))))) rfl ⟨by omega, by decide⟩ rfl (Nat.le_of_ble_eq_true rfl) (st := []) (stk2 := fun _ => []) rfl (fun _ => rfl) dX4_giveTo_116 (fun z5 u6 h7 => ?_)
          obtain ⟨b2, e1, hB⟩ := h7
          rw [e1]
          change Z x 0 0 (WB a c (up (up (up u 44 (m) (((bn (X i) 8 : Nat) : Int))) 45 (m) (u 20 (i))) 41 (8) (b2))) _ _ _
          refine z_aload_n C 4 dX4_giveTo_119 rfl ?_
          refine z_get C hK (v := .ref (a 44)) inX4_giveTo_X4 41 (WB_41 a c ((up (up (up u 44 (m) (((bn (X i) 8 : Nat) : Int))) 45 (m) (u 20 (i))) 41 (8) (b2)))) rfl 5 (by decide) (List.mem_of_getElem? (i := 1) rfl) rfl dX4_giveTo_120 ?_
          refine z_iload_n C 5 dX4_giveTo_123 rfl ?_
          refine z_iload C 2 dX4_giveTo_124 rfl ?_
          refine z_iast C hK (hDD _) 0 (g := (up (up (up u 44 (m) (((bn (X i) 8 : Nat) : Int))) 45 (m) (u 20 (i))) 41 (8) (b2)) 44) 44 (WB_44 a c ((up (up (up u 44 (m) (((bn (X i) 8 : Nat) : Int))) 45 (m) (u 20 (i))) 41 (8) (b2)))) rfl (by decide) (by omega) (WB_44_set a c ((up (up (up u 44 (m) (((bn (X i) 8 : Nat) : Int))) 45 (m) (u 20 (i))) 41 (8) (b2))) m (u 44 (m))) dX4_giveTo_126 ?_
          refine z_aload_n C 4 dX4_giveTo_127 rfl ?_
          refine z_get C hK (v := .ref (a 45)) inX4_giveTo_X4 41 (WB_41 a c ((up (up (up (up u 44 (m) (((bn (X i) 8 : Nat) : Int))) 45 (m) (u 20 (i))) 41 (8) (b2)) 44 (m) (u 44 (m))))) rfl 6 (by decide) (List.mem_of_getElem? (i := 2) rfl) rfl dX4_giveTo_128 ?_
          refine z_iload_n C 5 dX4_giveTo_131 rfl ?_
          refine z_iload C 1 dX4_giveTo_132 rfl ?_
          refine z_iast C hK (hDD _) 0 (g := (up (up (up (up u 44 (m) (((bn (X i) 8 : Nat) : Int))) 45 (m) (u 20 (i))) 41 (8) (b2)) 44 (m) (u 44 (m))) 45) 45 (WB_45 a c ((up (up (up (up u 44 (m) (((bn (X i) 8 : Nat) : Int))) 45 (m) (u 20 (i))) 41 (8) (b2)) 44 (m) (u 44 (m))))) rfl (by decide) (by omega) (WB_45_set a c ((up (up (up (up u 44 (m) (((bn (X i) 8 : Nat) : Int))) 45 (m) (u 20 (i))) 41 (8) (b2)) 44 (m) (u 44 (m)))) m (u 45 (m))) dX4_giveTo_134 ?_
          refine z_ws (ws' := (WB a c (up u 41 (8) (b2)))) (congrArg (WB a c) (pl_rest u m _ _ _)) ?_
          exact kret 0 (up u 41 8 b2) _ _ (⟨b2, rfl, Bst_congr hB (fun t => ⟨fun q => ⟨hz, by first | (rw [if_pos (by omega)]; exact q) | (rw [if_neg (by omega)]; exact q)⟩, fun q => by have q2 := q.2; first | (rw [if_pos (show m = used by omega)] at q2; exact q2) | (rw [if_neg (show ¬ m = used by omega)] at q2; exact q2)⟩)⟩) dX4_giveTo_135
        · skip
          refine z_iload_n C 7 dX4_giveTo_109 rfl ?_
          refine z_iconst C dX4_giveTo_110 ?_
          refine z_iadd C dX4_giveTo_111 ?_
          refine z_goto C 116 dX4_giveTo_112 (by decide) ?_
          refine z_callV C hK hDD (c_X4_giveToMen_4 (zl x) (zG x) a c ((up (up u 44 (m) (((bn (X i) 8 : Nat) : Int))) 45 (m) (u 20 (i)))) (i + 1) (used + 1) E X ((fun j => if j = m then lvs (u 20) (u 3 8) X L T i m used else L j)) ((fun j => if j = m then u 20 i else T j)) (show (i + 1) = (u 17 8) - 4 by omega) (show 0 ≤ (i + 1) by omega) (show 0 ≤ (used + 1) ∧ (used + 1) ≤ 3 by omega) (hQ) (show 0 ≤ (u 41 8) ∧ (u 41 8) ≤ 4 by omega) (hX) (hE) (pl_hL hL (by first | exact Or.inl (by omega) | exact Or.inr ⟨by omega, by omega⟩) (by first | exact lvs_new (by omega) | exact lvs_old (by omega))) (pl_hT (by omega) hmi.1 hQ.2.2.2 hT (by first | exact Or.inl (by omega) | exact Or.inr ⟨by omega, by omega⟩))) gX4_giveTo_X4_giveToMen rfl zy_X4_giveToMen 41 (WB_41 a c ((up (up u 44 (m) (((bn (X i) 8 : Nat) : Int))) 45 (m) (u 20 (i))))) rfl ⟨by omega, by decide⟩ rfl (Nat.le_of_ble_eq_true rfl) (st := []) (stk2 := fun _ => []) rfl (fun _ => rfl) dX4_giveTo_116 (fun z8 u9 h10 => ?_)
          obtain ⟨b2, e1, hB⟩ := h10
          rw [e1]
          change Z x 0 0 (WB a c (up (up (up u 44 (m) (((bn (X i) 8 : Nat) : Int))) 45 (m) (u 20 (i))) 41 (8) (b2))) _ _ _
          refine z_aload_n C 4 dX4_giveTo_119 rfl ?_
          refine z_get C hK (v := .ref (a 44)) inX4_giveTo_X4 41 (WB_41 a c ((up (up (up u 44 (m) (((bn (X i) 8 : Nat) : Int))) 45 (m) (u 20 (i))) 41 (8) (b2)))) rfl 5 (by decide) (List.mem_of_getElem? (i := 1) rfl) rfl dX4_giveTo_120 ?_
          refine z_iload_n C 5 dX4_giveTo_123 rfl ?_
          refine z_iload C 2 dX4_giveTo_124 rfl ?_
          refine z_iast C hK (hDD _) 0 (g := (up (up (up u 44 (m) (((bn (X i) 8 : Nat) : Int))) 45 (m) (u 20 (i))) 41 (8) (b2)) 44) 44 (WB_44 a c ((up (up (up u 44 (m) (((bn (X i) 8 : Nat) : Int))) 45 (m) (u 20 (i))) 41 (8) (b2)))) rfl (by decide) (by omega) (WB_44_set a c ((up (up (up u 44 (m) (((bn (X i) 8 : Nat) : Int))) 45 (m) (u 20 (i))) 41 (8) (b2))) m (u 44 (m))) dX4_giveTo_126 ?_
          refine z_aload_n C 4 dX4_giveTo_127 rfl ?_
          refine z_get C hK (v := .ref (a 45)) inX4_giveTo_X4 41 (WB_41 a c ((up (up (up (up u 44 (m) (((bn (X i) 8 : Nat) : Int))) 45 (m) (u 20 (i))) 41 (8) (b2)) 44 (m) (u 44 (m))))) rfl 6 (by decide) (List.mem_of_getElem? (i := 2) rfl) rfl dX4_giveTo_128 ?_
          refine z_iload_n C 5 dX4_giveTo_131 rfl ?_
          refine z_iload C 1 dX4_giveTo_132 rfl ?_
          refine z_iast C hK (hDD _) 0 (g := (up (up (up (up u 44 (m) (((bn (X i) 8 : Nat) : Int))) 45 (m) (u 20 (i))) 41 (8) (b2)) 44 (m) (u 44 (m))) 45) 45 (WB_45 a c ((up (up (up (up u 44 (m) (((bn (X i) 8 : Nat) : Int))) 45 (m) (u 20 (i))) 41 (8) (b2)) 44 (m) (u 44 (m))))) rfl (by decide) (by omega) (WB_45_set a c ((up (up (up (up u 44 (m) (((bn (X i) 8 : Nat) : Int))) 45 (m) (u 20 (i))) 41 (8) (b2)) 44 (m) (u 44 (m)))) m (u 45 (m))) dX4_giveTo_134 ?_
          refine z_ws (ws' := (WB a c (up u 41 (8) (b2)))) (congrArg (WB a c) (pl_rest u m _ _ _)) ?_
          exact kret 0 (up u 41 8 b2) _ _ (⟨b2, rfl, Bst_congr hB (fun t => ⟨fun q => ⟨hz, by first | (rw [if_pos (by omega)]; exact q) | (rw [if_neg (by omega)]; exact q)⟩, fun q => by have q2 := q.2; first | (rw [if_pos (show m = used by omega)] at q2; exact q2) | (rw [if_neg (show ¬ m = used by omega)] at q2; exact q2)⟩)⟩) dX4_giveTo_135
      · have hz : ¬ nz (lvs (u 20) (u 3 8) X L T i m used) := by first | exact nz_no (lvs_new (by omega)) h3 | exact nz_no (lvs_old (by omega)) h3
        exact kret 0 u _ _ (⟨u 41 8, (up_self u 41 8).symm, Bst_none hb.1 (fun t h => absurd h.1 hz)⟩) dX4_giveTo_76
    · skip
      refine z_iload C 0 dX4_giveTo_41 rfl ?_
      refine z_iload C 2 dX4_giveTo_43 rfl ?_
      refine z_as (b := ((bn (L m) 8 : Nat) : Int)) (hL m (by omega) (by omega)) ?_
      refine z_aload_n C 4 dX4_giveTo_45 rfl ?_
      refine z_get C hK (v := .ref (a 3)) inX4_giveTo_X4 41 (WB_41 a c u) rfl 0 (by decide) (List.mem_of_getElem? (i := 4) rfl) rfl dX4_giveTo_46 ?_
      refine z_getN C hK (v := .int (zI (u 3 8))) inX4_giveTo_X8 3 (WB_3 a c u) rfl 8 (by decide) (List.mem_of_getElem? (i := 37) rfl) rfl dX4_giveTo_49 ?_
      refine z_aload_n C 4 dX4_giveTo_52 rfl ?_
      refine z_get C hK (v := .ref (a 17)) inX4_giveTo_X4 41 (WB_41 a c u) rfl 1 (by decide) (List.mem_of_getElem? (i := 5) rfl) rfl dX4_giveTo_53 ?_
      refine z_getN C hK (v := .ref (a 20)) inX4_giveTo_X2 17 (WB_17 a c u) rfl 2 (by decide) (List.mem_of_getElem? (i := 36) rfl) rfl dX4_giveTo_56 ?_
      refine z_iload_n C 6 dX4_giveTo_59 rfl ?_
      refine z_iald C hK 0 (g := (u 20)) (i := i) 20 (WB_20 a c u) rfl (by decide) (by omega) dX4_giveTo_60 ?_
      refine z_as (b := u 20 (i)) rfl ?_
      have hTm := hT m (by omega) (by omega)
      have hTi := hTm.2.2 i (Int.le_refl _) (by omega)
      have hsp := pl_pc (d := u 20 i - T m) hq2 (by omega)
      refine z_iload C 1 dX4_giveTo_61 rfl ?_
      refine z_as (b := T m) ((hT m (by omega) (by omega)).1) ?_
      refine z_isub C dX4_giveTo_63 ?_
      refine z_imul C dX4_giveTo_64 ?_
      refine z_callSN C hK hDD (c_X10_spread (zl x) (zG x) ((WB a c)) (WB_addr a c) u ((L m)) ((u 3 8) * ((u 20 (i)) - (T m))) (by omega)) ggX4_giveTo_X10_spread (List.mem_of_getElem? (i := 32) rfl) (List.mem_of_getElem? (i := 7) rfl) (List.mem_of_getElem? (i := 6) rfl) rfl zy_X10_spread ⟨by omega, by decide⟩ rfl (Nat.le_of_ble_eq_true rfl) (st := [.int (zI (((bn (X i) 8 : Nat) : Int)))]) (stk2 := fun z11 => [.int (zI z11), .int (zI (((bn (X i) 8 : Nat) : Int)))]) rfl (fun _ => rfl) dX4_giveTo_65 (fun z11 u12 h13 => ?_)
      rw [h13.1]; replace h13 := h13.2
      refine z_as (b := ((bn (sprd ((L m)) ((u 3 8) * ((u 20 (i)) - (T m)))) 8 : Nat) : Int)) h13 ?_
      refine z_iand C (((bn (fun q => X i q && sprd (L m) (u 3 8 * (u 20 i - T m)) q) 8 : Nat) : Int)) dX4_giveTo_68 (by rw [zI_and, bn_and]) ?_
      refine z_istore C [(7, .int (zI (((bn (fun q => X i q && sprd (L m) (u 3 8 * (u 20 i - T m)) q) 8 : Nat) : Int)))), (6, .int (zI (u 45 (m)))), (5, .int (zI (u 44 (m)))), (4, .int (zI 0)), (0, .ref (a 41)), (1, .int (zI m)), (2, .int (zI i)), (3, .int (zI used))] dX4_giveTo_69 (by decide) rfl ?_
      refine z_iload C 0 dX4_giveTo_71 rfl ?_
      refine z_if_ne C 77 dX4_giveTo_73 (by decide) (by have h1 := bn_8 (X i) (n := 8) (by omega); have h2 := bn_8 (fun q => X i q && sprd (L m) (u 3 8 * (u 20 i - T m)) q) (n := 8) (by omega); omega) (fun h14 => ?_) (fun h14 => ?_)
      · have hz : nz (lvs (u 20) (u 3 8) X L T i m used) := by first | exact nz_yes (lvs_new (by omega)) h14 | exact nz_yes (lvs_old (by omega)) h14
        refine z_aload_n C 4 dX4_giveTo_77 rfl ?_
        refine z_get C hK (v := .ref (a 44)) inX4_giveTo_X4 41 (WB_41 a c u) rfl 5 (by decide) (List.mem_of_getElem? (i := 1) rfl) rfl dX4_giveTo_78 ?_
        refine z_iload_n C 5 dX4_giveTo_81 rfl ?_
        refine z_iload C 0 dX4_giveTo_82 rfl ?_
        refine z_iast C hK (hDD _) 0 (g := u 44) 44 (WB_44 a c u) rfl (by decide) (by omega) (WB_44_set a c u m (((bn (fun q => X i q && sprd (L m) (u 3 8 * (u 20 i - T m)) q) 8 : Nat) : Int))) dX4_giveTo_84 ?_
        refine z_aload_n C 4 dX4_giveTo_85 rfl ?_
        refine z_get C hK (v := .ref (a 45)) inX4_giveTo_X4 41 (WB_41 a c ((up u 44 (m) (((bn (fun q => X i q && sprd (L m) (u 3 8 * (u 20 i - T m)) q) 8 : Nat) : Int))))) rfl 6 (by decide) (List.mem_of_getElem? (i := 2) rfl) rfl dX4_giveTo_86 ?_
        refine z_iload_n C 5 dX4_giveTo_89 rfl ?_
        refine z_aload_n C 4 dX4_giveTo_90 rfl ?_
        refine z_get C hK (v := .ref (a 17)) inX4_giveTo_X4 41 (WB_41 a c ((up u 44 (m) (((bn (fun q => X i q && sprd (L m) (u 3 8 * (u 20 i - T m)) q) 8 : Nat) : Int))))) rfl 1 (by decide) (List.mem_of_getElem? (i := 5) rfl) rfl dX4_giveTo_91 ?_
        refine z_getN C hK (v := .ref (a 20)) inX4_giveTo_X2 17 (WB_17 a c ((up u 44 (m) (((bn (fun q => X i q && sprd (L m) (u 3 8 * (u 20 i - T m)) q) 8 : Nat) : Int))))) rfl 2 (by decide) (List.mem_of_getElem? (i := 36) rfl) rfl dX4_giveTo_94 ?_
        refine z_iload_n C 6 dX4_giveTo_97 rfl ?_
        refine z_iald C hK 0 (g := (u 20)) (i := i) 20 (WB_20 a c ((up u 44 (m) (((bn (fun q => X i q && sprd (L m) (u 3 8 * (u 20 i - T m)) q) 8 : Nat) : Int))))) rfl (by decide) (by omega) dX4_giveTo_98 ?_
        refine z_as (b := u 20 (i)) rfl ?_
        refine z_iast C hK (hDD _) 0 (g := (up u 44 (m) (((bn (fun q => X i q && sprd (L m) (u 3 8 * (u 20 i - T m)) q) 8 : Nat) : Int))) 45) 45 (WB_45 a c ((up u 44 (m) (((bn (fun q => X i q && sprd (L m) (u 3 8 * (u 20 i - T m)) q) 8 : Nat) : Int))))) rfl (by decide) (by omega) (WB_45_set a c ((up u 44 (m) (((bn (fun q => X i q && sprd (L m) (u 3 8 * (u 20 i - T m)) q) 8 : Nat) : Int)))) m (u 20 (i))) dX4_giveTo_99 ?_
        refine z_aload_n C 4 dX4_giveTo_100 rfl ?_
        refine z_iload_n C 6 dX4_giveTo_101 rfl ?_
        refine z_iconst C dX4_giveTo_102 ?_
        refine z_iadd C dX4_giveTo_103 ?_
        refine z_iload C 3 dX4_giveTo_104 rfl ?_
        refine z_if_eq C 115 dX4_giveTo_106 (by decide) (by omega) (fun h15 => ?_) (fun h15 => ?_)
        · skip
          refine z_iload_n C 7 dX4_giveTo_115 rfl ?_
          refine z_callV C hK hDD (c_X4_giveToMen_4 (zl x) (zG x) a c ((up (up u 44 (m) (((bn (fun q => X i q && sprd (L m) (u 3 8 * (u 20 i - T m)) q) 8 : Nat) : Int))) 45 (m) (u 20 (i)))) (i + 1) used E X ((fun j => if j = m then lvs (u 20) (u 3 8) X L T i m used else L j)) ((fun j => if j = m then u 20 i else T j)) (show (i + 1) = (u 17 8) - 4 by omega) (show 0 ≤ (i + 1) by omega) (show 0 ≤ used ∧ used ≤ 3 by omega) (hQ) (show 0 ≤ (u 41 8) ∧ (u 41 8) ≤ 4 by omega) (hX) (hE) (pl_hL hL (by first | exact Or.inl (by omega) | exact Or.inr ⟨by omega, by omega⟩) (by first | exact lvs_new (by omega) | exact lvs_old (by omega))) (pl_hT (by omega) hmi.1 hQ.2.2.2 hT (by first | exact Or.inl (by omega) | exact Or.inr ⟨by omega, by omega⟩))) gX4_giveTo_X4_giveToMen rfl zy_X4_giveToMen 41 (WB_41 a c ((up (up u 44 (m) (((bn (fun q => X i q && sprd (L m) (u 3 8 * (u 20 i - T m)) q) 8 : Nat) : Int))) 45 (m) (u 20 (i))))) rfl ⟨by omega, by decide⟩ rfl (Nat.le_of_ble_eq_true rfl) (st := []) (stk2 := fun _ => []) rfl (fun _ => rfl) dX4_giveTo_116 (fun z16 u17 h18 => ?_)
          obtain ⟨b2, e1, hB⟩ := h18
          rw [e1]
          change Z x 0 0 (WB a c (up (up (up u 44 (m) (((bn (fun q => X i q && sprd (L m) (u 3 8 * (u 20 i - T m)) q) 8 : Nat) : Int))) 45 (m) (u 20 (i))) 41 (8) (b2))) _ _ _
          refine z_aload_n C 4 dX4_giveTo_119 rfl ?_
          refine z_get C hK (v := .ref (a 44)) inX4_giveTo_X4 41 (WB_41 a c ((up (up (up u 44 (m) (((bn (fun q => X i q && sprd (L m) (u 3 8 * (u 20 i - T m)) q) 8 : Nat) : Int))) 45 (m) (u 20 (i))) 41 (8) (b2)))) rfl 5 (by decide) (List.mem_of_getElem? (i := 1) rfl) rfl dX4_giveTo_120 ?_
          refine z_iload_n C 5 dX4_giveTo_123 rfl ?_
          refine z_iload C 2 dX4_giveTo_124 rfl ?_
          refine z_iast C hK (hDD _) 0 (g := (up (up (up u 44 (m) (((bn (fun q => X i q && sprd (L m) (u 3 8 * (u 20 i - T m)) q) 8 : Nat) : Int))) 45 (m) (u 20 (i))) 41 (8) (b2)) 44) 44 (WB_44 a c ((up (up (up u 44 (m) (((bn (fun q => X i q && sprd (L m) (u 3 8 * (u 20 i - T m)) q) 8 : Nat) : Int))) 45 (m) (u 20 (i))) 41 (8) (b2)))) rfl (by decide) (by omega) (WB_44_set a c ((up (up (up u 44 (m) (((bn (fun q => X i q && sprd (L m) (u 3 8 * (u 20 i - T m)) q) 8 : Nat) : Int))) 45 (m) (u 20 (i))) 41 (8) (b2))) m (u 44 (m))) dX4_giveTo_126 ?_
          refine z_aload_n C 4 dX4_giveTo_127 rfl ?_
          refine z_get C hK (v := .ref (a 45)) inX4_giveTo_X4 41 (WB_41 a c ((up (up (up (up u 44 (m) (((bn (fun q => X i q && sprd (L m) (u 3 8 * (u 20 i - T m)) q) 8 : Nat) : Int))) 45 (m) (u 20 (i))) 41 (8) (b2)) 44 (m) (u 44 (m))))) rfl 6 (by decide) (List.mem_of_getElem? (i := 2) rfl) rfl dX4_giveTo_128 ?_
          refine z_iload_n C 5 dX4_giveTo_131 rfl ?_
          refine z_iload C 1 dX4_giveTo_132 rfl ?_
          refine z_iast C hK (hDD _) 0 (g := (up (up (up (up u 44 (m) (((bn (fun q => X i q && sprd (L m) (u 3 8 * (u 20 i - T m)) q) 8 : Nat) : Int))) 45 (m) (u 20 (i))) 41 (8) (b2)) 44 (m) (u 44 (m))) 45) 45 (WB_45 a c ((up (up (up (up u 44 (m) (((bn (fun q => X i q && sprd (L m) (u 3 8 * (u 20 i - T m)) q) 8 : Nat) : Int))) 45 (m) (u 20 (i))) 41 (8) (b2)) 44 (m) (u 44 (m))))) rfl (by decide) (by omega) (WB_45_set a c ((up (up (up (up u 44 (m) (((bn (fun q => X i q && sprd (L m) (u 3 8 * (u 20 i - T m)) q) 8 : Nat) : Int))) 45 (m) (u 20 (i))) 41 (8) (b2)) 44 (m) (u 44 (m)))) m (u 45 (m))) dX4_giveTo_134 ?_
          refine z_ws (ws' := (WB a c (up u 41 (8) (b2)))) (congrArg (WB a c) (pl_rest u m _ _ _)) ?_
          exact kret 0 (up u 41 8 b2) _ _ (⟨b2, rfl, Bst_congr hB (fun t => ⟨fun q => ⟨hz, by first | (rw [if_pos (by omega)]; exact q) | (rw [if_neg (by omega)]; exact q)⟩, fun q => by have q2 := q.2; first | (rw [if_pos (show m = used by omega)] at q2; exact q2) | (rw [if_neg (show ¬ m = used by omega)] at q2; exact q2)⟩)⟩) dX4_giveTo_135
        · skip
          refine z_iload_n C 7 dX4_giveTo_109 rfl ?_
          refine z_iconst C dX4_giveTo_110 ?_
          refine z_iadd C dX4_giveTo_111 ?_
          refine z_goto C 116 dX4_giveTo_112 (by decide) ?_
          refine z_callV C hK hDD (c_X4_giveToMen_4 (zl x) (zG x) a c ((up (up u 44 (m) (((bn (fun q => X i q && sprd (L m) (u 3 8 * (u 20 i - T m)) q) 8 : Nat) : Int))) 45 (m) (u 20 (i)))) (i + 1) (used + 1) E X ((fun j => if j = m then lvs (u 20) (u 3 8) X L T i m used else L j)) ((fun j => if j = m then u 20 i else T j)) (show (i + 1) = (u 17 8) - 4 by omega) (show 0 ≤ (i + 1) by omega) (show 0 ≤ (used + 1) ∧ (used + 1) ≤ 3 by omega) (hQ) (show 0 ≤ (u 41 8) ∧ (u 41 8) ≤ 4 by omega) (hX) (hE) (pl_hL hL (by first | exact Or.inl (by omega) | exact Or.inr ⟨by omega, by omega⟩) (by first | exact lvs_new (by omega) | exact lvs_old (by omega))) (pl_hT (by omega) hmi.1 hQ.2.2.2 hT (by first | exact Or.inl (by omega) | exact Or.inr ⟨by omega, by omega⟩))) gX4_giveTo_X4_giveToMen rfl zy_X4_giveToMen 41 (WB_41 a c ((up (up u 44 (m) (((bn (fun q => X i q && sprd (L m) (u 3 8 * (u 20 i - T m)) q) 8 : Nat) : Int))) 45 (m) (u 20 (i))))) rfl ⟨by omega, by decide⟩ rfl (Nat.le_of_ble_eq_true rfl) (st := []) (stk2 := fun _ => []) rfl (fun _ => rfl) dX4_giveTo_116 (fun z19 u20 h21 => ?_)
          obtain ⟨b2, e1, hB⟩ := h21
          rw [e1]
          change Z x 0 0 (WB a c (up (up (up u 44 (m) (((bn (fun q => X i q && sprd (L m) (u 3 8 * (u 20 i - T m)) q) 8 : Nat) : Int))) 45 (m) (u 20 (i))) 41 (8) (b2))) _ _ _
          refine z_aload_n C 4 dX4_giveTo_119 rfl ?_
          refine z_get C hK (v := .ref (a 44)) inX4_giveTo_X4 41 (WB_41 a c ((up (up (up u 44 (m) (((bn (fun q => X i q && sprd (L m) (u 3 8 * (u 20 i - T m)) q) 8 : Nat) : Int))) 45 (m) (u 20 (i))) 41 (8) (b2)))) rfl 5 (by decide) (List.mem_of_getElem? (i := 1) rfl) rfl dX4_giveTo_120 ?_
          refine z_iload_n C 5 dX4_giveTo_123 rfl ?_
          refine z_iload C 2 dX4_giveTo_124 rfl ?_
          refine z_iast C hK (hDD _) 0 (g := (up (up (up u 44 (m) (((bn (fun q => X i q && sprd (L m) (u 3 8 * (u 20 i - T m)) q) 8 : Nat) : Int))) 45 (m) (u 20 (i))) 41 (8) (b2)) 44) 44 (WB_44 a c ((up (up (up u 44 (m) (((bn (fun q => X i q && sprd (L m) (u 3 8 * (u 20 i - T m)) q) 8 : Nat) : Int))) 45 (m) (u 20 (i))) 41 (8) (b2)))) rfl (by decide) (by omega) (WB_44_set a c ((up (up (up u 44 (m) (((bn (fun q => X i q && sprd (L m) (u 3 8 * (u 20 i - T m)) q) 8 : Nat) : Int))) 45 (m) (u 20 (i))) 41 (8) (b2))) m (u 44 (m))) dX4_giveTo_126 ?_
          refine z_aload_n C 4 dX4_giveTo_127 rfl ?_
          refine z_get C hK (v := .ref (a 45)) inX4_giveTo_X4 41 (WB_41 a c ((up (up (up (up u 44 (m) (((bn (fun q => X i q && sprd (L m) (u 3 8 * (u 20 i - T m)) q) 8 : Nat) : Int))) 45 (m) (u 20 (i))) 41 (8) (b2)) 44 (m) (u 44 (m))))) rfl 6 (by decide) (List.mem_of_getElem? (i := 2) rfl) rfl dX4_giveTo_128 ?_
          refine z_iload_n C 5 dX4_giveTo_131 rfl ?_
          refine z_iload C 1 dX4_giveTo_132 rfl ?_
          refine z_iast C hK (hDD _) 0 (g := (up (up (up (up u 44 (m) (((bn (fun q => X i q && sprd (L m) (u 3 8 * (u 20 i - T m)) q) 8 : Nat) : Int))) 45 (m) (u 20 (i))) 41 (8) (b2)) 44 (m) (u 44 (m))) 45) 45 (WB_45 a c ((up (up (up (up u 44 (m) (((bn (fun q => X i q && sprd (L m) (u 3 8 * (u 20 i - T m)) q) 8 : Nat) : Int))) 45 (m) (u 20 (i))) 41 (8) (b2)) 44 (m) (u 44 (m))))) rfl (by decide) (by omega) (WB_45_set a c ((up (up (up (up u 44 (m) (((bn (fun q => X i q && sprd (L m) (u 3 8 * (u 20 i - T m)) q) 8 : Nat) : Int))) 45 (m) (u 20 (i))) 41 (8) (b2)) 44 (m) (u 44 (m)))) m (u 45 (m))) dX4_giveTo_134 ?_
          refine z_ws (ws' := (WB a c (up u 41 (8) (b2)))) (congrArg (WB a c) (pl_rest u m _ _ _)) ?_
          exact kret 0 (up u 41 8 b2) _ _ (⟨b2, rfl, Bst_congr hB (fun t => ⟨fun q => ⟨hz, by first | (rw [if_pos (by omega)]; exact q) | (rw [if_neg (by omega)]; exact q)⟩, fun q => by have q2 := q.2; first | (rw [if_pos (show m = used by omega)] at q2; exact q2) | (rw [if_neg (show ¬ m = used by omega)] at q2; exact q2)⟩)⟩) dX4_giveTo_135
      · have hz : ¬ nz (lvs (u 20) (u 3 8) X L T i m used) := by first | exact nz_no (lvs_new (by omega)) h14 | exact nz_no (lvs_old (by omega)) h14
        exact kret 0 u _ _ (⟨u 41 8, (up_self u 41 8).symm, Bst_none hb.1 (fun t h => absurd h.1 hz)⟩) dX4_giveTo_76
  · skip
    refine z_iconst C dX4_giveTo_5 ?_
    refine z_goto C 10 dX4_giveTo_6 (by decide) ?_
    refine z_istore C [(4, .int (zI 1)), (0, .ref (a 41)), (1, .int (zI m)), (2, .int (zI i)), (3, .int (zI used))] dX4_giveTo_10 (by decide) rfl ?_
    refine z_aload_n C 1 dX4_giveTo_12 rfl ?_
    refine z_get C hK (v := .ref (a 44)) inX4_giveTo_X4 41 (WB_41 a c u) rfl 5 (by decide) (List.mem_of_getElem? (i := 1) rfl) rfl dX4_giveTo_13 ?_
    refine z_iload_n C 2 dX4_giveTo_16 rfl ?_
    refine z_iald C hK 0 (g := (u 44)) (i := m) 44 (WB_44 a c u) rfl (by decide) (by omega) dX4_giveTo_17 ?_
    refine z_as (b := u 44 (m)) rfl ?_
    refine z_istore C [(5, .int (zI (u 44 (m)))), (4, .int (zI 1)), (0, .ref (a 41)), (1, .int (zI m)), (2, .int (zI i)), (3, .int (zI used))] dX4_giveTo_18 (by decide) rfl ?_
    refine z_aload_n C 2 dX4_giveTo_20 rfl ?_
    refine z_get C hK (v := .ref (a 45)) inX4_giveTo_X4 41 (WB_41 a c u) rfl 6 (by decide) (List.mem_of_getElem? (i := 2) rfl) rfl dX4_giveTo_21 ?_
    refine z_iload_n C 3 dX4_giveTo_24 rfl ?_
    refine z_iald C hK 0 (g := (u 45)) (i := m) 45 (WB_45 a c u) rfl (by decide) (by omega) dX4_giveTo_25 ?_
    refine z_as (b := u 45 (m)) rfl ?_
    refine z_istore C [(6, .int (zI (u 45 (m)))), (5, .int (zI (u 44 (m)))), (4, .int (zI 1)), (0, .ref (a 41)), (1, .int (zI m)), (2, .int (zI i)), (3, .int (zI used))] dX4_giveTo_26 (by decide) rfl ?_
    refine z_aload_n C 3 dX4_giveTo_28 rfl ?_
    refine z_get C hK (v := .ref (a 42)) inX4_giveTo_X4 41 (WB_41 a c u) rfl 3 (by decide) (List.mem_of_getElem? (i := 3) rfl) rfl dX4_giveTo_29 ?_
    refine z_iload_n C 5 dX4_giveTo_32 rfl ?_
    refine z_iald C hK 0 (g := (u 42)) (i := i) 42 (WB_42 a c u) rfl (by decide) (by omega) dX4_giveTo_33 ?_
    refine z_as (b := u 42 (i)) rfl ?_
    refine z_as (b := ((bn (X i) 8 : Nat) : Int)) (hX i (by omega) (by omega)) ?_
    refine z_istore C [(7, .int (zI (((bn (X i) 8 : Nat) : Int)))), (6, .int (zI (u 45 (m)))), (5, .int (zI (u 44 (m)))), (4, .int (zI 1)), (0, .ref (a 41)), (1, .int (zI m)), (2, .int (zI i)), (3, .int (zI used))] dX4_giveTo_34 (by decide) rfl ?_
    refine z_iload C 3 dX4_giveTo_36 rfl ?_
    refine z_if_ne C 71 dX4_giveTo_38 (by decide) (by omega) (fun h22 => ?_) (fun h22 => ?_)
    · skip
      refine z_iload C 0 dX4_giveTo_71 rfl ?_
      refine z_if_ne C 77 dX4_giveTo_73 (by decide) (by have h1 := bn_8 (X i) (n := 8) (by omega); have h2 := bn_8 (fun q => X i q && sprd (L m) (u 3 8 * (u 20 i - T m)) q) (n := 8) (by omega); omega) (fun h23 => ?_) (fun h23 => ?_)
      · have hz : nz (lvs (u 20) (u 3 8) X L T i m used) := by first | exact nz_yes (lvs_new (by omega)) h23 | exact nz_yes (lvs_old (by omega)) h23
        refine z_aload_n C 4 dX4_giveTo_77 rfl ?_
        refine z_get C hK (v := .ref (a 44)) inX4_giveTo_X4 41 (WB_41 a c u) rfl 5 (by decide) (List.mem_of_getElem? (i := 1) rfl) rfl dX4_giveTo_78 ?_
        refine z_iload_n C 5 dX4_giveTo_81 rfl ?_
        refine z_iload C 0 dX4_giveTo_82 rfl ?_
        refine z_iast C hK (hDD _) 0 (g := u 44) 44 (WB_44 a c u) rfl (by decide) (by omega) (WB_44_set a c u m (((bn (X i) 8 : Nat) : Int))) dX4_giveTo_84 ?_
        refine z_aload_n C 4 dX4_giveTo_85 rfl ?_
        refine z_get C hK (v := .ref (a 45)) inX4_giveTo_X4 41 (WB_41 a c ((up u 44 (m) (((bn (X i) 8 : Nat) : Int))))) rfl 6 (by decide) (List.mem_of_getElem? (i := 2) rfl) rfl dX4_giveTo_86 ?_
        refine z_iload_n C 5 dX4_giveTo_89 rfl ?_
        refine z_aload_n C 4 dX4_giveTo_90 rfl ?_
        refine z_get C hK (v := .ref (a 17)) inX4_giveTo_X4 41 (WB_41 a c ((up u 44 (m) (((bn (X i) 8 : Nat) : Int))))) rfl 1 (by decide) (List.mem_of_getElem? (i := 5) rfl) rfl dX4_giveTo_91 ?_
        refine z_getN C hK (v := .ref (a 20)) inX4_giveTo_X2 17 (WB_17 a c ((up u 44 (m) (((bn (X i) 8 : Nat) : Int))))) rfl 2 (by decide) (List.mem_of_getElem? (i := 36) rfl) rfl dX4_giveTo_94 ?_
        refine z_iload_n C 6 dX4_giveTo_97 rfl ?_
        refine z_iald C hK 0 (g := (u 20)) (i := i) 20 (WB_20 a c ((up u 44 (m) (((bn (X i) 8 : Nat) : Int))))) rfl (by decide) (by omega) dX4_giveTo_98 ?_
        refine z_as (b := u 20 (i)) rfl ?_
        refine z_iast C hK (hDD _) 0 (g := (up u 44 (m) (((bn (X i) 8 : Nat) : Int))) 45) 45 (WB_45 a c ((up u 44 (m) (((bn (X i) 8 : Nat) : Int))))) rfl (by decide) (by omega) (WB_45_set a c ((up u 44 (m) (((bn (X i) 8 : Nat) : Int)))) m (u 20 (i))) dX4_giveTo_99 ?_
        refine z_aload_n C 4 dX4_giveTo_100 rfl ?_
        refine z_iload_n C 6 dX4_giveTo_101 rfl ?_
        refine z_iconst C dX4_giveTo_102 ?_
        refine z_iadd C dX4_giveTo_103 ?_
        refine z_iload C 3 dX4_giveTo_104 rfl ?_
        refine z_if_eq C 115 dX4_giveTo_106 (by decide) (by omega) (fun h24 => ?_) (fun h24 => ?_)
        · skip
          refine z_iload_n C 7 dX4_giveTo_115 rfl ?_
          refine z_callV C hK hDD (c_X4_giveToMen_4 (zl x) (zG x) a c ((up (up u 44 (m) (((bn (X i) 8 : Nat) : Int))) 45 (m) (u 20 (i)))) (i + 1) used E X ((fun j => if j = m then lvs (u 20) (u 3 8) X L T i m used else L j)) ((fun j => if j = m then u 20 i else T j)) (show (i + 1) = (u 17 8) - 4 by omega) (show 0 ≤ (i + 1) by omega) (show 0 ≤ used ∧ used ≤ 3 by omega) (hQ) (show 0 ≤ (u 41 8) ∧ (u 41 8) ≤ 4 by omega) (hX) (hE) (pl_hL hL (by first | exact Or.inl (by omega) | exact Or.inr ⟨by omega, by omega⟩) (by first | exact lvs_new (by omega) | exact lvs_old (by omega))) (pl_hT (by omega) hmi.1 hQ.2.2.2 hT (by first | exact Or.inl (by omega) | exact Or.inr ⟨by omega, by omega⟩))) gX4_giveTo_X4_giveToMen rfl zy_X4_giveToMen 41 (WB_41 a c ((up (up u 44 (m) (((bn (X i) 8 : Nat) : Int))) 45 (m) (u 20 (i))))) rfl ⟨by omega, by decide⟩ rfl (Nat.le_of_ble_eq_true rfl) (st := []) (stk2 := fun _ => []) rfl (fun _ => rfl) dX4_giveTo_116 (fun z25 u26 h27 => ?_)
          obtain ⟨b2, e1, hB⟩ := h27
          rw [e1]
          change Z x 0 0 (WB a c (up (up (up u 44 (m) (((bn (X i) 8 : Nat) : Int))) 45 (m) (u 20 (i))) 41 (8) (b2))) _ _ _
          refine z_aload_n C 4 dX4_giveTo_119 rfl ?_
          refine z_get C hK (v := .ref (a 44)) inX4_giveTo_X4 41 (WB_41 a c ((up (up (up u 44 (m) (((bn (X i) 8 : Nat) : Int))) 45 (m) (u 20 (i))) 41 (8) (b2)))) rfl 5 (by decide) (List.mem_of_getElem? (i := 1) rfl) rfl dX4_giveTo_120 ?_
          refine z_iload_n C 5 dX4_giveTo_123 rfl ?_
          refine z_iload C 2 dX4_giveTo_124 rfl ?_
          refine z_iast C hK (hDD _) 0 (g := (up (up (up u 44 (m) (((bn (X i) 8 : Nat) : Int))) 45 (m) (u 20 (i))) 41 (8) (b2)) 44) 44 (WB_44 a c ((up (up (up u 44 (m) (((bn (X i) 8 : Nat) : Int))) 45 (m) (u 20 (i))) 41 (8) (b2)))) rfl (by decide) (by omega) (WB_44_set a c ((up (up (up u 44 (m) (((bn (X i) 8 : Nat) : Int))) 45 (m) (u 20 (i))) 41 (8) (b2))) m (u 44 (m))) dX4_giveTo_126 ?_
          refine z_aload_n C 4 dX4_giveTo_127 rfl ?_
          refine z_get C hK (v := .ref (a 45)) inX4_giveTo_X4 41 (WB_41 a c ((up (up (up (up u 44 (m) (((bn (X i) 8 : Nat) : Int))) 45 (m) (u 20 (i))) 41 (8) (b2)) 44 (m) (u 44 (m))))) rfl 6 (by decide) (List.mem_of_getElem? (i := 2) rfl) rfl dX4_giveTo_128 ?_
          refine z_iload_n C 5 dX4_giveTo_131 rfl ?_
          refine z_iload C 1 dX4_giveTo_132 rfl ?_
          refine z_iast C hK (hDD _) 0 (g := (up (up (up (up u 44 (m) (((bn (X i) 8 : Nat) : Int))) 45 (m) (u 20 (i))) 41 (8) (b2)) 44 (m) (u 44 (m))) 45) 45 (WB_45 a c ((up (up (up (up u 44 (m) (((bn (X i) 8 : Nat) : Int))) 45 (m) (u 20 (i))) 41 (8) (b2)) 44 (m) (u 44 (m))))) rfl (by decide) (by omega) (WB_45_set a c ((up (up (up (up u 44 (m) (((bn (X i) 8 : Nat) : Int))) 45 (m) (u 20 (i))) 41 (8) (b2)) 44 (m) (u 44 (m)))) m (u 45 (m))) dX4_giveTo_134 ?_
          refine z_ws (ws' := (WB a c (up u 41 (8) (b2)))) (congrArg (WB a c) (pl_rest u m _ _ _)) ?_
          exact kret 0 (up u 41 8 b2) _ _ (⟨b2, rfl, Bst_congr hB (fun t => ⟨fun q => ⟨hz, by first | (rw [if_pos (by omega)]; exact q) | (rw [if_neg (by omega)]; exact q)⟩, fun q => by have q2 := q.2; first | (rw [if_pos (show m = used by omega)] at q2; exact q2) | (rw [if_neg (show ¬ m = used by omega)] at q2; exact q2)⟩)⟩) dX4_giveTo_135
        · skip
          refine z_iload_n C 7 dX4_giveTo_109 rfl ?_
          refine z_iconst C dX4_giveTo_110 ?_
          refine z_iadd C dX4_giveTo_111 ?_
          refine z_goto C 116 dX4_giveTo_112 (by decide) ?_
          refine z_callV C hK hDD (c_X4_giveToMen_4 (zl x) (zG x) a c ((up (up u 44 (m) (((bn (X i) 8 : Nat) : Int))) 45 (m) (u 20 (i)))) (i + 1) (used + 1) E X ((fun j => if j = m then lvs (u 20) (u 3 8) X L T i m used else L j)) ((fun j => if j = m then u 20 i else T j)) (show (i + 1) = (u 17 8) - 4 by omega) (show 0 ≤ (i + 1) by omega) (show 0 ≤ (used + 1) ∧ (used + 1) ≤ 3 by omega) (hQ) (show 0 ≤ (u 41 8) ∧ (u 41 8) ≤ 4 by omega) (hX) (hE) (pl_hL hL (by first | exact Or.inl (by omega) | exact Or.inr ⟨by omega, by omega⟩) (by first | exact lvs_new (by omega) | exact lvs_old (by omega))) (pl_hT (by omega) hmi.1 hQ.2.2.2 hT (by first | exact Or.inl (by omega) | exact Or.inr ⟨by omega, by omega⟩))) gX4_giveTo_X4_giveToMen rfl zy_X4_giveToMen 41 (WB_41 a c ((up (up u 44 (m) (((bn (X i) 8 : Nat) : Int))) 45 (m) (u 20 (i))))) rfl ⟨by omega, by decide⟩ rfl (Nat.le_of_ble_eq_true rfl) (st := []) (stk2 := fun _ => []) rfl (fun _ => rfl) dX4_giveTo_116 (fun z28 u29 h30 => ?_)
          obtain ⟨b2, e1, hB⟩ := h30
          rw [e1]
          change Z x 0 0 (WB a c (up (up (up u 44 (m) (((bn (X i) 8 : Nat) : Int))) 45 (m) (u 20 (i))) 41 (8) (b2))) _ _ _
          refine z_aload_n C 4 dX4_giveTo_119 rfl ?_
          refine z_get C hK (v := .ref (a 44)) inX4_giveTo_X4 41 (WB_41 a c ((up (up (up u 44 (m) (((bn (X i) 8 : Nat) : Int))) 45 (m) (u 20 (i))) 41 (8) (b2)))) rfl 5 (by decide) (List.mem_of_getElem? (i := 1) rfl) rfl dX4_giveTo_120 ?_
          refine z_iload_n C 5 dX4_giveTo_123 rfl ?_
          refine z_iload C 2 dX4_giveTo_124 rfl ?_
          refine z_iast C hK (hDD _) 0 (g := (up (up (up u 44 (m) (((bn (X i) 8 : Nat) : Int))) 45 (m) (u 20 (i))) 41 (8) (b2)) 44) 44 (WB_44 a c ((up (up (up u 44 (m) (((bn (X i) 8 : Nat) : Int))) 45 (m) (u 20 (i))) 41 (8) (b2)))) rfl (by decide) (by omega) (WB_44_set a c ((up (up (up u 44 (m) (((bn (X i) 8 : Nat) : Int))) 45 (m) (u 20 (i))) 41 (8) (b2))) m (u 44 (m))) dX4_giveTo_126 ?_
          refine z_aload_n C 4 dX4_giveTo_127 rfl ?_
          refine z_get C hK (v := .ref (a 45)) inX4_giveTo_X4 41 (WB_41 a c ((up (up (up (up u 44 (m) (((bn (X i) 8 : Nat) : Int))) 45 (m) (u 20 (i))) 41 (8) (b2)) 44 (m) (u 44 (m))))) rfl 6 (by decide) (List.mem_of_getElem? (i := 2) rfl) rfl dX4_giveTo_128 ?_
          refine z_iload_n C 5 dX4_giveTo_131 rfl ?_
          refine z_iload C 1 dX4_giveTo_132 rfl ?_
          refine z_iast C hK (hDD _) 0 (g := (up (up (up (up u 44 (m) (((bn (X i) 8 : Nat) : Int))) 45 (m) (u 20 (i))) 41 (8) (b2)) 44 (m) (u 44 (m))) 45) 45 (WB_45 a c ((up (up (up (up u 44 (m) (((bn (X i) 8 : Nat) : Int))) 45 (m) (u 20 (i))) 41 (8) (b2)) 44 (m) (u 44 (m))))) rfl (by decide) (by omega) (WB_45_set a c ((up (up (up (up u 44 (m) (((bn (X i) 8 : Nat) : Int))) 45 (m) (u 20 (i))) 41 (8) (b2)) 44 (m) (u 44 (m)))) m (u 45 (m))) dX4_giveTo_134 ?_
          refine z_ws (ws' := (WB a c (up u 41 (8) (b2)))) (congrArg (WB a c) (pl_rest u m _ _ _)) ?_
          exact kret 0 (up u 41 8 b2) _ _ (⟨b2, rfl, Bst_congr hB (fun t => ⟨fun q => ⟨hz, by first | (rw [if_pos (by omega)]; exact q) | (rw [if_neg (by omega)]; exact q)⟩, fun q => by have q2 := q.2; first | (rw [if_pos (show m = used by omega)] at q2; exact q2) | (rw [if_neg (show ¬ m = used by omega)] at q2; exact q2)⟩)⟩) dX4_giveTo_135
      · have hz : ¬ nz (lvs (u 20) (u 3 8) X L T i m used) := by first | exact nz_no (lvs_new (by omega)) h23 | exact nz_no (lvs_old (by omega)) h23
        exact kret 0 u _ _ (⟨u 41 8, (up_self u 41 8).symm, Bst_none hb.1 (fun t h => absurd h.1 hz)⟩) dX4_giveTo_76
    · skip
      refine z_iload C 0 dX4_giveTo_41 rfl ?_
      refine z_iload C 2 dX4_giveTo_43 rfl ?_
      refine z_as (b := ((bn (L m) 8 : Nat) : Int)) (hL m (by omega) (by omega)) ?_
      refine z_aload_n C 4 dX4_giveTo_45 rfl ?_
      refine z_get C hK (v := .ref (a 3)) inX4_giveTo_X4 41 (WB_41 a c u) rfl 0 (by decide) (List.mem_of_getElem? (i := 4) rfl) rfl dX4_giveTo_46 ?_
      refine z_getN C hK (v := .int (zI (u 3 8))) inX4_giveTo_X8 3 (WB_3 a c u) rfl 8 (by decide) (List.mem_of_getElem? (i := 37) rfl) rfl dX4_giveTo_49 ?_
      refine z_aload_n C 4 dX4_giveTo_52 rfl ?_
      refine z_get C hK (v := .ref (a 17)) inX4_giveTo_X4 41 (WB_41 a c u) rfl 1 (by decide) (List.mem_of_getElem? (i := 5) rfl) rfl dX4_giveTo_53 ?_
      refine z_getN C hK (v := .ref (a 20)) inX4_giveTo_X2 17 (WB_17 a c u) rfl 2 (by decide) (List.mem_of_getElem? (i := 36) rfl) rfl dX4_giveTo_56 ?_
      refine z_iload_n C 6 dX4_giveTo_59 rfl ?_
      refine z_iald C hK 0 (g := (u 20)) (i := i) 20 (WB_20 a c u) rfl (by decide) (by omega) dX4_giveTo_60 ?_
      refine z_as (b := u 20 (i)) rfl ?_
      have hTm := hT m (by omega) (by omega)
      have hTi := hTm.2.2 i (Int.le_refl _) (by omega)
      have hsp := pl_pc (d := u 20 i - T m) hq2 (by omega)
      refine z_iload C 1 dX4_giveTo_61 rfl ?_
      refine z_as (b := T m) ((hT m (by omega) (by omega)).1) ?_
      refine z_isub C dX4_giveTo_63 ?_
      refine z_imul C dX4_giveTo_64 ?_
      refine z_callSN C hK hDD (c_X10_spread (zl x) (zG x) ((WB a c)) (WB_addr a c) u ((L m)) ((u 3 8) * ((u 20 (i)) - (T m))) (by omega)) ggX4_giveTo_X10_spread (List.mem_of_getElem? (i := 32) rfl) (List.mem_of_getElem? (i := 7) rfl) (List.mem_of_getElem? (i := 6) rfl) rfl zy_X10_spread ⟨by omega, by decide⟩ rfl (Nat.le_of_ble_eq_true rfl) (st := [.int (zI (((bn (X i) 8 : Nat) : Int)))]) (stk2 := fun z31 => [.int (zI z31), .int (zI (((bn (X i) 8 : Nat) : Int)))]) rfl (fun _ => rfl) dX4_giveTo_65 (fun z31 u32 h33 => ?_)
      rw [h33.1]; replace h33 := h33.2
      refine z_as (b := ((bn (sprd ((L m)) ((u 3 8) * ((u 20 (i)) - (T m)))) 8 : Nat) : Int)) h33 ?_
      refine z_iand C (((bn (fun q => X i q && sprd (L m) (u 3 8 * (u 20 i - T m)) q) 8 : Nat) : Int)) dX4_giveTo_68 (by rw [zI_and, bn_and]) ?_
      refine z_istore C [(7, .int (zI (((bn (fun q => X i q && sprd (L m) (u 3 8 * (u 20 i - T m)) q) 8 : Nat) : Int)))), (6, .int (zI (u 45 (m)))), (5, .int (zI (u 44 (m)))), (4, .int (zI 1)), (0, .ref (a 41)), (1, .int (zI m)), (2, .int (zI i)), (3, .int (zI used))] dX4_giveTo_69 (by decide) rfl ?_
      refine z_iload C 0 dX4_giveTo_71 rfl ?_
      refine z_if_ne C 77 dX4_giveTo_73 (by decide) (by have h1 := bn_8 (X i) (n := 8) (by omega); have h2 := bn_8 (fun q => X i q && sprd (L m) (u 3 8 * (u 20 i - T m)) q) (n := 8) (by omega); omega) (fun h34 => ?_) (fun h34 => ?_)
      · have hz : nz (lvs (u 20) (u 3 8) X L T i m used) := by first | exact nz_yes (lvs_new (by omega)) h34 | exact nz_yes (lvs_old (by omega)) h34
        refine z_aload_n C 4 dX4_giveTo_77 rfl ?_
        refine z_get C hK (v := .ref (a 44)) inX4_giveTo_X4 41 (WB_41 a c u) rfl 5 (by decide) (List.mem_of_getElem? (i := 1) rfl) rfl dX4_giveTo_78 ?_
        refine z_iload_n C 5 dX4_giveTo_81 rfl ?_
        refine z_iload C 0 dX4_giveTo_82 rfl ?_
        refine z_iast C hK (hDD _) 0 (g := u 44) 44 (WB_44 a c u) rfl (by decide) (by omega) (WB_44_set a c u m (((bn (fun q => X i q && sprd (L m) (u 3 8 * (u 20 i - T m)) q) 8 : Nat) : Int))) dX4_giveTo_84 ?_
        refine z_aload_n C 4 dX4_giveTo_85 rfl ?_
        refine z_get C hK (v := .ref (a 45)) inX4_giveTo_X4 41 (WB_41 a c ((up u 44 (m) (((bn (fun q => X i q && sprd (L m) (u 3 8 * (u 20 i - T m)) q) 8 : Nat) : Int))))) rfl 6 (by decide) (List.mem_of_getElem? (i := 2) rfl) rfl dX4_giveTo_86 ?_
        refine z_iload_n C 5 dX4_giveTo_89 rfl ?_
        refine z_aload_n C 4 dX4_giveTo_90 rfl ?_
        refine z_get C hK (v := .ref (a 17)) inX4_giveTo_X4 41 (WB_41 a c ((up u 44 (m) (((bn (fun q => X i q && sprd (L m) (u 3 8 * (u 20 i - T m)) q) 8 : Nat) : Int))))) rfl 1 (by decide) (List.mem_of_getElem? (i := 5) rfl) rfl dX4_giveTo_91 ?_
        refine z_getN C hK (v := .ref (a 20)) inX4_giveTo_X2 17 (WB_17 a c ((up u 44 (m) (((bn (fun q => X i q && sprd (L m) (u 3 8 * (u 20 i - T m)) q) 8 : Nat) : Int))))) rfl 2 (by decide) (List.mem_of_getElem? (i := 36) rfl) rfl dX4_giveTo_94 ?_
        refine z_iload_n C 6 dX4_giveTo_97 rfl ?_
        refine z_iald C hK 0 (g := (u 20)) (i := i) 20 (WB_20 a c ((up u 44 (m) (((bn (fun q => X i q && sprd (L m) (u 3 8 * (u 20 i - T m)) q) 8 : Nat) : Int))))) rfl (by decide) (by omega) dX4_giveTo_98 ?_
        refine z_as (b := u 20 (i)) rfl ?_
        refine z_iast C hK (hDD _) 0 (g := (up u 44 (m) (((bn (fun q => X i q && sprd (L m) (u 3 8 * (u 20 i - T m)) q) 8 : Nat) : Int))) 45) 45 (WB_45 a c ((up u 44 (m) (((bn (fun q => X i q && sprd (L m) (u 3 8 * (u 20 i - T m)) q) 8 : Nat) : Int))))) rfl (by decide) (by omega) (WB_45_set a c ((up u 44 (m) (((bn (fun q => X i q && sprd (L m) (u 3 8 * (u 20 i - T m)) q) 8 : Nat) : Int)))) m (u 20 (i))) dX4_giveTo_99 ?_
        refine z_aload_n C 4 dX4_giveTo_100 rfl ?_
        refine z_iload_n C 6 dX4_giveTo_101 rfl ?_
        refine z_iconst C dX4_giveTo_102 ?_
        refine z_iadd C dX4_giveTo_103 ?_
        refine z_iload C 3 dX4_giveTo_104 rfl ?_
        refine z_if_eq C 115 dX4_giveTo_106 (by decide) (by omega) (fun h35 => ?_) (fun h35 => ?_)
        · skip
          refine z_iload_n C 7 dX4_giveTo_115 rfl ?_
          refine z_callV C hK hDD (c_X4_giveToMen_4 (zl x) (zG x) a c ((up (up u 44 (m) (((bn (fun q => X i q && sprd (L m) (u 3 8 * (u 20 i - T m)) q) 8 : Nat) : Int))) 45 (m) (u 20 (i)))) (i + 1) used E X ((fun j => if j = m then lvs (u 20) (u 3 8) X L T i m used else L j)) ((fun j => if j = m then u 20 i else T j)) (show (i + 1) = (u 17 8) - 4 by omega) (show 0 ≤ (i + 1) by omega) (show 0 ≤ used ∧ used ≤ 3 by omega) (hQ) (show 0 ≤ (u 41 8) ∧ (u 41 8) ≤ 4 by omega) (hX) (hE) (pl_hL hL (by first | exact Or.inl (by omega) | exact Or.inr ⟨by omega, by omega⟩) (by first | exact lvs_new (by omega) | exact lvs_old (by omega))) (pl_hT (by omega) hmi.1 hQ.2.2.2 hT (by first | exact Or.inl (by omega) | exact Or.inr ⟨by omega, by omega⟩))) gX4_giveTo_X4_giveToMen rfl zy_X4_giveToMen 41 (WB_41 a c ((up (up u 44 (m) (((bn (fun q => X i q && sprd (L m) (u 3 8 * (u 20 i - T m)) q) 8 : Nat) : Int))) 45 (m) (u 20 (i))))) rfl ⟨by omega, by decide⟩ rfl (Nat.le_of_ble_eq_true rfl) (st := []) (stk2 := fun _ => []) rfl (fun _ => rfl) dX4_giveTo_116 (fun z36 u37 h38 => ?_)
          obtain ⟨b2, e1, hB⟩ := h38
          rw [e1]
          change Z x 0 0 (WB a c (up (up (up u 44 (m) (((bn (fun q => X i q && sprd (L m) (u 3 8 * (u 20 i - T m)) q) 8 : Nat) : Int))) 45 (m) (u 20 (i))) 41 (8) (b2))) _ _ _
          refine z_aload_n C 4 dX4_giveTo_119 rfl ?_
          refine z_get C hK (v := .ref (a 44)) inX4_giveTo_X4 41 (WB_41 a c ((up (up (up u 44 (m) (((bn (fun q => X i q && sprd (L m) (u 3 8 * (u 20 i - T m)) q) 8 : Nat) : Int))) 45 (m) (u 20 (i))) 41 (8) (b2)))) rfl 5 (by decide) (List.mem_of_getElem? (i := 1) rfl) rfl dX4_giveTo_120 ?_
          refine z_iload_n C 5 dX4_giveTo_123 rfl ?_
          refine z_iload C 2 dX4_giveTo_124 rfl ?_
          refine z_iast C hK (hDD _) 0 (g := (up (up (up u 44 (m) (((bn (fun q => X i q && sprd (L m) (u 3 8 * (u 20 i - T m)) q) 8 : Nat) : Int))) 45 (m) (u 20 (i))) 41 (8) (b2)) 44) 44 (WB_44 a c ((up (up (up u 44 (m) (((bn (fun q => X i q && sprd (L m) (u 3 8 * (u 20 i - T m)) q) 8 : Nat) : Int))) 45 (m) (u 20 (i))) 41 (8) (b2)))) rfl (by decide) (by omega) (WB_44_set a c ((up (up (up u 44 (m) (((bn (fun q => X i q && sprd (L m) (u 3 8 * (u 20 i - T m)) q) 8 : Nat) : Int))) 45 (m) (u 20 (i))) 41 (8) (b2))) m (u 44 (m))) dX4_giveTo_126 ?_
          refine z_aload_n C 4 dX4_giveTo_127 rfl ?_
          refine z_get C hK (v := .ref (a 45)) inX4_giveTo_X4 41 (WB_41 a c ((up (up (up (up u 44 (m) (((bn (fun q => X i q && sprd (L m) (u 3 8 * (u 20 i - T m)) q) 8 : Nat) : Int))) 45 (m) (u 20 (i))) 41 (8) (b2)) 44 (m) (u 44 (m))))) rfl 6 (by decide) (List.mem_of_getElem? (i := 2) rfl) rfl dX4_giveTo_128 ?_
          refine z_iload_n C 5 dX4_giveTo_131 rfl ?_
          refine z_iload C 1 dX4_giveTo_132 rfl ?_
          refine z_iast C hK (hDD _) 0 (g := (up (up (up (up u 44 (m) (((bn (fun q => X i q && sprd (L m) (u 3 8 * (u 20 i - T m)) q) 8 : Nat) : Int))) 45 (m) (u 20 (i))) 41 (8) (b2)) 44 (m) (u 44 (m))) 45) 45 (WB_45 a c ((up (up (up (up u 44 (m) (((bn (fun q => X i q && sprd (L m) (u 3 8 * (u 20 i - T m)) q) 8 : Nat) : Int))) 45 (m) (u 20 (i))) 41 (8) (b2)) 44 (m) (u 44 (m))))) rfl (by decide) (by omega) (WB_45_set a c ((up (up (up (up u 44 (m) (((bn (fun q => X i q && sprd (L m) (u 3 8 * (u 20 i - T m)) q) 8 : Nat) : Int))) 45 (m) (u 20 (i))) 41 (8) (b2)) 44 (m) (u 44 (m)))) m (u 45 (m))) dX4_giveTo_134 ?_
          refine z_ws (ws' := (WB a c (up u 41 (8) (b2)))) (congrArg (WB a c) (pl_rest u m _ _ _)) ?_
          exact kret 0 (up u 41 8 b2) _ _ (⟨b2, rfl, Bst_congr hB (fun t => ⟨fun q => ⟨hz, by first | (rw [if_pos (by omega)]; exact q) | (rw [if_neg (by omega)]; exact q)⟩, fun q => by have q2 := q.2; first | (rw [if_pos (show m = used by omega)] at q2; exact q2) | (rw [if_neg (show ¬ m = used by omega)] at q2; exact q2)⟩)⟩) dX4_giveTo_135
        · skip
          refine z_iload_n C 7 dX4_giveTo_109 rfl ?_
          refine z_iconst C dX4_giveTo_110 ?_
          refine z_iadd C dX4_giveTo_111 ?_
          refine z_goto C 116 dX4_giveTo_112 (by decide) ?_
          refine z_callV C hK hDD (c_X4_giveToMen_4 (zl x) (zG x) a c ((up (up u 44 (m) (((bn (fun q => X i q && sprd (L m) (u 3 8 * (u 20 i - T m)) q) 8 : Nat) : Int))) 45 (m) (u 20 (i)))) (i + 1) (used + 1) E X ((fun j => if j = m then lvs (u 20) (u 3 8) X L T i m used else L j)) ((fun j => if j = m then u 20 i else T j)) (show (i + 1) = (u 17 8) - 4 by omega) (show 0 ≤ (i + 1) by omega) (show 0 ≤ (used + 1) ∧ (used + 1) ≤ 3 by omega) (hQ) (show 0 ≤ (u 41 8) ∧ (u 41 8) ≤ 4 by omega) (hX) (hE) (pl_hL hL (by first | exact Or.inl (by omega) | exact Or.inr ⟨by omega, by omega⟩) (by first | exact lvs_new (by omega) | exact lvs_old (by omega))) (pl_hT (by omega) hmi.1 hQ.2.2.2 hT (by first | exact Or.inl (by omega) | exact Or.inr ⟨by omega, by omega⟩))) gX4_giveTo_X4_giveToMen rfl zy_X4_giveToMen 41 (WB_41 a c ((up (up u 44 (m) (((bn (fun q => X i q && sprd (L m) (u 3 8 * (u 20 i - T m)) q) 8 : Nat) : Int))) 45 (m) (u 20 (i))))) rfl ⟨by omega, by decide⟩ rfl (Nat.le_of_ble_eq_true rfl) (st := []) (stk2 := fun _ => []) rfl (fun _ => rfl) dX4_giveTo_116 (fun z39 u40 h41 => ?_)
          obtain ⟨b2, e1, hB⟩ := h41
          rw [e1]
          change Z x 0 0 (WB a c (up (up (up u 44 (m) (((bn (fun q => X i q && sprd (L m) (u 3 8 * (u 20 i - T m)) q) 8 : Nat) : Int))) 45 (m) (u 20 (i))) 41 (8) (b2))) _ _ _
          refine z_aload_n C 4 dX4_giveTo_119 rfl ?_
          refine z_get C hK (v := .ref (a 44)) inX4_giveTo_X4 41 (WB_41 a c ((up (up (up u 44 (m) (((bn (fun q => X i q && sprd (L m) (u 3 8 * (u 20 i - T m)) q) 8 : Nat) : Int))) 45 (m) (u 20 (i))) 41 (8) (b2)))) rfl 5 (by decide) (List.mem_of_getElem? (i := 1) rfl) rfl dX4_giveTo_120 ?_
          refine z_iload_n C 5 dX4_giveTo_123 rfl ?_
          refine z_iload C 2 dX4_giveTo_124 rfl ?_
          refine z_iast C hK (hDD _) 0 (g := (up (up (up u 44 (m) (((bn (fun q => X i q && sprd (L m) (u 3 8 * (u 20 i - T m)) q) 8 : Nat) : Int))) 45 (m) (u 20 (i))) 41 (8) (b2)) 44) 44 (WB_44 a c ((up (up (up u 44 (m) (((bn (fun q => X i q && sprd (L m) (u 3 8 * (u 20 i - T m)) q) 8 : Nat) : Int))) 45 (m) (u 20 (i))) 41 (8) (b2)))) rfl (by decide) (by omega) (WB_44_set a c ((up (up (up u 44 (m) (((bn (fun q => X i q && sprd (L m) (u 3 8 * (u 20 i - T m)) q) 8 : Nat) : Int))) 45 (m) (u 20 (i))) 41 (8) (b2))) m (u 44 (m))) dX4_giveTo_126 ?_
          refine z_aload_n C 4 dX4_giveTo_127 rfl ?_
          refine z_get C hK (v := .ref (a 45)) inX4_giveTo_X4 41 (WB_41 a c ((up (up (up (up u 44 (m) (((bn (fun q => X i q && sprd (L m) (u 3 8 * (u 20 i - T m)) q) 8 : Nat) : Int))) 45 (m) (u 20 (i))) 41 (8) (b2)) 44 (m) (u 44 (m))))) rfl 6 (by decide) (List.mem_of_getElem? (i := 2) rfl) rfl dX4_giveTo_128 ?_
          refine z_iload_n C 5 dX4_giveTo_131 rfl ?_
          refine z_iload C 1 dX4_giveTo_132 rfl ?_
          refine z_iast C hK (hDD _) 0 (g := (up (up (up (up u 44 (m) (((bn (fun q => X i q && sprd (L m) (u 3 8 * (u 20 i - T m)) q) 8 : Nat) : Int))) 45 (m) (u 20 (i))) 41 (8) (b2)) 44 (m) (u 44 (m))) 45) 45 (WB_45 a c ((up (up (up (up u 44 (m) (((bn (fun q => X i q && sprd (L m) (u 3 8 * (u 20 i - T m)) q) 8 : Nat) : Int))) 45 (m) (u 20 (i))) 41 (8) (b2)) 44 (m) (u 44 (m))))) rfl (by decide) (by omega) (WB_45_set a c ((up (up (up (up u 44 (m) (((bn (fun q => X i q && sprd (L m) (u 3 8 * (u 20 i - T m)) q) 8 : Nat) : Int))) 45 (m) (u 20 (i))) 41 (8) (b2)) 44 (m) (u 44 (m)))) m (u 45 (m))) dX4_giveTo_134 ?_
          refine z_ws (ws' := (WB a c (up u 41 (8) (b2)))) (congrArg (WB a c) (pl_rest u m _ _ _)) ?_
          exact kret 0 (up u 41 8 b2) _ _ (⟨b2, rfl, Bst_congr hB (fun t => ⟨fun q => ⟨hz, by first | (rw [if_pos (by omega)]; exact q) | (rw [if_neg (by omega)]; exact q)⟩, fun q => by have q2 := q.2; first | (rw [if_pos (show m = used by omega)] at q2; exact q2) | (rw [if_neg (show ¬ m = used by omega)] at q2; exact q2)⟩)⟩) dX4_giveTo_135
      · have hz : ¬ nz (lvs (u 20) (u 3 8) X L T i m used) := by first | exact nz_no (lvs_new (by omega)) h34 | exact nz_no (lvs_old (by omega)) h34
        exact kret 0 u _ _ (⟨u 41 8, (up_self u 41 8).symm, Bst_none hb.1 (fun t h => absurd h.1 hz)⟩) dX4_giveTo_76
-- NoteBells$Pluckers.giveToMen
set_option maxHeartbeats 8000000 in
set_option maxRecDepth 100000 in
theorem c_X4_giveToMen_5 (l : Launch) (D : va_G) (a : Nat → Nat) (c : Nat → ClassId) (u : zU) (i used : Int) (E : Int → Bool) (X L : Int → Nat → Bool) (T : Int → Int) (hi : i = u 17 8 - 5) (b_i : 0 ≤ i) (hu : 0 ≤ used ∧ used ≤ 3) (hQ : PQ (u 17 8) (u 3 8) (u 20)) (hb : 0 ≤ u 41 8 ∧ u 41 8 ≤ 4) (hX : ∀ k : Int, 0 ≤ k → k < u 17 8 → u 42 k = ((bn (X k) 8 : Nat) : Int)) (hE : ∀ k : Int, 0 ≤ k → k < u 17 8 → u 43 k = if E k = true then 1 else 0) (hL : ∀ j : Int, 0 ≤ j → j < used → u 44 j = ((bn (L j) 8 : Nat) : Int)) (hT : ∀ j : Int, 0 ≤ j → j < used → u 45 j = T j ∧ 0 ≤ T j ∧ ∀ k : Int, i ≤ k → k < u 17 8 → T j ≤ u 20 k) : ZM l D (zTy c) (WB a c) yX4_giveToMen wsX4_giveToMen 13 [.ref (a 41), .int (zI i), .int (zI used)] u rV (fun z u' => ∃ b' : Int, u' = up u 41 8 b' ∧ Bst (u 41 8) b' (fun t => Can (u 20) (u 3 8) (u 17 8) E X 5 L T used t)) := by
  refine ZM.ofV (cc := cX4_giveToMen) (maxL := 4) [(0, .ref (a 41)), (1, .int (zI i)), (2, .int (zI used))] rfl (by decide +kernel) rfl (Nat.le_of_ble_eq_true rfl) (WB_addr a c) ?_
  intro x C hK _ _ hDD kret
  have hq1 := hQ.1
  have hq2 := hQ.2.1
  refine z_iload_n C 2 dX4_giveToMen_0 rfl ?_
  refine z_aload_n C 0 dX4_giveToMen_1 rfl ?_
  refine z_get C hK (v := .int (zI (u 41 8))) inX4_giveToMen_X4 41 (WB_41 a c u) rfl 8 (by decide) (List.mem_of_getElem? (i := 1) rfl) rfl dX4_giveToMen_2 ?_
  refine z_icmp_lt C 9 dX4_giveToMen_5 (by decide) (by omega) (fun h1 => ?_) (fun h1 => ?_)
  · skip
    refine z_iload_n C 1 dX4_giveToMen_9 rfl ?_
    refine z_aload_n C 0 dX4_giveToMen_10 rfl ?_
    refine z_get C hK (v := .ref (a 17)) inX4_giveToMen_X4 41 (WB_41 a c u) rfl 1 (by decide) (List.mem_of_getElem? (i := 2) rfl) rfl dX4_giveToMen_11 ?_
    refine z_getN C hK (v := .int (zI (u 17 8))) inX4_giveToMen_X2 17 (WB_17 a c u) rfl 8 (by decide) (List.mem_of_getElem? (i := 34) rfl) rfl dX4_giveToMen_14 ?_
    refine z_icmp_lt C 26 dX4_giveToMen_17 (by decide) (by omega) (fun h2 => ?_) (fun h2 => ?_)
    · skip
      refine z_aload_n C 0 dX4_giveToMen_26 rfl ?_
      refine z_get C hK (v := .ref (a 43)) inX4_giveToMen_X4 41 (WB_41 a c u) rfl 4 (by decide) (List.mem_of_getElem? (i := 3) rfl) rfl dX4_giveToMen_27 ?_
      refine z_iload_n C 1 dX4_giveToMen_30 rfl ?_
      refine z_zald C hK 1 (g := (u 43)) (i := i) 43 (WB_43 a c u) rfl (by decide) (by omega) dX4_giveToMen_31 ?_
      refine z_as (b := u 43 (i)) rfl ?_
      refine z_as (b := (if E i = true then 1 else 0)) (hE i (by omega) (by omega)) ?_
      refine z_if_eq C 44 dX4_giveToMen_32 (by decide) (by split <;> omega) (fun h3 => ?_) (fun h3 => ?_)
      · have hEi := ite01_eq h3
        refine z_iconst C dX4_giveToMen_44 ?_
        refine z_ws (ws' := (WB a c (up u 41 (8) ((u 41 8))))) (congrArg (WB a c) (up_self u 41 8).symm) ?_
        refine z_istore_n C [(3, .int (zI 0)), (0, .ref (a 41)), (1, .int (zI i)), (2, .int (zI used))] dX4_giveToMen_45 rfl (by decide) rfl ?_
        have L46_4 : ∀ (fu : Nat) (m : Int) (b : Int), (0 ≤ m ∧ m ≤ used + 1 ∧ m ≤ 3) → (E i = false) → (Bst (u 41 8) b (fun t => ∃ k : Int, 0 ≤ k ∧ k < m ∧ Gv (u 20) (u 3 8) (u 17 8) E X 4 i L T used k t)) → 3 - m < (fu : Int) → Z x 0 0 (WB a c (up u 41 (8) (b))) [(0, .ref (a 41)), (1, .int (zI i)), (2, .int (zI used)), (3, .int (zI m))] 46 [] := by
          intro fu
          induction fu with
          | zero => intro m b hm hEf hB hmeas; exfalso; omega
          | succ fu ih46 =>
            intro m b hm hEf hB hmeas
            refine z_iload_n C 3 dX4_giveToMen_46 rfl ?_
            refine z_iload_n C 2 dX4_giveToMen_47 rfl ?_
            refine z_icmp_gt C 69 dX4_giveToMen_48 (by decide) (by omega) (fun h5 => ?_) (fun h5 => ?_)
            · skip
              exact kret 0 (up u 41 8 b) _ _ (⟨b, rfl, Bst_congr hB (Can_give (by omega) hEf (by omega))⟩) dX4_giveToMen_69
            · skip
              refine z_iload_n C 3 dX4_giveToMen_51 rfl ?_
              refine z_iconst C dX4_giveToMen_52 ?_
              refine z_icmp_ge C 69 dX4_giveToMen_53 (by decide) (by omega) (fun h6 => ?_) (fun h6 => ?_)
              · skip
                exact kret 0 (up u 41 8 b) _ _ (⟨b, rfl, Bst_congr hB (Can_give (by omega) hEf (by omega))⟩) dX4_giveToMen_69
              · skip
                refine z_aload_n C 0 dX4_giveToMen_56 rfl ?_
                refine z_iload_n C 3 dX4_giveToMen_57 rfl ?_
                refine z_iload_n C 1 dX4_giveToMen_58 rfl ?_
                refine z_iload_n C 2 dX4_giveToMen_59 rfl ?_
                refine z_callV C hK hDD (c_X4_giveTo_5 (zl x) (zG x) a c ((up u 41 (8) (b))) m i used E X L T (show i = (u 17 8) - 5 by omega) (show 0 ≤ i ∧ i < (u 17 8) by omega) (show 0 ≤ m ∧ m ≤ used ∧ m < 3 by omega) (show 0 ≤ used ∧ used ≤ 3 by omega) (hQ) (show 0 ≤ b ∧ b ≤ 4 from ⟨hB.1.1, Int.le_trans hB.1.2 hb.2⟩) (hX) (hE) (hL) (hT)) gX4_giveToMen_X4_giveTo rfl zy_X4_giveTo 41 (WB_41 a c ((up u 41 (8) (b)))) rfl ⟨by omega, by decide⟩ rfl (Nat.le_of_ble_eq_true rfl) (st := []) (stk2 := fun _ => []) rfl (fun _ => rfl) dX4_giveToMen_60 (fun z7 u8 h9 => ?_)
                obtain ⟨b2, e1, hB2⟩ := h9
                rw [e1]
                change Z x 0 0 (WB a c (up u 41 (8) (b2))) _ _ _
                refine z_iinc C 3 [(3, .int (zI (m + 1))), (0, .ref (a 41)), (1, .int (zI i)), (2, .int (zI used))] dX4_giveToMen_63 rfl (by decide) rfl ?_
                refine z_goto C 46 dX4_giveToMen_66 (by decide) ?_
                refine z_lv [(0, .ref (a 41)), (1, .int (zI i)), (2, .int (zI used)), (3, .int (zI (m + 1)))] [1, 2, 3, 0] rfl ?_
                exact ih46 (m + 1) b2 (by omega) (hEf) (Bst_trans hB hB2 (gv_grow hm.1)) (by omega)
        refine z_lv [(0, .ref (a 41)), (1, .int (zI i)), (2, .int (zI used)), (3, .int (zI 0))] [1, 2, 3, 0] rfl ?_
        exact L46_4 (((3 - 0 : Int)).toNat + 1) 0 ((u 41 8)) (by omega) (hEi) (Bst_gv0 hb.1) (by omega)
      · have hEi := ite01_ne h3
        refine z_aload_n C 0 dX4_giveToMen_35 rfl ?_
        refine z_iload_n C 1 dX4_giveToMen_36 rfl ?_
        refine z_iconst C dX4_giveToMen_37 ?_
        refine z_iadd C dX4_giveToMen_38 ?_
        refine z_iload_n C 2 dX4_giveToMen_39 rfl ?_
        refine z_callV C hK hDD (c_X4_giveToMen_4 (zl x) (zG x) a c u (i + 1) used E X L T (by omega) (by omega) (by omega) (hQ) (by omega) (hX) (hE) (hL) (fun j h0 h1 => ⟨(hT j h0 h1).1, (hT j h0 h1).2.1, fun k h2 h3 => (hT j h0 h1).2.2 k (by omega) h3⟩)) gX4_giveToMen_X4_giveToMen rfl zy_X4_giveToMen 41 (WB_41 a c u) rfl ⟨by omega, by decide⟩ rfl (Nat.le_of_ble_eq_true rfl) (st := []) (stk2 := fun _ => []) rfl (fun _ => rfl) dX4_giveToMen_40 (fun z10 u11 h12 => ?_)
        obtain ⟨b2, e1, hB⟩ := h12
        rw [e1]
        change Z x 0 0 (WB a c (up u 41 (8) (b2))) _ _ _
        exact kret 0 (up u 41 8 b2) _ _ (⟨b2, rfl, Bst_congr hB (Can_echo (by omega) hEi)⟩) dX4_giveToMen_43
    · exfalso; omega
  · skip
    exact kret 0 u _ _ (⟨u 41 8, (up_self u 41 8).symm, Bst_none hb.1 (fun t h => by have := Can_ge h; omega)⟩) dX4_giveToMen_8
-- NoteBells$Pluckers.giveTo
set_option maxHeartbeats 8000000 in
set_option maxRecDepth 100000 in
theorem c_X4_giveTo_6 (l : Launch) (D : va_G) (a : Nat → Nat) (c : Nat → ClassId) (u : zU) (m i used : Int) (E : Int → Bool) (X L : Int → Nat → Bool) (T : Int → Int) (hi : i = u 17 8 - 6) (b_i : 0 ≤ i ∧ i < u 17 8) (hm : 0 ≤ m ∧ m ≤ used ∧ m < 3) (hu : 0 ≤ used ∧ used ≤ 3) (hQ : PQ (u 17 8) (u 3 8) (u 20)) (hb : 0 ≤ u 41 8 ∧ u 41 8 ≤ 4) (hX : ∀ k : Int, 0 ≤ k → k < u 17 8 → u 42 k = ((bn (X k) 8 : Nat) : Int)) (hE : ∀ k : Int, 0 ≤ k → k < u 17 8 → u 43 k = if E k = true then 1 else 0) (hL : ∀ j : Int, 0 ≤ j → j < used → u 44 j = ((bn (L j) 8 : Nat) : Int)) (hT : ∀ j : Int, 0 ≤ j → j < used → u 45 j = T j ∧ 0 ≤ T j ∧ ∀ k : Int, i ≤ k → k < u 17 8 → T j ≤ u 20 k) : ZM l D (zTy c) (WB a c) yX4_giveTo wsX4_giveTo 14 [.ref (a 41), .int (zI m), .int (zI i), .int (zI used)] u rV (fun z u' => ∃ b' : Int, u' = up u 41 8 b' ∧ Bst (u 41 8) b' (fun t => Gv (u 20) (u 3 8) (u 17 8) E X 5 i L T used m t)) := by
  refine ZM.ofV (cc := cX4_giveTo) (maxL := 8) [(0, .ref (a 41)), (1, .int (zI m)), (2, .int (zI i)), (3, .int (zI used))] rfl (by decide +kernel) rfl (Nat.le_of_ble_eq_true rfl) (WB_addr a c) ?_
  intro x C hK _ _ hDD kret
  have hq1 := hQ.1
  have hq2 := hQ.2.1
  have hmi := hQ.2.2.1 i (by omega) (by omega)
  refine z_iload_n C 1 dX4_giveTo_0 rfl ?_
  refine z_iload_n C 3 dX4_giveTo_1 rfl ?_
  refine z_icmp_ne C 9 dX4_giveTo_2 (by decide) (by omega) (fun h1 => ?_) (fun h1 => ?_)
  · skip
    refine z_iconst C dX4_giveTo_9 ?_
    refine z_istore C [(4, .int (zI 0)), (0, .ref (a 41)), (1, .int (zI m)), (2, .int (zI i)), (3, .int (zI used))] dX4_giveTo_10 (by decide) rfl ?_
    refine z_aload_n C 1 dX4_giveTo_12 rfl ?_
    refine z_get C hK (v := .ref (a 44)) inX4_giveTo_X4 41 (WB_41 a c u) rfl 5 (by decide) (List.mem_of_getElem? (i := 1) rfl) rfl dX4_giveTo_13 ?_
    refine z_iload_n C 2 dX4_giveTo_16 rfl ?_
    refine z_iald C hK 0 (g := (u 44)) (i := m) 44 (WB_44 a c u) rfl (by decide) (by omega) dX4_giveTo_17 ?_
    refine z_as (b := u 44 (m)) rfl ?_
    refine z_istore C [(5, .int (zI (u 44 (m)))), (4, .int (zI 0)), (0, .ref (a 41)), (1, .int (zI m)), (2, .int (zI i)), (3, .int (zI used))] dX4_giveTo_18 (by decide) rfl ?_
    refine z_aload_n C 2 dX4_giveTo_20 rfl ?_
    refine z_get C hK (v := .ref (a 45)) inX4_giveTo_X4 41 (WB_41 a c u) rfl 6 (by decide) (List.mem_of_getElem? (i := 2) rfl) rfl dX4_giveTo_21 ?_
    refine z_iload_n C 3 dX4_giveTo_24 rfl ?_
    refine z_iald C hK 0 (g := (u 45)) (i := m) 45 (WB_45 a c u) rfl (by decide) (by omega) dX4_giveTo_25 ?_
    refine z_as (b := u 45 (m)) rfl ?_
    refine z_istore C [(6, .int (zI (u 45 (m)))), (5, .int (zI (u 44 (m)))), (4, .int (zI 0)), (0, .ref (a 41)), (1, .int (zI m)), (2, .int (zI i)), (3, .int (zI used))] dX4_giveTo_26 (by decide) rfl ?_
    refine z_aload_n C 3 dX4_giveTo_28 rfl ?_
    refine z_get C hK (v := .ref (a 42)) inX4_giveTo_X4 41 (WB_41 a c u) rfl 3 (by decide) (List.mem_of_getElem? (i := 3) rfl) rfl dX4_giveTo_29 ?_
    refine z_iload_n C 5 dX4_giveTo_32 rfl ?_
    refine z_iald C hK 0 (g := (u 42)) (i := i) 42 (WB_42 a c u) rfl (by decide) (by omega) dX4_giveTo_33 ?_
    refine z_as (b := u 42 (i)) rfl ?_
    refine z_as (b := ((bn (X i) 8 : Nat) : Int)) (hX i (by omega) (by omega)) ?_
    refine z_istore C [(7, .int (zI (((bn (X i) 8 : Nat) : Int)))), (6, .int (zI (u 45 (m)))), (5, .int (zI (u 44 (m)))), (4, .int (zI 0)), (0, .ref (a 41)), (1, .int (zI m)), (2, .int (zI i)), (3, .int (zI used))] dX4_giveTo_34 (by decide) rfl ?_
    refine z_iload C 3 dX4_giveTo_36 rfl ?_
    refine z_if_ne C 71 dX4_giveTo_38 (by decide) (by omega) (fun h2 => ?_) (fun h2 => ?_)
    · skip
      refine z_iload C 0 dX4_giveTo_71 rfl ?_
      refine z_if_ne C 77 dX4_giveTo_73 (by decide) (by have h1 := bn_8 (X i) (n := 8) (by omega); have h2 := bn_8 (fun q => X i q && sprd (L m) (u 3 8 * (u 20 i - T m)) q) (n := 8) (by omega); omega) (fun h3 => ?_) (fun h3 => ?_)
      · have hz : nz (lvs (u 20) (u 3 8) X L T i m used) := by first | exact nz_yes (lvs_new (by omega)) h3 | exact nz_yes (lvs_old (by omega)) h3
        refine z_aload_n C 4 dX4_giveTo_77 rfl ?_
        refine z_get C hK (v := .ref (a 44)) inX4_giveTo_X4 41 (WB_41 a c u) rfl 5 (by decide) (List.mem_of_getElem? (i := 1) rfl) rfl dX4_giveTo_78 ?_
        refine z_iload_n C 5 dX4_giveTo_81 rfl ?_
        refine z_iload C 0 dX4_giveTo_82 rfl ?_
        refine z_iast C hK (hDD _) 0 (g := u 44) 44 (WB_44 a c u) rfl (by decide) (by omega) (WB_44_set a c u m (((bn (X i) 8 : Nat) : Int))) dX4_giveTo_84 ?_
        refine z_aload_n C 4 dX4_giveTo_85 rfl ?_
        refine z_get C hK (v := .ref (a 45)) inX4_giveTo_X4 41 (WB_41 a c ((up u 44 (m) (((bn (X i) 8 : Nat) : Int))))) rfl 6 (by decide) (List.mem_of_getElem? (i := 2) rfl) rfl dX4_giveTo_86 ?_
        refine z_iload_n C 5 dX4_giveTo_89 rfl ?_
        refine z_aload_n C 4 dX4_giveTo_90 rfl ?_
        refine z_get C hK (v := .ref (a 17)) inX4_giveTo_X4 41 (WB_41 a c ((up u 44 (m) (((bn (X i) 8 : Nat) : Int))))) rfl 1 (by decide) (List.mem_of_getElem? (i := 5) rfl) rfl dX4_giveTo_91 ?_
        refine z_getN C hK (v := .ref (a 20)) inX4_giveTo_X2 17 (WB_17 a c ((up u 44 (m) (((bn (X i) 8 : Nat) : Int))))) rfl 2 (by decide) (List.mem_of_getElem? (i := 36) rfl) rfl dX4_giveTo_94 ?_
        refine z_iload_n C 6 dX4_giveTo_97 rfl ?_
        refine z_iald C hK 0 (g := (u 20)) (i := i) 20 (WB_20 a c ((up u 44 (m) (((bn (X i) 8 : Nat) : Int))))) rfl (by decide) (by omega) dX4_giveTo_98 ?_
        refine z_as (b := u 20 (i)) rfl ?_
        refine z_iast C hK (hDD _) 0 (g := (up u 44 (m) (((bn (X i) 8 : Nat) : Int))) 45) 45 (WB_45 a c ((up u 44 (m) (((bn (X i) 8 : Nat) : Int))))) rfl (by decide) (by omega) (WB_45_set a c ((up u 44 (m) (((bn (X i) 8 : Nat) : Int)))) m (u 20 (i))) dX4_giveTo_99 ?_
        refine z_aload_n C 4 dX4_giveTo_100 rfl ?_
        refine z_iload_n C 6 dX4_giveTo_101 rfl ?_
        refine z_iconst C dX4_giveTo_102 ?_
        refine z_iadd C dX4_giveTo_103 ?_
        refine z_iload C 3 dX4_giveTo_104 rfl ?_
        refine z_if_eq C 115 dX4_giveTo_106 (by decide) (by omega) (fun h4 => ?_) (fun h4 => ?_)
        · skip
          refine z_iload_n C 7 dX4_giveTo_115 rfl ?_
          refine z_callV C hK hDD (c_X4_giveToMen_5 (zl x) (zG x) a c ((up (up u 44 (m) (((bn (X i) 8 : Nat) : Int))) 45 (m) (u 20 (i)))) (i + 1) used E X ((fun j => if j = m then lvs (u 20) (u 3 8) X L T i m used else L j)) ((fun j => if j = m then u 20 i else T j)) (show (i + 1) = (u 17 8) - 5 by omega) (show 0 ≤ (i + 1) by omega) (show 0 ≤ used ∧ used ≤ 3 by omega) (hQ) (show 0 ≤ (u 41 8) ∧ (u 41 8) ≤ 4 by omega) (hX) (hE) (pl_hL hL (by first | exact Or.inl (by omega) | exact Or.inr ⟨by omega, by omega⟩) (by first | exact lvs_new (by omega) | exact lvs_old (by omega))) (pl_hT (by omega) hmi.1 hQ.2.2.2 hT (by first | exact Or.inl (by omega) | exact Or.inr ⟨by omega, by omega⟩))) gX4_giveTo_X4_giveToMen rfl zy_X4_giveToMen 41 (WB_41 a c ((up (up u 44 (m) (((bn (X i) 8 : Nat) : Int))) 45 (m) (u 20 (i))))) rfl ⟨by omega, by decide⟩ rfl (Nat.le_of_ble_eq_true rfl) (st := []) (stk2 := fun _ => []) rfl (fun _ => rfl) dX4_giveTo_116 (fun z5 u6 h7 => ?_)
          obtain ⟨b2, e1, hB⟩ := h7
          rw [e1]
          change Z x 0 0 (WB a c (up (up (up u 44 (m) (((bn (X i) 8 : Nat) : Int))) 45 (m) (u 20 (i))) 41 (8) (b2))) _ _ _
          refine z_aload_n C 4 dX4_giveTo_119 rfl ?_
          refine z_get C hK (v := .ref (a 44)) inX4_giveTo_X4 41 (WB_41 a c ((up (up (up u 44 (m) (((bn (X i) 8 : Nat) : Int))) 45 (m) (u 20 (i))) 41 (8) (b2)))) rfl 5 (by decide) (List.mem_of_getElem? (i := 1) rfl) rfl dX4_giveTo_120 ?_
          refine z_iload_n C 5 dX4_giveTo_123 rfl ?_
          refine z_iload C 2 dX4_giveTo_124 rfl ?_
          refine z_iast C hK (hDD _) 0 (g := (up (up (up u 44 (m) (((bn (X i) 8 : Nat) : Int))) 45 (m) (u 20 (i))) 41 (8) (b2)) 44) 44 (WB_44 a c ((up (up (up u 44 (m) (((bn (X i) 8 : Nat) : Int))) 45 (m) (u 20 (i))) 41 (8) (b2)))) rfl (by decide) (by omega) (WB_44_set a c ((up (up (up u 44 (m) (((bn (X i) 8 : Nat) : Int))) 45 (m) (u 20 (i))) 41 (8) (b2))) m (u 44 (m))) dX4_giveTo_126 ?_
          refine z_aload_n C 4 dX4_giveTo_127 rfl ?_
          refine z_get C hK (v := .ref (a 45)) inX4_giveTo_X4 41 (WB_41 a c ((up (up (up (up u 44 (m) (((bn (X i) 8 : Nat) : Int))) 45 (m) (u 20 (i))) 41 (8) (b2)) 44 (m) (u 44 (m))))) rfl 6 (by decide) (List.mem_of_getElem? (i := 2) rfl) rfl dX4_giveTo_128 ?_
          refine z_iload_n C 5 dX4_giveTo_131 rfl ?_
          refine z_iload C 1 dX4_giveTo_132 rfl ?_
          refine z_iast C hK (hDD _) 0 (g := (up (up (up (up u 44 (m) (((bn (X i) 8 : Nat) : Int))) 45 (m) (u 20 (i))) 41 (8) (b2)) 44 (m) (u 44 (m))) 45) 45 (WB_45 a c ((up (up (up (up u 44 (m) (((bn (X i) 8 : Nat) : Int))) 45 (m) (u 20 (i))) 41 (8) (b2)) 44 (m) (u 44 (m))))) rfl (by decide) (by omega) (WB_45_set a c ((up (up (up (up u 44 (m) (((bn (X i) 8 : Nat) : Int))) 45 (m) (u 20 (i))) 41 (8) (b2)) 44 (m) (u 44 (m)))) m (u 45 (m))) dX4_giveTo_134 ?_
          refine z_ws (ws' := (WB a c (up u 41 (8) (b2)))) (congrArg (WB a c) (pl_rest u m _ _ _)) ?_
          exact kret 0 (up u 41 8 b2) _ _ (⟨b2, rfl, Bst_congr hB (fun t => ⟨fun q => ⟨hz, by first | (rw [if_pos (by omega)]; exact q) | (rw [if_neg (by omega)]; exact q)⟩, fun q => by have q2 := q.2; first | (rw [if_pos (show m = used by omega)] at q2; exact q2) | (rw [if_neg (show ¬ m = used by omega)] at q2; exact q2)⟩)⟩) dX4_giveTo_135
        · skip
          refine z_iload_n C 7 dX4_giveTo_109 rfl ?_
          refine z_iconst C dX4_giveTo_110 ?_
          refine z_iadd C dX4_giveTo_111 ?_
          refine z_goto C 116 dX4_giveTo_112 (by decide) ?_
          refine z_callV C hK hDD (c_X4_giveToMen_5 (zl x) (zG x) a c ((up (up u 44 (m) (((bn (X i) 8 : Nat) : Int))) 45 (m) (u 20 (i)))) (i + 1) (used + 1) E X ((fun j => if j = m then lvs (u 20) (u 3 8) X L T i m used else L j)) ((fun j => if j = m then u 20 i else T j)) (show (i + 1) = (u 17 8) - 5 by omega) (show 0 ≤ (i + 1) by omega) (show 0 ≤ (used + 1) ∧ (used + 1) ≤ 3 by omega) (hQ) (show 0 ≤ (u 41 8) ∧ (u 41 8) ≤ 4 by omega) (hX) (hE) (pl_hL hL (by first | exact Or.inl (by omega) | exact Or.inr ⟨by omega, by omega⟩) (by first | exact lvs_new (by omega) | exact lvs_old (by omega))) (pl_hT (by omega) hmi.1 hQ.2.2.2 hT (by first | exact Or.inl (by omega) | exact Or.inr ⟨by omega, by omega⟩))) gX4_giveTo_X4_giveToMen rfl zy_X4_giveToMen 41 (WB_41 a c ((up (up u 44 (m) (((bn (X i) 8 : Nat) : Int))) 45 (m) (u 20 (i))))) rfl ⟨by omega, by decide⟩ rfl (Nat.le_of_ble_eq_true rfl) (st := []) (stk2 := fun _ => []) rfl (fun _ => rfl) dX4_giveTo_116 (fun z8 u9 h10 => ?_)
          obtain ⟨b2, e1, hB⟩ := h10
          rw [e1]
          change Z x 0 0 (WB a c (up (up (up u 44 (m) (((bn (X i) 8 : Nat) : Int))) 45 (m) (u 20 (i))) 41 (8) (b2))) _ _ _
          refine z_aload_n C 4 dX4_giveTo_119 rfl ?_
          refine z_get C hK (v := .ref (a 44)) inX4_giveTo_X4 41 (WB_41 a c ((up (up (up u 44 (m) (((bn (X i) 8 : Nat) : Int))) 45 (m) (u 20 (i))) 41 (8) (b2)))) rfl 5 (by decide) (List.mem_of_getElem? (i := 1) rfl) rfl dX4_giveTo_120 ?_
          refine z_iload_n C 5 dX4_giveTo_123 rfl ?_
          refine z_iload C 2 dX4_giveTo_124 rfl ?_
          refine z_iast C hK (hDD _) 0 (g := (up (up (up u 44 (m) (((bn (X i) 8 : Nat) : Int))) 45 (m) (u 20 (i))) 41 (8) (b2)) 44) 44 (WB_44 a c ((up (up (up u 44 (m) (((bn (X i) 8 : Nat) : Int))) 45 (m) (u 20 (i))) 41 (8) (b2)))) rfl (by decide) (by omega) (WB_44_set a c ((up (up (up u 44 (m) (((bn (X i) 8 : Nat) : Int))) 45 (m) (u 20 (i))) 41 (8) (b2))) m (u 44 (m))) dX4_giveTo_126 ?_
          refine z_aload_n C 4 dX4_giveTo_127 rfl ?_
          refine z_get C hK (v := .ref (a 45)) inX4_giveTo_X4 41 (WB_41 a c ((up (up (up (up u 44 (m) (((bn (X i) 8 : Nat) : Int))) 45 (m) (u 20 (i))) 41 (8) (b2)) 44 (m) (u 44 (m))))) rfl 6 (by decide) (List.mem_of_getElem? (i := 2) rfl) rfl dX4_giveTo_128 ?_
          refine z_iload_n C 5 dX4_giveTo_131 rfl ?_
          refine z_iload C 1 dX4_giveTo_132 rfl ?_
          refine z_iast C hK (hDD _) 0 (g := (up (up (up (up u 44 (m) (((bn (X i) 8 : Nat) : Int))) 45 (m) (u 20 (i))) 41 (8) (b2)) 44 (m) (u 44 (m))) 45) 45 (WB_45 a c ((up (up (up (up u 44 (m) (((bn (X i) 8 : Nat) : Int))) 45 (m) (u 20 (i))) 41 (8) (b2)) 44 (m) (u 44 (m))))) rfl (by decide) (by omega) (WB_45_set a c ((up (up (up (up u 44 (m) (((bn (X i) 8 : Nat) : Int))) 45 (m) (u 20 (i))) 41 (8) (b2)) 44 (m) (u 44 (m)))) m (u 45 (m))) dX4_giveTo_134 ?_
          refine z_ws (ws' := (WB a c (up u 41 (8) (b2)))) (congrArg (WB a c) (pl_rest u m _ _ _)) ?_
          exact kret 0 (up u 41 8 b2) _ _ (⟨b2, rfl, Bst_congr hB (fun t => ⟨fun q => ⟨hz, by first | (rw [if_pos (by omega)]; exact q) | (rw [if_neg (by omega)]; exact q)⟩, fun q => by have q2 := q.2; first | (rw [if_pos (show m = used by omega)] at q2; exact q2) | (rw [if_neg (show ¬ m = used by omega)] at q2; exact q2)⟩)⟩) dX4_giveTo_135
      · have hz : ¬ nz (lvs (u 20) (u 3 8) X L T i m used) := by first | exact nz_no (lvs_new (by omega)) h3 | exact nz_no (lvs_old (by omega)) h3
        exact kret 0 u _ _ (⟨u 41 8, (up_self u 41 8).symm, Bst_none hb.1 (fun t h => absurd h.1 hz)⟩) dX4_giveTo_76
    · skip
      refine z_iload C 0 dX4_giveTo_41 rfl ?_
      refine z_iload C 2 dX4_giveTo_43 rfl ?_
      refine z_as (b := ((bn (L m) 8 : Nat) : Int)) (hL m (by omega) (by omega)) ?_
      refine z_aload_n C 4 dX4_giveTo_45 rfl ?_
      refine z_get C hK (v := .ref (a 3)) inX4_giveTo_X4 41 (WB_41 a c u) rfl 0 (by decide) (List.mem_of_getElem? (i := 4) rfl) rfl dX4_giveTo_46 ?_
      refine z_getN C hK (v := .int (zI (u 3 8))) inX4_giveTo_X8 3 (WB_3 a c u) rfl 8 (by decide) (List.mem_of_getElem? (i := 37) rfl) rfl dX4_giveTo_49 ?_
      refine z_aload_n C 4 dX4_giveTo_52 rfl ?_
      refine z_get C hK (v := .ref (a 17)) inX4_giveTo_X4 41 (WB_41 a c u) rfl 1 (by decide) (List.mem_of_getElem? (i := 5) rfl) rfl dX4_giveTo_53 ?_
      refine z_getN C hK (v := .ref (a 20)) inX4_giveTo_X2 17 (WB_17 a c u) rfl 2 (by decide) (List.mem_of_getElem? (i := 36) rfl) rfl dX4_giveTo_56 ?_
      refine z_iload_n C 6 dX4_giveTo_59 rfl ?_
      refine z_iald C hK 0 (g := (u 20)) (i := i) 20 (WB_20 a c u) rfl (by decide) (by omega) dX4_giveTo_60 ?_
      refine z_as (b := u 20 (i)) rfl ?_
      have hTm := hT m (by omega) (by omega)
      have hTi := hTm.2.2 i (Int.le_refl _) (by omega)
      have hsp := pl_pc (d := u 20 i - T m) hq2 (by omega)
      refine z_iload C 1 dX4_giveTo_61 rfl ?_
      refine z_as (b := T m) ((hT m (by omega) (by omega)).1) ?_
      refine z_isub C dX4_giveTo_63 ?_
      refine z_imul C dX4_giveTo_64 ?_
      refine z_callSN C hK hDD (c_X10_spread (zl x) (zG x) ((WB a c)) (WB_addr a c) u ((L m)) ((u 3 8) * ((u 20 (i)) - (T m))) (by omega)) ggX4_giveTo_X10_spread (List.mem_of_getElem? (i := 32) rfl) (List.mem_of_getElem? (i := 7) rfl) (List.mem_of_getElem? (i := 6) rfl) rfl zy_X10_spread ⟨by omega, by decide⟩ rfl (Nat.le_of_ble_eq_true rfl) (st := [.int (zI (((bn (X i) 8 : Nat) : Int)))]) (stk2 := fun z11 => [.int (zI z11), .int (zI (((bn (X i) 8 : Nat) : Int)))]) rfl (fun _ => rfl) dX4_giveTo_65 (fun z11 u12 h13 => ?_)
      rw [h13.1]; replace h13 := h13.2
      refine z_as (b := ((bn (sprd ((L m)) ((u 3 8) * ((u 20 (i)) - (T m)))) 8 : Nat) : Int)) h13 ?_
      refine z_iand C (((bn (fun q => X i q && sprd (L m) (u 3 8 * (u 20 i - T m)) q) 8 : Nat) : Int)) dX4_giveTo_68 (by rw [zI_and, bn_and]) ?_
      refine z_istore C [(7, .int (zI (((bn (fun q => X i q && sprd (L m) (u 3 8 * (u 20 i - T m)) q) 8 : Nat) : Int)))), (6, .int (zI (u 45 (m)))), (5, .int (zI (u 44 (m)))), (4, .int (zI 0)), (0, .ref (a 41)), (1, .int (zI m)), (2, .int (zI i)), (3, .int (zI used))] dX4_giveTo_69 (by decide) rfl ?_
      refine z_iload C 0 dX4_giveTo_71 rfl ?_
      refine z_if_ne C 77 dX4_giveTo_73 (by decide) (by have h1 := bn_8 (X i) (n := 8) (by omega); have h2 := bn_8 (fun q => X i q && sprd (L m) (u 3 8 * (u 20 i - T m)) q) (n := 8) (by omega); omega) (fun h14 => ?_) (fun h14 => ?_)
      · have hz : nz (lvs (u 20) (u 3 8) X L T i m used) := by first | exact nz_yes (lvs_new (by omega)) h14 | exact nz_yes (lvs_old (by omega)) h14
        refine z_aload_n C 4 dX4_giveTo_77 rfl ?_
        refine z_get C hK (v := .ref (a 44)) inX4_giveTo_X4 41 (WB_41 a c u) rfl 5 (by decide) (List.mem_of_getElem? (i := 1) rfl) rfl dX4_giveTo_78 ?_
        refine z_iload_n C 5 dX4_giveTo_81 rfl ?_
        refine z_iload C 0 dX4_giveTo_82 rfl ?_
        refine z_iast C hK (hDD _) 0 (g := u 44) 44 (WB_44 a c u) rfl (by decide) (by omega) (WB_44_set a c u m (((bn (fun q => X i q && sprd (L m) (u 3 8 * (u 20 i - T m)) q) 8 : Nat) : Int))) dX4_giveTo_84 ?_
        refine z_aload_n C 4 dX4_giveTo_85 rfl ?_
        refine z_get C hK (v := .ref (a 45)) inX4_giveTo_X4 41 (WB_41 a c ((up u 44 (m) (((bn (fun q => X i q && sprd (L m) (u 3 8 * (u 20 i - T m)) q) 8 : Nat) : Int))))) rfl 6 (by decide) (List.mem_of_getElem? (i := 2) rfl) rfl dX4_giveTo_86 ?_
        refine z_iload_n C 5 dX4_giveTo_89 rfl ?_
        refine z_aload_n C 4 dX4_giveTo_90 rfl ?_
        refine z_get C hK (v := .ref (a 17)) inX4_giveTo_X4 41 (WB_41 a c ((up u 44 (m) (((bn (fun q => X i q && sprd (L m) (u 3 8 * (u 20 i - T m)) q) 8 : Nat) : Int))))) rfl 1 (by decide) (List.mem_of_getElem? (i := 5) rfl) rfl dX4_giveTo_91 ?_
        refine z_getN C hK (v := .ref (a 20)) inX4_giveTo_X2 17 (WB_17 a c ((up u 44 (m) (((bn (fun q => X i q && sprd (L m) (u 3 8 * (u 20 i - T m)) q) 8 : Nat) : Int))))) rfl 2 (by decide) (List.mem_of_getElem? (i := 36) rfl) rfl dX4_giveTo_94 ?_
        refine z_iload_n C 6 dX4_giveTo_97 rfl ?_
        refine z_iald C hK 0 (g := (u 20)) (i := i) 20 (WB_20 a c ((up u 44 (m) (((bn (fun q => X i q && sprd (L m) (u 3 8 * (u 20 i - T m)) q) 8 : Nat) : Int))))) rfl (by decide) (by omega) dX4_giveTo_98 ?_
        refine z_as (b := u 20 (i)) rfl ?_
        refine z_iast C hK (hDD _) 0 (g := (up u 44 (m) (((bn (fun q => X i q && sprd (L m) (u 3 8 * (u 20 i - T m)) q) 8 : Nat) : Int))) 45) 45 (WB_45 a c ((up u 44 (m) (((bn (fun q => X i q && sprd (L m) (u 3 8 * (u 20 i - T m)) q) 8 : Nat) : Int))))) rfl (by decide) (by omega) (WB_45_set a c ((up u 44 (m) (((bn (fun q => X i q && sprd (L m) (u 3 8 * (u 20 i - T m)) q) 8 : Nat) : Int)))) m (u 20 (i))) dX4_giveTo_99 ?_
        refine z_aload_n C 4 dX4_giveTo_100 rfl ?_
        refine z_iload_n C 6 dX4_giveTo_101 rfl ?_
        refine z_iconst C dX4_giveTo_102 ?_
        refine z_iadd C dX4_giveTo_103 ?_
        refine z_iload C 3 dX4_giveTo_104 rfl ?_
        refine z_if_eq C 115 dX4_giveTo_106 (by decide) (by omega) (fun h15 => ?_) (fun h15 => ?_)
        · skip
          refine z_iload_n C 7 dX4_giveTo_115 rfl ?_
          refine z_callV C hK hDD (c_X4_giveToMen_5 (zl x) (zG x) a c ((up (up u 44 (m) (((bn (fun q => X i q && sprd (L m) (u 3 8 * (u 20 i - T m)) q) 8 : Nat) : Int))) 45 (m) (u 20 (i)))) (i + 1) used E X ((fun j => if j = m then lvs (u 20) (u 3 8) X L T i m used else L j)) ((fun j => if j = m then u 20 i else T j)) (show (i + 1) = (u 17 8) - 5 by omega) (show 0 ≤ (i + 1) by omega) (show 0 ≤ used ∧ used ≤ 3 by omega) (hQ) (show 0 ≤ (u 41 8) ∧ (u 41 8) ≤ 4 by omega) (hX) (hE) (pl_hL hL (by first | exact Or.inl (by omega) | exact Or.inr ⟨by omega, by omega⟩) (by first | exact lvs_new (by omega) | exact lvs_old (by omega))) (pl_hT (by omega) hmi.1 hQ.2.2.2 hT (by first | exact Or.inl (by omega) | exact Or.inr ⟨by omega, by omega⟩))) gX4_giveTo_X4_giveToMen rfl zy_X4_giveToMen 41 (WB_41 a c ((up (up u 44 (m) (((bn (fun q => X i q && sprd (L m) (u 3 8 * (u 20 i - T m)) q) 8 : Nat) : Int))) 45 (m) (u 20 (i))))) rfl ⟨by omega, by decide⟩ rfl (Nat.le_of_ble_eq_true rfl) (st := []) (stk2 := fun _ => []) rfl (fun _ => rfl) dX4_giveTo_116 (fun z16 u17 h18 => ?_)
          obtain ⟨b2, e1, hB⟩ := h18
          rw [e1]
          change Z x 0 0 (WB a c (up (up (up u 44 (m) (((bn (fun q => X i q && sprd (L m) (u 3 8 * (u 20 i - T m)) q) 8 : Nat) : Int))) 45 (m) (u 20 (i))) 41 (8) (b2))) _ _ _
          refine z_aload_n C 4 dX4_giveTo_119 rfl ?_
          refine z_get C hK (v := .ref (a 44)) inX4_giveTo_X4 41 (WB_41 a c ((up (up (up u 44 (m) (((bn (fun q => X i q && sprd (L m) (u 3 8 * (u 20 i - T m)) q) 8 : Nat) : Int))) 45 (m) (u 20 (i))) 41 (8) (b2)))) rfl 5 (by decide) (List.mem_of_getElem? (i := 1) rfl) rfl dX4_giveTo_120 ?_
          refine z_iload_n C 5 dX4_giveTo_123 rfl ?_
          refine z_iload C 2 dX4_giveTo_124 rfl ?_
          refine z_iast C hK (hDD _) 0 (g := (up (up (up u 44 (m) (((bn (fun q => X i q && sprd (L m) (u 3 8 * (u 20 i - T m)) q) 8 : Nat) : Int))) 45 (m) (u 20 (i))) 41 (8) (b2)) 44) 44 (WB_44 a c ((up (up (up u 44 (m) (((bn (fun q => X i q && sprd (L m) (u 3 8 * (u 20 i - T m)) q) 8 : Nat) : Int))) 45 (m) (u 20 (i))) 41 (8) (b2)))) rfl (by decide) (by omega) (WB_44_set a c ((up (up (up u 44 (m) (((bn (fun q => X i q && sprd (L m) (u 3 8 * (u 20 i - T m)) q) 8 : Nat) : Int))) 45 (m) (u 20 (i))) 41 (8) (b2))) m (u 44 (m))) dX4_giveTo_126 ?_
          refine z_aload_n C 4 dX4_giveTo_127 rfl ?_
          refine z_get C hK (v := .ref (a 45)) inX4_giveTo_X4 41 (WB_41 a c ((up (up (up (up u 44 (m) (((bn (fun q => X i q && sprd (L m) (u 3 8 * (u 20 i - T m)) q) 8 : Nat) : Int))) 45 (m) (u 20 (i))) 41 (8) (b2)) 44 (m) (u 44 (m))))) rfl 6 (by decide) (List.mem_of_getElem? (i := 2) rfl) rfl dX4_giveTo_128 ?_
          refine z_iload_n C 5 dX4_giveTo_131 rfl ?_
          refine z_iload C 1 dX4_giveTo_132 rfl ?_
          refine z_iast C hK (hDD _) 0 (g := (up (up (up (up u 44 (m) (((bn (fun q => X i q && sprd (L m) (u 3 8 * (u 20 i - T m)) q) 8 : Nat) : Int))) 45 (m) (u 20 (i))) 41 (8) (b2)) 44 (m) (u 44 (m))) 45) 45 (WB_45 a c ((up (up (up (up u 44 (m) (((bn (fun q => X i q && sprd (L m) (u 3 8 * (u 20 i - T m)) q) 8 : Nat) : Int))) 45 (m) (u 20 (i))) 41 (8) (b2)) 44 (m) (u 44 (m))))) rfl (by decide) (by omega) (WB_45_set a c ((up (up (up (up u 44 (m) (((bn (fun q => X i q && sprd (L m) (u 3 8 * (u 20 i - T m)) q) 8 : Nat) : Int))) 45 (m) (u 20 (i))) 41 (8) (b2)) 44 (m) (u 44 (m)))) m (u 45 (m))) dX4_giveTo_134 ?_
          refine z_ws (ws' := (WB a c (up u 41 (8) (b2)))) (congrArg (WB a c) (pl_rest u m _ _ _)) ?_
          exact kret 0 (up u 41 8 b2) _ _ (⟨b2, rfl, Bst_congr hB (fun t => ⟨fun q => ⟨hz, by first | (rw [if_pos (by omega)]; exact q) | (rw [if_neg (by omega)]; exact q)⟩, fun q => by have q2 := q.2; first | (rw [if_pos (show m = used by omega)] at q2; exact q2) | (rw [if_neg (show ¬ m = used by omega)] at q2; exact q2)⟩)⟩) dX4_giveTo_135
        · skip
          refine z_iload_n C 7 dX4_giveTo_109 rfl ?_
          refine z_iconst C dX4_giveTo_110 ?_
          refine z_iadd C dX4_giveTo_111 ?_
          refine z_goto C 116 dX4_giveTo_112 (by decide) ?_
          refine z_callV C hK hDD (c_X4_giveToMen_5 (zl x) (zG x) a c ((up (up u 44 (m) (((bn (fun q => X i q && sprd (L m) (u 3 8 * (u 20 i - T m)) q) 8 : Nat) : Int))) 45 (m) (u 20 (i)))) (i + 1) (used + 1) E X ((fun j => if j = m then lvs (u 20) (u 3 8) X L T i m used else L j)) ((fun j => if j = m then u 20 i else T j)) (show (i + 1) = (u 17 8) - 5 by omega) (show 0 ≤ (i + 1) by omega) (show 0 ≤ (used + 1) ∧ (used + 1) ≤ 3 by omega) (hQ) (show 0 ≤ (u 41 8) ∧ (u 41 8) ≤ 4 by omega) (hX) (hE) (pl_hL hL (by first | exact Or.inl (by omega) | exact Or.inr ⟨by omega, by omega⟩) (by first | exact lvs_new (by omega) | exact lvs_old (by omega))) (pl_hT (by omega) hmi.1 hQ.2.2.2 hT (by first | exact Or.inl (by omega) | exact Or.inr ⟨by omega, by omega⟩))) gX4_giveTo_X4_giveToMen rfl zy_X4_giveToMen 41 (WB_41 a c ((up (up u 44 (m) (((bn (fun q => X i q && sprd (L m) (u 3 8 * (u 20 i - T m)) q) 8 : Nat) : Int))) 45 (m) (u 20 (i))))) rfl ⟨by omega, by decide⟩ rfl (Nat.le_of_ble_eq_true rfl) (st := []) (stk2 := fun _ => []) rfl (fun _ => rfl) dX4_giveTo_116 (fun z19 u20 h21 => ?_)
          obtain ⟨b2, e1, hB⟩ := h21
          rw [e1]
          change Z x 0 0 (WB a c (up (up (up u 44 (m) (((bn (fun q => X i q && sprd (L m) (u 3 8 * (u 20 i - T m)) q) 8 : Nat) : Int))) 45 (m) (u 20 (i))) 41 (8) (b2))) _ _ _
          refine z_aload_n C 4 dX4_giveTo_119 rfl ?_
          refine z_get C hK (v := .ref (a 44)) inX4_giveTo_X4 41 (WB_41 a c ((up (up (up u 44 (m) (((bn (fun q => X i q && sprd (L m) (u 3 8 * (u 20 i - T m)) q) 8 : Nat) : Int))) 45 (m) (u 20 (i))) 41 (8) (b2)))) rfl 5 (by decide) (List.mem_of_getElem? (i := 1) rfl) rfl dX4_giveTo_120 ?_
          refine z_iload_n C 5 dX4_giveTo_123 rfl ?_
          refine z_iload C 2 dX4_giveTo_124 rfl ?_
          refine z_iast C hK (hDD _) 0 (g := (up (up (up u 44 (m) (((bn (fun q => X i q && sprd (L m) (u 3 8 * (u 20 i - T m)) q) 8 : Nat) : Int))) 45 (m) (u 20 (i))) 41 (8) (b2)) 44) 44 (WB_44 a c ((up (up (up u 44 (m) (((bn (fun q => X i q && sprd (L m) (u 3 8 * (u 20 i - T m)) q) 8 : Nat) : Int))) 45 (m) (u 20 (i))) 41 (8) (b2)))) rfl (by decide) (by omega) (WB_44_set a c ((up (up (up u 44 (m) (((bn (fun q => X i q && sprd (L m) (u 3 8 * (u 20 i - T m)) q) 8 : Nat) : Int))) 45 (m) (u 20 (i))) 41 (8) (b2))) m (u 44 (m))) dX4_giveTo_126 ?_
          refine z_aload_n C 4 dX4_giveTo_127 rfl ?_
          refine z_get C hK (v := .ref (a 45)) inX4_giveTo_X4 41 (WB_41 a c ((up (up (up (up u 44 (m) (((bn (fun q => X i q && sprd (L m) (u 3 8 * (u 20 i - T m)) q) 8 : Nat) : Int))) 45 (m) (u 20 (i))) 41 (8) (b2)) 44 (m) (u 44 (m))))) rfl 6 (by decide) (List.mem_of_getElem? (i := 2) rfl) rfl dX4_giveTo_128 ?_
          refine z_iload_n C 5 dX4_giveTo_131 rfl ?_
          refine z_iload C 1 dX4_giveTo_132 rfl ?_
          refine z_iast C hK (hDD _) 0 (g := (up (up (up (up u 44 (m) (((bn (fun q => X i q && sprd (L m) (u 3 8 * (u 20 i - T m)) q) 8 : Nat) : Int))) 45 (m) (u 20 (i))) 41 (8) (b2)) 44 (m) (u 44 (m))) 45) 45 (WB_45 a c ((up (up (up (up u 44 (m) (((bn (fun q => X i q && sprd (L m) (u 3 8 * (u 20 i - T m)) q) 8 : Nat) : Int))) 45 (m) (u 20 (i))) 41 (8) (b2)) 44 (m) (u 44 (m))))) rfl (by decide) (by omega) (WB_45_set a c ((up (up (up (up u 44 (m) (((bn (fun q => X i q && sprd (L m) (u 3 8 * (u 20 i - T m)) q) 8 : Nat) : Int))) 45 (m) (u 20 (i))) 41 (8) (b2)) 44 (m) (u 44 (m)))) m (u 45 (m))) dX4_giveTo_134 ?_
          refine z_ws (ws' := (WB a c (up u 41 (8) (b2)))) (congrArg (WB a c) (pl_rest u m _ _ _)) ?_
          exact kret 0 (up u 41 8 b2) _ _ (⟨b2, rfl, Bst_congr hB (fun t => ⟨fun q => ⟨hz, by first | (rw [if_pos (by omega)]; exact q) | (rw [if_neg (by omega)]; exact q)⟩, fun q => by have q2 := q.2; first | (rw [if_pos (show m = used by omega)] at q2; exact q2) | (rw [if_neg (show ¬ m = used by omega)] at q2; exact q2)⟩)⟩) dX4_giveTo_135
      · have hz : ¬ nz (lvs (u 20) (u 3 8) X L T i m used) := by first | exact nz_no (lvs_new (by omega)) h14 | exact nz_no (lvs_old (by omega)) h14
        exact kret 0 u _ _ (⟨u 41 8, (up_self u 41 8).symm, Bst_none hb.1 (fun t h => absurd h.1 hz)⟩) dX4_giveTo_76
  · skip
    refine z_iconst C dX4_giveTo_5 ?_
    refine z_goto C 10 dX4_giveTo_6 (by decide) ?_
    refine z_istore C [(4, .int (zI 1)), (0, .ref (a 41)), (1, .int (zI m)), (2, .int (zI i)), (3, .int (zI used))] dX4_giveTo_10 (by decide) rfl ?_
    refine z_aload_n C 1 dX4_giveTo_12 rfl ?_
    refine z_get C hK (v := .ref (a 44)) inX4_giveTo_X4 41 (WB_41 a c u) rfl 5 (by decide) (List.mem_of_getElem? (i := 1) rfl) rfl dX4_giveTo_13 ?_
    refine z_iload_n C 2 dX4_giveTo_16 rfl ?_
    refine z_iald C hK 0 (g := (u 44)) (i := m) 44 (WB_44 a c u) rfl (by decide) (by omega) dX4_giveTo_17 ?_
    refine z_as (b := u 44 (m)) rfl ?_
    refine z_istore C [(5, .int (zI (u 44 (m)))), (4, .int (zI 1)), (0, .ref (a 41)), (1, .int (zI m)), (2, .int (zI i)), (3, .int (zI used))] dX4_giveTo_18 (by decide) rfl ?_
    refine z_aload_n C 2 dX4_giveTo_20 rfl ?_
    refine z_get C hK (v := .ref (a 45)) inX4_giveTo_X4 41 (WB_41 a c u) rfl 6 (by decide) (List.mem_of_getElem? (i := 2) rfl) rfl dX4_giveTo_21 ?_
    refine z_iload_n C 3 dX4_giveTo_24 rfl ?_
    refine z_iald C hK 0 (g := (u 45)) (i := m) 45 (WB_45 a c u) rfl (by decide) (by omega) dX4_giveTo_25 ?_
    refine z_as (b := u 45 (m)) rfl ?_
    refine z_istore C [(6, .int (zI (u 45 (m)))), (5, .int (zI (u 44 (m)))), (4, .int (zI 1)), (0, .ref (a 41)), (1, .int (zI m)), (2, .int (zI i)), (3, .int (zI used))] dX4_giveTo_26 (by decide) rfl ?_
    refine z_aload_n C 3 dX4_giveTo_28 rfl ?_
    refine z_get C hK (v := .ref (a 42)) inX4_giveTo_X4 41 (WB_41 a c u) rfl 3 (by decide) (List.mem_of_getElem? (i := 3) rfl) rfl dX4_giveTo_29 ?_
    refine z_iload_n C 5 dX4_giveTo_32 rfl ?_
    refine z_iald C hK 0 (g := (u 42)) (i := i) 42 (WB_42 a c u) rfl (by decide) (by omega) dX4_giveTo_33 ?_
    refine z_as (b := u 42 (i)) rfl ?_
    refine z_as (b := ((bn (X i) 8 : Nat) : Int)) (hX i (by omega) (by omega)) ?_
    refine z_istore C [(7, .int (zI (((bn (X i) 8 : Nat) : Int)))), (6, .int (zI (u 45 (m)))), (5, .int (zI (u 44 (m)))), (4, .int (zI 1)), (0, .ref (a 41)), (1, .int (zI m)), (2, .int (zI i)), (3, .int (zI used))] dX4_giveTo_34 (by decide) rfl ?_
    refine z_iload C 3 dX4_giveTo_36 rfl ?_
    refine z_if_ne C 71 dX4_giveTo_38 (by decide) (by omega) (fun h22 => ?_) (fun h22 => ?_)
    · skip
      refine z_iload C 0 dX4_giveTo_71 rfl ?_
      refine z_if_ne C 77 dX4_giveTo_73 (by decide) (by have h1 := bn_8 (X i) (n := 8) (by omega); have h2 := bn_8 (fun q => X i q && sprd (L m) (u 3 8 * (u 20 i - T m)) q) (n := 8) (by omega); omega) (fun h23 => ?_) (fun h23 => ?_)
      · have hz : nz (lvs (u 20) (u 3 8) X L T i m used) := by first | exact nz_yes (lvs_new (by omega)) h23 | exact nz_yes (lvs_old (by omega)) h23
        refine z_aload_n C 4 dX4_giveTo_77 rfl ?_
        refine z_get C hK (v := .ref (a 44)) inX4_giveTo_X4 41 (WB_41 a c u) rfl 5 (by decide) (List.mem_of_getElem? (i := 1) rfl) rfl dX4_giveTo_78 ?_
        refine z_iload_n C 5 dX4_giveTo_81 rfl ?_
        refine z_iload C 0 dX4_giveTo_82 rfl ?_
        refine z_iast C hK (hDD _) 0 (g := u 44) 44 (WB_44 a c u) rfl (by decide) (by omega) (WB_44_set a c u m (((bn (X i) 8 : Nat) : Int))) dX4_giveTo_84 ?_
        refine z_aload_n C 4 dX4_giveTo_85 rfl ?_
        refine z_get C hK (v := .ref (a 45)) inX4_giveTo_X4 41 (WB_41 a c ((up u 44 (m) (((bn (X i) 8 : Nat) : Int))))) rfl 6 (by decide) (List.mem_of_getElem? (i := 2) rfl) rfl dX4_giveTo_86 ?_
        refine z_iload_n C 5 dX4_giveTo_89 rfl ?_
        refine z_aload_n C 4 dX4_giveTo_90 rfl ?_
        refine z_get C hK (v := .ref (a 17)) inX4_giveTo_X4 41 (WB_41 a c ((up u 44 (m) (((bn (X i) 8 : Nat) : Int))))) rfl 1 (by decide) (List.mem_of_getElem? (i := 5) rfl) rfl dX4_giveTo_91 ?_
        refine z_getN C hK (v := .ref (a 20)) inX4_giveTo_X2 17 (WB_17 a c ((up u 44 (m) (((bn (X i) 8 : Nat) : Int))))) rfl 2 (by decide) (List.mem_of_getElem? (i := 36) rfl) rfl dX4_giveTo_94 ?_
        refine z_iload_n C 6 dX4_giveTo_97 rfl ?_
        refine z_iald C hK 0 (g := (u 20)) (i := i) 20 (WB_20 a c ((up u 44 (m) (((bn (X i) 8 : Nat) : Int))))) rfl (by decide) (by omega) dX4_giveTo_98 ?_
        refine z_as (b := u 20 (i)) rfl ?_
        refine z_iast C hK (hDD _) 0 (g := (up u 44 (m) (((bn (X i) 8 : Nat) : Int))) 45) 45 (WB_45 a c ((up u 44 (m) (((bn (X i) 8 : Nat) : Int))))) rfl (by decide) (by omega) (WB_45_set a c ((up u 44 (m) (((bn (X i) 8 : Nat) : Int)))) m (u 20 (i))) dX4_giveTo_99 ?_
        refine z_aload_n C 4 dX4_giveTo_100 rfl ?_
        refine z_iload_n C 6 dX4_giveTo_101 rfl ?_
        refine z_iconst C dX4_giveTo_102 ?_
        refine z_iadd C dX4_giveTo_103 ?_
        refine z_iload C 3 dX4_giveTo_104 rfl ?_
        refine z_if_eq C 115 dX4_giveTo_106 (by decide) (by omega) (fun h24 => ?_) (fun h24 => ?_)
        · skip
          refine z_iload_n C 7 dX4_giveTo_115 rfl ?_
          refine z_callV C hK hDD (c_X4_giveToMen_5 (zl x) (zG x) a c ((up (up u 44 (m) (((bn (X i) 8 : Nat) : Int))) 45 (m) (u 20 (i)))) (i + 1) used E X ((fun j => if j = m then lvs (u 20) (u 3 8) X L T i m used else L j)) ((fun j => if j = m then u 20 i else T j)) (show (i + 1) = (u 17 8) - 5 by omega) (show 0 ≤ (i + 1) by omega) (show 0 ≤ used ∧ used ≤ 3 by omega) (hQ) (show 0 ≤ (u 41 8) ∧ (u 41 8) ≤ 4 by omega) (hX) (hE) (pl_hL hL (by first | exact Or.inl (by omega) | exact Or.inr ⟨by omega, by omega⟩) (by first | exact lvs_new (by omega) | exact lvs_old (by omega))) (pl_hT (by omega) hmi.1 hQ.2.2.2 hT (by first | exact Or.inl (by omega) | exact Or.inr ⟨by omega, by omega⟩))) gX4_giveTo_X4_giveToMen rfl zy_X4_giveToMen 41 (WB_41 a c ((up (up u 44 (m) (((bn (X i) 8 : Nat) : Int))) 45 (m) (u 20 (i))))) rfl ⟨by omega, by decide⟩ rfl (Nat.le_of_ble_eq_true rfl) (st := []) (stk2 := fun _ => []) rfl (fun _ => rfl) dX4_giveTo_116 (fun z25 u26 h27 => ?_)
          obtain ⟨b2, e1, hB⟩ := h27
          rw [e1]
          change Z x 0 0 (WB a c (up (up (up u 44 (m) (((bn (X i) 8 : Nat) : Int))) 45 (m) (u 20 (i))) 41 (8) (b2))) _ _ _
          refine z_aload_n C 4 dX4_giveTo_119 rfl ?_
          refine z_get C hK (v := .ref (a 44)) inX4_giveTo_X4 41 (WB_41 a c ((up (up (up u 44 (m) (((bn (X i) 8 : Nat) : Int))) 45 (m) (u 20 (i))) 41 (8) (b2)))) rfl 5 (by decide) (List.mem_of_getElem? (i := 1) rfl) rfl dX4_giveTo_120 ?_
          refine z_iload_n C 5 dX4_giveTo_123 rfl ?_
          refine z_iload C 2 dX4_giveTo_124 rfl ?_
          refine z_iast C hK (hDD _) 0 (g := (up (up (up u 44 (m) (((bn (X i) 8 : Nat) : Int))) 45 (m) (u 20 (i))) 41 (8) (b2)) 44) 44 (WB_44 a c ((up (up (up u 44 (m) (((bn (X i) 8 : Nat) : Int))) 45 (m) (u 20 (i))) 41 (8) (b2)))) rfl (by decide) (by omega) (WB_44_set a c ((up (up (up u 44 (m) (((bn (X i) 8 : Nat) : Int))) 45 (m) (u 20 (i))) 41 (8) (b2))) m (u 44 (m))) dX4_giveTo_126 ?_
          refine z_aload_n C 4 dX4_giveTo_127 rfl ?_
          refine z_get C hK (v := .ref (a 45)) inX4_giveTo_X4 41 (WB_41 a c ((up (up (up (up u 44 (m) (((bn (X i) 8 : Nat) : Int))) 45 (m) (u 20 (i))) 41 (8) (b2)) 44 (m) (u 44 (m))))) rfl 6 (by decide) (List.mem_of_getElem? (i := 2) rfl) rfl dX4_giveTo_128 ?_
          refine z_iload_n C 5 dX4_giveTo_131 rfl ?_
          refine z_iload C 1 dX4_giveTo_132 rfl ?_
          refine z_iast C hK (hDD _) 0 (g := (up (up (up (up u 44 (m) (((bn (X i) 8 : Nat) : Int))) 45 (m) (u 20 (i))) 41 (8) (b2)) 44 (m) (u 44 (m))) 45) 45 (WB_45 a c ((up (up (up (up u 44 (m) (((bn (X i) 8 : Nat) : Int))) 45 (m) (u 20 (i))) 41 (8) (b2)) 44 (m) (u 44 (m))))) rfl (by decide) (by omega) (WB_45_set a c ((up (up (up (up u 44 (m) (((bn (X i) 8 : Nat) : Int))) 45 (m) (u 20 (i))) 41 (8) (b2)) 44 (m) (u 44 (m)))) m (u 45 (m))) dX4_giveTo_134 ?_
          refine z_ws (ws' := (WB a c (up u 41 (8) (b2)))) (congrArg (WB a c) (pl_rest u m _ _ _)) ?_
          exact kret 0 (up u 41 8 b2) _ _ (⟨b2, rfl, Bst_congr hB (fun t => ⟨fun q => ⟨hz, by first | (rw [if_pos (by omega)]; exact q) | (rw [if_neg (by omega)]; exact q)⟩, fun q => by have q2 := q.2; first | (rw [if_pos (show m = used by omega)] at q2; exact q2) | (rw [if_neg (show ¬ m = used by omega)] at q2; exact q2)⟩)⟩) dX4_giveTo_135
        · skip
          refine z_iload_n C 7 dX4_giveTo_109 rfl ?_
          refine z_iconst C dX4_giveTo_110 ?_
          refine z_iadd C dX4_giveTo_111 ?_
          refine z_goto C 116 dX4_giveTo_112 (by decide) ?_
          refine z_callV C hK hDD (c_X4_giveToMen_5 (zl x) (zG x) a c ((up (up u 44 (m) (((bn (X i) 8 : Nat) : Int))) 45 (m) (u 20 (i)))) (i + 1) (used + 1) E X ((fun j => if j = m then lvs (u 20) (u 3 8) X L T i m used else L j)) ((fun j => if j = m then u 20 i else T j)) (show (i + 1) = (u 17 8) - 5 by omega) (show 0 ≤ (i + 1) by omega) (show 0 ≤ (used + 1) ∧ (used + 1) ≤ 3 by omega) (hQ) (show 0 ≤ (u 41 8) ∧ (u 41 8) ≤ 4 by omega) (hX) (hE) (pl_hL hL (by first | exact Or.inl (by omega) | exact Or.inr ⟨by omega, by omega⟩) (by first | exact lvs_new (by omega) | exact lvs_old (by omega))) (pl_hT (by omega) hmi.1 hQ.2.2.2 hT (by first | exact Or.inl (by omega) | exact Or.inr ⟨by omega, by omega⟩))) gX4_giveTo_X4_giveToMen rfl zy_X4_giveToMen 41 (WB_41 a c ((up (up u 44 (m) (((bn (X i) 8 : Nat) : Int))) 45 (m) (u 20 (i))))) rfl ⟨by omega, by decide⟩ rfl (Nat.le_of_ble_eq_true rfl) (st := []) (stk2 := fun _ => []) rfl (fun _ => rfl) dX4_giveTo_116 (fun z28 u29 h30 => ?_)
          obtain ⟨b2, e1, hB⟩ := h30
          rw [e1]
          change Z x 0 0 (WB a c (up (up (up u 44 (m) (((bn (X i) 8 : Nat) : Int))) 45 (m) (u 20 (i))) 41 (8) (b2))) _ _ _
          refine z_aload_n C 4 dX4_giveTo_119 rfl ?_
          refine z_get C hK (v := .ref (a 44)) inX4_giveTo_X4 41 (WB_41 a c ((up (up (up u 44 (m) (((bn (X i) 8 : Nat) : Int))) 45 (m) (u 20 (i))) 41 (8) (b2)))) rfl 5 (by decide) (List.mem_of_getElem? (i := 1) rfl) rfl dX4_giveTo_120 ?_
          refine z_iload_n C 5 dX4_giveTo_123 rfl ?_
          refine z_iload C 2 dX4_giveTo_124 rfl ?_
          refine z_iast C hK (hDD _) 0 (g := (up (up (up u 44 (m) (((bn (X i) 8 : Nat) : Int))) 45 (m) (u 20 (i))) 41 (8) (b2)) 44) 44 (WB_44 a c ((up (up (up u 44 (m) (((bn (X i) 8 : Nat) : Int))) 45 (m) (u 20 (i))) 41 (8) (b2)))) rfl (by decide) (by omega) (WB_44_set a c ((up (up (up u 44 (m) (((bn (X i) 8 : Nat) : Int))) 45 (m) (u 20 (i))) 41 (8) (b2))) m (u 44 (m))) dX4_giveTo_126 ?_
          refine z_aload_n C 4 dX4_giveTo_127 rfl ?_
          refine z_get C hK (v := .ref (a 45)) inX4_giveTo_X4 41 (WB_41 a c ((up (up (up (up u 44 (m) (((bn (X i) 8 : Nat) : Int))) 45 (m) (u 20 (i))) 41 (8) (b2)) 44 (m) (u 44 (m))))) rfl 6 (by decide) (List.mem_of_getElem? (i := 2) rfl) rfl dX4_giveTo_128 ?_
          refine z_iload_n C 5 dX4_giveTo_131 rfl ?_
          refine z_iload C 1 dX4_giveTo_132 rfl ?_
          refine z_iast C hK (hDD _) 0 (g := (up (up (up (up u 44 (m) (((bn (X i) 8 : Nat) : Int))) 45 (m) (u 20 (i))) 41 (8) (b2)) 44 (m) (u 44 (m))) 45) 45 (WB_45 a c ((up (up (up (up u 44 (m) (((bn (X i) 8 : Nat) : Int))) 45 (m) (u 20 (i))) 41 (8) (b2)) 44 (m) (u 44 (m))))) rfl (by decide) (by omega) (WB_45_set a c ((up (up (up (up u 44 (m) (((bn (X i) 8 : Nat) : Int))) 45 (m) (u 20 (i))) 41 (8) (b2)) 44 (m) (u 44 (m)))) m (u 45 (m))) dX4_giveTo_134 ?_
          refine z_ws (ws' := (WB a c (up u 41 (8) (b2)))) (congrArg (WB a c) (pl_rest u m _ _ _)) ?_
          exact kret 0 (up u 41 8 b2) _ _ (⟨b2, rfl, Bst_congr hB (fun t => ⟨fun q => ⟨hz, by first | (rw [if_pos (by omega)]; exact q) | (rw [if_neg (by omega)]; exact q)⟩, fun q => by have q2 := q.2; first | (rw [if_pos (show m = used by omega)] at q2; exact q2) | (rw [if_neg (show ¬ m = used by omega)] at q2; exact q2)⟩)⟩) dX4_giveTo_135
      · have hz : ¬ nz (lvs (u 20) (u 3 8) X L T i m used) := by first | exact nz_no (lvs_new (by omega)) h23 | exact nz_no (lvs_old (by omega)) h23
        exact kret 0 u _ _ (⟨u 41 8, (up_self u 41 8).symm, Bst_none hb.1 (fun t h => absurd h.1 hz)⟩) dX4_giveTo_76
    · skip
      refine z_iload C 0 dX4_giveTo_41 rfl ?_
      refine z_iload C 2 dX4_giveTo_43 rfl ?_
      refine z_as (b := ((bn (L m) 8 : Nat) : Int)) (hL m (by omega) (by omega)) ?_
      refine z_aload_n C 4 dX4_giveTo_45 rfl ?_
      refine z_get C hK (v := .ref (a 3)) inX4_giveTo_X4 41 (WB_41 a c u) rfl 0 (by decide) (List.mem_of_getElem? (i := 4) rfl) rfl dX4_giveTo_46 ?_
      refine z_getN C hK (v := .int (zI (u 3 8))) inX4_giveTo_X8 3 (WB_3 a c u) rfl 8 (by decide) (List.mem_of_getElem? (i := 37) rfl) rfl dX4_giveTo_49 ?_
      refine z_aload_n C 4 dX4_giveTo_52 rfl ?_
      refine z_get C hK (v := .ref (a 17)) inX4_giveTo_X4 41 (WB_41 a c u) rfl 1 (by decide) (List.mem_of_getElem? (i := 5) rfl) rfl dX4_giveTo_53 ?_
      refine z_getN C hK (v := .ref (a 20)) inX4_giveTo_X2 17 (WB_17 a c u) rfl 2 (by decide) (List.mem_of_getElem? (i := 36) rfl) rfl dX4_giveTo_56 ?_
      refine z_iload_n C 6 dX4_giveTo_59 rfl ?_
      refine z_iald C hK 0 (g := (u 20)) (i := i) 20 (WB_20 a c u) rfl (by decide) (by omega) dX4_giveTo_60 ?_
      refine z_as (b := u 20 (i)) rfl ?_
      have hTm := hT m (by omega) (by omega)
      have hTi := hTm.2.2 i (Int.le_refl _) (by omega)
      have hsp := pl_pc (d := u 20 i - T m) hq2 (by omega)
      refine z_iload C 1 dX4_giveTo_61 rfl ?_
      refine z_as (b := T m) ((hT m (by omega) (by omega)).1) ?_
      refine z_isub C dX4_giveTo_63 ?_
      refine z_imul C dX4_giveTo_64 ?_
      refine z_callSN C hK hDD (c_X10_spread (zl x) (zG x) ((WB a c)) (WB_addr a c) u ((L m)) ((u 3 8) * ((u 20 (i)) - (T m))) (by omega)) ggX4_giveTo_X10_spread (List.mem_of_getElem? (i := 32) rfl) (List.mem_of_getElem? (i := 7) rfl) (List.mem_of_getElem? (i := 6) rfl) rfl zy_X10_spread ⟨by omega, by decide⟩ rfl (Nat.le_of_ble_eq_true rfl) (st := [.int (zI (((bn (X i) 8 : Nat) : Int)))]) (stk2 := fun z31 => [.int (zI z31), .int (zI (((bn (X i) 8 : Nat) : Int)))]) rfl (fun _ => rfl) dX4_giveTo_65 (fun z31 u32 h33 => ?_)
      rw [h33.1]; replace h33 := h33.2
      refine z_as (b := ((bn (sprd ((L m)) ((u 3 8) * ((u 20 (i)) - (T m)))) 8 : Nat) : Int)) h33 ?_
      refine z_iand C (((bn (fun q => X i q && sprd (L m) (u 3 8 * (u 20 i - T m)) q) 8 : Nat) : Int)) dX4_giveTo_68 (by rw [zI_and, bn_and]) ?_
      refine z_istore C [(7, .int (zI (((bn (fun q => X i q && sprd (L m) (u 3 8 * (u 20 i - T m)) q) 8 : Nat) : Int)))), (6, .int (zI (u 45 (m)))), (5, .int (zI (u 44 (m)))), (4, .int (zI 1)), (0, .ref (a 41)), (1, .int (zI m)), (2, .int (zI i)), (3, .int (zI used))] dX4_giveTo_69 (by decide) rfl ?_
      refine z_iload C 0 dX4_giveTo_71 rfl ?_
      refine z_if_ne C 77 dX4_giveTo_73 (by decide) (by have h1 := bn_8 (X i) (n := 8) (by omega); have h2 := bn_8 (fun q => X i q && sprd (L m) (u 3 8 * (u 20 i - T m)) q) (n := 8) (by omega); omega) (fun h34 => ?_) (fun h34 => ?_)
      · have hz : nz (lvs (u 20) (u 3 8) X L T i m used) := by first | exact nz_yes (lvs_new (by omega)) h34 | exact nz_yes (lvs_old (by omega)) h34
        refine z_aload_n C 4 dX4_giveTo_77 rfl ?_
        refine z_get C hK (v := .ref (a 44)) inX4_giveTo_X4 41 (WB_41 a c u) rfl 5 (by decide) (List.mem_of_getElem? (i := 1) rfl) rfl dX4_giveTo_78 ?_
        refine z_iload_n C 5 dX4_giveTo_81 rfl ?_
        refine z_iload C 0 dX4_giveTo_82 rfl ?_
        refine z_iast C hK (hDD _) 0 (g := u 44) 44 (WB_44 a c u) rfl (by decide) (by omega) (WB_44_set a c u m (((bn (fun q => X i q && sprd (L m) (u 3 8 * (u 20 i - T m)) q) 8 : Nat) : Int))) dX4_giveTo_84 ?_
        refine z_aload_n C 4 dX4_giveTo_85 rfl ?_
        refine z_get C hK (v := .ref (a 45)) inX4_giveTo_X4 41 (WB_41 a c ((up u 44 (m) (((bn (fun q => X i q && sprd (L m) (u 3 8 * (u 20 i - T m)) q) 8 : Nat) : Int))))) rfl 6 (by decide) (List.mem_of_getElem? (i := 2) rfl) rfl dX4_giveTo_86 ?_
        refine z_iload_n C 5 dX4_giveTo_89 rfl ?_
        refine z_aload_n C 4 dX4_giveTo_90 rfl ?_
        refine z_get C hK (v := .ref (a 17)) inX4_giveTo_X4 41 (WB_41 a c ((up u 44 (m) (((bn (fun q => X i q && sprd (L m) (u 3 8 * (u 20 i - T m)) q) 8 : Nat) : Int))))) rfl 1 (by decide) (List.mem_of_getElem? (i := 5) rfl) rfl dX4_giveTo_91 ?_
        refine z_getN C hK (v := .ref (a 20)) inX4_giveTo_X2 17 (WB_17 a c ((up u 44 (m) (((bn (fun q => X i q && sprd (L m) (u 3 8 * (u 20 i - T m)) q) 8 : Nat) : Int))))) rfl 2 (by decide) (List.mem_of_getElem? (i := 36) rfl) rfl dX4_giveTo_94 ?_
        refine z_iload_n C 6 dX4_giveTo_97 rfl ?_
        refine z_iald C hK 0 (g := (u 20)) (i := i) 20 (WB_20 a c ((up u 44 (m) (((bn (fun q => X i q && sprd (L m) (u 3 8 * (u 20 i - T m)) q) 8 : Nat) : Int))))) rfl (by decide) (by omega) dX4_giveTo_98 ?_
        refine z_as (b := u 20 (i)) rfl ?_
        refine z_iast C hK (hDD _) 0 (g := (up u 44 (m) (((bn (fun q => X i q && sprd (L m) (u 3 8 * (u 20 i - T m)) q) 8 : Nat) : Int))) 45) 45 (WB_45 a c ((up u 44 (m) (((bn (fun q => X i q && sprd (L m) (u 3 8 * (u 20 i - T m)) q) 8 : Nat) : Int))))) rfl (by decide) (by omega) (WB_45_set a c ((up u 44 (m) (((bn (fun q => X i q && sprd (L m) (u 3 8 * (u 20 i - T m)) q) 8 : Nat) : Int)))) m (u 20 (i))) dX4_giveTo_99 ?_
        refine z_aload_n C 4 dX4_giveTo_100 rfl ?_
        refine z_iload_n C 6 dX4_giveTo_101 rfl ?_
        refine z_iconst C dX4_giveTo_102 ?_
        refine z_iadd C dX4_giveTo_103 ?_
        refine z_iload C 3 dX4_giveTo_104 rfl ?_
        refine z_if_eq C 115 dX4_giveTo_106 (by decide) (by omega) (fun h35 => ?_) (fun h35 => ?_)
        · skip
          refine z_iload_n C 7 dX4_giveTo_115 rfl ?_
          refine z_callV C hK hDD (c_X4_giveToMen_5 (zl x) (zG x) a c ((up (up u 44 (m) (((bn (fun q => X i q && sprd (L m) (u 3 8 * (u 20 i - T m)) q) 8 : Nat) : Int))) 45 (m) (u 20 (i)))) (i + 1) used E X ((fun j => if j = m then lvs (u 20) (u 3 8) X L T i m used else L j)) ((fun j => if j = m then u 20 i else T j)) (show (i + 1) = (u 17 8) - 5 by omega) (show 0 ≤ (i + 1) by omega) (show 0 ≤ used ∧ used ≤ 3 by omega) (hQ) (show 0 ≤ (u 41 8) ∧ (u 41 8) ≤ 4 by omega) (hX) (hE) (pl_hL hL (by first | exact Or.inl (by omega) | exact Or.inr ⟨by omega, by omega⟩) (by first | exact lvs_new (by omega) | exact lvs_old (by omega))) (pl_hT (by omega) hmi.1 hQ.2.2.2 hT (by first | exact Or.inl (by omega) | exact Or.inr ⟨by omega, by omega⟩))) gX4_giveTo_X4_giveToMen rfl zy_X4_giveToMen 41 (WB_41 a c ((up (up u 44 (m) (((bn (fun q => X i q && sprd (L m) (u 3 8 * (u 20 i - T m)) q) 8 : Nat) : Int))) 45 (m) (u 20 (i))))) rfl ⟨by omega, by decide⟩ rfl (Nat.le_of_ble_eq_true rfl) (st := []) (stk2 := fun _ => []) rfl (fun _ => rfl) dX4_giveTo_116 (fun z36 u37 h38 => ?_)
          obtain ⟨b2, e1, hB⟩ := h38
          rw [e1]
          change Z x 0 0 (WB a c (up (up (up u 44 (m) (((bn (fun q => X i q && sprd (L m) (u 3 8 * (u 20 i - T m)) q) 8 : Nat) : Int))) 45 (m) (u 20 (i))) 41 (8) (b2))) _ _ _
          refine z_aload_n C 4 dX4_giveTo_119 rfl ?_
          refine z_get C hK (v := .ref (a 44)) inX4_giveTo_X4 41 (WB_41 a c ((up (up (up u 44 (m) (((bn (fun q => X i q && sprd (L m) (u 3 8 * (u 20 i - T m)) q) 8 : Nat) : Int))) 45 (m) (u 20 (i))) 41 (8) (b2)))) rfl 5 (by decide) (List.mem_of_getElem? (i := 1) rfl) rfl dX4_giveTo_120 ?_
          refine z_iload_n C 5 dX4_giveTo_123 rfl ?_
          refine z_iload C 2 dX4_giveTo_124 rfl ?_
          refine z_iast C hK (hDD _) 0 (g := (up (up (up u 44 (m) (((bn (fun q => X i q && sprd (L m) (u 3 8 * (u 20 i - T m)) q) 8 : Nat) : Int))) 45 (m) (u 20 (i))) 41 (8) (b2)) 44) 44 (WB_44 a c ((up (up (up u 44 (m) (((bn (fun q => X i q && sprd (L m) (u 3 8 * (u 20 i - T m)) q) 8 : Nat) : Int))) 45 (m) (u 20 (i))) 41 (8) (b2)))) rfl (by decide) (by omega) (WB_44_set a c ((up (up (up u 44 (m) (((bn (fun q => X i q && sprd (L m) (u 3 8 * (u 20 i - T m)) q) 8 : Nat) : Int))) 45 (m) (u 20 (i))) 41 (8) (b2))) m (u 44 (m))) dX4_giveTo_126 ?_
          refine z_aload_n C 4 dX4_giveTo_127 rfl ?_
          refine z_get C hK (v := .ref (a 45)) inX4_giveTo_X4 41 (WB_41 a c ((up (up (up (up u 44 (m) (((bn (fun q => X i q && sprd (L m) (u 3 8 * (u 20 i - T m)) q) 8 : Nat) : Int))) 45 (m) (u 20 (i))) 41 (8) (b2)) 44 (m) (u 44 (m))))) rfl 6 (by decide) (List.mem_of_getElem? (i := 2) rfl) rfl dX4_giveTo_128 ?_
          refine z_iload_n C 5 dX4_giveTo_131 rfl ?_
          refine z_iload C 1 dX4_giveTo_132 rfl ?_
          refine z_iast C hK (hDD _) 0 (g := (up (up (up (up u 44 (m) (((bn (fun q => X i q && sprd (L m) (u 3 8 * (u 20 i - T m)) q) 8 : Nat) : Int))) 45 (m) (u 20 (i))) 41 (8) (b2)) 44 (m) (u 44 (m))) 45) 45 (WB_45 a c ((up (up (up (up u 44 (m) (((bn (fun q => X i q && sprd (L m) (u 3 8 * (u 20 i - T m)) q) 8 : Nat) : Int))) 45 (m) (u 20 (i))) 41 (8) (b2)) 44 (m) (u 44 (m))))) rfl (by decide) (by omega) (WB_45_set a c ((up (up (up (up u 44 (m) (((bn (fun q => X i q && sprd (L m) (u 3 8 * (u 20 i - T m)) q) 8 : Nat) : Int))) 45 (m) (u 20 (i))) 41 (8) (b2)) 44 (m) (u 44 (m)))) m (u 45 (m))) dX4_giveTo_134 ?_
          refine z_ws (ws' := (WB a c (up u 41 (8) (b2)))) (congrArg (WB a c) (pl_rest u m _ _ _)) ?_
          exact kret 0 (up u 41 8 b2) _ _ (⟨b2, rfl, Bst_congr hB (fun t => ⟨fun q => ⟨hz, by first | (rw [if_pos (by omega)]; exact q) | (rw [if_neg (by omega)]; exact q)⟩, fun q => by have q2 := q.2; first | (rw [if_pos (show m = used by omega)] at q2; exact q2) | (rw [if_neg (show ¬ m = used by omega)] at q2; exact q2)⟩)⟩) dX4_giveTo_135
        · skip
          refine z_iload_n C 7 dX4_giveTo_109 rfl ?_
          refine z_iconst C dX4_giveTo_110 ?_
          refine z_iadd C dX4_giveTo_111 ?_
          refine z_goto C 116 dX4_giveTo_112 (by decide) ?_
          refine z_callV C hK hDD (c_X4_giveToMen_5 (zl x) (zG x) a c ((up (up u 44 (m) (((bn (fun q => X i q && sprd (L m) (u 3 8 * (u 20 i - T m)) q) 8 : Nat) : Int))) 45 (m) (u 20 (i)))) (i + 1) (used + 1) E X ((fun j => if j = m then lvs (u 20) (u 3 8) X L T i m used else L j)) ((fun j => if j = m then u 20 i else T j)) (show (i + 1) = (u 17 8) - 5 by omega) (show 0 ≤ (i + 1) by omega) (show 0 ≤ (used + 1) ∧ (used + 1) ≤ 3 by omega) (hQ) (show 0 ≤ (u 41 8) ∧ (u 41 8) ≤ 4 by omega) (hX) (hE) (pl_hL hL (by first | exact Or.inl (by omega) | exact Or.inr ⟨by omega, by omega⟩) (by first | exact lvs_new (by omega) | exact lvs_old (by omega))) (pl_hT (by omega) hmi.1 hQ.2.2.2 hT (by first | exact Or.inl (by omega) | exact Or.inr ⟨by omega, by omega⟩))) gX4_giveTo_X4_giveToMen rfl zy_X4_giveToMen 41 (WB_41 a c ((up (up u 44 (m) (((bn (fun q => X i q && sprd (L m) (u 3 8 * (u 20 i - T m)) q) 8 : Nat) : Int))) 45 (m) (u 20 (i))))) rfl ⟨by omega, by decide⟩ rfl (Nat.le_of_ble_eq_true rfl) (st := []) (stk2 := fun _ => []) rfl (fun _ => rfl) dX4_giveTo_116 (fun z39 u40 h41 => ?_)
          obtain ⟨b2, e1, hB⟩ := h41
          rw [e1]
          change Z x 0 0 (WB a c (up (up (up u 44 (m) (((bn (fun q => X i q && sprd (L m) (u 3 8 * (u 20 i - T m)) q) 8 : Nat) : Int))) 45 (m) (u 20 (i))) 41 (8) (b2))) _ _ _
          refine z_aload_n C 4 dX4_giveTo_119 rfl ?_
          refine z_get C hK (v := .ref (a 44)) inX4_giveTo_X4 41 (WB_41 a c ((up (up (up u 44 (m) (((bn (fun q => X i q && sprd (L m) (u 3 8 * (u 20 i - T m)) q) 8 : Nat) : Int))) 45 (m) (u 20 (i))) 41 (8) (b2)))) rfl 5 (by decide) (List.mem_of_getElem? (i := 1) rfl) rfl dX4_giveTo_120 ?_
          refine z_iload_n C 5 dX4_giveTo_123 rfl ?_
          refine z_iload C 2 dX4_giveTo_124 rfl ?_
          refine z_iast C hK (hDD _) 0 (g := (up (up (up u 44 (m) (((bn (fun q => X i q && sprd (L m) (u 3 8 * (u 20 i - T m)) q) 8 : Nat) : Int))) 45 (m) (u 20 (i))) 41 (8) (b2)) 44) 44 (WB_44 a c ((up (up (up u 44 (m) (((bn (fun q => X i q && sprd (L m) (u 3 8 * (u 20 i - T m)) q) 8 : Nat) : Int))) 45 (m) (u 20 (i))) 41 (8) (b2)))) rfl (by decide) (by omega) (WB_44_set a c ((up (up (up u 44 (m) (((bn (fun q => X i q && sprd (L m) (u 3 8 * (u 20 i - T m)) q) 8 : Nat) : Int))) 45 (m) (u 20 (i))) 41 (8) (b2))) m (u 44 (m))) dX4_giveTo_126 ?_
          refine z_aload_n C 4 dX4_giveTo_127 rfl ?_
          refine z_get C hK (v := .ref (a 45)) inX4_giveTo_X4 41 (WB_41 a c ((up (up (up (up u 44 (m) (((bn (fun q => X i q && sprd (L m) (u 3 8 * (u 20 i - T m)) q) 8 : Nat) : Int))) 45 (m) (u 20 (i))) 41 (8) (b2)) 44 (m) (u 44 (m))))) rfl 6 (by decide) (List.mem_of_getElem? (i := 2) rfl) rfl dX4_giveTo_128 ?_
          refine z_iload_n C 5 dX4_giveTo_131 rfl ?_
          refine z_iload C 1 dX4_giveTo_132 rfl ?_
          refine z_iast C hK (hDD _) 0 (g := (up (up (up (up u 44 (m) (((bn (fun q => X i q && sprd (L m) (u 3 8 * (u 20 i - T m)) q) 8 : Nat) : Int))) 45 (m) (u 20 (i))) 41 (8) (b2)) 44 (m) (u 44 (m))) 45) 45 (WB_45 a c ((up (up (up (up u 44 (m) (((bn (fun q => X i q && sprd (L m) (u 3 8 * (u 20 i - T m)) q) 8 : Nat) : Int))) 45 (m) (u 20 (i))) 41 (8) (b2)) 44 (m) (u 44 (m))))) rfl (by decide) (by omega) (WB_45_set a c ((up (up (up (up u 44 (m) (((bn (fun q => X i q && sprd (L m) (u 3 8 * (u 20 i - T m)) q) 8 : Nat) : Int))) 45 (m) (u 20 (i))) 41 (8) (b2)) 44 (m) (u 44 (m)))) m (u 45 (m))) dX4_giveTo_134 ?_
          refine z_ws (ws' := (WB a c (up u 41 (8) (b2)))) (congrArg (WB a c) (pl_rest u m _ _ _)) ?_
          exact kret 0 (up u 41 8 b2) _ _ (⟨b2, rfl, Bst_congr hB (fun t => ⟨fun q => ⟨hz, by first | (rw [if_pos (by omega)]; exact q) | (rw [if_neg (by omega)]; exact q)⟩, fun q => by have q2 := q.2; first | (rw [if_pos (show m = used by omega)] at q2; exact q2) | (rw [if_neg (show ¬ m = used by omega)] at q2; exact q2)⟩)⟩) dX4_giveTo_135
      · have hz : ¬ nz (lvs (u 20) (u 3 8) X L T i m used) := by first | exact nz_no (lvs_new (by omega)) h34 | exact nz_no (lvs_old (by omega)) h34
        exact kret 0 u _ _ (⟨u 41 8, (up_self u 41 8).symm, Bst_none hb.1 (fun t h => absurd h.1 hz)⟩) dX4_giveTo_76
-- NoteBells$Pluckers.giveToMen
set_option maxHeartbeats 8000000 in
set_option maxRecDepth 100000 in
theorem c_X4_giveToMen_6 (l : Launch) (D : va_G) (a : Nat → Nat) (c : Nat → ClassId) (u : zU) (i used : Int) (E : Int → Bool) (X L : Int → Nat → Bool) (T : Int → Int) (hi : i = u 17 8 - 6) (b_i : 0 ≤ i) (hu : 0 ≤ used ∧ used ≤ 3) (hQ : PQ (u 17 8) (u 3 8) (u 20)) (hb : 0 ≤ u 41 8 ∧ u 41 8 ≤ 4) (hX : ∀ k : Int, 0 ≤ k → k < u 17 8 → u 42 k = ((bn (X k) 8 : Nat) : Int)) (hE : ∀ k : Int, 0 ≤ k → k < u 17 8 → u 43 k = if E k = true then 1 else 0) (hL : ∀ j : Int, 0 ≤ j → j < used → u 44 j = ((bn (L j) 8 : Nat) : Int)) (hT : ∀ j : Int, 0 ≤ j → j < used → u 45 j = T j ∧ 0 ≤ T j ∧ ∀ k : Int, i ≤ k → k < u 17 8 → T j ≤ u 20 k) : ZM l D (zTy c) (WB a c) yX4_giveToMen wsX4_giveToMen 15 [.ref (a 41), .int (zI i), .int (zI used)] u rV (fun z u' => ∃ b' : Int, u' = up u 41 8 b' ∧ Bst (u 41 8) b' (fun t => Can (u 20) (u 3 8) (u 17 8) E X 6 L T used t)) := by
  refine ZM.ofV (cc := cX4_giveToMen) (maxL := 4) [(0, .ref (a 41)), (1, .int (zI i)), (2, .int (zI used))] rfl (by decide +kernel) rfl (Nat.le_of_ble_eq_true rfl) (WB_addr a c) ?_
  intro x C hK _ _ hDD kret
  have hq1 := hQ.1
  have hq2 := hQ.2.1
  refine z_iload_n C 2 dX4_giveToMen_0 rfl ?_
  refine z_aload_n C 0 dX4_giveToMen_1 rfl ?_
  refine z_get C hK (v := .int (zI (u 41 8))) inX4_giveToMen_X4 41 (WB_41 a c u) rfl 8 (by decide) (List.mem_of_getElem? (i := 1) rfl) rfl dX4_giveToMen_2 ?_
  refine z_icmp_lt C 9 dX4_giveToMen_5 (by decide) (by omega) (fun h1 => ?_) (fun h1 => ?_)
  · skip
    refine z_iload_n C 1 dX4_giveToMen_9 rfl ?_
    refine z_aload_n C 0 dX4_giveToMen_10 rfl ?_
    refine z_get C hK (v := .ref (a 17)) inX4_giveToMen_X4 41 (WB_41 a c u) rfl 1 (by decide) (List.mem_of_getElem? (i := 2) rfl) rfl dX4_giveToMen_11 ?_
    refine z_getN C hK (v := .int (zI (u 17 8))) inX4_giveToMen_X2 17 (WB_17 a c u) rfl 8 (by decide) (List.mem_of_getElem? (i := 34) rfl) rfl dX4_giveToMen_14 ?_
    refine z_icmp_lt C 26 dX4_giveToMen_17 (by decide) (by omega) (fun h2 => ?_) (fun h2 => ?_)
    · skip
      refine z_aload_n C 0 dX4_giveToMen_26 rfl ?_
      refine z_get C hK (v := .ref (a 43)) inX4_giveToMen_X4 41 (WB_41 a c u) rfl 4 (by decide) (List.mem_of_getElem? (i := 3) rfl) rfl dX4_giveToMen_27 ?_
      refine z_iload_n C 1 dX4_giveToMen_30 rfl ?_
      refine z_zald C hK 1 (g := (u 43)) (i := i) 43 (WB_43 a c u) rfl (by decide) (by omega) dX4_giveToMen_31 ?_
      refine z_as (b := u 43 (i)) rfl ?_
      refine z_as (b := (if E i = true then 1 else 0)) (hE i (by omega) (by omega)) ?_
      refine z_if_eq C 44 dX4_giveToMen_32 (by decide) (by split <;> omega) (fun h3 => ?_) (fun h3 => ?_)
      · have hEi := ite01_eq h3
        refine z_iconst C dX4_giveToMen_44 ?_
        refine z_ws (ws' := (WB a c (up u 41 (8) ((u 41 8))))) (congrArg (WB a c) (up_self u 41 8).symm) ?_
        refine z_istore_n C [(3, .int (zI 0)), (0, .ref (a 41)), (1, .int (zI i)), (2, .int (zI used))] dX4_giveToMen_45 rfl (by decide) rfl ?_
        have L46_4 : ∀ (fu : Nat) (m : Int) (b : Int), (0 ≤ m ∧ m ≤ used + 1 ∧ m ≤ 3) → (E i = false) → (Bst (u 41 8) b (fun t => ∃ k : Int, 0 ≤ k ∧ k < m ∧ Gv (u 20) (u 3 8) (u 17 8) E X 5 i L T used k t)) → 3 - m < (fu : Int) → Z x 0 0 (WB a c (up u 41 (8) (b))) [(0, .ref (a 41)), (1, .int (zI i)), (2, .int (zI used)), (3, .int (zI m))] 46 [] := by
          intro fu
          induction fu with
          | zero => intro m b hm hEf hB hmeas; exfalso; omega
          | succ fu ih46 =>
            intro m b hm hEf hB hmeas
            refine z_iload_n C 3 dX4_giveToMen_46 rfl ?_
            refine z_iload_n C 2 dX4_giveToMen_47 rfl ?_
            refine z_icmp_gt C 69 dX4_giveToMen_48 (by decide) (by omega) (fun h5 => ?_) (fun h5 => ?_)
            · skip
              exact kret 0 (up u 41 8 b) _ _ (⟨b, rfl, Bst_congr hB (Can_give (by omega) hEf (by omega))⟩) dX4_giveToMen_69
            · skip
              refine z_iload_n C 3 dX4_giveToMen_51 rfl ?_
              refine z_iconst C dX4_giveToMen_52 ?_
              refine z_icmp_ge C 69 dX4_giveToMen_53 (by decide) (by omega) (fun h6 => ?_) (fun h6 => ?_)
              · skip
                exact kret 0 (up u 41 8 b) _ _ (⟨b, rfl, Bst_congr hB (Can_give (by omega) hEf (by omega))⟩) dX4_giveToMen_69
              · skip
                refine z_aload_n C 0 dX4_giveToMen_56 rfl ?_
                refine z_iload_n C 3 dX4_giveToMen_57 rfl ?_
                refine z_iload_n C 1 dX4_giveToMen_58 rfl ?_
                refine z_iload_n C 2 dX4_giveToMen_59 rfl ?_
                refine z_callV C hK hDD (c_X4_giveTo_6 (zl x) (zG x) a c ((up u 41 (8) (b))) m i used E X L T (show i = (u 17 8) - 6 by omega) (show 0 ≤ i ∧ i < (u 17 8) by omega) (show 0 ≤ m ∧ m ≤ used ∧ m < 3 by omega) (show 0 ≤ used ∧ used ≤ 3 by omega) (hQ) (show 0 ≤ b ∧ b ≤ 4 from ⟨hB.1.1, Int.le_trans hB.1.2 hb.2⟩) (hX) (hE) (hL) (hT)) gX4_giveToMen_X4_giveTo rfl zy_X4_giveTo 41 (WB_41 a c ((up u 41 (8) (b)))) rfl ⟨by omega, by decide⟩ rfl (Nat.le_of_ble_eq_true rfl) (st := []) (stk2 := fun _ => []) rfl (fun _ => rfl) dX4_giveToMen_60 (fun z7 u8 h9 => ?_)
                obtain ⟨b2, e1, hB2⟩ := h9
                rw [e1]
                change Z x 0 0 (WB a c (up u 41 (8) (b2))) _ _ _
                refine z_iinc C 3 [(3, .int (zI (m + 1))), (0, .ref (a 41)), (1, .int (zI i)), (2, .int (zI used))] dX4_giveToMen_63 rfl (by decide) rfl ?_
                refine z_goto C 46 dX4_giveToMen_66 (by decide) ?_
                refine z_lv [(0, .ref (a 41)), (1, .int (zI i)), (2, .int (zI used)), (3, .int (zI (m + 1)))] [1, 2, 3, 0] rfl ?_
                exact ih46 (m + 1) b2 (by omega) (hEf) (Bst_trans hB hB2 (gv_grow hm.1)) (by omega)
        refine z_lv [(0, .ref (a 41)), (1, .int (zI i)), (2, .int (zI used)), (3, .int (zI 0))] [1, 2, 3, 0] rfl ?_
        exact L46_4 (((3 - 0 : Int)).toNat + 1) 0 ((u 41 8)) (by omega) (hEi) (Bst_gv0 hb.1) (by omega)
      · have hEi := ite01_ne h3
        refine z_aload_n C 0 dX4_giveToMen_35 rfl ?_
        refine z_iload_n C 1 dX4_giveToMen_36 rfl ?_
        refine z_iconst C dX4_giveToMen_37 ?_
        refine z_iadd C dX4_giveToMen_38 ?_
        refine z_iload_n C 2 dX4_giveToMen_39 rfl ?_
        refine z_callV C hK hDD (c_X4_giveToMen_5 (zl x) (zG x) a c u (i + 1) used E X L T (by omega) (by omega) (by omega) (hQ) (by omega) (hX) (hE) (hL) (fun j h0 h1 => ⟨(hT j h0 h1).1, (hT j h0 h1).2.1, fun k h2 h3 => (hT j h0 h1).2.2 k (by omega) h3⟩)) gX4_giveToMen_X4_giveToMen rfl zy_X4_giveToMen 41 (WB_41 a c u) rfl ⟨by omega, by decide⟩ rfl (Nat.le_of_ble_eq_true rfl) (st := []) (stk2 := fun _ => []) rfl (fun _ => rfl) dX4_giveToMen_40 (fun z10 u11 h12 => ?_)
        obtain ⟨b2, e1, hB⟩ := h12
        rw [e1]
        change Z x 0 0 (WB a c (up u 41 (8) (b2))) _ _ _
        exact kret 0 (up u 41 8 b2) _ _ (⟨b2, rfl, Bst_congr hB (Can_echo (by omega) hEi)⟩) dX4_giveToMen_43
    · exfalso; omega
  · skip
    exact kret 0 u _ _ (⟨u 41 8, (up_self u 41 8).symm, Bst_none hb.1 (fun t h => by have := Can_ge h; omega)⟩) dX4_giveToMen_8
-- NoteBells$Pluckers.chooseEchoes
theorem inX4_chooseEchoes_X4 : ∀ w ∈ wsX40, w ∈ wsX4_chooseEchoes := fun w h => List.mem_cons_of_mem _ (List.mem_append_left _ (List.mem_append_left _ (List.mem_append_right _ (h))))
theorem inX4_chooseEchoes_X2 : ∀ w ∈ wsX20, w ∈ wsX4_chooseEchoes := fun w h => List.mem_cons_of_mem _ (List.mem_append_left _ (List.mem_append_right _ (h)))
set_option maxHeartbeats 8000000 in
set_option maxRecDepth 100000 in
theorem c_X4_chooseEchoes_0 (l : Launch) (D : va_G) (a : Nat → Nat) (c : Nat → ClassId) (u : zU) (i : Int) (E : Int → Bool) (X : Int → Nat → Bool) (ec : Nat → Bool) (hi : i = u 17 8 - 0) (b_i : 0 ≤ i) (hQ : PQ (u 17 8) (u 3 8) (u 20)) (hb : 0 ≤ u 41 8 ∧ u 41 8 ≤ 4) (hX : ∀ k : Int, 0 ≤ k → k < u 17 8 → u 42 k = ((bn (X k) 8 : Nat) : Int)) (hE : ∀ k : Int, 0 ≤ k → k < u 17 8 → u 43 k = if E k = true then 1 else 0) (hE0 : E 0 = false) (hEi : ∀ k : Int, i ≤ k → k < u 17 8 → E k = false) (hec : u 41 7 = ((bn ec 8 : Nat) : Int)) : ZM l D (zTy c) (WB a c) yX4_chooseEchoes wsX4_chooseEchoes 16 [.ref (a 41), .int (zI i)] u rV (fun z u' => ∃ b' : Int, u' = up u 41 8 b' ∧ Bst (u 41 8) b' (fun t => CanE (u 20) (u 3 8) (u 17 8) ec 0 E X t)) := by
  refine ZM.ofV (cc := cX4_chooseEchoes) (maxL := 3) [(0, .ref (a 41)), (1, .int (zI i))] rfl (by decide +kernel) rfl (Nat.le_of_ble_eq_true rfl) (WB_addr a c) ?_
  intro x C hK _ _ hDD kret
  have hq1 := hQ.1
  have hq2 := hQ.2.1
  refine z_iload_n C 1 dX4_chooseEchoes_0 rfl ?_
  refine z_aload_n C 0 dX4_chooseEchoes_1 rfl ?_
  refine z_get C hK (v := .ref (a 17)) inX4_chooseEchoes_X4 41 (WB_41 a c u) rfl 1 (by decide) (List.mem_of_getElem? (i := 1) rfl) rfl dX4_chooseEchoes_2 ?_
  refine z_getN C hK (v := .int (zI (u 17 8))) inX4_chooseEchoes_X2 17 (WB_17 a c u) rfl 8 (by decide) (List.mem_of_getElem? (i := 34) rfl) rfl dX4_chooseEchoes_5 ?_
  refine z_icmp_lt C 18 dX4_chooseEchoes_8 (by decide) (by omega) (fun h1 => ?_) (fun h1 => ?_)
  · exfalso; omega
  · skip
    rcases (by omega : u 17 8 = 1 ∨ u 17 8 = 2 ∨ u 17 8 = 3 ∨ u 17 8 = 4 ∨ u 17 8 = 5 ∨ u 17 8 = 6) with hn_ | hn_ | hn_ | hn_ | hn_ | hn_
    · skip
      refine z_aload_n C 0 dX4_chooseEchoes_11 rfl ?_
      refine z_iconst C dX4_chooseEchoes_12 ?_
      refine z_iconst C dX4_chooseEchoes_13 ?_
      refine z_callV C hK hDD (c_X4_giveToMen_1 (zl x) (zG x) a c u 0 0 E X ((fun _ _ => false)) ((fun _ => 0)) (by omega) (by omega) (by omega) (hQ) (by omega) (hX) (hE) (fun j h0 h1 => absurd h1 (by omega)) (fun j h0 h1 => absurd h1 (by omega))) gX4_chooseEchoes_X4_giveToMen rfl zy_X4_giveToMen 41 (WB_41 a c u) rfl ⟨by omega, by decide⟩ rfl (Nat.le_of_ble_eq_true rfl) (st := []) (stk2 := fun _ => []) rfl (fun _ => rfl) dX4_chooseEchoes_14 (fun z2 u3 h4 => ?_)
      obtain ⟨b2, e1, hB⟩ := h4
      rw [e1]
      change Z x 0 0 (WB a c (up u 41 (8) (b2))) _ _ _
      exact kret 0 (up u 41 8 b2) _ _ (⟨b2, rfl, CanE_0 hB (by omega) rfl rfl⟩) dX4_chooseEchoes_17
    · skip
      refine z_aload_n C 0 dX4_chooseEchoes_11 rfl ?_
      refine z_iconst C dX4_chooseEchoes_12 ?_
      refine z_iconst C dX4_chooseEchoes_13 ?_
      refine z_callV C hK hDD (c_X4_giveToMen_2 (zl x) (zG x) a c u 0 0 E X ((fun _ _ => false)) ((fun _ => 0)) (by omega) (by omega) (by omega) (hQ) (by omega) (hX) (hE) (fun j h0 h1 => absurd h1 (by omega)) (fun j h0 h1 => absurd h1 (by omega))) gX4_chooseEchoes_X4_giveToMen rfl zy_X4_giveToMen 41 (WB_41 a c u) rfl ⟨by omega, by decide⟩ rfl (Nat.le_of_ble_eq_true rfl) (st := []) (stk2 := fun _ => []) rfl (fun _ => rfl) dX4_chooseEchoes_14 (fun z5 u6 h7 => ?_)
      obtain ⟨b2, e1, hB⟩ := h7
      rw [e1]
      change Z x 0 0 (WB a c (up u 41 (8) (b2))) _ _ _
      exact kret 0 (up u 41 8 b2) _ _ (⟨b2, rfl, CanE_0 hB (by omega) rfl rfl⟩) dX4_chooseEchoes_17
    · skip
      refine z_aload_n C 0 dX4_chooseEchoes_11 rfl ?_
      refine z_iconst C dX4_chooseEchoes_12 ?_
      refine z_iconst C dX4_chooseEchoes_13 ?_
      refine z_callV C hK hDD (c_X4_giveToMen_3 (zl x) (zG x) a c u 0 0 E X ((fun _ _ => false)) ((fun _ => 0)) (by omega) (by omega) (by omega) (hQ) (by omega) (hX) (hE) (fun j h0 h1 => absurd h1 (by omega)) (fun j h0 h1 => absurd h1 (by omega))) gX4_chooseEchoes_X4_giveToMen rfl zy_X4_giveToMen 41 (WB_41 a c u) rfl ⟨by omega, by decide⟩ rfl (Nat.le_of_ble_eq_true rfl) (st := []) (stk2 := fun _ => []) rfl (fun _ => rfl) dX4_chooseEchoes_14 (fun z8 u9 h10 => ?_)
      obtain ⟨b2, e1, hB⟩ := h10
      rw [e1]
      change Z x 0 0 (WB a c (up u 41 (8) (b2))) _ _ _
      exact kret 0 (up u 41 8 b2) _ _ (⟨b2, rfl, CanE_0 hB (by omega) rfl rfl⟩) dX4_chooseEchoes_17
    · skip
      refine z_aload_n C 0 dX4_chooseEchoes_11 rfl ?_
      refine z_iconst C dX4_chooseEchoes_12 ?_
      refine z_iconst C dX4_chooseEchoes_13 ?_
      refine z_callV C hK hDD (c_X4_giveToMen_4 (zl x) (zG x) a c u 0 0 E X ((fun _ _ => false)) ((fun _ => 0)) (by omega) (by omega) (by omega) (hQ) (by omega) (hX) (hE) (fun j h0 h1 => absurd h1 (by omega)) (fun j h0 h1 => absurd h1 (by omega))) gX4_chooseEchoes_X4_giveToMen rfl zy_X4_giveToMen 41 (WB_41 a c u) rfl ⟨by omega, by decide⟩ rfl (Nat.le_of_ble_eq_true rfl) (st := []) (stk2 := fun _ => []) rfl (fun _ => rfl) dX4_chooseEchoes_14 (fun z11 u12 h13 => ?_)
      obtain ⟨b2, e1, hB⟩ := h13
      rw [e1]
      change Z x 0 0 (WB a c (up u 41 (8) (b2))) _ _ _
      exact kret 0 (up u 41 8 b2) _ _ (⟨b2, rfl, CanE_0 hB (by omega) rfl rfl⟩) dX4_chooseEchoes_17
    · skip
      refine z_aload_n C 0 dX4_chooseEchoes_11 rfl ?_
      refine z_iconst C dX4_chooseEchoes_12 ?_
      refine z_iconst C dX4_chooseEchoes_13 ?_
      refine z_callV C hK hDD (c_X4_giveToMen_5 (zl x) (zG x) a c u 0 0 E X ((fun _ _ => false)) ((fun _ => 0)) (by omega) (by omega) (by omega) (hQ) (by omega) (hX) (hE) (fun j h0 h1 => absurd h1 (by omega)) (fun j h0 h1 => absurd h1 (by omega))) gX4_chooseEchoes_X4_giveToMen rfl zy_X4_giveToMen 41 (WB_41 a c u) rfl ⟨by omega, by decide⟩ rfl (Nat.le_of_ble_eq_true rfl) (st := []) (stk2 := fun _ => []) rfl (fun _ => rfl) dX4_chooseEchoes_14 (fun z14 u15 h16 => ?_)
      obtain ⟨b2, e1, hB⟩ := h16
      rw [e1]
      change Z x 0 0 (WB a c (up u 41 (8) (b2))) _ _ _
      exact kret 0 (up u 41 8 b2) _ _ (⟨b2, rfl, CanE_0 hB (by omega) rfl rfl⟩) dX4_chooseEchoes_17
    · skip
      refine z_aload_n C 0 dX4_chooseEchoes_11 rfl ?_
      refine z_iconst C dX4_chooseEchoes_12 ?_
      refine z_iconst C dX4_chooseEchoes_13 ?_
      refine z_callV C hK hDD (c_X4_giveToMen_6 (zl x) (zG x) a c u 0 0 E X ((fun _ _ => false)) ((fun _ => 0)) (by omega) (by omega) (by omega) (hQ) (by omega) (hX) (hE) (fun j h0 h1 => absurd h1 (by omega)) (fun j h0 h1 => absurd h1 (by omega))) gX4_chooseEchoes_X4_giveToMen rfl zy_X4_giveToMen 41 (WB_41 a c u) rfl ⟨by omega, by decide⟩ rfl (Nat.le_of_ble_eq_true rfl) (st := []) (stk2 := fun _ => []) rfl (fun _ => rfl) dX4_chooseEchoes_14 (fun z17 u18 h19 => ?_)
      obtain ⟨b2, e1, hB⟩ := h19
      rw [e1]
      change Z x 0 0 (WB a c (up u 41 (8) (b2))) _ _ _
      exact kret 0 (up u 41 8 b2) _ _ (⟨b2, rfl, CanE_0 hB (by omega) rfl rfl⟩) dX4_chooseEchoes_17
-- NoteBells$Pluckers.chooseEchoOf
theorem inX4_chooseEchoOf_X4 : ∀ w ∈ wsX40, w ∈ wsX4_chooseEchoOf := fun w h => List.mem_cons_of_mem _ (List.mem_append_left _ (List.mem_append_left _ (List.mem_append_right _ (h))))
set_option maxHeartbeats 8000000 in
set_option maxRecDepth 100000 in
theorem c_X4_chooseEchoOf_1 (l : Launch) (D : va_G) (a : Nat → Nat) (c : Nat → ClassId) (u : zU) (j i : Int) (E : Int → Bool) (X : Int → Nat → Bool) (ec : Nat → Bool) (hi : i = u 17 8 - 1) (b_i : 0 ≤ j ∧ j < i ∧ i < u 17 8) (hQ : PQ (u 17 8) (u 3 8) (u 20)) (hb : 0 ≤ u 41 8 ∧ u 41 8 ≤ 4) (hX : ∀ k : Int, 0 ≤ k → k < u 17 8 → u 42 k = ((bn (X k) 8 : Nat) : Int)) (hE : ∀ k : Int, 0 ≤ k → k < u 17 8 → u 43 k = if E k = true then 1 else 0) (hE0 : E 0 = false) (hEi : ∀ k : Int, i ≤ k → k < u 17 8 → E k = false) (hec : u 41 7 = ((bn ec 8 : Nat) : Int)) : ZM l D (zTy c) (WB a c) yX4_chooseEchoOf wsX4_chooseEchoOf 17 [.ref (a 41), .int (zI j), .int (zI i)] u rV (fun z u' => ∃ b' : Int, u' = up u 41 8 b' ∧ Bst (u 41 8) b' (fun t => ChE (u 20) (u 3 8) (u 17 8) ec 0 i E X j t)) := by
  refine ZM.ofV (cc := cX4_chooseEchoOf) (maxL := 4) [(0, .ref (a 41)), (1, .int (zI j)), (2, .int (zI i))] rfl (by decide +kernel) rfl (Nat.le_of_ble_eq_true rfl) (WB_addr a c) ?_
  intro x C hK _ _ hDD kret
  have hq1 := hQ.1
  have hq2 := hQ.2.1
  have h43 : u 43 i = 0 := (hE i (by omega) (by omega)).trans (if_neg (by rw [hEi i (Int.le_refl _) (by omega)]; decide))
  refine z_aload_n C 0 dX4_chooseEchoOf_0 rfl ?_
  refine z_get C hK (v := .ref (a 42)) inX4_chooseEchoOf_X4 41 (WB_41 a c u) rfl 3 (by decide) (List.mem_of_getElem? (i := 1) rfl) rfl dX4_chooseEchoOf_1 ?_
  refine z_iload_n C 1 dX4_chooseEchoOf_4 rfl ?_
  refine z_iald C hK 0 (g := (u 42)) (i := j) 42 (WB_42 a c u) rfl (by decide) (by omega) dX4_chooseEchoOf_5 ?_
  refine z_as (b := u 42 (j)) rfl ?_
  refine z_istore_n C [(3, .int (zI (u 42 (j)))), (0, .ref (a 41)), (1, .int (zI j)), (2, .int (zI i))] dX4_chooseEchoOf_6 rfl (by decide) rfl ?_
  refine z_aload_n C 1 dX4_chooseEchoOf_7 rfl ?_
  refine z_get C hK (v := .ref (a 42)) inX4_chooseEchoOf_X4 41 (WB_41 a c u) rfl 3 (by decide) (List.mem_of_getElem? (i := 1) rfl) rfl dX4_chooseEchoOf_8 ?_
  refine z_iload_n C 2 dX4_chooseEchoOf_11 rfl ?_
  refine z_iload_n C 0 dX4_chooseEchoOf_12 rfl ?_
  refine z_as (b := ((bn (X j) 8 : Nat) : Int)) (hX j (by omega) (by omega)) ?_
  refine z_aload_n C 1 dX4_chooseEchoOf_13 rfl ?_
  refine z_get C hK (v := .int (zI (u 41 7))) inX4_chooseEchoOf_X4 41 (WB_41 a c u) rfl 7 (by decide) (List.mem_of_getElem? (i := 2) rfl) rfl dX4_chooseEchoOf_14 ?_
  refine z_as (b := ((bn ec 8 : Nat) : Int)) (hec) ?_
  refine z_iand C (((bn (fun q => X j q && ec q) 8 : Nat) : Int)) dX4_chooseEchoOf_17 (by rw [zI_and, bn_and]) ?_
  refine z_aload_n C 1 dX4_chooseEchoOf_18 rfl ?_
  refine z_get C hK (v := .ref (a 42)) inX4_chooseEchoOf_X4 41 (WB_41 a c u) rfl 3 (by decide) (List.mem_of_getElem? (i := 1) rfl) rfl dX4_chooseEchoOf_19 ?_
  refine z_iload_n C 3 dX4_chooseEchoOf_22 rfl ?_
  refine z_iald C hK 0 (g := (u 42)) (i := i) 42 (WB_42 a c u) rfl (by decide) (by omega) dX4_chooseEchoOf_23 ?_
  refine z_as (b := u 42 (i)) rfl ?_
  refine z_as (b := ((bn (X i) 8 : Nat) : Int)) (hX i (by omega) (by omega)) ?_
  refine z_iand C (((bn (fun q => (X j q && ec q) && X i q) 8 : Nat) : Int)) dX4_chooseEchoOf_24 (by rw [zI_and, bn_and]) ?_
  refine z_iast C hK (hDD _) 0 (g := u 42) 42 (WB_42 a c u) rfl (by decide) (by omega) (WB_42_set a c u j (((bn (fun q => (X j q && ec q) && X i q) 8 : Nat) : Int))) dX4_chooseEchoOf_25 ?_
  refine z_aload_n C 1 dX4_chooseEchoOf_26 rfl ?_
  refine z_get C hK (v := .ref (a 42)) inX4_chooseEchoOf_X4 41 (WB_41 a c ((up u 42 (j) (((bn (fun q => (X j q && ec q) && X i q) 8 : Nat) : Int))))) rfl 3 (by decide) (List.mem_of_getElem? (i := 1) rfl) rfl dX4_chooseEchoOf_27 ?_
  refine z_iload_n C 2 dX4_chooseEchoOf_30 rfl ?_
  refine z_iald C hK 0 (g := ((up u 42 (j) (((bn (fun q => (X j q && ec q) && X i q) 8 : Nat) : Int))) 42)) (i := j) 42 (WB_42 a c ((up u 42 (j) (((bn (fun q => (X j q && ec q) && X i q) 8 : Nat) : Int))))) rfl (by decide) (by omega) dX4_chooseEchoOf_31 ?_
  refine z_as (b := ((bn (fun q => (X j q && ec q) && X i q) 8 : Nat) : Int)) (up_at _ _ _ _) ?_
  refine z_if_eq C 56 dX4_chooseEchoOf_32 (by decide) (by have h1 := bn_8 (fun q => (X j q && ec q) && X i q) (n := 8) (by omega); omega) (fun h1 => ?_) (fun h1 => ?_)
  · have hz : ¬ nz (ech ec X j i) := nz_no rfl h1
    refine z_aload_n C 1 dX4_chooseEchoOf_56 rfl ?_
    refine z_get C hK (v := .ref (a 42)) inX4_chooseEchoOf_X4 41 (WB_41 a c ((up u 42 (j) (((bn (fun q => (X j q && ec q) && X i q) 8 : Nat) : Int))))) rfl 3 (by decide) (List.mem_of_getElem? (i := 1) rfl) rfl dX4_chooseEchoOf_57 ?_
    refine z_iload_n C 2 dX4_chooseEchoOf_60 rfl ?_
    refine z_iload_n C 0 dX4_chooseEchoOf_61 rfl ?_
    refine z_iast C hK (hDD _) 0 (g := (up u 42 (j) (((bn (fun q => (X j q && ec q) && X i q) 8 : Nat) : Int))) 42) 42 (WB_42 a c ((up u 42 (j) (((bn (fun q => (X j q && ec q) && X i q) 8 : Nat) : Int))))) rfl (by decide) (by omega) (WB_42_set a c ((up u 42 (j) (((bn (fun q => (X j q && ec q) && X i q) 8 : Nat) : Int)))) j (u 42 (j))) dX4_chooseEchoOf_62 ?_
    refine z_ws (ws' := (WB a c (up u 41 (8) ((u 41 8))))) (congrArg (WB a c) (pl_rest2 u j _)) ?_
    exact kret 0 ((up u 41 (8) ((u 41 8)))) _ _ (by first | exact ⟨u 41 8, rfl, Bst_none hb.1 (fun t h => absurd h.1 hz)⟩ | exact ⟨b2, rfl, Bst_congr hB (fun t => ⟨fun q => ⟨hz, q⟩, fun q => q.2⟩)⟩) dX4_chooseEchoOf_63
  · have hz : nz (ech ec X j i) := nz_yes rfl h1
    refine z_aload_n C 1 dX4_chooseEchoOf_35 rfl ?_
    refine z_get C hK (v := .ref (a 43)) inX4_chooseEchoOf_X4 41 (WB_41 a c ((up u 42 (j) (((bn (fun q => (X j q && ec q) && X i q) 8 : Nat) : Int))))) rfl 4 (by decide) (List.mem_of_getElem? (i := 3) rfl) rfl dX4_chooseEchoOf_36 ?_
    refine z_iload_n C 3 dX4_chooseEchoOf_39 rfl ?_
    refine z_iconst C dX4_chooseEchoOf_40 ?_
    refine z_zast C hK (hDD _) 1 (g := (up u 42 (j) (((bn (fun q => (X j q && ec q) && X i q) 8 : Nat) : Int))) 43) 43 (WB_43 a c ((up u 42 (j) (((bn (fun q => (X j q && ec q) && X i q) 8 : Nat) : Int))))) rfl (by decide) (by omega) (by omega) (WB_43_set a c ((up u 42 (j) (((bn (fun q => (X j q && ec q) && X i q) 8 : Nat) : Int)))) i 1) dX4_chooseEchoOf_41 ?_
    refine z_aload_n C 1 dX4_chooseEchoOf_42 rfl ?_
    refine z_iload_n C 3 dX4_chooseEchoOf_43 rfl ?_
    refine z_iconst C dX4_chooseEchoOf_44 ?_
    refine z_iadd C dX4_chooseEchoOf_45 ?_
    refine z_callV C hK hDD (c_X4_chooseEchoes_0 (zl x) (zG x) a c ((up (up u 42 (j) (((bn (fun q => (X j q && ec q) && X i q) 8 : Nat) : Int))) 43 (i) (1))) (i + 1) ((fun k => if k = i then true else E k)) ((fun k => if k = j then ech ec X j i else X k)) ec (show (i + 1) = (u 17 8) - 0 by omega) (show 0 ≤ (i + 1) by omega) (hQ) (show 0 ≤ (u 41 8) ∧ (u 41 8) ≤ 4 by omega) (pl_hX hX) (pl_hE hE) ((if_neg (show ¬ ((0 : Int) = i) by omega)).trans hE0) (fun k h0 h1 => (if_neg (show ¬ (k = i) by omega)).trans (hEi k (by omega) h1)) (hec)) gX4_chooseEchoOf_X4_chooseEchoes rfl zy_X4_chooseEchoes 41 (WB_41 a c ((up (up u 42 (j) (((bn (fun q => (X j q && ec q) && X i q) 8 : Nat) : Int))) 43 (i) (1)))) rfl ⟨by omega, by decide⟩ rfl (Nat.le_of_ble_eq_true rfl) (st := []) (stk2 := fun _ => []) rfl (fun _ => rfl) dX4_chooseEchoOf_46 (fun z2 u3 h4 => ?_)
    obtain ⟨b2, e1, hB⟩ := h4
    rw [e1]
    change Z x 0 0 (WB a c (up (up (up u 42 (j) (((bn (fun q => (X j q && ec q) && X i q) 8 : Nat) : Int))) 43 (i) (1)) 41 (8) (b2))) _ _ _
    refine z_aload_n C 1 dX4_chooseEchoOf_49 rfl ?_
    refine z_get C hK (v := .ref (a 43)) inX4_chooseEchoOf_X4 41 (WB_41 a c ((up (up (up u 42 (j) (((bn (fun q => (X j q && ec q) && X i q) 8 : Nat) : Int))) 43 (i) (1)) 41 (8) (b2)))) rfl 4 (by decide) (List.mem_of_getElem? (i := 3) rfl) rfl dX4_chooseEchoOf_50 ?_
    refine z_iload_n C 3 dX4_chooseEchoOf_53 rfl ?_
    refine z_iconst C dX4_chooseEchoOf_54 ?_
    refine z_zast C hK (hDD _) 1 (g := (up (up (up u 42 (j) (((bn (fun q => (X j q && ec q) && X i q) 8 : Nat) : Int))) 43 (i) (1)) 41 (8) (b2)) 43) 43 (WB_43 a c ((up (up (up u 42 (j) (((bn (fun q => (X j q && ec q) && X i q) 8 : Nat) : Int))) 43 (i) (1)) 41 (8) (b2)))) rfl (by decide) (by omega) (by omega) (WB_43_set a c ((up (up (up u 42 (j) (((bn (fun q => (X j q && ec q) && X i q) 8 : Nat) : Int))) 43 (i) (1)) 41 (8) (b2))) i 0) dX4_chooseEchoOf_55 ?_
    refine z_aload_n C 1 dX4_chooseEchoOf_56 rfl ?_
    refine z_get C hK (v := .ref (a 42)) inX4_chooseEchoOf_X4 41 (WB_41 a c ((up (up (up (up u 42 (j) (((bn (fun q => (X j q && ec q) && X i q) 8 : Nat) : Int))) 43 (i) (1)) 41 (8) (b2)) 43 (i) (0)))) rfl 3 (by decide) (List.mem_of_getElem? (i := 1) rfl) rfl dX4_chooseEchoOf_57 ?_
    refine z_iload_n C 2 dX4_chooseEchoOf_60 rfl ?_
    refine z_iload_n C 0 dX4_chooseEchoOf_61 rfl ?_
    refine z_iast C hK (hDD _) 0 (g := (up (up (up (up u 42 (j) (((bn (fun q => (X j q && ec q) && X i q) 8 : Nat) : Int))) 43 (i) (1)) 41 (8) (b2)) 43 (i) (0)) 42) 42 (WB_42 a c ((up (up (up (up u 42 (j) (((bn (fun q => (X j q && ec q) && X i q) 8 : Nat) : Int))) 43 (i) (1)) 41 (8) (b2)) 43 (i) (0)))) rfl (by decide) (by omega) (WB_42_set a c ((up (up (up (up u 42 (j) (((bn (fun q => (X j q && ec q) && X i q) 8 : Nat) : Int))) 43 (i) (1)) 41 (8) (b2)) 43 (i) (0))) j (u 42 (j))) dX4_chooseEchoOf_62 ?_
    refine z_ws (ws' := (WB a c (up u 41 (8) (b2)))) (congrArg (WB a c) (pl_rest3 u j _ _ h43)) ?_
    exact kret 0 ((up u 41 (8) (b2))) _ _ (by first | exact ⟨u 41 8, rfl, Bst_none hb.1 (fun t h => absurd h.1 hz)⟩ | exact ⟨b2, rfl, Bst_congr hB (fun t => ⟨fun q => ⟨hz, q⟩, fun q => q.2⟩)⟩) dX4_chooseEchoOf_63
-- NoteBells$Pluckers.chooseEchoes
set_option maxHeartbeats 8000000 in
set_option maxRecDepth 100000 in
theorem c_X4_chooseEchoes_1 (l : Launch) (D : va_G) (a : Nat → Nat) (c : Nat → ClassId) (u : zU) (i : Int) (E : Int → Bool) (X : Int → Nat → Bool) (ec : Nat → Bool) (hi : i = u 17 8 - 1) (b_i : 0 ≤ i) (hQ : PQ (u 17 8) (u 3 8) (u 20)) (hb : 0 ≤ u 41 8 ∧ u 41 8 ≤ 4) (hX : ∀ k : Int, 0 ≤ k → k < u 17 8 → u 42 k = ((bn (X k) 8 : Nat) : Int)) (hE : ∀ k : Int, 0 ≤ k → k < u 17 8 → u 43 k = if E k = true then 1 else 0) (hE0 : E 0 = false) (hEi : ∀ k : Int, i ≤ k → k < u 17 8 → E k = false) (hec : u 41 7 = ((bn ec 8 : Nat) : Int)) : ZM l D (zTy c) (WB a c) yX4_chooseEchoes wsX4_chooseEchoes 18 [.ref (a 41), .int (zI i)] u rV (fun z u' => ∃ b' : Int, u' = up u 41 8 b' ∧ Bst (u 41 8) b' (fun t => CanE (u 20) (u 3 8) (u 17 8) ec 1 E X t)) := by
  refine ZM.ofV (cc := cX4_chooseEchoes) (maxL := 3) [(0, .ref (a 41)), (1, .int (zI i))] rfl (by decide +kernel) rfl (Nat.le_of_ble_eq_true rfl) (WB_addr a c) ?_
  intro x C hK _ _ hDD kret
  have hq1 := hQ.1
  have hq2 := hQ.2.1
  refine z_iload_n C 1 dX4_chooseEchoes_0 rfl ?_
  refine z_aload_n C 0 dX4_chooseEchoes_1 rfl ?_
  refine z_get C hK (v := .ref (a 17)) inX4_chooseEchoes_X4 41 (WB_41 a c u) rfl 1 (by decide) (List.mem_of_getElem? (i := 1) rfl) rfl dX4_chooseEchoes_2 ?_
  refine z_getN C hK (v := .int (zI (u 17 8))) inX4_chooseEchoes_X2 17 (WB_17 a c u) rfl 8 (by decide) (List.mem_of_getElem? (i := 34) rfl) rfl dX4_chooseEchoes_5 ?_
  refine z_icmp_lt C 18 dX4_chooseEchoes_8 (by decide) (by omega) (fun h1 => ?_) (fun h1 => ?_)
  · skip
    refine z_aload_n C 0 dX4_chooseEchoes_18 rfl ?_
    refine z_iload_n C 1 dX4_chooseEchoes_19 rfl ?_
    refine z_iconst C dX4_chooseEchoes_20 ?_
    refine z_iadd C dX4_chooseEchoes_21 ?_
    refine z_callV C hK hDD (c_X4_chooseEchoes_0 (zl x) (zG x) a c u (i + 1) E X ec (by omega) (by omega) (hQ) (by omega) (hX) (hE) (hE0) (fun k h0 h1 => hEi k (by omega) h1) (hec)) gX4_chooseEchoes_X4_chooseEchoes rfl zy_X4_chooseEchoes 41 (WB_41 a c u) rfl ⟨by omega, by decide⟩ rfl (Nat.le_of_ble_eq_true rfl) (st := []) (stk2 := fun _ => []) rfl (fun _ => rfl) dX4_chooseEchoes_22 (fun z2 u3 h4 => ?_)
    obtain ⟨b2, e1, hB⟩ := h4
    rw [e1]
    change Z x 0 0 (WB a c (up u 41 (8) (b2))) _ _ _
    refine z_iconst C dX4_chooseEchoes_25 ?_
    refine z_istore_n C [(2, .int (zI 0)), (0, .ref (a 41)), (1, .int (zI i))] dX4_chooseEchoes_26 rfl (by decide) rfl ?_
    have L27_5 : ∀ (fu : Nat) (j : Int) (b : Int), (0 ≤ j ∧ j ≤ i) → (Bst (u 41 8) b (fun t => CanE (u 20) (u 3 8) (u 17 8) ec 0 E X t ∨ ∃ k : Int, 0 ≤ k ∧ k < j ∧ ChC (u 20) (u 3 8) (u 17 8) ec 0 i E X k t)) → i - j < (fu : Int) → Z x 0 0 (WB a c (up u 41 (8) (b))) [(0, .ref (a 41)), (1, .int (zI i)), (2, .int (zI j))] 27 [] := by
      intro fu
      induction fu with
      | zero => intro j b hj hB hmeas; exfalso; omega
      | succ fu ih27 =>
        intro j b hj hB hmeas
        refine z_iload_n C 2 dX4_chooseEchoes_27 rfl ?_
        refine z_iload_n C 1 dX4_chooseEchoes_28 rfl ?_
        refine z_icmp_ge C 84 dX4_chooseEchoes_29 (by decide) (by omega) (fun h6 => ?_) (fun h6 => ?_)
        · skip
          exact kret 0 (up u 41 8 b) _ _ (⟨b, rfl, by first | exact CanE_prune hq1.1 (by omega) b_i (by omega) hE0 (by omega) hB | exact Bst_congr hB (CanE_end (by omega) (by omega))⟩) dX4_chooseEchoes_84
        · skip
          have hbb : 0 ≤ b ∧ b ≤ 4 := ⟨hB.1.1, Int.le_trans hB.1.2 hb.2⟩
          refine z_aload_n C 0 dX4_chooseEchoes_32 rfl ?_
          refine z_get C hK (v := .int (zI b)) inX4_chooseEchoes_X4 41 (WB_41 a c ((up u 41 (8) (b)))) rfl 8 (by decide) (List.mem_of_getElem? (i := 2) rfl) rfl dX4_chooseEchoes_33 ?_
          refine z_iconst C dX4_chooseEchoes_36 ?_
          refine z_icmp_le C 84 dX4_chooseEchoes_37 (by decide) (by omega) (fun h7 => ?_) (fun h7 => ?_)
          · skip
            exact kret 0 (up u 41 8 b) _ _ (⟨b, rfl, by first | exact CanE_prune hq1.1 (by omega) b_i (by omega) hE0 (by omega) hB | exact Bst_congr hB (CanE_end (by omega) (by omega))⟩) dX4_chooseEchoes_84
          · skip
            have hmj1 := hQ.2.2.1 j (by omega) (by omega)
            have hmj2 := hQ.2.2.1 i (by omega) (by omega)
            refine z_aload_n C 0 dX4_chooseEchoes_40 rfl ?_
            refine z_get C hK (v := .ref (a 43)) inX4_chooseEchoes_X4 41 (WB_41 a c ((up u 41 (8) (b)))) rfl 4 (by decide) (List.mem_of_getElem? (i := 3) rfl) rfl dX4_chooseEchoes_41 ?_
            refine z_iload_n C 2 dX4_chooseEchoes_44 rfl ?_
            refine z_zald C hK 1 (g := (u 43)) (i := j) 43 (WB_43 a c ((up u 41 (8) (b)))) rfl (by decide) (by omega) dX4_chooseEchoes_45 ?_
            refine z_as (b := u 43 (j)) rfl ?_
            refine z_as (b := (if E j = true then 1 else 0)) (hE j (by omega) (by omega)) ?_
            refine z_if_ne C 78 dX4_chooseEchoes_46 (by decide) (by split <;> omega) (fun h8 => ?_) (fun h8 => ?_)
            · have hno : ¬ (E j = false ∧ u 20 j + 2 = u 20 i) := fun q => absurd ((ite01_ne h8).symm.trans q.1) (by decide)
              refine z_iinc C 2 [(2, .int (zI (j + 1))), (0, .ref (a 41)), (1, .int (zI i))] dX4_chooseEchoes_78 rfl (by decide) rfl ?_
              refine z_goto C 27 dX4_chooseEchoes_81 (by decide) ?_
              refine z_lv [(0, .ref (a 41)), (1, .int (zI i)), (2, .int (zI (j + 1)))] [1, 2, 0] rfl ?_
              exact ih27 (j + 1) b (by omega) (by first | exact ch_take hj.1 hEj hmj hB hB2 | exact ch_skip hj.1 hno hB) (by omega)
            · have hEj := ite01_eq h8
              refine z_aload_n C 0 dX4_chooseEchoes_49 rfl ?_
              refine z_get C hK (v := .ref (a 17)) inX4_chooseEchoes_X4 41 (WB_41 a c ((up u 41 (8) (b)))) rfl 1 (by decide) (List.mem_of_getElem? (i := 1) rfl) rfl dX4_chooseEchoes_50 ?_
              refine z_getN C hK (v := .ref (a 20)) inX4_chooseEchoes_X2 17 (WB_17 a c ((up u 41 (8) (b)))) rfl 2 (by decide) (List.mem_of_getElem? (i := 36) rfl) rfl dX4_chooseEchoes_53 ?_
              refine z_iload_n C 2 dX4_chooseEchoes_56 rfl ?_
              refine z_iald C hK 0 (g := (u 20)) (i := j) 20 (WB_20 a c ((up u 41 (8) (b)))) rfl (by decide) (by omega) dX4_chooseEchoes_57 ?_
              refine z_as (b := u 20 (j)) rfl ?_
              refine z_iconst C dX4_chooseEchoes_58 ?_
              refine z_iadd C dX4_chooseEchoes_59 ?_
              refine z_aload_n C 0 dX4_chooseEchoes_60 rfl ?_
              refine z_get C hK (v := .ref (a 17)) inX4_chooseEchoes_X4 41 (WB_41 a c ((up u 41 (8) (b)))) rfl 1 (by decide) (List.mem_of_getElem? (i := 1) rfl) rfl dX4_chooseEchoes_61 ?_
              refine z_getN C hK (v := .ref (a 20)) inX4_chooseEchoes_X2 17 (WB_17 a c ((up u 41 (8) (b)))) rfl 2 (by decide) (List.mem_of_getElem? (i := 36) rfl) rfl dX4_chooseEchoes_64 ?_
              refine z_iload_n C 1 dX4_chooseEchoes_67 rfl ?_
              refine z_iald C hK 0 (g := (u 20)) (i := i) 20 (WB_20 a c ((up u 41 (8) (b)))) rfl (by decide) (by omega) dX4_chooseEchoes_68 ?_
              refine z_as (b := u 20 (i)) rfl ?_
              refine z_icmp_ne C 78 dX4_chooseEchoes_69 (by decide) (by omega) (fun h9 => ?_) (fun h9 => ?_)
              · have hno : ¬ (E j = false ∧ u 20 j + 2 = u 20 i) := fun q => h9 q.2
                refine z_iinc C 2 [(2, .int (zI (j + 1))), (0, .ref (a 41)), (1, .int (zI i))] dX4_chooseEchoes_78 rfl (by decide) rfl ?_
                refine z_goto C 27 dX4_chooseEchoes_81 (by decide) ?_
                refine z_lv [(0, .ref (a 41)), (1, .int (zI i)), (2, .int (zI (j + 1)))] [1, 2, 0] rfl ?_
                exact ih27 (j + 1) b (by omega) (by first | exact ch_take hj.1 hEj hmj hB hB2 | exact ch_skip hj.1 hno hB) (by omega)
              · have hmj := h9
                refine z_aload_n C 0 dX4_chooseEchoes_72 rfl ?_
                refine z_iload_n C 2 dX4_chooseEchoes_73 rfl ?_
                refine z_iload_n C 1 dX4_chooseEchoes_74 rfl ?_
                refine z_callV C hK hDD (c_X4_chooseEchoOf_1 (zl x) (zG x) a c ((up u 41 (8) (b))) j i E X ec (show i = (u 17 8) - 1 by omega) (show 0 ≤ j ∧ j < i ∧ i < (u 17 8) by omega) (hQ) (show 0 ≤ b ∧ b ≤ 4 from hbb) (hX) (hE) (hE0) (hEi) (hec)) gX4_chooseEchoes_X4_chooseEchoOf rfl zy_X4_chooseEchoOf 41 (WB_41 a c ((up u 41 (8) (b)))) rfl ⟨by omega, by decide⟩ rfl (Nat.le_of_ble_eq_true rfl) (st := []) (stk2 := fun _ => []) rfl (fun _ => rfl) dX4_chooseEchoes_75 (fun z10 u11 h12 => ?_)
                obtain ⟨b2, e1, hB2⟩ := h12
                rw [e1]
                change Z x 0 0 (WB a c (up u 41 (8) (b2))) _ _ _
                refine z_iinc C 2 [(2, .int (zI (j + 1))), (0, .ref (a 41)), (1, .int (zI i))] dX4_chooseEchoes_78 rfl (by decide) rfl ?_
                refine z_goto C 27 dX4_chooseEchoes_81 (by decide) ?_
                refine z_lv [(0, .ref (a 41)), (1, .int (zI i)), (2, .int (zI (j + 1)))] [1, 2, 0] rfl ?_
                exact ih27 (j + 1) b2 (by omega) (by first | exact ch_take hj.1 hEj hmj hB hB2 | exact ch_skip hj.1 hno hB) (by omega)
    refine z_lv [(0, .ref (a 41)), (1, .int (zI i)), (2, .int (zI 0))] [1, 2, 0] rfl ?_
    exact L27_5 (((i - 0 : Int)).toNat + 1) 0 b2 (by omega) (Bst_congr hB ch_first) (by omega)
  · exfalso; omega
-- NoteBells$Pluckers.chooseEchoOf
set_option maxHeartbeats 8000000 in
set_option maxRecDepth 100000 in
theorem c_X4_chooseEchoOf_2 (l : Launch) (D : va_G) (a : Nat → Nat) (c : Nat → ClassId) (u : zU) (j i : Int) (E : Int → Bool) (X : Int → Nat → Bool) (ec : Nat → Bool) (hi : i = u 17 8 - 2) (b_i : 0 ≤ j ∧ j < i ∧ i < u 17 8) (hQ : PQ (u 17 8) (u 3 8) (u 20)) (hb : 0 ≤ u 41 8 ∧ u 41 8 ≤ 4) (hX : ∀ k : Int, 0 ≤ k → k < u 17 8 → u 42 k = ((bn (X k) 8 : Nat) : Int)) (hE : ∀ k : Int, 0 ≤ k → k < u 17 8 → u 43 k = if E k = true then 1 else 0) (hE0 : E 0 = false) (hEi : ∀ k : Int, i ≤ k → k < u 17 8 → E k = false) (hec : u 41 7 = ((bn ec 8 : Nat) : Int)) : ZM l D (zTy c) (WB a c) yX4_chooseEchoOf wsX4_chooseEchoOf 19 [.ref (a 41), .int (zI j), .int (zI i)] u rV (fun z u' => ∃ b' : Int, u' = up u 41 8 b' ∧ Bst (u 41 8) b' (fun t => ChE (u 20) (u 3 8) (u 17 8) ec 1 i E X j t)) := by
  refine ZM.ofV (cc := cX4_chooseEchoOf) (maxL := 4) [(0, .ref (a 41)), (1, .int (zI j)), (2, .int (zI i))] rfl (by decide +kernel) rfl (Nat.le_of_ble_eq_true rfl) (WB_addr a c) ?_
  intro x C hK _ _ hDD kret
  have hq1 := hQ.1
  have hq2 := hQ.2.1
  have h43 : u 43 i = 0 := (hE i (by omega) (by omega)).trans (if_neg (by rw [hEi i (Int.le_refl _) (by omega)]; decide))
  refine z_aload_n C 0 dX4_chooseEchoOf_0 rfl ?_
  refine z_get C hK (v := .ref (a 42)) inX4_chooseEchoOf_X4 41 (WB_41 a c u) rfl 3 (by decide) (List.mem_of_getElem? (i := 1) rfl) rfl dX4_chooseEchoOf_1 ?_
  refine z_iload_n C 1 dX4_chooseEchoOf_4 rfl ?_
  refine z_iald C hK 0 (g := (u 42)) (i := j) 42 (WB_42 a c u) rfl (by decide) (by omega) dX4_chooseEchoOf_5 ?_
  refine z_as (b := u 42 (j)) rfl ?_
  refine z_istore_n C [(3, .int (zI (u 42 (j)))), (0, .ref (a 41)), (1, .int (zI j)), (2, .int (zI i))] dX4_chooseEchoOf_6 rfl (by decide) rfl ?_
  refine z_aload_n C 1 dX4_chooseEchoOf_7 rfl ?_
  refine z_get C hK (v := .ref (a 42)) inX4_chooseEchoOf_X4 41 (WB_41 a c u) rfl 3 (by decide) (List.mem_of_getElem? (i := 1) rfl) rfl dX4_chooseEchoOf_8 ?_
  refine z_iload_n C 2 dX4_chooseEchoOf_11 rfl ?_
  refine z_iload_n C 0 dX4_chooseEchoOf_12 rfl ?_
  refine z_as (b := ((bn (X j) 8 : Nat) : Int)) (hX j (by omega) (by omega)) ?_
  refine z_aload_n C 1 dX4_chooseEchoOf_13 rfl ?_
  refine z_get C hK (v := .int (zI (u 41 7))) inX4_chooseEchoOf_X4 41 (WB_41 a c u) rfl 7 (by decide) (List.mem_of_getElem? (i := 2) rfl) rfl dX4_chooseEchoOf_14 ?_
  refine z_as (b := ((bn ec 8 : Nat) : Int)) (hec) ?_
  refine z_iand C (((bn (fun q => X j q && ec q) 8 : Nat) : Int)) dX4_chooseEchoOf_17 (by rw [zI_and, bn_and]) ?_
  refine z_aload_n C 1 dX4_chooseEchoOf_18 rfl ?_
  refine z_get C hK (v := .ref (a 42)) inX4_chooseEchoOf_X4 41 (WB_41 a c u) rfl 3 (by decide) (List.mem_of_getElem? (i := 1) rfl) rfl dX4_chooseEchoOf_19 ?_
  refine z_iload_n C 3 dX4_chooseEchoOf_22 rfl ?_
  refine z_iald C hK 0 (g := (u 42)) (i := i) 42 (WB_42 a c u) rfl (by decide) (by omega) dX4_chooseEchoOf_23 ?_
  refine z_as (b := u 42 (i)) rfl ?_
  refine z_as (b := ((bn (X i) 8 : Nat) : Int)) (hX i (by omega) (by omega)) ?_
  refine z_iand C (((bn (fun q => (X j q && ec q) && X i q) 8 : Nat) : Int)) dX4_chooseEchoOf_24 (by rw [zI_and, bn_and]) ?_
  refine z_iast C hK (hDD _) 0 (g := u 42) 42 (WB_42 a c u) rfl (by decide) (by omega) (WB_42_set a c u j (((bn (fun q => (X j q && ec q) && X i q) 8 : Nat) : Int))) dX4_chooseEchoOf_25 ?_
  refine z_aload_n C 1 dX4_chooseEchoOf_26 rfl ?_
  refine z_get C hK (v := .ref (a 42)) inX4_chooseEchoOf_X4 41 (WB_41 a c ((up u 42 (j) (((bn (fun q => (X j q && ec q) && X i q) 8 : Nat) : Int))))) rfl 3 (by decide) (List.mem_of_getElem? (i := 1) rfl) rfl dX4_chooseEchoOf_27 ?_
  refine z_iload_n C 2 dX4_chooseEchoOf_30 rfl ?_
  refine z_iald C hK 0 (g := ((up u 42 (j) (((bn (fun q => (X j q && ec q) && X i q) 8 : Nat) : Int))) 42)) (i := j) 42 (WB_42 a c ((up u 42 (j) (((bn (fun q => (X j q && ec q) && X i q) 8 : Nat) : Int))))) rfl (by decide) (by omega) dX4_chooseEchoOf_31 ?_
  refine z_as (b := ((bn (fun q => (X j q && ec q) && X i q) 8 : Nat) : Int)) (up_at _ _ _ _) ?_
  refine z_if_eq C 56 dX4_chooseEchoOf_32 (by decide) (by have h1 := bn_8 (fun q => (X j q && ec q) && X i q) (n := 8) (by omega); omega) (fun h1 => ?_) (fun h1 => ?_)
  · have hz : ¬ nz (ech ec X j i) := nz_no rfl h1
    refine z_aload_n C 1 dX4_chooseEchoOf_56 rfl ?_
    refine z_get C hK (v := .ref (a 42)) inX4_chooseEchoOf_X4 41 (WB_41 a c ((up u 42 (j) (((bn (fun q => (X j q && ec q) && X i q) 8 : Nat) : Int))))) rfl 3 (by decide) (List.mem_of_getElem? (i := 1) rfl) rfl dX4_chooseEchoOf_57 ?_
    refine z_iload_n C 2 dX4_chooseEchoOf_60 rfl ?_
    refine z_iload_n C 0 dX4_chooseEchoOf_61 rfl ?_
    refine z_iast C hK (hDD _) 0 (g := (up u 42 (j) (((bn (fun q => (X j q && ec q) && X i q) 8 : Nat) : Int))) 42) 42 (WB_42 a c ((up u 42 (j) (((bn (fun q => (X j q && ec q) && X i q) 8 : Nat) : Int))))) rfl (by decide) (by omega) (WB_42_set a c ((up u 42 (j) (((bn (fun q => (X j q && ec q) && X i q) 8 : Nat) : Int)))) j (u 42 (j))) dX4_chooseEchoOf_62 ?_
    refine z_ws (ws' := (WB a c (up u 41 (8) ((u 41 8))))) (congrArg (WB a c) (pl_rest2 u j _)) ?_
    exact kret 0 ((up u 41 (8) ((u 41 8)))) _ _ (by first | exact ⟨u 41 8, rfl, Bst_none hb.1 (fun t h => absurd h.1 hz)⟩ | exact ⟨b2, rfl, Bst_congr hB (fun t => ⟨fun q => ⟨hz, q⟩, fun q => q.2⟩)⟩) dX4_chooseEchoOf_63
  · have hz : nz (ech ec X j i) := nz_yes rfl h1
    refine z_aload_n C 1 dX4_chooseEchoOf_35 rfl ?_
    refine z_get C hK (v := .ref (a 43)) inX4_chooseEchoOf_X4 41 (WB_41 a c ((up u 42 (j) (((bn (fun q => (X j q && ec q) && X i q) 8 : Nat) : Int))))) rfl 4 (by decide) (List.mem_of_getElem? (i := 3) rfl) rfl dX4_chooseEchoOf_36 ?_
    refine z_iload_n C 3 dX4_chooseEchoOf_39 rfl ?_
    refine z_iconst C dX4_chooseEchoOf_40 ?_
    refine z_zast C hK (hDD _) 1 (g := (up u 42 (j) (((bn (fun q => (X j q && ec q) && X i q) 8 : Nat) : Int))) 43) 43 (WB_43 a c ((up u 42 (j) (((bn (fun q => (X j q && ec q) && X i q) 8 : Nat) : Int))))) rfl (by decide) (by omega) (by omega) (WB_43_set a c ((up u 42 (j) (((bn (fun q => (X j q && ec q) && X i q) 8 : Nat) : Int)))) i 1) dX4_chooseEchoOf_41 ?_
    refine z_aload_n C 1 dX4_chooseEchoOf_42 rfl ?_
    refine z_iload_n C 3 dX4_chooseEchoOf_43 rfl ?_
    refine z_iconst C dX4_chooseEchoOf_44 ?_
    refine z_iadd C dX4_chooseEchoOf_45 ?_
    refine z_callV C hK hDD (c_X4_chooseEchoes_1 (zl x) (zG x) a c ((up (up u 42 (j) (((bn (fun q => (X j q && ec q) && X i q) 8 : Nat) : Int))) 43 (i) (1))) (i + 1) ((fun k => if k = i then true else E k)) ((fun k => if k = j then ech ec X j i else X k)) ec (show (i + 1) = (u 17 8) - 1 by omega) (show 0 ≤ (i + 1) by omega) (hQ) (show 0 ≤ (u 41 8) ∧ (u 41 8) ≤ 4 by omega) (pl_hX hX) (pl_hE hE) ((if_neg (show ¬ ((0 : Int) = i) by omega)).trans hE0) (fun k h0 h1 => (if_neg (show ¬ (k = i) by omega)).trans (hEi k (by omega) h1)) (hec)) gX4_chooseEchoOf_X4_chooseEchoes rfl zy_X4_chooseEchoes 41 (WB_41 a c ((up (up u 42 (j) (((bn (fun q => (X j q && ec q) && X i q) 8 : Nat) : Int))) 43 (i) (1)))) rfl ⟨by omega, by decide⟩ rfl (Nat.le_of_ble_eq_true rfl) (st := []) (stk2 := fun _ => []) rfl (fun _ => rfl) dX4_chooseEchoOf_46 (fun z2 u3 h4 => ?_)
    obtain ⟨b2, e1, hB⟩ := h4
    rw [e1]
    change Z x 0 0 (WB a c (up (up (up u 42 (j) (((bn (fun q => (X j q && ec q) && X i q) 8 : Nat) : Int))) 43 (i) (1)) 41 (8) (b2))) _ _ _
    refine z_aload_n C 1 dX4_chooseEchoOf_49 rfl ?_
    refine z_get C hK (v := .ref (a 43)) inX4_chooseEchoOf_X4 41 (WB_41 a c ((up (up (up u 42 (j) (((bn (fun q => (X j q && ec q) && X i q) 8 : Nat) : Int))) 43 (i) (1)) 41 (8) (b2)))) rfl 4 (by decide) (List.mem_of_getElem? (i := 3) rfl) rfl dX4_chooseEchoOf_50 ?_
    refine z_iload_n C 3 dX4_chooseEchoOf_53 rfl ?_
    refine z_iconst C dX4_chooseEchoOf_54 ?_
    refine z_zast C hK (hDD _) 1 (g := (up (up (up u 42 (j) (((bn (fun q => (X j q && ec q) && X i q) 8 : Nat) : Int))) 43 (i) (1)) 41 (8) (b2)) 43) 43 (WB_43 a c ((up (up (up u 42 (j) (((bn (fun q => (X j q && ec q) && X i q) 8 : Nat) : Int))) 43 (i) (1)) 41 (8) (b2)))) rfl (by decide) (by omega) (by omega) (WB_43_set a c ((up (up (up u 42 (j) (((bn (fun q => (X j q && ec q) && X i q) 8 : Nat) : Int))) 43 (i) (1)) 41 (8) (b2))) i 0) dX4_chooseEchoOf_55 ?_
    refine z_aload_n C 1 dX4_chooseEchoOf_56 rfl ?_
    refine z_get C hK (v := .ref (a 42)) inX4_chooseEchoOf_X4 41 (WB_41 a c ((up (up (up (up u 42 (j) (((bn (fun q => (X j q && ec q) && X i q) 8 : Nat) : Int))) 43 (i) (1)) 41 (8) (b2)) 43 (i) (0)))) rfl 3 (by decide) (List.mem_of_getElem? (i := 1) rfl) rfl dX4_chooseEchoOf_57 ?_
    refine z_iload_n C 2 dX4_chooseEchoOf_60 rfl ?_
    refine z_iload_n C 0 dX4_chooseEchoOf_61 rfl ?_
    refine z_iast C hK (hDD _) 0 (g := (up (up (up (up u 42 (j) (((bn (fun q => (X j q && ec q) && X i q) 8 : Nat) : Int))) 43 (i) (1)) 41 (8) (b2)) 43 (i) (0)) 42) 42 (WB_42 a c ((up (up (up (up u 42 (j) (((bn (fun q => (X j q && ec q) && X i q) 8 : Nat) : Int))) 43 (i) (1)) 41 (8) (b2)) 43 (i) (0)))) rfl (by decide) (by omega) (WB_42_set a c ((up (up (up (up u 42 (j) (((bn (fun q => (X j q && ec q) && X i q) 8 : Nat) : Int))) 43 (i) (1)) 41 (8) (b2)) 43 (i) (0))) j (u 42 (j))) dX4_chooseEchoOf_62 ?_
    refine z_ws (ws' := (WB a c (up u 41 (8) (b2)))) (congrArg (WB a c) (pl_rest3 u j _ _ h43)) ?_
    exact kret 0 ((up u 41 (8) (b2))) _ _ (by first | exact ⟨u 41 8, rfl, Bst_none hb.1 (fun t h => absurd h.1 hz)⟩ | exact ⟨b2, rfl, Bst_congr hB (fun t => ⟨fun q => ⟨hz, q⟩, fun q => q.2⟩)⟩) dX4_chooseEchoOf_63
-- NoteBells$Pluckers.chooseEchoes
set_option maxHeartbeats 8000000 in
set_option maxRecDepth 100000 in
theorem c_X4_chooseEchoes_2 (l : Launch) (D : va_G) (a : Nat → Nat) (c : Nat → ClassId) (u : zU) (i : Int) (E : Int → Bool) (X : Int → Nat → Bool) (ec : Nat → Bool) (hi : i = u 17 8 - 2) (b_i : 0 ≤ i) (hQ : PQ (u 17 8) (u 3 8) (u 20)) (hb : 0 ≤ u 41 8 ∧ u 41 8 ≤ 4) (hX : ∀ k : Int, 0 ≤ k → k < u 17 8 → u 42 k = ((bn (X k) 8 : Nat) : Int)) (hE : ∀ k : Int, 0 ≤ k → k < u 17 8 → u 43 k = if E k = true then 1 else 0) (hE0 : E 0 = false) (hEi : ∀ k : Int, i ≤ k → k < u 17 8 → E k = false) (hec : u 41 7 = ((bn ec 8 : Nat) : Int)) : ZM l D (zTy c) (WB a c) yX4_chooseEchoes wsX4_chooseEchoes 20 [.ref (a 41), .int (zI i)] u rV (fun z u' => ∃ b' : Int, u' = up u 41 8 b' ∧ Bst (u 41 8) b' (fun t => CanE (u 20) (u 3 8) (u 17 8) ec 2 E X t)) := by
  refine ZM.ofV (cc := cX4_chooseEchoes) (maxL := 3) [(0, .ref (a 41)), (1, .int (zI i))] rfl (by decide +kernel) rfl (Nat.le_of_ble_eq_true rfl) (WB_addr a c) ?_
  intro x C hK _ _ hDD kret
  have hq1 := hQ.1
  have hq2 := hQ.2.1
  refine z_iload_n C 1 dX4_chooseEchoes_0 rfl ?_
  refine z_aload_n C 0 dX4_chooseEchoes_1 rfl ?_
  refine z_get C hK (v := .ref (a 17)) inX4_chooseEchoes_X4 41 (WB_41 a c u) rfl 1 (by decide) (List.mem_of_getElem? (i := 1) rfl) rfl dX4_chooseEchoes_2 ?_
  refine z_getN C hK (v := .int (zI (u 17 8))) inX4_chooseEchoes_X2 17 (WB_17 a c u) rfl 8 (by decide) (List.mem_of_getElem? (i := 34) rfl) rfl dX4_chooseEchoes_5 ?_
  refine z_icmp_lt C 18 dX4_chooseEchoes_8 (by decide) (by omega) (fun h1 => ?_) (fun h1 => ?_)
  · skip
    refine z_aload_n C 0 dX4_chooseEchoes_18 rfl ?_
    refine z_iload_n C 1 dX4_chooseEchoes_19 rfl ?_
    refine z_iconst C dX4_chooseEchoes_20 ?_
    refine z_iadd C dX4_chooseEchoes_21 ?_
    refine z_callV C hK hDD (c_X4_chooseEchoes_1 (zl x) (zG x) a c u (i + 1) E X ec (by omega) (by omega) (hQ) (by omega) (hX) (hE) (hE0) (fun k h0 h1 => hEi k (by omega) h1) (hec)) gX4_chooseEchoes_X4_chooseEchoes rfl zy_X4_chooseEchoes 41 (WB_41 a c u) rfl ⟨by omega, by decide⟩ rfl (Nat.le_of_ble_eq_true rfl) (st := []) (stk2 := fun _ => []) rfl (fun _ => rfl) dX4_chooseEchoes_22 (fun z2 u3 h4 => ?_)
    obtain ⟨b2, e1, hB⟩ := h4
    rw [e1]
    change Z x 0 0 (WB a c (up u 41 (8) (b2))) _ _ _
    refine z_iconst C dX4_chooseEchoes_25 ?_
    refine z_istore_n C [(2, .int (zI 0)), (0, .ref (a 41)), (1, .int (zI i))] dX4_chooseEchoes_26 rfl (by decide) rfl ?_
    have L27_5 : ∀ (fu : Nat) (j : Int) (b : Int), (0 ≤ j ∧ j ≤ i) → (Bst (u 41 8) b (fun t => CanE (u 20) (u 3 8) (u 17 8) ec 1 E X t ∨ ∃ k : Int, 0 ≤ k ∧ k < j ∧ ChC (u 20) (u 3 8) (u 17 8) ec 1 i E X k t)) → i - j < (fu : Int) → Z x 0 0 (WB a c (up u 41 (8) (b))) [(0, .ref (a 41)), (1, .int (zI i)), (2, .int (zI j))] 27 [] := by
      intro fu
      induction fu with
      | zero => intro j b hj hB hmeas; exfalso; omega
      | succ fu ih27 =>
        intro j b hj hB hmeas
        refine z_iload_n C 2 dX4_chooseEchoes_27 rfl ?_
        refine z_iload_n C 1 dX4_chooseEchoes_28 rfl ?_
        refine z_icmp_ge C 84 dX4_chooseEchoes_29 (by decide) (by omega) (fun h6 => ?_) (fun h6 => ?_)
        · skip
          exact kret 0 (up u 41 8 b) _ _ (⟨b, rfl, by first | exact CanE_prune hq1.1 (by omega) b_i (by omega) hE0 (by omega) hB | exact Bst_congr hB (CanE_end (by omega) (by omega))⟩) dX4_chooseEchoes_84
        · skip
          have hbb : 0 ≤ b ∧ b ≤ 4 := ⟨hB.1.1, Int.le_trans hB.1.2 hb.2⟩
          refine z_aload_n C 0 dX4_chooseEchoes_32 rfl ?_
          refine z_get C hK (v := .int (zI b)) inX4_chooseEchoes_X4 41 (WB_41 a c ((up u 41 (8) (b)))) rfl 8 (by decide) (List.mem_of_getElem? (i := 2) rfl) rfl dX4_chooseEchoes_33 ?_
          refine z_iconst C dX4_chooseEchoes_36 ?_
          refine z_icmp_le C 84 dX4_chooseEchoes_37 (by decide) (by omega) (fun h7 => ?_) (fun h7 => ?_)
          · skip
            exact kret 0 (up u 41 8 b) _ _ (⟨b, rfl, by first | exact CanE_prune hq1.1 (by omega) b_i (by omega) hE0 (by omega) hB | exact Bst_congr hB (CanE_end (by omega) (by omega))⟩) dX4_chooseEchoes_84
          · skip
            have hmj1 := hQ.2.2.1 j (by omega) (by omega)
            have hmj2 := hQ.2.2.1 i (by omega) (by omega)
            refine z_aload_n C 0 dX4_chooseEchoes_40 rfl ?_
            refine z_get C hK (v := .ref (a 43)) inX4_chooseEchoes_X4 41 (WB_41 a c ((up u 41 (8) (b)))) rfl 4 (by decide) (List.mem_of_getElem? (i := 3) rfl) rfl dX4_chooseEchoes_41 ?_
            refine z_iload_n C 2 dX4_chooseEchoes_44 rfl ?_
            refine z_zald C hK 1 (g := (u 43)) (i := j) 43 (WB_43 a c ((up u 41 (8) (b)))) rfl (by decide) (by omega) dX4_chooseEchoes_45 ?_
            refine z_as (b := u 43 (j)) rfl ?_
            refine z_as (b := (if E j = true then 1 else 0)) (hE j (by omega) (by omega)) ?_
            refine z_if_ne C 78 dX4_chooseEchoes_46 (by decide) (by split <;> omega) (fun h8 => ?_) (fun h8 => ?_)
            · have hno : ¬ (E j = false ∧ u 20 j + 2 = u 20 i) := fun q => absurd ((ite01_ne h8).symm.trans q.1) (by decide)
              refine z_iinc C 2 [(2, .int (zI (j + 1))), (0, .ref (a 41)), (1, .int (zI i))] dX4_chooseEchoes_78 rfl (by decide) rfl ?_
              refine z_goto C 27 dX4_chooseEchoes_81 (by decide) ?_
              refine z_lv [(0, .ref (a 41)), (1, .int (zI i)), (2, .int (zI (j + 1)))] [1, 2, 0] rfl ?_
              exact ih27 (j + 1) b (by omega) (by first | exact ch_take hj.1 hEj hmj hB hB2 | exact ch_skip hj.1 hno hB) (by omega)
            · have hEj := ite01_eq h8
              refine z_aload_n C 0 dX4_chooseEchoes_49 rfl ?_
              refine z_get C hK (v := .ref (a 17)) inX4_chooseEchoes_X4 41 (WB_41 a c ((up u 41 (8) (b)))) rfl 1 (by decide) (List.mem_of_getElem? (i := 1) rfl) rfl dX4_chooseEchoes_50 ?_
              refine z_getN C hK (v := .ref (a 20)) inX4_chooseEchoes_X2 17 (WB_17 a c ((up u 41 (8) (b)))) rfl 2 (by decide) (List.mem_of_getElem? (i := 36) rfl) rfl dX4_chooseEchoes_53 ?_
              refine z_iload_n C 2 dX4_chooseEchoes_56 rfl ?_
              refine z_iald C hK 0 (g := (u 20)) (i := j) 20 (WB_20 a c ((up u 41 (8) (b)))) rfl (by decide) (by omega) dX4_chooseEchoes_57 ?_
              refine z_as (b := u 20 (j)) rfl ?_
              refine z_iconst C dX4_chooseEchoes_58 ?_
              refine z_iadd C dX4_chooseEchoes_59 ?_
              refine z_aload_n C 0 dX4_chooseEchoes_60 rfl ?_
              refine z_get C hK (v := .ref (a 17)) inX4_chooseEchoes_X4 41 (WB_41 a c ((up u 41 (8) (b)))) rfl 1 (by decide) (List.mem_of_getElem? (i := 1) rfl) rfl dX4_chooseEchoes_61 ?_
              refine z_getN C hK (v := .ref (a 20)) inX4_chooseEchoes_X2 17 (WB_17 a c ((up u 41 (8) (b)))) rfl 2 (by decide) (List.mem_of_getElem? (i := 36) rfl) rfl dX4_chooseEchoes_64 ?_
              refine z_iload_n C 1 dX4_chooseEchoes_67 rfl ?_
              refine z_iald C hK 0 (g := (u 20)) (i := i) 20 (WB_20 a c ((up u 41 (8) (b)))) rfl (by decide) (by omega) dX4_chooseEchoes_68 ?_
              refine z_as (b := u 20 (i)) rfl ?_
              refine z_icmp_ne C 78 dX4_chooseEchoes_69 (by decide) (by omega) (fun h9 => ?_) (fun h9 => ?_)
              · have hno : ¬ (E j = false ∧ u 20 j + 2 = u 20 i) := fun q => h9 q.2
                refine z_iinc C 2 [(2, .int (zI (j + 1))), (0, .ref (a 41)), (1, .int (zI i))] dX4_chooseEchoes_78 rfl (by decide) rfl ?_
                refine z_goto C 27 dX4_chooseEchoes_81 (by decide) ?_
                refine z_lv [(0, .ref (a 41)), (1, .int (zI i)), (2, .int (zI (j + 1)))] [1, 2, 0] rfl ?_
                exact ih27 (j + 1) b (by omega) (by first | exact ch_take hj.1 hEj hmj hB hB2 | exact ch_skip hj.1 hno hB) (by omega)
              · have hmj := h9
                refine z_aload_n C 0 dX4_chooseEchoes_72 rfl ?_
                refine z_iload_n C 2 dX4_chooseEchoes_73 rfl ?_
                refine z_iload_n C 1 dX4_chooseEchoes_74 rfl ?_
                refine z_callV C hK hDD (c_X4_chooseEchoOf_2 (zl x) (zG x) a c ((up u 41 (8) (b))) j i E X ec (show i = (u 17 8) - 2 by omega) (show 0 ≤ j ∧ j < i ∧ i < (u 17 8) by omega) (hQ) (show 0 ≤ b ∧ b ≤ 4 from hbb) (hX) (hE) (hE0) (hEi) (hec)) gX4_chooseEchoes_X4_chooseEchoOf rfl zy_X4_chooseEchoOf 41 (WB_41 a c ((up u 41 (8) (b)))) rfl ⟨by omega, by decide⟩ rfl (Nat.le_of_ble_eq_true rfl) (st := []) (stk2 := fun _ => []) rfl (fun _ => rfl) dX4_chooseEchoes_75 (fun z10 u11 h12 => ?_)
                obtain ⟨b2, e1, hB2⟩ := h12
                rw [e1]
                change Z x 0 0 (WB a c (up u 41 (8) (b2))) _ _ _
                refine z_iinc C 2 [(2, .int (zI (j + 1))), (0, .ref (a 41)), (1, .int (zI i))] dX4_chooseEchoes_78 rfl (by decide) rfl ?_
                refine z_goto C 27 dX4_chooseEchoes_81 (by decide) ?_
                refine z_lv [(0, .ref (a 41)), (1, .int (zI i)), (2, .int (zI (j + 1)))] [1, 2, 0] rfl ?_
                exact ih27 (j + 1) b2 (by omega) (by first | exact ch_take hj.1 hEj hmj hB hB2 | exact ch_skip hj.1 hno hB) (by omega)
    refine z_lv [(0, .ref (a 41)), (1, .int (zI i)), (2, .int (zI 0))] [1, 2, 0] rfl ?_
    exact L27_5 (((i - 0 : Int)).toNat + 1) 0 b2 (by omega) (Bst_congr hB ch_first) (by omega)
  · exfalso; omega
-- NoteBells$Pluckers.chooseEchoOf
set_option maxHeartbeats 8000000 in
set_option maxRecDepth 100000 in
theorem c_X4_chooseEchoOf_3 (l : Launch) (D : va_G) (a : Nat → Nat) (c : Nat → ClassId) (u : zU) (j i : Int) (E : Int → Bool) (X : Int → Nat → Bool) (ec : Nat → Bool) (hi : i = u 17 8 - 3) (b_i : 0 ≤ j ∧ j < i ∧ i < u 17 8) (hQ : PQ (u 17 8) (u 3 8) (u 20)) (hb : 0 ≤ u 41 8 ∧ u 41 8 ≤ 4) (hX : ∀ k : Int, 0 ≤ k → k < u 17 8 → u 42 k = ((bn (X k) 8 : Nat) : Int)) (hE : ∀ k : Int, 0 ≤ k → k < u 17 8 → u 43 k = if E k = true then 1 else 0) (hE0 : E 0 = false) (hEi : ∀ k : Int, i ≤ k → k < u 17 8 → E k = false) (hec : u 41 7 = ((bn ec 8 : Nat) : Int)) : ZM l D (zTy c) (WB a c) yX4_chooseEchoOf wsX4_chooseEchoOf 21 [.ref (a 41), .int (zI j), .int (zI i)] u rV (fun z u' => ∃ b' : Int, u' = up u 41 8 b' ∧ Bst (u 41 8) b' (fun t => ChE (u 20) (u 3 8) (u 17 8) ec 2 i E X j t)) := by
  refine ZM.ofV (cc := cX4_chooseEchoOf) (maxL := 4) [(0, .ref (a 41)), (1, .int (zI j)), (2, .int (zI i))] rfl (by decide +kernel) rfl (Nat.le_of_ble_eq_true rfl) (WB_addr a c) ?_
  intro x C hK _ _ hDD kret
  have hq1 := hQ.1
  have hq2 := hQ.2.1
  have h43 : u 43 i = 0 := (hE i (by omega) (by omega)).trans (if_neg (by rw [hEi i (Int.le_refl _) (by omega)]; decide))
  refine z_aload_n C 0 dX4_chooseEchoOf_0 rfl ?_
  refine z_get C hK (v := .ref (a 42)) inX4_chooseEchoOf_X4 41 (WB_41 a c u) rfl 3 (by decide) (List.mem_of_getElem? (i := 1) rfl) rfl dX4_chooseEchoOf_1 ?_
  refine z_iload_n C 1 dX4_chooseEchoOf_4 rfl ?_
  refine z_iald C hK 0 (g := (u 42)) (i := j) 42 (WB_42 a c u) rfl (by decide) (by omega) dX4_chooseEchoOf_5 ?_
  refine z_as (b := u 42 (j)) rfl ?_
  refine z_istore_n C [(3, .int (zI (u 42 (j)))), (0, .ref (a 41)), (1, .int (zI j)), (2, .int (zI i))] dX4_chooseEchoOf_6 rfl (by decide) rfl ?_
  refine z_aload_n C 1 dX4_chooseEchoOf_7 rfl ?_
  refine z_get C hK (v := .ref (a 42)) inX4_chooseEchoOf_X4 41 (WB_41 a c u) rfl 3 (by decide) (List.mem_of_getElem? (i := 1) rfl) rfl dX4_chooseEchoOf_8 ?_
  refine z_iload_n C 2 dX4_chooseEchoOf_11 rfl ?_
  refine z_iload_n C 0 dX4_chooseEchoOf_12 rfl ?_
  refine z_as (b := ((bn (X j) 8 : Nat) : Int)) (hX j (by omega) (by omega)) ?_
  refine z_aload_n C 1 dX4_chooseEchoOf_13 rfl ?_
  refine z_get C hK (v := .int (zI (u 41 7))) inX4_chooseEchoOf_X4 41 (WB_41 a c u) rfl 7 (by decide) (List.mem_of_getElem? (i := 2) rfl) rfl dX4_chooseEchoOf_14 ?_
  refine z_as (b := ((bn ec 8 : Nat) : Int)) (hec) ?_
  refine z_iand C (((bn (fun q => X j q && ec q) 8 : Nat) : Int)) dX4_chooseEchoOf_17 (by rw [zI_and, bn_and]) ?_
  refine z_aload_n C 1 dX4_chooseEchoOf_18 rfl ?_
  refine z_get C hK (v := .ref (a 42)) inX4_chooseEchoOf_X4 41 (WB_41 a c u) rfl 3 (by decide) (List.mem_of_getElem? (i := 1) rfl) rfl dX4_chooseEchoOf_19 ?_
  refine z_iload_n C 3 dX4_chooseEchoOf_22 rfl ?_
  refine z_iald C hK 0 (g := (u 42)) (i := i) 42 (WB_42 a c u) rfl (by decide) (by omega) dX4_chooseEchoOf_23 ?_
  refine z_as (b := u 42 (i)) rfl ?_
  refine z_as (b := ((bn (X i) 8 : Nat) : Int)) (hX i (by omega) (by omega)) ?_
  refine z_iand C (((bn (fun q => (X j q && ec q) && X i q) 8 : Nat) : Int)) dX4_chooseEchoOf_24 (by rw [zI_and, bn_and]) ?_
  refine z_iast C hK (hDD _) 0 (g := u 42) 42 (WB_42 a c u) rfl (by decide) (by omega) (WB_42_set a c u j (((bn (fun q => (X j q && ec q) && X i q) 8 : Nat) : Int))) dX4_chooseEchoOf_25 ?_
  refine z_aload_n C 1 dX4_chooseEchoOf_26 rfl ?_
  refine z_get C hK (v := .ref (a 42)) inX4_chooseEchoOf_X4 41 (WB_41 a c ((up u 42 (j) (((bn (fun q => (X j q && ec q) && X i q) 8 : Nat) : Int))))) rfl 3 (by decide) (List.mem_of_getElem? (i := 1) rfl) rfl dX4_chooseEchoOf_27 ?_
  refine z_iload_n C 2 dX4_chooseEchoOf_30 rfl ?_
  refine z_iald C hK 0 (g := ((up u 42 (j) (((bn (fun q => (X j q && ec q) && X i q) 8 : Nat) : Int))) 42)) (i := j) 42 (WB_42 a c ((up u 42 (j) (((bn (fun q => (X j q && ec q) && X i q) 8 : Nat) : Int))))) rfl (by decide) (by omega) dX4_chooseEchoOf_31 ?_
  refine z_as (b := ((bn (fun q => (X j q && ec q) && X i q) 8 : Nat) : Int)) (up_at _ _ _ _) ?_
  refine z_if_eq C 56 dX4_chooseEchoOf_32 (by decide) (by have h1 := bn_8 (fun q => (X j q && ec q) && X i q) (n := 8) (by omega); omega) (fun h1 => ?_) (fun h1 => ?_)
  · have hz : ¬ nz (ech ec X j i) := nz_no rfl h1
    refine z_aload_n C 1 dX4_chooseEchoOf_56 rfl ?_
    refine z_get C hK (v := .ref (a 42)) inX4_chooseEchoOf_X4 41 (WB_41 a c ((up u 42 (j) (((bn (fun q => (X j q && ec q) && X i q) 8 : Nat) : Int))))) rfl 3 (by decide) (List.mem_of_getElem? (i := 1) rfl) rfl dX4_chooseEchoOf_57 ?_
    refine z_iload_n C 2 dX4_chooseEchoOf_60 rfl ?_
    refine z_iload_n C 0 dX4_chooseEchoOf_61 rfl ?_
    refine z_iast C hK (hDD _) 0 (g := (up u 42 (j) (((bn (fun q => (X j q && ec q) && X i q) 8 : Nat) : Int))) 42) 42 (WB_42 a c ((up u 42 (j) (((bn (fun q => (X j q && ec q) && X i q) 8 : Nat) : Int))))) rfl (by decide) (by omega) (WB_42_set a c ((up u 42 (j) (((bn (fun q => (X j q && ec q) && X i q) 8 : Nat) : Int)))) j (u 42 (j))) dX4_chooseEchoOf_62 ?_
    refine z_ws (ws' := (WB a c (up u 41 (8) ((u 41 8))))) (congrArg (WB a c) (pl_rest2 u j _)) ?_
    exact kret 0 ((up u 41 (8) ((u 41 8)))) _ _ (by first | exact ⟨u 41 8, rfl, Bst_none hb.1 (fun t h => absurd h.1 hz)⟩ | exact ⟨b2, rfl, Bst_congr hB (fun t => ⟨fun q => ⟨hz, q⟩, fun q => q.2⟩)⟩) dX4_chooseEchoOf_63
  · have hz : nz (ech ec X j i) := nz_yes rfl h1
    refine z_aload_n C 1 dX4_chooseEchoOf_35 rfl ?_
    refine z_get C hK (v := .ref (a 43)) inX4_chooseEchoOf_X4 41 (WB_41 a c ((up u 42 (j) (((bn (fun q => (X j q && ec q) && X i q) 8 : Nat) : Int))))) rfl 4 (by decide) (List.mem_of_getElem? (i := 3) rfl) rfl dX4_chooseEchoOf_36 ?_
    refine z_iload_n C 3 dX4_chooseEchoOf_39 rfl ?_
    refine z_iconst C dX4_chooseEchoOf_40 ?_
    refine z_zast C hK (hDD _) 1 (g := (up u 42 (j) (((bn (fun q => (X j q && ec q) && X i q) 8 : Nat) : Int))) 43) 43 (WB_43 a c ((up u 42 (j) (((bn (fun q => (X j q && ec q) && X i q) 8 : Nat) : Int))))) rfl (by decide) (by omega) (by omega) (WB_43_set a c ((up u 42 (j) (((bn (fun q => (X j q && ec q) && X i q) 8 : Nat) : Int)))) i 1) dX4_chooseEchoOf_41 ?_
    refine z_aload_n C 1 dX4_chooseEchoOf_42 rfl ?_
    refine z_iload_n C 3 dX4_chooseEchoOf_43 rfl ?_
    refine z_iconst C dX4_chooseEchoOf_44 ?_
    refine z_iadd C dX4_chooseEchoOf_45 ?_
    refine z_callV C hK hDD (c_X4_chooseEchoes_2 (zl x) (zG x) a c ((up (up u 42 (j) (((bn (fun q => (X j q && ec q) && X i q) 8 : Nat) : Int))) 43 (i) (1))) (i + 1) ((fun k => if k = i then true else E k)) ((fun k => if k = j then ech ec X j i else X k)) ec (show (i + 1) = (u 17 8) - 2 by omega) (show 0 ≤ (i + 1) by omega) (hQ) (show 0 ≤ (u 41 8) ∧ (u 41 8) ≤ 4 by omega) (pl_hX hX) (pl_hE hE) ((if_neg (show ¬ ((0 : Int) = i) by omega)).trans hE0) (fun k h0 h1 => (if_neg (show ¬ (k = i) by omega)).trans (hEi k (by omega) h1)) (hec)) gX4_chooseEchoOf_X4_chooseEchoes rfl zy_X4_chooseEchoes 41 (WB_41 a c ((up (up u 42 (j) (((bn (fun q => (X j q && ec q) && X i q) 8 : Nat) : Int))) 43 (i) (1)))) rfl ⟨by omega, by decide⟩ rfl (Nat.le_of_ble_eq_true rfl) (st := []) (stk2 := fun _ => []) rfl (fun _ => rfl) dX4_chooseEchoOf_46 (fun z2 u3 h4 => ?_)
    obtain ⟨b2, e1, hB⟩ := h4
    rw [e1]
    change Z x 0 0 (WB a c (up (up (up u 42 (j) (((bn (fun q => (X j q && ec q) && X i q) 8 : Nat) : Int))) 43 (i) (1)) 41 (8) (b2))) _ _ _
    refine z_aload_n C 1 dX4_chooseEchoOf_49 rfl ?_
    refine z_get C hK (v := .ref (a 43)) inX4_chooseEchoOf_X4 41 (WB_41 a c ((up (up (up u 42 (j) (((bn (fun q => (X j q && ec q) && X i q) 8 : Nat) : Int))) 43 (i) (1)) 41 (8) (b2)))) rfl 4 (by decide) (List.mem_of_getElem? (i := 3) rfl) rfl dX4_chooseEchoOf_50 ?_
    refine z_iload_n C 3 dX4_chooseEchoOf_53 rfl ?_
    refine z_iconst C dX4_chooseEchoOf_54 ?_
    refine z_zast C hK (hDD _) 1 (g := (up (up (up u 42 (j) (((bn (fun q => (X j q && ec q) && X i q) 8 : Nat) : Int))) 43 (i) (1)) 41 (8) (b2)) 43) 43 (WB_43 a c ((up (up (up u 42 (j) (((bn (fun q => (X j q && ec q) && X i q) 8 : Nat) : Int))) 43 (i) (1)) 41 (8) (b2)))) rfl (by decide) (by omega) (by omega) (WB_43_set a c ((up (up (up u 42 (j) (((bn (fun q => (X j q && ec q) && X i q) 8 : Nat) : Int))) 43 (i) (1)) 41 (8) (b2))) i 0) dX4_chooseEchoOf_55 ?_
    refine z_aload_n C 1 dX4_chooseEchoOf_56 rfl ?_
    refine z_get C hK (v := .ref (a 42)) inX4_chooseEchoOf_X4 41 (WB_41 a c ((up (up (up (up u 42 (j) (((bn (fun q => (X j q && ec q) && X i q) 8 : Nat) : Int))) 43 (i) (1)) 41 (8) (b2)) 43 (i) (0)))) rfl 3 (by decide) (List.mem_of_getElem? (i := 1) rfl) rfl dX4_chooseEchoOf_57 ?_
    refine z_iload_n C 2 dX4_chooseEchoOf_60 rfl ?_
    refine z_iload_n C 0 dX4_chooseEchoOf_61 rfl ?_
    refine z_iast C hK (hDD _) 0 (g := (up (up (up (up u 42 (j) (((bn (fun q => (X j q && ec q) && X i q) 8 : Nat) : Int))) 43 (i) (1)) 41 (8) (b2)) 43 (i) (0)) 42) 42 (WB_42 a c ((up (up (up (up u 42 (j) (((bn (fun q => (X j q && ec q) && X i q) 8 : Nat) : Int))) 43 (i) (1)) 41 (8) (b2)) 43 (i) (0)))) rfl (by decide) (by omega) (WB_42_set a c ((up (up (up (up u 42 (j) (((bn (fun q => (X j q && ec q) && X i q) 8 : Nat) : Int))) 43 (i) (1)) 41 (8) (b2)) 43 (i) (0))) j (u 42 (j))) dX4_chooseEchoOf_62 ?_
    refine z_ws (ws' := (WB a c (up u 41 (8) (b2)))) (congrArg (WB a c) (pl_rest3 u j _ _ h43)) ?_
    exact kret 0 ((up u 41 (8) (b2))) _ _ (by first | exact ⟨u 41 8, rfl, Bst_none hb.1 (fun t h => absurd h.1 hz)⟩ | exact ⟨b2, rfl, Bst_congr hB (fun t => ⟨fun q => ⟨hz, q⟩, fun q => q.2⟩)⟩) dX4_chooseEchoOf_63
-- NoteBells$Pluckers.chooseEchoes
set_option maxHeartbeats 8000000 in
set_option maxRecDepth 100000 in
theorem c_X4_chooseEchoes_3 (l : Launch) (D : va_G) (a : Nat → Nat) (c : Nat → ClassId) (u : zU) (i : Int) (E : Int → Bool) (X : Int → Nat → Bool) (ec : Nat → Bool) (hi : i = u 17 8 - 3) (b_i : 0 ≤ i) (hQ : PQ (u 17 8) (u 3 8) (u 20)) (hb : 0 ≤ u 41 8 ∧ u 41 8 ≤ 4) (hX : ∀ k : Int, 0 ≤ k → k < u 17 8 → u 42 k = ((bn (X k) 8 : Nat) : Int)) (hE : ∀ k : Int, 0 ≤ k → k < u 17 8 → u 43 k = if E k = true then 1 else 0) (hE0 : E 0 = false) (hEi : ∀ k : Int, i ≤ k → k < u 17 8 → E k = false) (hec : u 41 7 = ((bn ec 8 : Nat) : Int)) : ZM l D (zTy c) (WB a c) yX4_chooseEchoes wsX4_chooseEchoes 22 [.ref (a 41), .int (zI i)] u rV (fun z u' => ∃ b' : Int, u' = up u 41 8 b' ∧ Bst (u 41 8) b' (fun t => CanE (u 20) (u 3 8) (u 17 8) ec 3 E X t)) := by
  refine ZM.ofV (cc := cX4_chooseEchoes) (maxL := 3) [(0, .ref (a 41)), (1, .int (zI i))] rfl (by decide +kernel) rfl (Nat.le_of_ble_eq_true rfl) (WB_addr a c) ?_
  intro x C hK _ _ hDD kret
  have hq1 := hQ.1
  have hq2 := hQ.2.1
  refine z_iload_n C 1 dX4_chooseEchoes_0 rfl ?_
  refine z_aload_n C 0 dX4_chooseEchoes_1 rfl ?_
  refine z_get C hK (v := .ref (a 17)) inX4_chooseEchoes_X4 41 (WB_41 a c u) rfl 1 (by decide) (List.mem_of_getElem? (i := 1) rfl) rfl dX4_chooseEchoes_2 ?_
  refine z_getN C hK (v := .int (zI (u 17 8))) inX4_chooseEchoes_X2 17 (WB_17 a c u) rfl 8 (by decide) (List.mem_of_getElem? (i := 34) rfl) rfl dX4_chooseEchoes_5 ?_
  refine z_icmp_lt C 18 dX4_chooseEchoes_8 (by decide) (by omega) (fun h1 => ?_) (fun h1 => ?_)
  · skip
    refine z_aload_n C 0 dX4_chooseEchoes_18 rfl ?_
    refine z_iload_n C 1 dX4_chooseEchoes_19 rfl ?_
    refine z_iconst C dX4_chooseEchoes_20 ?_
    refine z_iadd C dX4_chooseEchoes_21 ?_
    refine z_callV C hK hDD (c_X4_chooseEchoes_2 (zl x) (zG x) a c u (i + 1) E X ec (by omega) (by omega) (hQ) (by omega) (hX) (hE) (hE0) (fun k h0 h1 => hEi k (by omega) h1) (hec)) gX4_chooseEchoes_X4_chooseEchoes rfl zy_X4_chooseEchoes 41 (WB_41 a c u) rfl ⟨by omega, by decide⟩ rfl (Nat.le_of_ble_eq_true rfl) (st := []) (stk2 := fun _ => []) rfl (fun _ => rfl) dX4_chooseEchoes_22 (fun z2 u3 h4 => ?_)
    obtain ⟨b2, e1, hB⟩ := h4
    rw [e1]
    change Z x 0 0 (WB a c (up u 41 (8) (b2))) _ _ _
    refine z_iconst C dX4_chooseEchoes_25 ?_
    refine z_istore_n C [(2, .int (zI 0)), (0, .ref (a 41)), (1, .int (zI i))] dX4_chooseEchoes_26 rfl (by decide) rfl ?_
    have L27_5 : ∀ (fu : Nat) (j : Int) (b : Int), (0 ≤ j ∧ j ≤ i) → (Bst (u 41 8) b (fun t => CanE (u 20) (u 3 8) (u 17 8) ec 2 E X t ∨ ∃ k : Int, 0 ≤ k ∧ k < j ∧ ChC (u 20) (u 3 8) (u 17 8) ec 2 i E X k t)) → i - j < (fu : Int) → Z x 0 0 (WB a c (up u 41 (8) (b))) [(0, .ref (a 41)), (1, .int (zI i)), (2, .int (zI j))] 27 [] := by
      intro fu
      induction fu with
      | zero => intro j b hj hB hmeas; exfalso; omega
      | succ fu ih27 =>
        intro j b hj hB hmeas
        refine z_iload_n C 2 dX4_chooseEchoes_27 rfl ?_
        refine z_iload_n C 1 dX4_chooseEchoes_28 rfl ?_
        refine z_icmp_ge C 84 dX4_chooseEchoes_29 (by decide) (by omega) (fun h6 => ?_) (fun h6 => ?_)
        · skip
          exact kret 0 (up u 41 8 b) _ _ (⟨b, rfl, by first | exact CanE_prune hq1.1 (by omega) b_i (by omega) hE0 (by omega) hB | exact Bst_congr hB (CanE_end (by omega) (by omega))⟩) dX4_chooseEchoes_84
        · skip
          have hbb : 0 ≤ b ∧ b ≤ 4 := ⟨hB.1.1, Int.le_trans hB.1.2 hb.2⟩
          refine z_aload_n C 0 dX4_chooseEchoes_32 rfl ?_
          refine z_get C hK (v := .int (zI b)) inX4_chooseEchoes_X4 41 (WB_41 a c ((up u 41 (8) (b)))) rfl 8 (by decide) (List.mem_of_getElem? (i := 2) rfl) rfl dX4_chooseEchoes_33 ?_
          refine z_iconst C dX4_chooseEchoes_36 ?_
          refine z_icmp_le C 84 dX4_chooseEchoes_37 (by decide) (by omega) (fun h7 => ?_) (fun h7 => ?_)
          · skip
            exact kret 0 (up u 41 8 b) _ _ (⟨b, rfl, by first | exact CanE_prune hq1.1 (by omega) b_i (by omega) hE0 (by omega) hB | exact Bst_congr hB (CanE_end (by omega) (by omega))⟩) dX4_chooseEchoes_84
          · skip
            have hmj1 := hQ.2.2.1 j (by omega) (by omega)
            have hmj2 := hQ.2.2.1 i (by omega) (by omega)
            refine z_aload_n C 0 dX4_chooseEchoes_40 rfl ?_
            refine z_get C hK (v := .ref (a 43)) inX4_chooseEchoes_X4 41 (WB_41 a c ((up u 41 (8) (b)))) rfl 4 (by decide) (List.mem_of_getElem? (i := 3) rfl) rfl dX4_chooseEchoes_41 ?_
            refine z_iload_n C 2 dX4_chooseEchoes_44 rfl ?_
            refine z_zald C hK 1 (g := (u 43)) (i := j) 43 (WB_43 a c ((up u 41 (8) (b)))) rfl (by decide) (by omega) dX4_chooseEchoes_45 ?_
            refine z_as (b := u 43 (j)) rfl ?_
            refine z_as (b := (if E j = true then 1 else 0)) (hE j (by omega) (by omega)) ?_
            refine z_if_ne C 78 dX4_chooseEchoes_46 (by decide) (by split <;> omega) (fun h8 => ?_) (fun h8 => ?_)
            · have hno : ¬ (E j = false ∧ u 20 j + 2 = u 20 i) := fun q => absurd ((ite01_ne h8).symm.trans q.1) (by decide)
              refine z_iinc C 2 [(2, .int (zI (j + 1))), (0, .ref (a 41)), (1, .int (zI i))] dX4_chooseEchoes_78 rfl (by decide) rfl ?_
              refine z_goto C 27 dX4_chooseEchoes_81 (by decide) ?_
              refine z_lv [(0, .ref (a 41)), (1, .int (zI i)), (2, .int (zI (j + 1)))] [1, 2, 0] rfl ?_
              exact ih27 (j + 1) b (by omega) (by first | exact ch_take hj.1 hEj hmj hB hB2 | exact ch_skip hj.1 hno hB) (by omega)
            · have hEj := ite01_eq h8
              refine z_aload_n C 0 dX4_chooseEchoes_49 rfl ?_
              refine z_get C hK (v := .ref (a 17)) inX4_chooseEchoes_X4 41 (WB_41 a c ((up u 41 (8) (b)))) rfl 1 (by decide) (List.mem_of_getElem? (i := 1) rfl) rfl dX4_chooseEchoes_50 ?_
              refine z_getN C hK (v := .ref (a 20)) inX4_chooseEchoes_X2 17 (WB_17 a c ((up u 41 (8) (b)))) rfl 2 (by decide) (List.mem_of_getElem? (i := 36) rfl) rfl dX4_chooseEchoes_53 ?_
              refine z_iload_n C 2 dX4_chooseEchoes_56 rfl ?_
              refine z_iald C hK 0 (g := (u 20)) (i := j) 20 (WB_20 a c ((up u 41 (8) (b)))) rfl (by decide) (by omega) dX4_chooseEchoes_57 ?_
              refine z_as (b := u 20 (j)) rfl ?_
              refine z_iconst C dX4_chooseEchoes_58 ?_
              refine z_iadd C dX4_chooseEchoes_59 ?_
              refine z_aload_n C 0 dX4_chooseEchoes_60 rfl ?_
              refine z_get C hK (v := .ref (a 17)) inX4_chooseEchoes_X4 41 (WB_41 a c ((up u 41 (8) (b)))) rfl 1 (by decide) (List.mem_of_getElem? (i := 1) rfl) rfl dX4_chooseEchoes_61 ?_
              refine z_getN C hK (v := .ref (a 20)) inX4_chooseEchoes_X2 17 (WB_17 a c ((up u 41 (8) (b)))) rfl 2 (by decide) (List.mem_of_getElem? (i := 36) rfl) rfl dX4_chooseEchoes_64 ?_
              refine z_iload_n C 1 dX4_chooseEchoes_67 rfl ?_
              refine z_iald C hK 0 (g := (u 20)) (i := i) 20 (WB_20 a c ((up u 41 (8) (b)))) rfl (by decide) (by omega) dX4_chooseEchoes_68 ?_
              refine z_as (b := u 20 (i)) rfl ?_
              refine z_icmp_ne C 78 dX4_chooseEchoes_69 (by decide) (by omega) (fun h9 => ?_) (fun h9 => ?_)
              · have hno : ¬ (E j = false ∧ u 20 j + 2 = u 20 i) := fun q => h9 q.2
                refine z_iinc C 2 [(2, .int (zI (j + 1))), (0, .ref (a 41)), (1, .int (zI i))] dX4_chooseEchoes_78 rfl (by decide) rfl ?_
                refine z_goto C 27 dX4_chooseEchoes_81 (by decide) ?_
                refine z_lv [(0, .ref (a 41)), (1, .int (zI i)), (2, .int (zI (j + 1)))] [1, 2, 0] rfl ?_
                exact ih27 (j + 1) b (by omega) (by first | exact ch_take hj.1 hEj hmj hB hB2 | exact ch_skip hj.1 hno hB) (by omega)
              · have hmj := h9
                refine z_aload_n C 0 dX4_chooseEchoes_72 rfl ?_
                refine z_iload_n C 2 dX4_chooseEchoes_73 rfl ?_
                refine z_iload_n C 1 dX4_chooseEchoes_74 rfl ?_
                refine z_callV C hK hDD (c_X4_chooseEchoOf_3 (zl x) (zG x) a c ((up u 41 (8) (b))) j i E X ec (show i = (u 17 8) - 3 by omega) (show 0 ≤ j ∧ j < i ∧ i < (u 17 8) by omega) (hQ) (show 0 ≤ b ∧ b ≤ 4 from hbb) (hX) (hE) (hE0) (hEi) (hec)) gX4_chooseEchoes_X4_chooseEchoOf rfl zy_X4_chooseEchoOf 41 (WB_41 a c ((up u 41 (8) (b)))) rfl ⟨by omega, by decide⟩ rfl (Nat.le_of_ble_eq_true rfl) (st := []) (stk2 := fun _ => []) rfl (fun _ => rfl) dX4_chooseEchoes_75 (fun z10 u11 h12 => ?_)
                obtain ⟨b2, e1, hB2⟩ := h12
                rw [e1]
                change Z x 0 0 (WB a c (up u 41 (8) (b2))) _ _ _
                refine z_iinc C 2 [(2, .int (zI (j + 1))), (0, .ref (a 41)), (1, .int (zI i))] dX4_chooseEchoes_78 rfl (by decide) rfl ?_
                refine z_goto C 27 dX4_chooseEchoes_81 (by decide) ?_
                refine z_lv [(0, .ref (a 41)), (1, .int (zI i)), (2, .int (zI (j + 1)))] [1, 2, 0] rfl ?_
                exact ih27 (j + 1) b2 (by omega) (by first | exact ch_take hj.1 hEj hmj hB hB2 | exact ch_skip hj.1 hno hB) (by omega)
    refine z_lv [(0, .ref (a 41)), (1, .int (zI i)), (2, .int (zI 0))] [1, 2, 0] rfl ?_
    exact L27_5 (((i - 0 : Int)).toNat + 1) 0 b2 (by omega) (Bst_congr hB ch_first) (by omega)
  · exfalso; omega
-- NoteBells$Pluckers.chooseEchoOf
set_option maxHeartbeats 8000000 in
set_option maxRecDepth 100000 in
theorem c_X4_chooseEchoOf_4 (l : Launch) (D : va_G) (a : Nat → Nat) (c : Nat → ClassId) (u : zU) (j i : Int) (E : Int → Bool) (X : Int → Nat → Bool) (ec : Nat → Bool) (hi : i = u 17 8 - 4) (b_i : 0 ≤ j ∧ j < i ∧ i < u 17 8) (hQ : PQ (u 17 8) (u 3 8) (u 20)) (hb : 0 ≤ u 41 8 ∧ u 41 8 ≤ 4) (hX : ∀ k : Int, 0 ≤ k → k < u 17 8 → u 42 k = ((bn (X k) 8 : Nat) : Int)) (hE : ∀ k : Int, 0 ≤ k → k < u 17 8 → u 43 k = if E k = true then 1 else 0) (hE0 : E 0 = false) (hEi : ∀ k : Int, i ≤ k → k < u 17 8 → E k = false) (hec : u 41 7 = ((bn ec 8 : Nat) : Int)) : ZM l D (zTy c) (WB a c) yX4_chooseEchoOf wsX4_chooseEchoOf 23 [.ref (a 41), .int (zI j), .int (zI i)] u rV (fun z u' => ∃ b' : Int, u' = up u 41 8 b' ∧ Bst (u 41 8) b' (fun t => ChE (u 20) (u 3 8) (u 17 8) ec 3 i E X j t)) := by
  refine ZM.ofV (cc := cX4_chooseEchoOf) (maxL := 4) [(0, .ref (a 41)), (1, .int (zI j)), (2, .int (zI i))] rfl (by decide +kernel) rfl (Nat.le_of_ble_eq_true rfl) (WB_addr a c) ?_
  intro x C hK _ _ hDD kret
  have hq1 := hQ.1
  have hq2 := hQ.2.1
  have h43 : u 43 i = 0 := (hE i (by omega) (by omega)).trans (if_neg (by rw [hEi i (Int.le_refl _) (by omega)]; decide))
  refine z_aload_n C 0 dX4_chooseEchoOf_0 rfl ?_
  refine z_get C hK (v := .ref (a 42)) inX4_chooseEchoOf_X4 41 (WB_41 a c u) rfl 3 (by decide) (List.mem_of_getElem? (i := 1) rfl) rfl dX4_chooseEchoOf_1 ?_
  refine z_iload_n C 1 dX4_chooseEchoOf_4 rfl ?_
  refine z_iald C hK 0 (g := (u 42)) (i := j) 42 (WB_42 a c u) rfl (by decide) (by omega) dX4_chooseEchoOf_5 ?_
  refine z_as (b := u 42 (j)) rfl ?_
  refine z_istore_n C [(3, .int (zI (u 42 (j)))), (0, .ref (a 41)), (1, .int (zI j)), (2, .int (zI i))] dX4_chooseEchoOf_6 rfl (by decide) rfl ?_
  refine z_aload_n C 1 dX4_chooseEchoOf_7 rfl ?_
  refine z_get C hK (v := .ref (a 42)) inX4_chooseEchoOf_X4 41 (WB_41 a c u) rfl 3 (by decide) (List.mem_of_getElem? (i := 1) rfl) rfl dX4_chooseEchoOf_8 ?_
  refine z_iload_n C 2 dX4_chooseEchoOf_11 rfl ?_
  refine z_iload_n C 0 dX4_chooseEchoOf_12 rfl ?_
  refine z_as (b := ((bn (X j) 8 : Nat) : Int)) (hX j (by omega) (by omega)) ?_
  refine z_aload_n C 1 dX4_chooseEchoOf_13 rfl ?_
  refine z_get C hK (v := .int (zI (u 41 7))) inX4_chooseEchoOf_X4 41 (WB_41 a c u) rfl 7 (by decide) (List.mem_of_getElem? (i := 2) rfl) rfl dX4_chooseEchoOf_14 ?_
  refine z_as (b := ((bn ec 8 : Nat) : Int)) (hec) ?_
  refine z_iand C (((bn (fun q => X j q && ec q) 8 : Nat) : Int)) dX4_chooseEchoOf_17 (by rw [zI_and, bn_and]) ?_
  refine z_aload_n C 1 dX4_chooseEchoOf_18 rfl ?_
  refine z_get C hK (v := .ref (a 42)) inX4_chooseEchoOf_X4 41 (WB_41 a c u) rfl 3 (by decide) (List.mem_of_getElem? (i := 1) rfl) rfl dX4_chooseEchoOf_19 ?_
  refine z_iload_n C 3 dX4_chooseEchoOf_22 rfl ?_
  refine z_iald C hK 0 (g := (u 42)) (i := i) 42 (WB_42 a c u) rfl (by decide) (by omega) dX4_chooseEchoOf_23 ?_
  refine z_as (b := u 42 (i)) rfl ?_
  refine z_as (b := ((bn (X i) 8 : Nat) : Int)) (hX i (by omega) (by omega)) ?_
  refine z_iand C (((bn (fun q => (X j q && ec q) && X i q) 8 : Nat) : Int)) dX4_chooseEchoOf_24 (by rw [zI_and, bn_and]) ?_
  refine z_iast C hK (hDD _) 0 (g := u 42) 42 (WB_42 a c u) rfl (by decide) (by omega) (WB_42_set a c u j (((bn (fun q => (X j q && ec q) && X i q) 8 : Nat) : Int))) dX4_chooseEchoOf_25 ?_
  refine z_aload_n C 1 dX4_chooseEchoOf_26 rfl ?_
  refine z_get C hK (v := .ref (a 42)) inX4_chooseEchoOf_X4 41 (WB_41 a c ((up u 42 (j) (((bn (fun q => (X j q && ec q) && X i q) 8 : Nat) : Int))))) rfl 3 (by decide) (List.mem_of_getElem? (i := 1) rfl) rfl dX4_chooseEchoOf_27 ?_
  refine z_iload_n C 2 dX4_chooseEchoOf_30 rfl ?_
  refine z_iald C hK 0 (g := ((up u 42 (j) (((bn (fun q => (X j q && ec q) && X i q) 8 : Nat) : Int))) 42)) (i := j) 42 (WB_42 a c ((up u 42 (j) (((bn (fun q => (X j q && ec q) && X i q) 8 : Nat) : Int))))) rfl (by decide) (by omega) dX4_chooseEchoOf_31 ?_
  refine z_as (b := ((bn (fun q => (X j q && ec q) && X i q) 8 : Nat) : Int)) (up_at _ _ _ _) ?_
  refine z_if_eq C 56 dX4_chooseEchoOf_32 (by decide) (by have h1 := bn_8 (fun q => (X j q && ec q) && X i q) (n := 8) (by omega); omega) (fun h1 => ?_) (fun h1 => ?_)
  · have hz : ¬ nz (ech ec X j i) := nz_no rfl h1
    refine z_aload_n C 1 dX4_chooseEchoOf_56 rfl ?_
    refine z_get C hK (v := .ref (a 42)) inX4_chooseEchoOf_X4 41 (WB_41 a c ((up u 42 (j) (((bn (fun q => (X j q && ec q) && X i q) 8 : Nat) : Int))))) rfl 3 (by decide) (List.mem_of_getElem? (i := 1) rfl) rfl dX4_chooseEchoOf_57 ?_
    refine z_iload_n C 2 dX4_chooseEchoOf_60 rfl ?_
    refine z_iload_n C 0 dX4_chooseEchoOf_61 rfl ?_
    refine z_iast C hK (hDD _) 0 (g := (up u 42 (j) (((bn (fun q => (X j q && ec q) && X i q) 8 : Nat) : Int))) 42) 42 (WB_42 a c ((up u 42 (j) (((bn (fun q => (X j q && ec q) && X i q) 8 : Nat) : Int))))) rfl (by decide) (by omega) (WB_42_set a c ((up u 42 (j) (((bn (fun q => (X j q && ec q) && X i q) 8 : Nat) : Int)))) j (u 42 (j))) dX4_chooseEchoOf_62 ?_
    refine z_ws (ws' := (WB a c (up u 41 (8) ((u 41 8))))) (congrArg (WB a c) (pl_rest2 u j _)) ?_
    exact kret 0 ((up u 41 (8) ((u 41 8)))) _ _ (by first | exact ⟨u 41 8, rfl, Bst_none hb.1 (fun t h => absurd h.1 hz)⟩ | exact ⟨b2, rfl, Bst_congr hB (fun t => ⟨fun q => ⟨hz, q⟩, fun q => q.2⟩)⟩) dX4_chooseEchoOf_63
  · have hz : nz (ech ec X j i) := nz_yes rfl h1
    refine z_aload_n C 1 dX4_chooseEchoOf_35 rfl ?_
    refine z_get C hK (v := .ref (a 43)) inX4_chooseEchoOf_X4 41 (WB_41 a c ((up u 42 (j) (((bn (fun q => (X j q && ec q) && X i q) 8 : Nat) : Int))))) rfl 4 (by decide) (List.mem_of_getElem? (i := 3) rfl) rfl dX4_chooseEchoOf_36 ?_
    refine z_iload_n C 3 dX4_chooseEchoOf_39 rfl ?_
    refine z_iconst C dX4_chooseEchoOf_40 ?_
    refine z_zast C hK (hDD _) 1 (g := (up u 42 (j) (((bn (fun q => (X j q && ec q) && X i q) 8 : Nat) : Int))) 43) 43 (WB_43 a c ((up u 42 (j) (((bn (fun q => (X j q && ec q) && X i q) 8 : Nat) : Int))))) rfl (by decide) (by omega) (by omega) (WB_43_set a c ((up u 42 (j) (((bn (fun q => (X j q && ec q) && X i q) 8 : Nat) : Int)))) i 1) dX4_chooseEchoOf_41 ?_
    refine z_aload_n C 1 dX4_chooseEchoOf_42 rfl ?_
    refine z_iload_n C 3 dX4_chooseEchoOf_43 rfl ?_
    refine z_iconst C dX4_chooseEchoOf_44 ?_
    refine z_iadd C dX4_chooseEchoOf_45 ?_
    refine z_callV C hK hDD (c_X4_chooseEchoes_3 (zl x) (zG x) a c ((up (up u 42 (j) (((bn (fun q => (X j q && ec q) && X i q) 8 : Nat) : Int))) 43 (i) (1))) (i + 1) ((fun k => if k = i then true else E k)) ((fun k => if k = j then ech ec X j i else X k)) ec (show (i + 1) = (u 17 8) - 3 by omega) (show 0 ≤ (i + 1) by omega) (hQ) (show 0 ≤ (u 41 8) ∧ (u 41 8) ≤ 4 by omega) (pl_hX hX) (pl_hE hE) ((if_neg (show ¬ ((0 : Int) = i) by omega)).trans hE0) (fun k h0 h1 => (if_neg (show ¬ (k = i) by omega)).trans (hEi k (by omega) h1)) (hec)) gX4_chooseEchoOf_X4_chooseEchoes rfl zy_X4_chooseEchoes 41 (WB_41 a c ((up (up u 42 (j) (((bn (fun q => (X j q && ec q) && X i q) 8 : Nat) : Int))) 43 (i) (1)))) rfl ⟨by omega, by decide⟩ rfl (Nat.le_of_ble_eq_true rfl) (st := []) (stk2 := fun _ => []) rfl (fun _ => rfl) dX4_chooseEchoOf_46 (fun z2 u3 h4 => ?_)
    obtain ⟨b2, e1, hB⟩ := h4
    rw [e1]
    change Z x 0 0 (WB a c (up (up (up u 42 (j) (((bn (fun q => (X j q && ec q) && X i q) 8 : Nat) : Int))) 43 (i) (1)) 41 (8) (b2))) _ _ _
    refine z_aload_n C 1 dX4_chooseEchoOf_49 rfl ?_
    refine z_get C hK (v := .ref (a 43)) inX4_chooseEchoOf_X4 41 (WB_41 a c ((up (up (up u 42 (j) (((bn (fun q => (X j q && ec q) && X i q) 8 : Nat) : Int))) 43 (i) (1)) 41 (8) (b2)))) rfl 4 (by decide) (List.mem_of_getElem? (i := 3) rfl) rfl dX4_chooseEchoOf_50 ?_
    refine z_iload_n C 3 dX4_chooseEchoOf_53 rfl ?_
    refine z_iconst C dX4_chooseEchoOf_54 ?_
    refine z_zast C hK (hDD _) 1 (g := (up (up (up u 42 (j) (((bn (fun q => (X j q && ec q) && X i q) 8 : Nat) : Int))) 43 (i) (1)) 41 (8) (b2)) 43) 43 (WB_43 a c ((up (up (up u 42 (j) (((bn (fun q => (X j q && ec q) && X i q) 8 : Nat) : Int))) 43 (i) (1)) 41 (8) (b2)))) rfl (by decide) (by omega) (by omega) (WB_43_set a c ((up (up (up u 42 (j) (((bn (fun q => (X j q && ec q) && X i q) 8 : Nat) : Int))) 43 (i) (1)) 41 (8) (b2))) i 0) dX4_chooseEchoOf_55 ?_
    refine z_aload_n C 1 dX4_chooseEchoOf_56 rfl ?_
    refine z_get C hK (v := .ref (a 42)) inX4_chooseEchoOf_X4 41 (WB_41 a c ((up (up (up (up u 42 (j) (((bn (fun q => (X j q && ec q) && X i q) 8 : Nat) : Int))) 43 (i) (1)) 41 (8) (b2)) 43 (i) (0)))) rfl 3 (by decide) (List.mem_of_getElem? (i := 1) rfl) rfl dX4_chooseEchoOf_57 ?_
    refine z_iload_n C 2 dX4_chooseEchoOf_60 rfl ?_
    refine z_iload_n C 0 dX4_chooseEchoOf_61 rfl ?_
    refine z_iast C hK (hDD _) 0 (g := (up (up (up (up u 42 (j) (((bn (fun q => (X j q && ec q) && X i q) 8 : Nat) : Int))) 43 (i) (1)) 41 (8) (b2)) 43 (i) (0)) 42) 42 (WB_42 a c ((up (up (up (up u 42 (j) (((bn (fun q => (X j q && ec q) && X i q) 8 : Nat) : Int))) 43 (i) (1)) 41 (8) (b2)) 43 (i) (0)))) rfl (by decide) (by omega) (WB_42_set a c ((up (up (up (up u 42 (j) (((bn (fun q => (X j q && ec q) && X i q) 8 : Nat) : Int))) 43 (i) (1)) 41 (8) (b2)) 43 (i) (0))) j (u 42 (j))) dX4_chooseEchoOf_62 ?_
    refine z_ws (ws' := (WB a c (up u 41 (8) (b2)))) (congrArg (WB a c) (pl_rest3 u j _ _ h43)) ?_
    exact kret 0 ((up u 41 (8) (b2))) _ _ (by first | exact ⟨u 41 8, rfl, Bst_none hb.1 (fun t h => absurd h.1 hz)⟩ | exact ⟨b2, rfl, Bst_congr hB (fun t => ⟨fun q => ⟨hz, q⟩, fun q => q.2⟩)⟩) dX4_chooseEchoOf_63
-- NoteBells$Pluckers.chooseEchoes
set_option maxHeartbeats 8000000 in
set_option maxRecDepth 100000 in
theorem c_X4_chooseEchoes_4 (l : Launch) (D : va_G) (a : Nat → Nat) (c : Nat → ClassId) (u : zU) (i : Int) (E : Int → Bool) (X : Int → Nat → Bool) (ec : Nat → Bool) (hi : i = u 17 8 - 4) (b_i : 0 ≤ i) (hQ : PQ (u 17 8) (u 3 8) (u 20)) (hb : 0 ≤ u 41 8 ∧ u 41 8 ≤ 4) (hX : ∀ k : Int, 0 ≤ k → k < u 17 8 → u 42 k = ((bn (X k) 8 : Nat) : Int)) (hE : ∀ k : Int, 0 ≤ k → k < u 17 8 → u 43 k = if E k = true then 1 else 0) (hE0 : E 0 = false) (hEi : ∀ k : Int, i ≤ k → k < u 17 8 → E k = false) (hec : u 41 7 = ((bn ec 8 : Nat) : Int)) : ZM l D (zTy c) (WB a c) yX4_chooseEchoes wsX4_chooseEchoes 24 [.ref (a 41), .int (zI i)] u rV (fun z u' => ∃ b' : Int, u' = up u 41 8 b' ∧ Bst (u 41 8) b' (fun t => CanE (u 20) (u 3 8) (u 17 8) ec 4 E X t)) := by
  refine ZM.ofV (cc := cX4_chooseEchoes) (maxL := 3) [(0, .ref (a 41)), (1, .int (zI i))] rfl (by decide +kernel) rfl (Nat.le_of_ble_eq_true rfl) (WB_addr a c) ?_
  intro x C hK _ _ hDD kret
  have hq1 := hQ.1
  have hq2 := hQ.2.1
  refine z_iload_n C 1 dX4_chooseEchoes_0 rfl ?_
  refine z_aload_n C 0 dX4_chooseEchoes_1 rfl ?_
  refine z_get C hK (v := .ref (a 17)) inX4_chooseEchoes_X4 41 (WB_41 a c u) rfl 1 (by decide) (List.mem_of_getElem? (i := 1) rfl) rfl dX4_chooseEchoes_2 ?_
  refine z_getN C hK (v := .int (zI (u 17 8))) inX4_chooseEchoes_X2 17 (WB_17 a c u) rfl 8 (by decide) (List.mem_of_getElem? (i := 34) rfl) rfl dX4_chooseEchoes_5 ?_
  refine z_icmp_lt C 18 dX4_chooseEchoes_8 (by decide) (by omega) (fun h1 => ?_) (fun h1 => ?_)
  · skip
    refine z_aload_n C 0 dX4_chooseEchoes_18 rfl ?_
    refine z_iload_n C 1 dX4_chooseEchoes_19 rfl ?_
    refine z_iconst C dX4_chooseEchoes_20 ?_
    refine z_iadd C dX4_chooseEchoes_21 ?_
    refine z_callV C hK hDD (c_X4_chooseEchoes_3 (zl x) (zG x) a c u (i + 1) E X ec (by omega) (by omega) (hQ) (by omega) (hX) (hE) (hE0) (fun k h0 h1 => hEi k (by omega) h1) (hec)) gX4_chooseEchoes_X4_chooseEchoes rfl zy_X4_chooseEchoes 41 (WB_41 a c u) rfl ⟨by omega, by decide⟩ rfl (Nat.le_of_ble_eq_true rfl) (st := []) (stk2 := fun _ => []) rfl (fun _ => rfl) dX4_chooseEchoes_22 (fun z2 u3 h4 => ?_)
    obtain ⟨b2, e1, hB⟩ := h4
    rw [e1]
    change Z x 0 0 (WB a c (up u 41 (8) (b2))) _ _ _
    refine z_iconst C dX4_chooseEchoes_25 ?_
    refine z_istore_n C [(2, .int (zI 0)), (0, .ref (a 41)), (1, .int (zI i))] dX4_chooseEchoes_26 rfl (by decide) rfl ?_
    have L27_5 : ∀ (fu : Nat) (j : Int) (b : Int), (0 ≤ j ∧ j ≤ i) → (Bst (u 41 8) b (fun t => CanE (u 20) (u 3 8) (u 17 8) ec 3 E X t ∨ ∃ k : Int, 0 ≤ k ∧ k < j ∧ ChC (u 20) (u 3 8) (u 17 8) ec 3 i E X k t)) → i - j < (fu : Int) → Z x 0 0 (WB a c (up u 41 (8) (b))) [(0, .ref (a 41)), (1, .int (zI i)), (2, .int (zI j))] 27 [] := by
      intro fu
      induction fu with
      | zero => intro j b hj hB hmeas; exfalso; omega
      | succ fu ih27 =>
        intro j b hj hB hmeas
        refine z_iload_n C 2 dX4_chooseEchoes_27 rfl ?_
        refine z_iload_n C 1 dX4_chooseEchoes_28 rfl ?_
        refine z_icmp_ge C 84 dX4_chooseEchoes_29 (by decide) (by omega) (fun h6 => ?_) (fun h6 => ?_)
        · skip
          exact kret 0 (up u 41 8 b) _ _ (⟨b, rfl, by first | exact CanE_prune hq1.1 (by omega) b_i (by omega) hE0 (by omega) hB | exact Bst_congr hB (CanE_end (by omega) (by omega))⟩) dX4_chooseEchoes_84
        · skip
          have hbb : 0 ≤ b ∧ b ≤ 4 := ⟨hB.1.1, Int.le_trans hB.1.2 hb.2⟩
          refine z_aload_n C 0 dX4_chooseEchoes_32 rfl ?_
          refine z_get C hK (v := .int (zI b)) inX4_chooseEchoes_X4 41 (WB_41 a c ((up u 41 (8) (b)))) rfl 8 (by decide) (List.mem_of_getElem? (i := 2) rfl) rfl dX4_chooseEchoes_33 ?_
          refine z_iconst C dX4_chooseEchoes_36 ?_
          refine z_icmp_le C 84 dX4_chooseEchoes_37 (by decide) (by omega) (fun h7 => ?_) (fun h7 => ?_)
          · skip
            exact kret 0 (up u 41 8 b) _ _ (⟨b, rfl, by first | exact CanE_prune hq1.1 (by omega) b_i (by omega) hE0 (by omega) hB | exact Bst_congr hB (CanE_end (by omega) (by omega))⟩) dX4_chooseEchoes_84
          · skip
            have hmj1 := hQ.2.2.1 j (by omega) (by omega)
            have hmj2 := hQ.2.2.1 i (by omega) (by omega)
            refine z_aload_n C 0 dX4_chooseEchoes_40 rfl ?_
            refine z_get C hK (v := .ref (a 43)) inX4_chooseEchoes_X4 41 (WB_41 a c ((up u 41 (8) (b)))) rfl 4 (by decide) (List.mem_of_getElem? (i := 3) rfl) rfl dX4_chooseEchoes_41 ?_
            refine z_iload_n C 2 dX4_chooseEchoes_44 rfl ?_
            refine z_zald C hK 1 (g := (u 43)) (i := j) 43 (WB_43 a c ((up u 41 (8) (b)))) rfl (by decide) (by omega) dX4_chooseEchoes_45 ?_
            refine z_as (b := u 43 (j)) rfl ?_
            refine z_as (b := (if E j = true then 1 else 0)) (hE j (by omega) (by omega)) ?_
            refine z_if_ne C 78 dX4_chooseEchoes_46 (by decide) (by split <;> omega) (fun h8 => ?_) (fun h8 => ?_)
            · have hno : ¬ (E j = false ∧ u 20 j + 2 = u 20 i) := fun q => absurd ((ite01_ne h8).symm.trans q.1) (by decide)
              refine z_iinc C 2 [(2, .int (zI (j + 1))), (0, .ref (a 41)), (1, .int (zI i))] dX4_chooseEchoes_78 rfl (by decide) rfl ?_
              refine z_goto C 27 dX4_chooseEchoes_81 (by decide) ?_
              refine z_lv [(0, .ref (a 41)), (1, .int (zI i)), (2, .int (zI (j + 1)))] [1, 2, 0] rfl ?_
              exact ih27 (j + 1) b (by omega) (by first | exact ch_take hj.1 hEj hmj hB hB2 | exact ch_skip hj.1 hno hB) (by omega)
            · have hEj := ite01_eq h8
              refine z_aload_n C 0 dX4_chooseEchoes_49 rfl ?_
              refine z_get C hK (v := .ref (a 17)) inX4_chooseEchoes_X4 41 (WB_41 a c ((up u 41 (8) (b)))) rfl 1 (by decide) (List.mem_of_getElem? (i := 1) rfl) rfl dX4_chooseEchoes_50 ?_
              refine z_getN C hK (v := .ref (a 20)) inX4_chooseEchoes_X2 17 (WB_17 a c ((up u 41 (8) (b)))) rfl 2 (by decide) (List.mem_of_getElem? (i := 36) rfl) rfl dX4_chooseEchoes_53 ?_
              refine z_iload_n C 2 dX4_chooseEchoes_56 rfl ?_
              refine z_iald C hK 0 (g := (u 20)) (i := j) 20 (WB_20 a c ((up u 41 (8) (b)))) rfl (by decide) (by omega) dX4_chooseEchoes_57 ?_
              refine z_as (b := u 20 (j)) rfl ?_
              refine z_iconst C dX4_chooseEchoes_58 ?_
              refine z_iadd C dX4_chooseEchoes_59 ?_
              refine z_aload_n C 0 dX4_chooseEchoes_60 rfl ?_
              refine z_get C hK (v := .ref (a 17)) inX4_chooseEchoes_X4 41 (WB_41 a c ((up u 41 (8) (b)))) rfl 1 (by decide) (List.mem_of_getElem? (i := 1) rfl) rfl dX4_chooseEchoes_61 ?_
              refine z_getN C hK (v := .ref (a 20)) inX4_chooseEchoes_X2 17 (WB_17 a c ((up u 41 (8) (b)))) rfl 2 (by decide) (List.mem_of_getElem? (i := 36) rfl) rfl dX4_chooseEchoes_64 ?_
              refine z_iload_n C 1 dX4_chooseEchoes_67 rfl ?_
              refine z_iald C hK 0 (g := (u 20)) (i := i) 20 (WB_20 a c ((up u 41 (8) (b)))) rfl (by decide) (by omega) dX4_chooseEchoes_68 ?_
              refine z_as (b := u 20 (i)) rfl ?_
              refine z_icmp_ne C 78 dX4_chooseEchoes_69 (by decide) (by omega) (fun h9 => ?_) (fun h9 => ?_)
              · have hno : ¬ (E j = false ∧ u 20 j + 2 = u 20 i) := fun q => h9 q.2
                refine z_iinc C 2 [(2, .int (zI (j + 1))), (0, .ref (a 41)), (1, .int (zI i))] dX4_chooseEchoes_78 rfl (by decide) rfl ?_
                refine z_goto C 27 dX4_chooseEchoes_81 (by decide) ?_
                refine z_lv [(0, .ref (a 41)), (1, .int (zI i)), (2, .int (zI (j + 1)))] [1, 2, 0] rfl ?_
                exact ih27 (j + 1) b (by omega) (by first | exact ch_take hj.1 hEj hmj hB hB2 | exact ch_skip hj.1 hno hB) (by omega)
              · have hmj := h9
                refine z_aload_n C 0 dX4_chooseEchoes_72 rfl ?_
                refine z_iload_n C 2 dX4_chooseEchoes_73 rfl ?_
                refine z_iload_n C 1 dX4_chooseEchoes_74 rfl ?_
                refine z_callV C hK hDD (c_X4_chooseEchoOf_4 (zl x) (zG x) a c ((up u 41 (8) (b))) j i E X ec (show i = (u 17 8) - 4 by omega) (show 0 ≤ j ∧ j < i ∧ i < (u 17 8) by omega) (hQ) (show 0 ≤ b ∧ b ≤ 4 from hbb) (hX) (hE) (hE0) (hEi) (hec)) gX4_chooseEchoes_X4_chooseEchoOf rfl zy_X4_chooseEchoOf 41 (WB_41 a c ((up u 41 (8) (b)))) rfl ⟨by omega, by decide⟩ rfl (Nat.le_of_ble_eq_true rfl) (st := []) (stk2 := fun _ => []) rfl (fun _ => rfl) dX4_chooseEchoes_75 (fun z10 u11 h12 => ?_)
                obtain ⟨b2, e1, hB2⟩ := h12
                rw [e1]
                change Z x 0 0 (WB a c (up u 41 (8) (b2))) _ _ _
                refine z_iinc C 2 [(2, .int (zI (j + 1))), (0, .ref (a 41)), (1, .int (zI i))] dX4_chooseEchoes_78 rfl (by decide) rfl ?_
                refine z_goto C 27 dX4_chooseEchoes_81 (by decide) ?_
                refine z_lv [(0, .ref (a 41)), (1, .int (zI i)), (2, .int (zI (j + 1)))] [1, 2, 0] rfl ?_
                exact ih27 (j + 1) b2 (by omega) (by first | exact ch_take hj.1 hEj hmj hB hB2 | exact ch_skip hj.1 hno hB) (by omega)
    refine z_lv [(0, .ref (a 41)), (1, .int (zI i)), (2, .int (zI 0))] [1, 2, 0] rfl ?_
    exact L27_5 (((i - 0 : Int)).toNat + 1) 0 b2 (by omega) (Bst_congr hB ch_first) (by omega)
  · exfalso; omega
-- NoteBells$Pluckers.chooseEchoOf
set_option maxHeartbeats 8000000 in
set_option maxRecDepth 100000 in
theorem c_X4_chooseEchoOf_5 (l : Launch) (D : va_G) (a : Nat → Nat) (c : Nat → ClassId) (u : zU) (j i : Int) (E : Int → Bool) (X : Int → Nat → Bool) (ec : Nat → Bool) (hi : i = u 17 8 - 5) (b_i : 0 ≤ j ∧ j < i ∧ i < u 17 8) (hQ : PQ (u 17 8) (u 3 8) (u 20)) (hb : 0 ≤ u 41 8 ∧ u 41 8 ≤ 4) (hX : ∀ k : Int, 0 ≤ k → k < u 17 8 → u 42 k = ((bn (X k) 8 : Nat) : Int)) (hE : ∀ k : Int, 0 ≤ k → k < u 17 8 → u 43 k = if E k = true then 1 else 0) (hE0 : E 0 = false) (hEi : ∀ k : Int, i ≤ k → k < u 17 8 → E k = false) (hec : u 41 7 = ((bn ec 8 : Nat) : Int)) : ZM l D (zTy c) (WB a c) yX4_chooseEchoOf wsX4_chooseEchoOf 25 [.ref (a 41), .int (zI j), .int (zI i)] u rV (fun z u' => ∃ b' : Int, u' = up u 41 8 b' ∧ Bst (u 41 8) b' (fun t => ChE (u 20) (u 3 8) (u 17 8) ec 4 i E X j t)) := by
  refine ZM.ofV (cc := cX4_chooseEchoOf) (maxL := 4) [(0, .ref (a 41)), (1, .int (zI j)), (2, .int (zI i))] rfl (by decide +kernel) rfl (Nat.le_of_ble_eq_true rfl) (WB_addr a c) ?_
  intro x C hK _ _ hDD kret
  have hq1 := hQ.1
  have hq2 := hQ.2.1
  have h43 : u 43 i = 0 := (hE i (by omega) (by omega)).trans (if_neg (by rw [hEi i (Int.le_refl _) (by omega)]; decide))
  refine z_aload_n C 0 dX4_chooseEchoOf_0 rfl ?_
  refine z_get C hK (v := .ref (a 42)) inX4_chooseEchoOf_X4 41 (WB_41 a c u) rfl 3 (by decide) (List.mem_of_getElem? (i := 1) rfl) rfl dX4_chooseEchoOf_1 ?_
  refine z_iload_n C 1 dX4_chooseEchoOf_4 rfl ?_
  refine z_iald C hK 0 (g := (u 42)) (i := j) 42 (WB_42 a c u) rfl (by decide) (by omega) dX4_chooseEchoOf_5 ?_
  refine z_as (b := u 42 (j)) rfl ?_
  refine z_istore_n C [(3, .int (zI (u 42 (j)))), (0, .ref (a 41)), (1, .int (zI j)), (2, .int (zI i))] dX4_chooseEchoOf_6 rfl (by decide) rfl ?_
  refine z_aload_n C 1 dX4_chooseEchoOf_7 rfl ?_
  refine z_get C hK (v := .ref (a 42)) inX4_chooseEchoOf_X4 41 (WB_41 a c u) rfl 3 (by decide) (List.mem_of_getElem? (i := 1) rfl) rfl dX4_chooseEchoOf_8 ?_
  refine z_iload_n C 2 dX4_chooseEchoOf_11 rfl ?_
  refine z_iload_n C 0 dX4_chooseEchoOf_12 rfl ?_
  refine z_as (b := ((bn (X j) 8 : Nat) : Int)) (hX j (by omega) (by omega)) ?_
  refine z_aload_n C 1 dX4_chooseEchoOf_13 rfl ?_
  refine z_get C hK (v := .int (zI (u 41 7))) inX4_chooseEchoOf_X4 41 (WB_41 a c u) rfl 7 (by decide) (List.mem_of_getElem? (i := 2) rfl) rfl dX4_chooseEchoOf_14 ?_
  refine z_as (b := ((bn ec 8 : Nat) : Int)) (hec) ?_
  refine z_iand C (((bn (fun q => X j q && ec q) 8 : Nat) : Int)) dX4_chooseEchoOf_17 (by rw [zI_and, bn_and]) ?_
  refine z_aload_n C 1 dX4_chooseEchoOf_18 rfl ?_
  refine z_get C hK (v := .ref (a 42)) inX4_chooseEchoOf_X4 41 (WB_41 a c u) rfl 3 (by decide) (List.mem_of_getElem? (i := 1) rfl) rfl dX4_chooseEchoOf_19 ?_
  refine z_iload_n C 3 dX4_chooseEchoOf_22 rfl ?_
  refine z_iald C hK 0 (g := (u 42)) (i := i) 42 (WB_42 a c u) rfl (by decide) (by omega) dX4_chooseEchoOf_23 ?_
  refine z_as (b := u 42 (i)) rfl ?_
  refine z_as (b := ((bn (X i) 8 : Nat) : Int)) (hX i (by omega) (by omega)) ?_
  refine z_iand C (((bn (fun q => (X j q && ec q) && X i q) 8 : Nat) : Int)) dX4_chooseEchoOf_24 (by rw [zI_and, bn_and]) ?_
  refine z_iast C hK (hDD _) 0 (g := u 42) 42 (WB_42 a c u) rfl (by decide) (by omega) (WB_42_set a c u j (((bn (fun q => (X j q && ec q) && X i q) 8 : Nat) : Int))) dX4_chooseEchoOf_25 ?_
  refine z_aload_n C 1 dX4_chooseEchoOf_26 rfl ?_
  refine z_get C hK (v := .ref (a 42)) inX4_chooseEchoOf_X4 41 (WB_41 a c ((up u 42 (j) (((bn (fun q => (X j q && ec q) && X i q) 8 : Nat) : Int))))) rfl 3 (by decide) (List.mem_of_getElem? (i := 1) rfl) rfl dX4_chooseEchoOf_27 ?_
  refine z_iload_n C 2 dX4_chooseEchoOf_30 rfl ?_
  refine z_iald C hK 0 (g := ((up u 42 (j) (((bn (fun q => (X j q && ec q) && X i q) 8 : Nat) : Int))) 42)) (i := j) 42 (WB_42 a c ((up u 42 (j) (((bn (fun q => (X j q && ec q) && X i q) 8 : Nat) : Int))))) rfl (by decide) (by omega) dX4_chooseEchoOf_31 ?_
  refine z_as (b := ((bn (fun q => (X j q && ec q) && X i q) 8 : Nat) : Int)) (up_at _ _ _ _) ?_
  refine z_if_eq C 56 dX4_chooseEchoOf_32 (by decide) (by have h1 := bn_8 (fun q => (X j q && ec q) && X i q) (n := 8) (by omega); omega) (fun h1 => ?_) (fun h1 => ?_)
  · have hz : ¬ nz (ech ec X j i) := nz_no rfl h1
    refine z_aload_n C 1 dX4_chooseEchoOf_56 rfl ?_
    refine z_get C hK (v := .ref (a 42)) inX4_chooseEchoOf_X4 41 (WB_41 a c ((up u 42 (j) (((bn (fun q => (X j q && ec q) && X i q) 8 : Nat) : Int))))) rfl 3 (by decide) (List.mem_of_getElem? (i := 1) rfl) rfl dX4_chooseEchoOf_57 ?_
    refine z_iload_n C 2 dX4_chooseEchoOf_60 rfl ?_
    refine z_iload_n C 0 dX4_chooseEchoOf_61 rfl ?_
    refine z_iast C hK (hDD _) 0 (g := (up u 42 (j) (((bn (fun q => (X j q && ec q) && X i q) 8 : Nat) : Int))) 42) 42 (WB_42 a c ((up u 42 (j) (((bn (fun q => (X j q && ec q) && X i q) 8 : Nat) : Int))))) rfl (by decide) (by omega) (WB_42_set a c ((up u 42 (j) (((bn (fun q => (X j q && ec q) && X i q) 8 : Nat) : Int)))) j (u 42 (j))) dX4_chooseEchoOf_62 ?_
    refine z_ws (ws' := (WB a c (up u 41 (8) ((u 41 8))))) (congrArg (WB a c) (pl_rest2 u j _)) ?_
    exact kret 0 ((up u 41 (8) ((u 41 8)))) _ _ (by first | exact ⟨u 41 8, rfl, Bst_none hb.1 (fun t h => absurd h.1 hz)⟩ | exact ⟨b2, rfl, Bst_congr hB (fun t => ⟨fun q => ⟨hz, q⟩, fun q => q.2⟩)⟩) dX4_chooseEchoOf_63
  · have hz : nz (ech ec X j i) := nz_yes rfl h1
    refine z_aload_n C 1 dX4_chooseEchoOf_35 rfl ?_
    refine z_get C hK (v := .ref (a 43)) inX4_chooseEchoOf_X4 41 (WB_41 a c ((up u 42 (j) (((bn (fun q => (X j q && ec q) && X i q) 8 : Nat) : Int))))) rfl 4 (by decide) (List.mem_of_getElem? (i := 3) rfl) rfl dX4_chooseEchoOf_36 ?_
    refine z_iload_n C 3 dX4_chooseEchoOf_39 rfl ?_
    refine z_iconst C dX4_chooseEchoOf_40 ?_
    refine z_zast C hK (hDD _) 1 (g := (up u 42 (j) (((bn (fun q => (X j q && ec q) && X i q) 8 : Nat) : Int))) 43) 43 (WB_43 a c ((up u 42 (j) (((bn (fun q => (X j q && ec q) && X i q) 8 : Nat) : Int))))) rfl (by decide) (by omega) (by omega) (WB_43_set a c ((up u 42 (j) (((bn (fun q => (X j q && ec q) && X i q) 8 : Nat) : Int)))) i 1) dX4_chooseEchoOf_41 ?_
    refine z_aload_n C 1 dX4_chooseEchoOf_42 rfl ?_
    refine z_iload_n C 3 dX4_chooseEchoOf_43 rfl ?_
    refine z_iconst C dX4_chooseEchoOf_44 ?_
    refine z_iadd C dX4_chooseEchoOf_45 ?_
    refine z_callV C hK hDD (c_X4_chooseEchoes_4 (zl x) (zG x) a c ((up (up u 42 (j) (((bn (fun q => (X j q && ec q) && X i q) 8 : Nat) : Int))) 43 (i) (1))) (i + 1) ((fun k => if k = i then true else E k)) ((fun k => if k = j then ech ec X j i else X k)) ec (show (i + 1) = (u 17 8) - 4 by omega) (show 0 ≤ (i + 1) by omega) (hQ) (show 0 ≤ (u 41 8) ∧ (u 41 8) ≤ 4 by omega) (pl_hX hX) (pl_hE hE) ((if_neg (show ¬ ((0 : Int) = i) by omega)).trans hE0) (fun k h0 h1 => (if_neg (show ¬ (k = i) by omega)).trans (hEi k (by omega) h1)) (hec)) gX4_chooseEchoOf_X4_chooseEchoes rfl zy_X4_chooseEchoes 41 (WB_41 a c ((up (up u 42 (j) (((bn (fun q => (X j q && ec q) && X i q) 8 : Nat) : Int))) 43 (i) (1)))) rfl ⟨by omega, by decide⟩ rfl (Nat.le_of_ble_eq_true rfl) (st := []) (stk2 := fun _ => []) rfl (fun _ => rfl) dX4_chooseEchoOf_46 (fun z2 u3 h4 => ?_)
    obtain ⟨b2, e1, hB⟩ := h4
    rw [e1]
    change Z x 0 0 (WB a c (up (up (up u 42 (j) (((bn (fun q => (X j q && ec q) && X i q) 8 : Nat) : Int))) 43 (i) (1)) 41 (8) (b2))) _ _ _
    refine z_aload_n C 1 dX4_chooseEchoOf_49 rfl ?_
    refine z_get C hK (v := .ref (a 43)) inX4_chooseEchoOf_X4 41 (WB_41 a c ((up (up (up u 42 (j) (((bn (fun q => (X j q && ec q) && X i q) 8 : Nat) : Int))) 43 (i) (1)) 41 (8) (b2)))) rfl 4 (by decide) (List.mem_of_getElem? (i := 3) rfl) rfl dX4_chooseEchoOf_50 ?_
    refine z_iload_n C 3 dX4_chooseEchoOf_53 rfl ?_
    refine z_iconst C dX4_chooseEchoOf_54 ?_
    refine z_zast C hK (hDD _) 1 (g := (up (up (up u 42 (j) (((bn (fun q => (X j q && ec q) && X i q) 8 : Nat) : Int))) 43 (i) (1)) 41 (8) (b2)) 43) 43 (WB_43 a c ((up (up (up u 42 (j) (((bn (fun q => (X j q && ec q) && X i q) 8 : Nat) : Int))) 43 (i) (1)) 41 (8) (b2)))) rfl (by decide) (by omega) (by omega) (WB_43_set a c ((up (up (up u 42 (j) (((bn (fun q => (X j q && ec q) && X i q) 8 : Nat) : Int))) 43 (i) (1)) 41 (8) (b2))) i 0) dX4_chooseEchoOf_55 ?_
    refine z_aload_n C 1 dX4_chooseEchoOf_56 rfl ?_
    refine z_get C hK (v := .ref (a 42)) inX4_chooseEchoOf_X4 41 (WB_41 a c ((up (up (up (up u 42 (j) (((bn (fun q => (X j q && ec q) && X i q) 8 : Nat) : Int))) 43 (i) (1)) 41 (8) (b2)) 43 (i) (0)))) rfl 3 (by decide) (List.mem_of_getElem? (i := 1) rfl) rfl dX4_chooseEchoOf_57 ?_
    refine z_iload_n C 2 dX4_chooseEchoOf_60 rfl ?_
    refine z_iload_n C 0 dX4_chooseEchoOf_61 rfl ?_
    refine z_iast C hK (hDD _) 0 (g := (up (up (up (up u 42 (j) (((bn (fun q => (X j q && ec q) && X i q) 8 : Nat) : Int))) 43 (i) (1)) 41 (8) (b2)) 43 (i) (0)) 42) 42 (WB_42 a c ((up (up (up (up u 42 (j) (((bn (fun q => (X j q && ec q) && X i q) 8 : Nat) : Int))) 43 (i) (1)) 41 (8) (b2)) 43 (i) (0)))) rfl (by decide) (by omega) (WB_42_set a c ((up (up (up (up u 42 (j) (((bn (fun q => (X j q && ec q) && X i q) 8 : Nat) : Int))) 43 (i) (1)) 41 (8) (b2)) 43 (i) (0))) j (u 42 (j))) dX4_chooseEchoOf_62 ?_
    refine z_ws (ws' := (WB a c (up u 41 (8) (b2)))) (congrArg (WB a c) (pl_rest3 u j _ _ h43)) ?_
    exact kret 0 ((up u 41 (8) (b2))) _ _ (by first | exact ⟨u 41 8, rfl, Bst_none hb.1 (fun t h => absurd h.1 hz)⟩ | exact ⟨b2, rfl, Bst_congr hB (fun t => ⟨fun q => ⟨hz, q⟩, fun q => q.2⟩)⟩) dX4_chooseEchoOf_63
-- NoteBells$Pluckers.chooseEchoes
set_option maxHeartbeats 8000000 in
set_option maxRecDepth 100000 in
theorem c_X4_chooseEchoes_5 (l : Launch) (D : va_G) (a : Nat → Nat) (c : Nat → ClassId) (u : zU) (i : Int) (E : Int → Bool) (X : Int → Nat → Bool) (ec : Nat → Bool) (hi : i = u 17 8 - 5) (b_i : 0 ≤ i) (hQ : PQ (u 17 8) (u 3 8) (u 20)) (hb : 0 ≤ u 41 8 ∧ u 41 8 ≤ 4) (hX : ∀ k : Int, 0 ≤ k → k < u 17 8 → u 42 k = ((bn (X k) 8 : Nat) : Int)) (hE : ∀ k : Int, 0 ≤ k → k < u 17 8 → u 43 k = if E k = true then 1 else 0) (hE0 : E 0 = false) (hEi : ∀ k : Int, i ≤ k → k < u 17 8 → E k = false) (hec : u 41 7 = ((bn ec 8 : Nat) : Int)) : ZM l D (zTy c) (WB a c) yX4_chooseEchoes wsX4_chooseEchoes 26 [.ref (a 41), .int (zI i)] u rV (fun z u' => ∃ b' : Int, u' = up u 41 8 b' ∧ Bst (u 41 8) b' (fun t => CanE (u 20) (u 3 8) (u 17 8) ec 5 E X t)) := by
  refine ZM.ofV (cc := cX4_chooseEchoes) (maxL := 3) [(0, .ref (a 41)), (1, .int (zI i))] rfl (by decide +kernel) rfl (Nat.le_of_ble_eq_true rfl) (WB_addr a c) ?_
  intro x C hK _ _ hDD kret
  have hq1 := hQ.1
  have hq2 := hQ.2.1
  refine z_iload_n C 1 dX4_chooseEchoes_0 rfl ?_
  refine z_aload_n C 0 dX4_chooseEchoes_1 rfl ?_
  refine z_get C hK (v := .ref (a 17)) inX4_chooseEchoes_X4 41 (WB_41 a c u) rfl 1 (by decide) (List.mem_of_getElem? (i := 1) rfl) rfl dX4_chooseEchoes_2 ?_
  refine z_getN C hK (v := .int (zI (u 17 8))) inX4_chooseEchoes_X2 17 (WB_17 a c u) rfl 8 (by decide) (List.mem_of_getElem? (i := 34) rfl) rfl dX4_chooseEchoes_5 ?_
  refine z_icmp_lt C 18 dX4_chooseEchoes_8 (by decide) (by omega) (fun h1 => ?_) (fun h1 => ?_)
  · skip
    refine z_aload_n C 0 dX4_chooseEchoes_18 rfl ?_
    refine z_iload_n C 1 dX4_chooseEchoes_19 rfl ?_
    refine z_iconst C dX4_chooseEchoes_20 ?_
    refine z_iadd C dX4_chooseEchoes_21 ?_
    refine z_callV C hK hDD (c_X4_chooseEchoes_4 (zl x) (zG x) a c u (i + 1) E X ec (by omega) (by omega) (hQ) (by omega) (hX) (hE) (hE0) (fun k h0 h1 => hEi k (by omega) h1) (hec)) gX4_chooseEchoes_X4_chooseEchoes rfl zy_X4_chooseEchoes 41 (WB_41 a c u) rfl ⟨by omega, by decide⟩ rfl (Nat.le_of_ble_eq_true rfl) (st := []) (stk2 := fun _ => []) rfl (fun _ => rfl) dX4_chooseEchoes_22 (fun z2 u3 h4 => ?_)
    obtain ⟨b2, e1, hB⟩ := h4
    rw [e1]
    change Z x 0 0 (WB a c (up u 41 (8) (b2))) _ _ _
    refine z_iconst C dX4_chooseEchoes_25 ?_
    refine z_istore_n C [(2, .int (zI 0)), (0, .ref (a 41)), (1, .int (zI i))] dX4_chooseEchoes_26 rfl (by decide) rfl ?_
    have L27_5 : ∀ (fu : Nat) (j : Int) (b : Int), (0 ≤ j ∧ j ≤ i) → (Bst (u 41 8) b (fun t => CanE (u 20) (u 3 8) (u 17 8) ec 4 E X t ∨ ∃ k : Int, 0 ≤ k ∧ k < j ∧ ChC (u 20) (u 3 8) (u 17 8) ec 4 i E X k t)) → i - j < (fu : Int) → Z x 0 0 (WB a c (up u 41 (8) (b))) [(0, .ref (a 41)), (1, .int (zI i)), (2, .int (zI j))] 27 [] := by
      intro fu
      induction fu with
      | zero => intro j b hj hB hmeas; exfalso; omega
      | succ fu ih27 =>
        intro j b hj hB hmeas
        refine z_iload_n C 2 dX4_chooseEchoes_27 rfl ?_
        refine z_iload_n C 1 dX4_chooseEchoes_28 rfl ?_
        refine z_icmp_ge C 84 dX4_chooseEchoes_29 (by decide) (by omega) (fun h6 => ?_) (fun h6 => ?_)
        · skip
          exact kret 0 (up u 41 8 b) _ _ (⟨b, rfl, by first | exact CanE_prune hq1.1 (by omega) b_i (by omega) hE0 (by omega) hB | exact Bst_congr hB (CanE_end (by omega) (by omega))⟩) dX4_chooseEchoes_84
        · skip
          have hbb : 0 ≤ b ∧ b ≤ 4 := ⟨hB.1.1, Int.le_trans hB.1.2 hb.2⟩
          refine z_aload_n C 0 dX4_chooseEchoes_32 rfl ?_
          refine z_get C hK (v := .int (zI b)) inX4_chooseEchoes_X4 41 (WB_41 a c ((up u 41 (8) (b)))) rfl 8 (by decide) (List.mem_of_getElem? (i := 2) rfl) rfl dX4_chooseEchoes_33 ?_
          refine z_iconst C dX4_chooseEchoes_36 ?_
          refine z_icmp_le C 84 dX4_chooseEchoes_37 (by decide) (by omega) (fun h7 => ?_) (fun h7 => ?_)
          · skip
            exact kret 0 (up u 41 8 b) _ _ (⟨b, rfl, by first | exact CanE_prune hq1.1 (by omega) b_i (by omega) hE0 (by omega) hB | exact Bst_congr hB (CanE_end (by omega) (by omega))⟩) dX4_chooseEchoes_84
          · skip
            have hmj1 := hQ.2.2.1 j (by omega) (by omega)
            have hmj2 := hQ.2.2.1 i (by omega) (by omega)
            refine z_aload_n C 0 dX4_chooseEchoes_40 rfl ?_
            refine z_get C hK (v := .ref (a 43)) inX4_chooseEchoes_X4 41 (WB_41 a c ((up u 41 (8) (b)))) rfl 4 (by decide) (List.mem_of_getElem? (i := 3) rfl) rfl dX4_chooseEchoes_41 ?_
            refine z_iload_n C 2 dX4_chooseEchoes_44 rfl ?_
            refine z_zald C hK 1 (g := (u 43)) (i := j) 43 (WB_43 a c ((up u 41 (8) (b)))) rfl (by decide) (by omega) dX4_chooseEchoes_45 ?_
            refine z_as (b := u 43 (j)) rfl ?_
            refine z_as (b := (if E j = true then 1 else 0)) (hE j (by omega) (by omega)) ?_
            refine z_if_ne C 78 dX4_chooseEchoes_46 (by decide) (by split <;> omega) (fun h8 => ?_) (fun h8 => ?_)
            · have hno : ¬ (E j = false ∧ u 20 j + 2 = u 20 i) := fun q => absurd ((ite01_ne h8).symm.trans q.1) (by decide)
              refine z_iinc C 2 [(2, .int (zI (j + 1))), (0, .ref (a 41)), (1, .int (zI i))] dX4_chooseEchoes_78 rfl (by decide) rfl ?_
              refine z_goto C 27 dX4_chooseEchoes_81 (by decide) ?_
              refine z_lv [(0, .ref (a 41)), (1, .int (zI i)), (2, .int (zI (j + 1)))] [1, 2, 0] rfl ?_
              exact ih27 (j + 1) b (by omega) (by first | exact ch_take hj.1 hEj hmj hB hB2 | exact ch_skip hj.1 hno hB) (by omega)
            · have hEj := ite01_eq h8
              refine z_aload_n C 0 dX4_chooseEchoes_49 rfl ?_
              refine z_get C hK (v := .ref (a 17)) inX4_chooseEchoes_X4 41 (WB_41 a c ((up u 41 (8) (b)))) rfl 1 (by decide) (List.mem_of_getElem? (i := 1) rfl) rfl dX4_chooseEchoes_50 ?_
              refine z_getN C hK (v := .ref (a 20)) inX4_chooseEchoes_X2 17 (WB_17 a c ((up u 41 (8) (b)))) rfl 2 (by decide) (List.mem_of_getElem? (i := 36) rfl) rfl dX4_chooseEchoes_53 ?_
              refine z_iload_n C 2 dX4_chooseEchoes_56 rfl ?_
              refine z_iald C hK 0 (g := (u 20)) (i := j) 20 (WB_20 a c ((up u 41 (8) (b)))) rfl (by decide) (by omega) dX4_chooseEchoes_57 ?_
              refine z_as (b := u 20 (j)) rfl ?_
              refine z_iconst C dX4_chooseEchoes_58 ?_
              refine z_iadd C dX4_chooseEchoes_59 ?_
              refine z_aload_n C 0 dX4_chooseEchoes_60 rfl ?_
              refine z_get C hK (v := .ref (a 17)) inX4_chooseEchoes_X4 41 (WB_41 a c ((up u 41 (8) (b)))) rfl 1 (by decide) (List.mem_of_getElem? (i := 1) rfl) rfl dX4_chooseEchoes_61 ?_
              refine z_getN C hK (v := .ref (a 20)) inX4_chooseEchoes_X2 17 (WB_17 a c ((up u 41 (8) (b)))) rfl 2 (by decide) (List.mem_of_getElem? (i := 36) rfl) rfl dX4_chooseEchoes_64 ?_
              refine z_iload_n C 1 dX4_chooseEchoes_67 rfl ?_
              refine z_iald C hK 0 (g := (u 20)) (i := i) 20 (WB_20 a c ((up u 41 (8) (b)))) rfl (by decide) (by omega) dX4_chooseEchoes_68 ?_
              refine z_as (b := u 20 (i)) rfl ?_
              refine z_icmp_ne C 78 dX4_chooseEchoes_69 (by decide) (by omega) (fun h9 => ?_) (fun h9 => ?_)
              · have hno : ¬ (E j = false ∧ u 20 j + 2 = u 20 i) := fun q => h9 q.2
                refine z_iinc C 2 [(2, .int (zI (j + 1))), (0, .ref (a 41)), (1, .int (zI i))] dX4_chooseEchoes_78 rfl (by decide) rfl ?_
                refine z_goto C 27 dX4_chooseEchoes_81 (by decide) ?_
                refine z_lv [(0, .ref (a 41)), (1, .int (zI i)), (2, .int (zI (j + 1)))] [1, 2, 0] rfl ?_
                exact ih27 (j + 1) b (by omega) (by first | exact ch_take hj.1 hEj hmj hB hB2 | exact ch_skip hj.1 hno hB) (by omega)
              · have hmj := h9
                refine z_aload_n C 0 dX4_chooseEchoes_72 rfl ?_
                refine z_iload_n C 2 dX4_chooseEchoes_73 rfl ?_
                refine z_iload_n C 1 dX4_chooseEchoes_74 rfl ?_
                refine z_callV C hK hDD (c_X4_chooseEchoOf_5 (zl x) (zG x) a c ((up u 41 (8) (b))) j i E X ec (show i = (u 17 8) - 5 by omega) (show 0 ≤ j ∧ j < i ∧ i < (u 17 8) by omega) (hQ) (show 0 ≤ b ∧ b ≤ 4 from hbb) (hX) (hE) (hE0) (hEi) (hec)) gX4_chooseEchoes_X4_chooseEchoOf rfl zy_X4_chooseEchoOf 41 (WB_41 a c ((up u 41 (8) (b)))) rfl ⟨by omega, by decide⟩ rfl (Nat.le_of_ble_eq_true rfl) (st := []) (stk2 := fun _ => []) rfl (fun _ => rfl) dX4_chooseEchoes_75 (fun z10 u11 h12 => ?_)
                obtain ⟨b2, e1, hB2⟩ := h12
                rw [e1]
                change Z x 0 0 (WB a c (up u 41 (8) (b2))) _ _ _
                refine z_iinc C 2 [(2, .int (zI (j + 1))), (0, .ref (a 41)), (1, .int (zI i))] dX4_chooseEchoes_78 rfl (by decide) rfl ?_
                refine z_goto C 27 dX4_chooseEchoes_81 (by decide) ?_
                refine z_lv [(0, .ref (a 41)), (1, .int (zI i)), (2, .int (zI (j + 1)))] [1, 2, 0] rfl ?_
                exact ih27 (j + 1) b2 (by omega) (by first | exact ch_take hj.1 hEj hmj hB hB2 | exact ch_skip hj.1 hno hB) (by omega)
    refine z_lv [(0, .ref (a 41)), (1, .int (zI i)), (2, .int (zI 0))] [1, 2, 0] rfl ?_
    exact L27_5 (((i - 0 : Int)).toNat + 1) 0 b2 (by omega) (Bst_congr hB ch_first) (by omega)
  · exfalso; omega
-- NoteBells$Pluckers.chooseEchoOf
set_option maxHeartbeats 8000000 in
set_option maxRecDepth 100000 in
theorem c_X4_chooseEchoOf_6 (l : Launch) (D : va_G) (a : Nat → Nat) (c : Nat → ClassId) (u : zU) (j i : Int) (E : Int → Bool) (X : Int → Nat → Bool) (ec : Nat → Bool) (hi : i = u 17 8 - 6) (b_i : 0 ≤ j ∧ j < i ∧ i < u 17 8) (hQ : PQ (u 17 8) (u 3 8) (u 20)) (hb : 0 ≤ u 41 8 ∧ u 41 8 ≤ 4) (hX : ∀ k : Int, 0 ≤ k → k < u 17 8 → u 42 k = ((bn (X k) 8 : Nat) : Int)) (hE : ∀ k : Int, 0 ≤ k → k < u 17 8 → u 43 k = if E k = true then 1 else 0) (hE0 : E 0 = false) (hEi : ∀ k : Int, i ≤ k → k < u 17 8 → E k = false) (hec : u 41 7 = ((bn ec 8 : Nat) : Int)) : ZM l D (zTy c) (WB a c) yX4_chooseEchoOf wsX4_chooseEchoOf 27 [.ref (a 41), .int (zI j), .int (zI i)] u rV (fun z u' => ∃ b' : Int, u' = up u 41 8 b' ∧ Bst (u 41 8) b' (fun t => ChE (u 20) (u 3 8) (u 17 8) ec 5 i E X j t)) := by
  refine ZM.ofV (cc := cX4_chooseEchoOf) (maxL := 4) [(0, .ref (a 41)), (1, .int (zI j)), (2, .int (zI i))] rfl (by decide +kernel) rfl (Nat.le_of_ble_eq_true rfl) (WB_addr a c) ?_
  intro x C hK _ _ hDD kret
  have hq1 := hQ.1
  have hq2 := hQ.2.1
  have h43 : u 43 i = 0 := (hE i (by omega) (by omega)).trans (if_neg (by rw [hEi i (Int.le_refl _) (by omega)]; decide))
  refine z_aload_n C 0 dX4_chooseEchoOf_0 rfl ?_
  refine z_get C hK (v := .ref (a 42)) inX4_chooseEchoOf_X4 41 (WB_41 a c u) rfl 3 (by decide) (List.mem_of_getElem? (i := 1) rfl) rfl dX4_chooseEchoOf_1 ?_
  refine z_iload_n C 1 dX4_chooseEchoOf_4 rfl ?_
  refine z_iald C hK 0 (g := (u 42)) (i := j) 42 (WB_42 a c u) rfl (by decide) (by omega) dX4_chooseEchoOf_5 ?_
  refine z_as (b := u 42 (j)) rfl ?_
  refine z_istore_n C [(3, .int (zI (u 42 (j)))), (0, .ref (a 41)), (1, .int (zI j)), (2, .int (zI i))] dX4_chooseEchoOf_6 rfl (by decide) rfl ?_
  refine z_aload_n C 1 dX4_chooseEchoOf_7 rfl ?_
  refine z_get C hK (v := .ref (a 42)) inX4_chooseEchoOf_X4 41 (WB_41 a c u) rfl 3 (by decide) (List.mem_of_getElem? (i := 1) rfl) rfl dX4_chooseEchoOf_8 ?_
  refine z_iload_n C 2 dX4_chooseEchoOf_11 rfl ?_
  refine z_iload_n C 0 dX4_chooseEchoOf_12 rfl ?_
  refine z_as (b := ((bn (X j) 8 : Nat) : Int)) (hX j (by omega) (by omega)) ?_
  refine z_aload_n C 1 dX4_chooseEchoOf_13 rfl ?_
  refine z_get C hK (v := .int (zI (u 41 7))) inX4_chooseEchoOf_X4 41 (WB_41 a c u) rfl 7 (by decide) (List.mem_of_getElem? (i := 2) rfl) rfl dX4_chooseEchoOf_14 ?_
  refine z_as (b := ((bn ec 8 : Nat) : Int)) (hec) ?_
  refine z_iand C (((bn (fun q => X j q && ec q) 8 : Nat) : Int)) dX4_chooseEchoOf_17 (by rw [zI_and, bn_and]) ?_
  refine z_aload_n C 1 dX4_chooseEchoOf_18 rfl ?_
  refine z_get C hK (v := .ref (a 42)) inX4_chooseEchoOf_X4 41 (WB_41 a c u) rfl 3 (by decide) (List.mem_of_getElem? (i := 1) rfl) rfl dX4_chooseEchoOf_19 ?_
  refine z_iload_n C 3 dX4_chooseEchoOf_22 rfl ?_
  refine z_iald C hK 0 (g := (u 42)) (i := i) 42 (WB_42 a c u) rfl (by decide) (by omega) dX4_chooseEchoOf_23 ?_
  refine z_as (b := u 42 (i)) rfl ?_
  refine z_as (b := ((bn (X i) 8 : Nat) : Int)) (hX i (by omega) (by omega)) ?_
  refine z_iand C (((bn (fun q => (X j q && ec q) && X i q) 8 : Nat) : Int)) dX4_chooseEchoOf_24 (by rw [zI_and, bn_and]) ?_
  refine z_iast C hK (hDD _) 0 (g := u 42) 42 (WB_42 a c u) rfl (by decide) (by omega) (WB_42_set a c u j (((bn (fun q => (X j q && ec q) && X i q) 8 : Nat) : Int))) dX4_chooseEchoOf_25 ?_
  refine z_aload_n C 1 dX4_chooseEchoOf_26 rfl ?_
  refine z_get C hK (v := .ref (a 42)) inX4_chooseEchoOf_X4 41 (WB_41 a c ((up u 42 (j) (((bn (fun q => (X j q && ec q) && X i q) 8 : Nat) : Int))))) rfl 3 (by decide) (List.mem_of_getElem? (i := 1) rfl) rfl dX4_chooseEchoOf_27 ?_
  refine z_iload_n C 2 dX4_chooseEchoOf_30 rfl ?_
  refine z_iald C hK 0 (g := ((up u 42 (j) (((bn (fun q => (X j q && ec q) && X i q) 8 : Nat) : Int))) 42)) (i := j) 42 (WB_42 a c ((up u 42 (j) (((bn (fun q => (X j q && ec q) && X i q) 8 : Nat) : Int))))) rfl (by decide) (by omega) dX4_chooseEchoOf_31 ?_
  refine z_as (b := ((bn (fun q => (X j q && ec q) && X i q) 8 : Nat) : Int)) (up_at _ _ _ _) ?_
  refine z_if_eq C 56 dX4_chooseEchoOf_32 (by decide) (by have h1 := bn_8 (fun q => (X j q && ec q) && X i q) (n := 8) (by omega); omega) (fun h1 => ?_) (fun h1 => ?_)
  · have hz : ¬ nz (ech ec X j i) := nz_no rfl h1
    refine z_aload_n C 1 dX4_chooseEchoOf_56 rfl ?_
    refine z_get C hK (v := .ref (a 42)) inX4_chooseEchoOf_X4 41 (WB_41 a c ((up u 42 (j) (((bn (fun q => (X j q && ec q) && X i q) 8 : Nat) : Int))))) rfl 3 (by decide) (List.mem_of_getElem? (i := 1) rfl) rfl dX4_chooseEchoOf_57 ?_
    refine z_iload_n C 2 dX4_chooseEchoOf_60 rfl ?_
    refine z_iload_n C 0 dX4_chooseEchoOf_61 rfl ?_
    refine z_iast C hK (hDD _) 0 (g := (up u 42 (j) (((bn (fun q => (X j q && ec q) && X i q) 8 : Nat) : Int))) 42) 42 (WB_42 a c ((up u 42 (j) (((bn (fun q => (X j q && ec q) && X i q) 8 : Nat) : Int))))) rfl (by decide) (by omega) (WB_42_set a c ((up u 42 (j) (((bn (fun q => (X j q && ec q) && X i q) 8 : Nat) : Int)))) j (u 42 (j))) dX4_chooseEchoOf_62 ?_
    refine z_ws (ws' := (WB a c (up u 41 (8) ((u 41 8))))) (congrArg (WB a c) (pl_rest2 u j _)) ?_
    exact kret 0 ((up u 41 (8) ((u 41 8)))) _ _ (by first | exact ⟨u 41 8, rfl, Bst_none hb.1 (fun t h => absurd h.1 hz)⟩ | exact ⟨b2, rfl, Bst_congr hB (fun t => ⟨fun q => ⟨hz, q⟩, fun q => q.2⟩)⟩) dX4_chooseEchoOf_63
  · have hz : nz (ech ec X j i) := nz_yes rfl h1
    refine z_aload_n C 1 dX4_chooseEchoOf_35 rfl ?_
    refine z_get C hK (v := .ref (a 43)) inX4_chooseEchoOf_X4 41 (WB_41 a c ((up u 42 (j) (((bn (fun q => (X j q && ec q) && X i q) 8 : Nat) : Int))))) rfl 4 (by decide) (List.mem_of_getElem? (i := 3) rfl) rfl dX4_chooseEchoOf_36 ?_
    refine z_iload_n C 3 dX4_chooseEchoOf_39 rfl ?_
    refine z_iconst C dX4_chooseEchoOf_40 ?_
    refine z_zast C hK (hDD _) 1 (g := (up u 42 (j) (((bn (fun q => (X j q && ec q) && X i q) 8 : Nat) : Int))) 43) 43 (WB_43 a c ((up u 42 (j) (((bn (fun q => (X j q && ec q) && X i q) 8 : Nat) : Int))))) rfl (by decide) (by omega) (by omega) (WB_43_set a c ((up u 42 (j) (((bn (fun q => (X j q && ec q) && X i q) 8 : Nat) : Int)))) i 1) dX4_chooseEchoOf_41 ?_
    refine z_aload_n C 1 dX4_chooseEchoOf_42 rfl ?_
    refine z_iload_n C 3 dX4_chooseEchoOf_43 rfl ?_
    refine z_iconst C dX4_chooseEchoOf_44 ?_
    refine z_iadd C dX4_chooseEchoOf_45 ?_
    refine z_callV C hK hDD (c_X4_chooseEchoes_5 (zl x) (zG x) a c ((up (up u 42 (j) (((bn (fun q => (X j q && ec q) && X i q) 8 : Nat) : Int))) 43 (i) (1))) (i + 1) ((fun k => if k = i then true else E k)) ((fun k => if k = j then ech ec X j i else X k)) ec (show (i + 1) = (u 17 8) - 5 by omega) (show 0 ≤ (i + 1) by omega) (hQ) (show 0 ≤ (u 41 8) ∧ (u 41 8) ≤ 4 by omega) (pl_hX hX) (pl_hE hE) ((if_neg (show ¬ ((0 : Int) = i) by omega)).trans hE0) (fun k h0 h1 => (if_neg (show ¬ (k = i) by omega)).trans (hEi k (by omega) h1)) (hec)) gX4_chooseEchoOf_X4_chooseEchoes rfl zy_X4_chooseEchoes 41 (WB_41 a c ((up (up u 42 (j) (((bn (fun q => (X j q && ec q) && X i q) 8 : Nat) : Int))) 43 (i) (1)))) rfl ⟨by omega, by decide⟩ rfl (Nat.le_of_ble_eq_true rfl) (st := []) (stk2 := fun _ => []) rfl (fun _ => rfl) dX4_chooseEchoOf_46 (fun z2 u3 h4 => ?_)
    obtain ⟨b2, e1, hB⟩ := h4
    rw [e1]
    change Z x 0 0 (WB a c (up (up (up u 42 (j) (((bn (fun q => (X j q && ec q) && X i q) 8 : Nat) : Int))) 43 (i) (1)) 41 (8) (b2))) _ _ _
    refine z_aload_n C 1 dX4_chooseEchoOf_49 rfl ?_
    refine z_get C hK (v := .ref (a 43)) inX4_chooseEchoOf_X4 41 (WB_41 a c ((up (up (up u 42 (j) (((bn (fun q => (X j q && ec q) && X i q) 8 : Nat) : Int))) 43 (i) (1)) 41 (8) (b2)))) rfl 4 (by decide) (List.mem_of_getElem? (i := 3) rfl) rfl dX4_chooseEchoOf_50 ?_
    refine z_iload_n C 3 dX4_chooseEchoOf_53 rfl ?_
    refine z_iconst C dX4_chooseEchoOf_54 ?_
    refine z_zast C hK (hDD _) 1 (g := (up (up (up u 42 (j) (((bn (fun q => (X j q && ec q) && X i q) 8 : Nat) : Int))) 43 (i) (1)) 41 (8) (b2)) 43) 43 (WB_43 a c ((up (up (up u 42 (j) (((bn (fun q => (X j q && ec q) && X i q) 8 : Nat) : Int))) 43 (i) (1)) 41 (8) (b2)))) rfl (by decide) (by omega) (by omega) (WB_43_set a c ((up (up (up u 42 (j) (((bn (fun q => (X j q && ec q) && X i q) 8 : Nat) : Int))) 43 (i) (1)) 41 (8) (b2))) i 0) dX4_chooseEchoOf_55 ?_
    refine z_aload_n C 1 dX4_chooseEchoOf_56 rfl ?_
    refine z_get C hK (v := .ref (a 42)) inX4_chooseEchoOf_X4 41 (WB_41 a c ((up (up (up (up u 42 (j) (((bn (fun q => (X j q && ec q) && X i q) 8 : Nat) : Int))) 43 (i) (1)) 41 (8) (b2)) 43 (i) (0)))) rfl 3 (by decide) (List.mem_of_getElem? (i := 1) rfl) rfl dX4_chooseEchoOf_57 ?_
    refine z_iload_n C 2 dX4_chooseEchoOf_60 rfl ?_
    refine z_iload_n C 0 dX4_chooseEchoOf_61 rfl ?_
    refine z_iast C hK (hDD _) 0 (g := (up (up (up (up u 42 (j) (((bn (fun q => (X j q && ec q) && X i q) 8 : Nat) : Int))) 43 (i) (1)) 41 (8) (b2)) 43 (i) (0)) 42) 42 (WB_42 a c ((up (up (up (up u 42 (j) (((bn (fun q => (X j q && ec q) && X i q) 8 : Nat) : Int))) 43 (i) (1)) 41 (8) (b2)) 43 (i) (0)))) rfl (by decide) (by omega) (WB_42_set a c ((up (up (up (up u 42 (j) (((bn (fun q => (X j q && ec q) && X i q) 8 : Nat) : Int))) 43 (i) (1)) 41 (8) (b2)) 43 (i) (0))) j (u 42 (j))) dX4_chooseEchoOf_62 ?_
    refine z_ws (ws' := (WB a c (up u 41 (8) (b2)))) (congrArg (WB a c) (pl_rest3 u j _ _ h43)) ?_
    exact kret 0 ((up u 41 (8) (b2))) _ _ (by first | exact ⟨u 41 8, rfl, Bst_none hb.1 (fun t h => absurd h.1 hz)⟩ | exact ⟨b2, rfl, Bst_congr hB (fun t => ⟨fun q => ⟨hz, q⟩, fun q => q.2⟩)⟩) dX4_chooseEchoOf_63
-- NoteBells$Pluckers.chooseEchoes
set_option maxHeartbeats 8000000 in
set_option maxRecDepth 100000 in
theorem c_X4_chooseEchoes_6 (l : Launch) (D : va_G) (a : Nat → Nat) (c : Nat → ClassId) (u : zU) (i : Int) (E : Int → Bool) (X : Int → Nat → Bool) (ec : Nat → Bool) (hi : i = u 17 8 - 6) (b_i : 0 ≤ i) (hQ : PQ (u 17 8) (u 3 8) (u 20)) (hb : 0 ≤ u 41 8 ∧ u 41 8 ≤ 4) (hX : ∀ k : Int, 0 ≤ k → k < u 17 8 → u 42 k = ((bn (X k) 8 : Nat) : Int)) (hE : ∀ k : Int, 0 ≤ k → k < u 17 8 → u 43 k = if E k = true then 1 else 0) (hE0 : E 0 = false) (hEi : ∀ k : Int, i ≤ k → k < u 17 8 → E k = false) (hec : u 41 7 = ((bn ec 8 : Nat) : Int)) : ZM l D (zTy c) (WB a c) yX4_chooseEchoes wsX4_chooseEchoes 28 [.ref (a 41), .int (zI i)] u rV (fun z u' => ∃ b' : Int, u' = up u 41 8 b' ∧ Bst (u 41 8) b' (fun t => CanE (u 20) (u 3 8) (u 17 8) ec 6 E X t)) := by
  refine ZM.ofV (cc := cX4_chooseEchoes) (maxL := 3) [(0, .ref (a 41)), (1, .int (zI i))] rfl (by decide +kernel) rfl (Nat.le_of_ble_eq_true rfl) (WB_addr a c) ?_
  intro x C hK _ _ hDD kret
  have hq1 := hQ.1
  have hq2 := hQ.2.1
  refine z_iload_n C 1 dX4_chooseEchoes_0 rfl ?_
  refine z_aload_n C 0 dX4_chooseEchoes_1 rfl ?_
  refine z_get C hK (v := .ref (a 17)) inX4_chooseEchoes_X4 41 (WB_41 a c u) rfl 1 (by decide) (List.mem_of_getElem? (i := 1) rfl) rfl dX4_chooseEchoes_2 ?_
  refine z_getN C hK (v := .int (zI (u 17 8))) inX4_chooseEchoes_X2 17 (WB_17 a c u) rfl 8 (by decide) (List.mem_of_getElem? (i := 34) rfl) rfl dX4_chooseEchoes_5 ?_
  refine z_icmp_lt C 18 dX4_chooseEchoes_8 (by decide) (by omega) (fun h1 => ?_) (fun h1 => ?_)
  · skip
    refine z_aload_n C 0 dX4_chooseEchoes_18 rfl ?_
    refine z_iload_n C 1 dX4_chooseEchoes_19 rfl ?_
    refine z_iconst C dX4_chooseEchoes_20 ?_
    refine z_iadd C dX4_chooseEchoes_21 ?_
    refine z_callV C hK hDD (c_X4_chooseEchoes_5 (zl x) (zG x) a c u (i + 1) E X ec (by omega) (by omega) (hQ) (by omega) (hX) (hE) (hE0) (fun k h0 h1 => hEi k (by omega) h1) (hec)) gX4_chooseEchoes_X4_chooseEchoes rfl zy_X4_chooseEchoes 41 (WB_41 a c u) rfl ⟨by omega, by decide⟩ rfl (Nat.le_of_ble_eq_true rfl) (st := []) (stk2 := fun _ => []) rfl (fun _ => rfl) dX4_chooseEchoes_22 (fun z2 u3 h4 => ?_)
    obtain ⟨b2, e1, hB⟩ := h4
    rw [e1]
    change Z x 0 0 (WB a c (up u 41 (8) (b2))) _ _ _
    refine z_iconst C dX4_chooseEchoes_25 ?_
    refine z_istore_n C [(2, .int (zI 0)), (0, .ref (a 41)), (1, .int (zI i))] dX4_chooseEchoes_26 rfl (by decide) rfl ?_
    have L27_5 : ∀ (fu : Nat) (j : Int) (b : Int), (0 ≤ j ∧ j ≤ i) → (Bst (u 41 8) b (fun t => CanE (u 20) (u 3 8) (u 17 8) ec 5 E X t ∨ ∃ k : Int, 0 ≤ k ∧ k < j ∧ ChC (u 20) (u 3 8) (u 17 8) ec 5 i E X k t)) → i - j < (fu : Int) → Z x 0 0 (WB a c (up u 41 (8) (b))) [(0, .ref (a 41)), (1, .int (zI i)), (2, .int (zI j))] 27 [] := by
      intro fu
      induction fu with
      | zero => intro j b hj hB hmeas; exfalso; omega
      | succ fu ih27 =>
        intro j b hj hB hmeas
        refine z_iload_n C 2 dX4_chooseEchoes_27 rfl ?_
        refine z_iload_n C 1 dX4_chooseEchoes_28 rfl ?_
        refine z_icmp_ge C 84 dX4_chooseEchoes_29 (by decide) (by omega) (fun h6 => ?_) (fun h6 => ?_)
        · skip
          exact kret 0 (up u 41 8 b) _ _ (⟨b, rfl, by first | exact CanE_prune hq1.1 (by omega) b_i (by omega) hE0 (by omega) hB | exact Bst_congr hB (CanE_end (by omega) (by omega))⟩) dX4_chooseEchoes_84
        · skip
          have hbb : 0 ≤ b ∧ b ≤ 4 := ⟨hB.1.1, Int.le_trans hB.1.2 hb.2⟩
          refine z_aload_n C 0 dX4_chooseEchoes_32 rfl ?_
          refine z_get C hK (v := .int (zI b)) inX4_chooseEchoes_X4 41 (WB_41 a c ((up u 41 (8) (b)))) rfl 8 (by decide) (List.mem_of_getElem? (i := 2) rfl) rfl dX4_chooseEchoes_33 ?_
          refine z_iconst C dX4_chooseEchoes_36 ?_
          refine z_icmp_le C 84 dX4_chooseEchoes_37 (by decide) (by omega) (fun h7 => ?_) (fun h7 => ?_)
          · skip
            exact kret 0 (up u 41 8 b) _ _ (⟨b, rfl, by first | exact CanE_prune hq1.1 (by omega) b_i (by omega) hE0 (by omega) hB | exact Bst_congr hB (CanE_end (by omega) (by omega))⟩) dX4_chooseEchoes_84
          · skip
            have hmj1 := hQ.2.2.1 j (by omega) (by omega)
            have hmj2 := hQ.2.2.1 i (by omega) (by omega)
            refine z_aload_n C 0 dX4_chooseEchoes_40 rfl ?_
            refine z_get C hK (v := .ref (a 43)) inX4_chooseEchoes_X4 41 (WB_41 a c ((up u 41 (8) (b)))) rfl 4 (by decide) (List.mem_of_getElem? (i := 3) rfl) rfl dX4_chooseEchoes_41 ?_
            refine z_iload_n C 2 dX4_chooseEchoes_44 rfl ?_
            refine z_zald C hK 1 (g := (u 43)) (i := j) 43 (WB_43 a c ((up u 41 (8) (b)))) rfl (by decide) (by omega) dX4_chooseEchoes_45 ?_
            refine z_as (b := u 43 (j)) rfl ?_
            refine z_as (b := (if E j = true then 1 else 0)) (hE j (by omega) (by omega)) ?_
            refine z_if_ne C 78 dX4_chooseEchoes_46 (by decide) (by split <;> omega) (fun h8 => ?_) (fun h8 => ?_)
            · have hno : ¬ (E j = false ∧ u 20 j + 2 = u 20 i) := fun q => absurd ((ite01_ne h8).symm.trans q.1) (by decide)
              refine z_iinc C 2 [(2, .int (zI (j + 1))), (0, .ref (a 41)), (1, .int (zI i))] dX4_chooseEchoes_78 rfl (by decide) rfl ?_
              refine z_goto C 27 dX4_chooseEchoes_81 (by decide) ?_
              refine z_lv [(0, .ref (a 41)), (1, .int (zI i)), (2, .int (zI (j + 1)))] [1, 2, 0] rfl ?_
              exact ih27 (j + 1) b (by omega) (by first | exact ch_take hj.1 hEj hmj hB hB2 | exact ch_skip hj.1 hno hB) (by omega)
            · have hEj := ite01_eq h8
              refine z_aload_n C 0 dX4_chooseEchoes_49 rfl ?_
              refine z_get C hK (v := .ref (a 17)) inX4_chooseEchoes_X4 41 (WB_41 a c ((up u 41 (8) (b)))) rfl 1 (by decide) (List.mem_of_getElem? (i := 1) rfl) rfl dX4_chooseEchoes_50 ?_
              refine z_getN C hK (v := .ref (a 20)) inX4_chooseEchoes_X2 17 (WB_17 a c ((up u 41 (8) (b)))) rfl 2 (by decide) (List.mem_of_getElem? (i := 36) rfl) rfl dX4_chooseEchoes_53 ?_
              refine z_iload_n C 2 dX4_chooseEchoes_56 rfl ?_
              refine z_iald C hK 0 (g := (u 20)) (i := j) 20 (WB_20 a c ((up u 41 (8) (b)))) rfl (by decide) (by omega) dX4_chooseEchoes_57 ?_
              refine z_as (b := u 20 (j)) rfl ?_
              refine z_iconst C dX4_chooseEchoes_58 ?_
              refine z_iadd C dX4_chooseEchoes_59 ?_
              refine z_aload_n C 0 dX4_chooseEchoes_60 rfl ?_
              refine z_get C hK (v := .ref (a 17)) inX4_chooseEchoes_X4 41 (WB_41 a c ((up u 41 (8) (b)))) rfl 1 (by decide) (List.mem_of_getElem? (i := 1) rfl) rfl dX4_chooseEchoes_61 ?_
              refine z_getN C hK (v := .ref (a 20)) inX4_chooseEchoes_X2 17 (WB_17 a c ((up u 41 (8) (b)))) rfl 2 (by decide) (List.mem_of_getElem? (i := 36) rfl) rfl dX4_chooseEchoes_64 ?_
              refine z_iload_n C 1 dX4_chooseEchoes_67 rfl ?_
              refine z_iald C hK 0 (g := (u 20)) (i := i) 20 (WB_20 a c ((up u 41 (8) (b)))) rfl (by decide) (by omega) dX4_chooseEchoes_68 ?_
              refine z_as (b := u 20 (i)) rfl ?_
              refine z_icmp_ne C 78 dX4_chooseEchoes_69 (by decide) (by omega) (fun h9 => ?_) (fun h9 => ?_)
              · have hno : ¬ (E j = false ∧ u 20 j + 2 = u 20 i) := fun q => h9 q.2
                refine z_iinc C 2 [(2, .int (zI (j + 1))), (0, .ref (a 41)), (1, .int (zI i))] dX4_chooseEchoes_78 rfl (by decide) rfl ?_
                refine z_goto C 27 dX4_chooseEchoes_81 (by decide) ?_
                refine z_lv [(0, .ref (a 41)), (1, .int (zI i)), (2, .int (zI (j + 1)))] [1, 2, 0] rfl ?_
                exact ih27 (j + 1) b (by omega) (by first | exact ch_take hj.1 hEj hmj hB hB2 | exact ch_skip hj.1 hno hB) (by omega)
              · have hmj := h9
                refine z_aload_n C 0 dX4_chooseEchoes_72 rfl ?_
                refine z_iload_n C 2 dX4_chooseEchoes_73 rfl ?_
                refine z_iload_n C 1 dX4_chooseEchoes_74 rfl ?_
                refine z_callV C hK hDD (c_X4_chooseEchoOf_6 (zl x) (zG x) a c ((up u 41 (8) (b))) j i E X ec (show i = (u 17 8) - 6 by omega) (show 0 ≤ j ∧ j < i ∧ i < (u 17 8) by omega) (hQ) (show 0 ≤ b ∧ b ≤ 4 from hbb) (hX) (hE) (hE0) (hEi) (hec)) gX4_chooseEchoes_X4_chooseEchoOf rfl zy_X4_chooseEchoOf 41 (WB_41 a c ((up u 41 (8) (b)))) rfl ⟨by omega, by decide⟩ rfl (Nat.le_of_ble_eq_true rfl) (st := []) (stk2 := fun _ => []) rfl (fun _ => rfl) dX4_chooseEchoes_75 (fun z10 u11 h12 => ?_)
                obtain ⟨b2, e1, hB2⟩ := h12
                rw [e1]
                change Z x 0 0 (WB a c (up u 41 (8) (b2))) _ _ _
                refine z_iinc C 2 [(2, .int (zI (j + 1))), (0, .ref (a 41)), (1, .int (zI i))] dX4_chooseEchoes_78 rfl (by decide) rfl ?_
                refine z_goto C 27 dX4_chooseEchoes_81 (by decide) ?_
                refine z_lv [(0, .ref (a 41)), (1, .int (zI i)), (2, .int (zI (j + 1)))] [1, 2, 0] rfl ?_
                exact ih27 (j + 1) b2 (by omega) (by first | exact ch_take hj.1 hEj hmj hB hB2 | exact ch_skip hj.1 hno hB) (by omega)
    refine z_lv [(0, .ref (a 41)), (1, .int (zI i)), (2, .int (zI 0))] [1, 2, 0] rfl ?_
    exact L27_5 (((i - 0 : Int)).toNat + 1) 0 b2 (by omega) (Bst_congr hB ch_first) (by omega)
  · exfalso; omega
-- NoteBells$Pluckers.fewest
theorem inX4_fewest_X4 : ∀ w ∈ wsX40, w ∈ wsX4_fewest := fun w h => List.mem_cons_of_mem _ (List.mem_append_left _ (List.mem_append_left _ (List.mem_append_left _ (List.mem_append_right _ (h)))))
theorem inX4_fewest_X2 : ∀ w ∈ wsX20, w ∈ wsX4_fewest := fun w h => List.mem_cons_of_mem _ (List.mem_append_left _ (List.mem_append_left _ (List.mem_append_right _ (h))))
set_option maxHeartbeats 8000000 in
set_option maxRecDepth 100000 in
theorem c_X4_fewest (l : Launch) (D : va_G) (a : Nat → Nat) (c : Nat → ClassId) (u : zU)  (hI : IB u) : ZM l D (zTy c) (WB a c) yX4_fewest wsX4_fewest 29 [.ref (a 41)] u rI (fun z u' => (∃ f g h : Int → Int, u' = us (us (us u 42 f) 43 g) 41 h) ∧ ((u 17 8 = 0 ∧ z = 0) ∨ (u 17 8 ≠ 0 ∧ ∃ V : Int, Bst 4 V (PlC u) ∧ z = if 3 < V then -9 else V))) := by
  refine ZM.ofI (cc := cX4_fewest) (maxL := 2) [(0, .ref (a 41))] rfl (by decide +kernel) rfl (Nat.le_of_ble_eq_true rfl) (WB_addr a c) ?_
  intro x C hK _ _ hDD kret
  have hno := hI.notes
  refine z_aload_n C 0 dX4_fewest_0 rfl ?_
  refine z_get C hK (v := .ref (a 17)) inX4_fewest_X4 41 (WB_41 a c u) rfl 1 (by decide) (List.mem_of_getElem? (i := 1) rfl) rfl dX4_fewest_1 ?_
  refine z_getN C hK (v := .int (zI (u 17 8))) inX4_fewest_X2 17 (WB_17 a c u) rfl 8 (by decide) (List.mem_of_getElem? (i := 34) rfl) rfl dX4_fewest_4 ?_
  refine z_if_ne C 12 dX4_fewest_7 (by decide) (by omega) (fun h1 => ?_) (fun h1 => ?_)
  · skip
    refine z_iconst C dX4_fewest_12 ?_
    refine z_istore_n C [(1, .int (zI 0)), (0, .ref (a 41))] dX4_fewest_13 rfl (by decide) rfl ?_
    have L14_2 : ∀ (fu : Nat) (i : Int) (f : Int → Int) (g : Int → Int), (0 ≤ i ∧ i ≤ u 17 8) → (∀ k : Int, 0 ≤ k → k < i → f k = ((bn (plM u k) 8 : Nat) : Int)) → (∀ k : Int, 0 ≤ k → k < i → g k = 0) → (∀ k : Int, 0 ≤ k → k < i → nz (plM u k)) → u 17 8 - i < (fu : Int) → Z x 0 0 (WB a c (us (us u 42 (f)) 43 (g))) [(0, .ref (a 41)), (1, .int (zI i))] 14 [] := by
      intro fu
      induction fu with
      | zero => intro i f g hi hf hg hz hmeas; exfalso; omega
      | succ fu ih14 =>
        intro i f g hi hf hg hz hmeas
        refine z_iload_n C 1 dX4_fewest_14 rfl ?_
        refine z_aload_n C 0 dX4_fewest_15 rfl ?_
        refine z_get C hK (v := .ref (a 17)) inX4_fewest_X4 41 (WB_41 a c ((us (us u 42 (f)) 43 (g)))) rfl 1 (by decide) (List.mem_of_getElem? (i := 1) rfl) rfl dX4_fewest_16 ?_
        refine z_getN C hK (v := .int (zI (u 17 8))) inX4_fewest_X2 17 (WB_17 a c ((us (us u 42 (f)) 43 (g)))) rfl 8 (by decide) (List.mem_of_getElem? (i := 34) rfl) rfl dX4_fewest_19 ?_
        refine z_icmp_ge C 72 dX4_fewest_22 (by decide) (by omega) (fun h3 => ?_) (fun h3 => ?_)
        · skip
          refine z_aload_n C 0 dX4_fewest_72 rfl ?_
          refine z_aload_n C 0 dX4_fewest_73 rfl ?_
          refine z_get C hK (v := .ref (a 3)) inX4_fewest_X4 41 (WB_41 a c ((us (us u 42 (f)) 43 (g)))) rfl 0 (by decide) (List.mem_of_getElem? (i := 5) rfl) rfl dX4_fewest_74 ?_
          refine z_callVN C hK hDD (c_X8_echoLevels (zl x) (zG x) a c ((us (us u 42 (f)) 43 (g)))  (hI)) ggX4_fewest_X8_echoLevels (List.mem_of_getElem? (i := 31) rfl) (List.mem_of_getElem? (i := 26) rfl) (List.mem_of_getElem? (i := 25) rfl) (List.mem_of_getElem? (i := 27) rfl) rfl zy_X8_echoLevels 3 (WB_3 a c ((us (us u 42 (f)) 43 (g)))) rfl ⟨by omega, by decide⟩ rfl (Nat.le_of_ble_eq_true rfl) (st := [.ref (a 41)]) (stk2 := fun z4 => [.int (zI z4), .ref (a 41)]) rfl (fun _ => rfl) dX4_fewest_77 (fun z4 u5 h6 => ?_)
          rw [h6.1]; replace h6 := h6.2
          refine z_as (b := ((bn (fun q => decide ((u 6) q = 1)) ((u 3 4)).toNat : Nat) : Int)) h6 ?_
          refine z_put C hK (hDD _) inX4_fewest_X4 tyX4 tyX4_ok nmX4 41 (WB_41 a c ((us (us u 42 (f)) 43 (g)))) rfl 7 (by decide) (List.mem_of_getElem? (i := 6) rfl) rfl rfl rfl (Nat.le_of_ble_eq_true rfl) (WB_41_p7 a c ((us (us u 42 (f)) 43 (g))) (((bn (fun q => decide ((u 6) q = 1)) ((u 3 4)).toNat : Nat) : Int))) dX4_fewest_80 ?_
          refine z_aload_n C 0 dX4_fewest_83 rfl ?_
          refine z_iconst C dX4_fewest_84 ?_
          refine z_put C hK (hDD _) inX4_fewest_X4 tyX4 tyX4_ok nmX4 41 (WB_41 a c ((up (us (us u 42 (f)) 43 (g)) 41 (7) (((bn (fun q => decide ((u 6) q = 1)) ((u 3 4)).toNat : Nat) : Int))))) rfl 8 (by decide) (List.mem_of_getElem? (i := 7) rfl) rfl rfl rfl (Nat.le_of_ble_eq_true rfl) (WB_41_p8 a c ((up (us (us u 42 (f)) 43 (g)) 41 (7) (((bn (fun q => decide ((u 6) q = 1)) ((u 3 4)).toNat : Nat) : Int)))) 4) dX4_fewest_85 ?_
          refine z_aload_n C 0 dX4_fewest_88 rfl ?_
          rcases (by omega : u 17 8 = 1 ∨ u 17 8 = 2 ∨ u 17 8 = 3 ∨ u 17 8 = 4 ∨ u 17 8 = 5 ∨ u 17 8 = 6) with hn_ | hn_ | hn_ | hn_ | hn_ | hn_
          · skip
            refine z_iconst C dX4_fewest_89 ?_
            refine z_callV C hK hDD (c_X4_chooseEchoes_1 (zl x) (zG x) a c ((up (up (us (us u 42 (f)) 43 (g)) 41 (7) (((bn (fun q => decide ((u 6) q = 1)) ((u 3 4)).toNat : Nat) : Int))) 41 (8) (4))) 0 ((fun _ => false)) ((plM u)) ((plE u)) (show 0 = (u 17 8) - 1 by omega) (show 0 ≤ 0 by omega) (show PQ (u 17 8) (u 3 8) (u 20) from pq_of hI (by omega)) (show (0 : Int) ≤ 4 ∧ (4 : Int) ≤ 4 by omega) (fun k h0 h1 => hf k h0 (Int.lt_of_lt_of_le (show k < u 17 8 from h1) (by omega))) (fun k h0 h1 => hg k h0 (Int.lt_of_lt_of_le (show k < u 17 8 from h1) (by omega))) (rfl) (fun _ _ _ => rfl) (congrArg (fun q : Nat => (q : Int)) (plE_bn hI.lev))) gX4_fewest_X4_chooseEchoes rfl zy_X4_chooseEchoes 41 (WB_41 a c ((up (up (us (us u 42 (f)) 43 (g)) 41 (7) (((bn (fun q => decide ((u 6) q = 1)) ((u 3 4)).toNat : Nat) : Int))) 41 (8) (4)))) rfl ⟨by omega, by decide⟩ rfl (Nat.le_of_ble_eq_true rfl) (st := []) (stk2 := fun _ => []) rfl (fun _ => rfl) dX4_fewest_90 (fun z7 u8 h9 => ?_)
            obtain ⟨b2, e1, hB⟩ := h9
            rw [e1]
            replace hB : Bst 4 b2 _ := hB
            change Z x 0 0 (WB a c (up (up (up (us (us u 42 (f)) 43 (g)) 41 (7) (((bn (fun q => decide ((u 6) q = 1)) ((u 3 4)).toNat : Nat) : Int))) 41 (8) (4)) 41 (8) (b2))) _ _ _
            have hbb := hB.1
            refine z_aload_n C 0 dX4_fewest_93 rfl ?_
            refine z_get C hK (v := .int (zI b2)) inX4_fewest_X4 41 (WB_41 a c ((up (up (up (us (us u 42 (f)) 43 (g)) 41 (7) (((bn (fun q => decide ((u 6) q = 1)) ((u 3 4)).toNat : Nat) : Int))) 41 (8) (4)) 41 (8) (b2)))) rfl 8 (by decide) (List.mem_of_getElem? (i := 7) rfl) rfl dX4_fewest_94 ?_
            refine z_iconst C dX4_fewest_97 ?_
            refine z_icmp_le C 106 dX4_fewest_98 (by decide) (by omega) (fun h10 => ?_) (fun h10 => ?_)
            · skip
              refine z_aload_n C 0 dX4_fewest_106 rfl ?_
              refine z_get C hK (v := .int (zI b2)) inX4_fewest_X4 41 (WB_41 a c ((up (up (up (us (us u 42 (f)) 43 (g)) 41 (7) (((bn (fun q => decide ((u 6) q = 1)) ((u 3 4)).toNat : Nat) : Int))) 41 (8) (4)) 41 (8) (b2)))) rfl 8 (by decide) (List.mem_of_getElem? (i := 7) rfl) rfl dX4_fewest_107 ?_
              exact kret b2 (us (us (us u 42 f) 43 g) 41 (fun k => if k = 8 then b2 else if k = 8 then 4 else if k = 7 then ((bn (fun q => decide (u 6 q = 1)) (u 3 4).toNat : Nat) : Int) else u 41 k)) _ _ (⟨⟨f, g, fun k => if k = 8 then b2 else if k = 8 then 4 else if k = 7 then ((bn (fun q => decide (u 6 q = 1)) (u 3 4).toNat : Nat) : Int) else u 41 k, rfl⟩, Or.inr ⟨by omega, b2, PlC_of (by omega) (fun k h0 h1 => hz k h0 (by omega)) hB, by first | rw [if_pos (by omega)] | rw [if_neg (by omega)]⟩⟩) dX4_fewest_110
            · skip
              refine z_bipush C dX4_fewest_101 (by decide) ?_
              refine z_goto C 110 dX4_fewest_103 (by decide) ?_
              exact kret (-9) (us (us (us u 42 f) 43 g) 41 (fun k => if k = 8 then b2 else if k = 8 then 4 else if k = 7 then ((bn (fun q => decide (u 6 q = 1)) (u 3 4).toNat : Nat) : Int) else u 41 k)) _ _ (⟨⟨f, g, fun k => if k = 8 then b2 else if k = 8 then 4 else if k = 7 then ((bn (fun q => decide (u 6 q = 1)) (u 3 4).toNat : Nat) : Int) else u 41 k, rfl⟩, Or.inr ⟨by omega, b2, PlC_of (by omega) (fun k h0 h1 => hz k h0 (by omega)) hB, by first | rw [if_pos (by omega)] | rw [if_neg (by omega)]⟩⟩) dX4_fewest_110
          · skip
            refine z_iconst C dX4_fewest_89 ?_
            refine z_callV C hK hDD (c_X4_chooseEchoes_2 (zl x) (zG x) a c ((up (up (us (us u 42 (f)) 43 (g)) 41 (7) (((bn (fun q => decide ((u 6) q = 1)) ((u 3 4)).toNat : Nat) : Int))) 41 (8) (4))) 0 ((fun _ => false)) ((plM u)) ((plE u)) (show 0 = (u 17 8) - 2 by omega) (show 0 ≤ 0 by omega) (show PQ (u 17 8) (u 3 8) (u 20) from pq_of hI (by omega)) (show (0 : Int) ≤ 4 ∧ (4 : Int) ≤ 4 by omega) (fun k h0 h1 => hf k h0 (Int.lt_of_lt_of_le (show k < u 17 8 from h1) (by omega))) (fun k h0 h1 => hg k h0 (Int.lt_of_lt_of_le (show k < u 17 8 from h1) (by omega))) (rfl) (fun _ _ _ => rfl) (congrArg (fun q : Nat => (q : Int)) (plE_bn hI.lev))) gX4_fewest_X4_chooseEchoes rfl zy_X4_chooseEchoes 41 (WB_41 a c ((up (up (us (us u 42 (f)) 43 (g)) 41 (7) (((bn (fun q => decide ((u 6) q = 1)) ((u 3 4)).toNat : Nat) : Int))) 41 (8) (4)))) rfl ⟨by omega, by decide⟩ rfl (Nat.le_of_ble_eq_true rfl) (st := []) (stk2 := fun _ => []) rfl (fun _ => rfl) dX4_fewest_90 (fun z11 u12 h13 => ?_)
            obtain ⟨b2, e1, hB⟩ := h13
            rw [e1]
            replace hB : Bst 4 b2 _ := hB
            change Z x 0 0 (WB a c (up (up (up (us (us u 42 (f)) 43 (g)) 41 (7) (((bn (fun q => decide ((u 6) q = 1)) ((u 3 4)).toNat : Nat) : Int))) 41 (8) (4)) 41 (8) (b2))) _ _ _
            have hbb := hB.1
            refine z_aload_n C 0 dX4_fewest_93 rfl ?_
            refine z_get C hK (v := .int (zI b2)) inX4_fewest_X4 41 (WB_41 a c ((up (up (up (us (us u 42 (f)) 43 (g)) 41 (7) (((bn (fun q => decide ((u 6) q = 1)) ((u 3 4)).toNat : Nat) : Int))) 41 (8) (4)) 41 (8) (b2)))) rfl 8 (by decide) (List.mem_of_getElem? (i := 7) rfl) rfl dX4_fewest_94 ?_
            refine z_iconst C dX4_fewest_97 ?_
            refine z_icmp_le C 106 dX4_fewest_98 (by decide) (by omega) (fun h14 => ?_) (fun h14 => ?_)
            · skip
              refine z_aload_n C 0 dX4_fewest_106 rfl ?_
              refine z_get C hK (v := .int (zI b2)) inX4_fewest_X4 41 (WB_41 a c ((up (up (up (us (us u 42 (f)) 43 (g)) 41 (7) (((bn (fun q => decide ((u 6) q = 1)) ((u 3 4)).toNat : Nat) : Int))) 41 (8) (4)) 41 (8) (b2)))) rfl 8 (by decide) (List.mem_of_getElem? (i := 7) rfl) rfl dX4_fewest_107 ?_
              exact kret b2 (us (us (us u 42 f) 43 g) 41 (fun k => if k = 8 then b2 else if k = 8 then 4 else if k = 7 then ((bn (fun q => decide (u 6 q = 1)) (u 3 4).toNat : Nat) : Int) else u 41 k)) _ _ (⟨⟨f, g, fun k => if k = 8 then b2 else if k = 8 then 4 else if k = 7 then ((bn (fun q => decide (u 6 q = 1)) (u 3 4).toNat : Nat) : Int) else u 41 k, rfl⟩, Or.inr ⟨by omega, b2, PlC_of (by omega) (fun k h0 h1 => hz k h0 (by omega)) hB, by first | rw [if_pos (by omega)] | rw [if_neg (by omega)]⟩⟩) dX4_fewest_110
            · skip
              refine z_bipush C dX4_fewest_101 (by decide) ?_
              refine z_goto C 110 dX4_fewest_103 (by decide) ?_
              exact kret (-9) (us (us (us u 42 f) 43 g) 41 (fun k => if k = 8 then b2 else if k = 8 then 4 else if k = 7 then ((bn (fun q => decide (u 6 q = 1)) (u 3 4).toNat : Nat) : Int) else u 41 k)) _ _ (⟨⟨f, g, fun k => if k = 8 then b2 else if k = 8 then 4 else if k = 7 then ((bn (fun q => decide (u 6 q = 1)) (u 3 4).toNat : Nat) : Int) else u 41 k, rfl⟩, Or.inr ⟨by omega, b2, PlC_of (by omega) (fun k h0 h1 => hz k h0 (by omega)) hB, by first | rw [if_pos (by omega)] | rw [if_neg (by omega)]⟩⟩) dX4_fewest_110
          · skip
            refine z_iconst C dX4_fewest_89 ?_
            refine z_callV C hK hDD (c_X4_chooseEchoes_3 (zl x) (zG x) a c ((up (up (us (us u 42 (f)) 43 (g)) 41 (7) (((bn (fun q => decide ((u 6) q = 1)) ((u 3 4)).toNat : Nat) : Int))) 41 (8) (4))) 0 ((fun _ => false)) ((plM u)) ((plE u)) (show 0 = (u 17 8) - 3 by omega) (show 0 ≤ 0 by omega) (show PQ (u 17 8) (u 3 8) (u 20) from pq_of hI (by omega)) (show (0 : Int) ≤ 4 ∧ (4 : Int) ≤ 4 by omega) (fun k h0 h1 => hf k h0 (Int.lt_of_lt_of_le (show k < u 17 8 from h1) (by omega))) (fun k h0 h1 => hg k h0 (Int.lt_of_lt_of_le (show k < u 17 8 from h1) (by omega))) (rfl) (fun _ _ _ => rfl) (congrArg (fun q : Nat => (q : Int)) (plE_bn hI.lev))) gX4_fewest_X4_chooseEchoes rfl zy_X4_chooseEchoes 41 (WB_41 a c ((up (up (us (us u 42 (f)) 43 (g)) 41 (7) (((bn (fun q => decide ((u 6) q = 1)) ((u 3 4)).toNat : Nat) : Int))) 41 (8) (4)))) rfl ⟨by omega, by decide⟩ rfl (Nat.le_of_ble_eq_true rfl) (st := []) (stk2 := fun _ => []) rfl (fun _ => rfl) dX4_fewest_90 (fun z15 u16 h17 => ?_)
            obtain ⟨b2, e1, hB⟩ := h17
            rw [e1]
            replace hB : Bst 4 b2 _ := hB
            change Z x 0 0 (WB a c (up (up (up (us (us u 42 (f)) 43 (g)) 41 (7) (((bn (fun q => decide ((u 6) q = 1)) ((u 3 4)).toNat : Nat) : Int))) 41 (8) (4)) 41 (8) (b2))) _ _ _
            have hbb := hB.1
            refine z_aload_n C 0 dX4_fewest_93 rfl ?_
            refine z_get C hK (v := .int (zI b2)) inX4_fewest_X4 41 (WB_41 a c ((up (up (up (us (us u 42 (f)) 43 (g)) 41 (7) (((bn (fun q => decide ((u 6) q = 1)) ((u 3 4)).toNat : Nat) : Int))) 41 (8) (4)) 41 (8) (b2)))) rfl 8 (by decide) (List.mem_of_getElem? (i := 7) rfl) rfl dX4_fewest_94 ?_
            refine z_iconst C dX4_fewest_97 ?_
            refine z_icmp_le C 106 dX4_fewest_98 (by decide) (by omega) (fun h18 => ?_) (fun h18 => ?_)
            · skip
              refine z_aload_n C 0 dX4_fewest_106 rfl ?_
              refine z_get C hK (v := .int (zI b2)) inX4_fewest_X4 41 (WB_41 a c ((up (up (up (us (us u 42 (f)) 43 (g)) 41 (7) (((bn (fun q => decide ((u 6) q = 1)) ((u 3 4)).toNat : Nat) : Int))) 41 (8) (4)) 41 (8) (b2)))) rfl 8 (by decide) (List.mem_of_getElem? (i := 7) rfl) rfl dX4_fewest_107 ?_
              exact kret b2 (us (us (us u 42 f) 43 g) 41 (fun k => if k = 8 then b2 else if k = 8 then 4 else if k = 7 then ((bn (fun q => decide (u 6 q = 1)) (u 3 4).toNat : Nat) : Int) else u 41 k)) _ _ (⟨⟨f, g, fun k => if k = 8 then b2 else if k = 8 then 4 else if k = 7 then ((bn (fun q => decide (u 6 q = 1)) (u 3 4).toNat : Nat) : Int) else u 41 k, rfl⟩, Or.inr ⟨by omega, b2, PlC_of (by omega) (fun k h0 h1 => hz k h0 (by omega)) hB, by first | rw [if_pos (by omega)] | rw [if_neg (by omega)]⟩⟩) dX4_fewest_110
            · skip
              refine z_bipush C dX4_fewest_101 (by decide) ?_
              refine z_goto C 110 dX4_fewest_103 (by decide) ?_
              exact kret (-9) (us (us (us u 42 f) 43 g) 41 (fun k => if k = 8 then b2 else if k = 8 then 4 else if k = 7 then ((bn (fun q => decide (u 6 q = 1)) (u 3 4).toNat : Nat) : Int) else u 41 k)) _ _ (⟨⟨f, g, fun k => if k = 8 then b2 else if k = 8 then 4 else if k = 7 then ((bn (fun q => decide (u 6 q = 1)) (u 3 4).toNat : Nat) : Int) else u 41 k, rfl⟩, Or.inr ⟨by omega, b2, PlC_of (by omega) (fun k h0 h1 => hz k h0 (by omega)) hB, by first | rw [if_pos (by omega)] | rw [if_neg (by omega)]⟩⟩) dX4_fewest_110
          · skip
            refine z_iconst C dX4_fewest_89 ?_
            refine z_callV C hK hDD (c_X4_chooseEchoes_4 (zl x) (zG x) a c ((up (up (us (us u 42 (f)) 43 (g)) 41 (7) (((bn (fun q => decide ((u 6) q = 1)) ((u 3 4)).toNat : Nat) : Int))) 41 (8) (4))) 0 ((fun _ => false)) ((plM u)) ((plE u)) (show 0 = (u 17 8) - 4 by omega) (show 0 ≤ 0 by omega) (show PQ (u 17 8) (u 3 8) (u 20) from pq_of hI (by omega)) (show (0 : Int) ≤ 4 ∧ (4 : Int) ≤ 4 by omega) (fun k h0 h1 => hf k h0 (Int.lt_of_lt_of_le (show k < u 17 8 from h1) (by omega))) (fun k h0 h1 => hg k h0 (Int.lt_of_lt_of_le (show k < u 17 8 from h1) (by omega))) (rfl) (fun _ _ _ => rfl) (congrArg (fun q : Nat => (q : Int)) (plE_bn hI.lev))) gX4_fewest_X4_chooseEchoes rfl zy_X4_chooseEchoes 41 (WB_41 a c ((up (up (us (us u 42 (f)) 43 (g)) 41 (7) (((bn (fun q => decide ((u 6) q = 1)) ((u 3 4)).toNat : Nat) : Int))) 41 (8) (4)))) rfl ⟨by omega, by decide⟩ rfl (Nat.le_of_ble_eq_true rfl) (st := []) (stk2 := fun _ => []) rfl (fun _ => rfl) dX4_fewest_90 (fun z19 u20 h21 => ?_)
            obtain ⟨b2, e1, hB⟩ := h21
            rw [e1]
            replace hB : Bst 4 b2 _ := hB
            change Z x 0 0 (WB a c (up (up (up (us (us u 42 (f)) 43 (g)) 41 (7) (((bn (fun q => decide ((u 6) q = 1)) ((u 3 4)).toNat : Nat) : Int))) 41 (8) (4)) 41 (8) (b2))) _ _ _
            have hbb := hB.1
            refine z_aload_n C 0 dX4_fewest_93 rfl ?_
            refine z_get C hK (v := .int (zI b2)) inX4_fewest_X4 41 (WB_41 a c ((up (up (up (us (us u 42 (f)) 43 (g)) 41 (7) (((bn (fun q => decide ((u 6) q = 1)) ((u 3 4)).toNat : Nat) : Int))) 41 (8) (4)) 41 (8) (b2)))) rfl 8 (by decide) (List.mem_of_getElem? (i := 7) rfl) rfl dX4_fewest_94 ?_
            refine z_iconst C dX4_fewest_97 ?_
            refine z_icmp_le C 106 dX4_fewest_98 (by decide) (by omega) (fun h22 => ?_) (fun h22 => ?_)
            · skip
              refine z_aload_n C 0 dX4_fewest_106 rfl ?_
              refine z_get C hK (v := .int (zI b2)) inX4_fewest_X4 41 (WB_41 a c ((up (up (up (us (us u 42 (f)) 43 (g)) 41 (7) (((bn (fun q => decide ((u 6) q = 1)) ((u 3 4)).toNat : Nat) : Int))) 41 (8) (4)) 41 (8) (b2)))) rfl 8 (by decide) (List.mem_of_getElem? (i := 7) rfl) rfl dX4_fewest_107 ?_
              exact kret b2 (us (us (us u 42 f) 43 g) 41 (fun k => if k = 8 then b2 else if k = 8 then 4 else if k = 7 then ((bn (fun q => decide (u 6 q = 1)) (u 3 4).toNat : Nat) : Int) else u 41 k)) _ _ (⟨⟨f, g, fun k => if k = 8 then b2 else if k = 8 then 4 else if k = 7 then ((bn (fun q => decide (u 6 q = 1)) (u 3 4).toNat : Nat) : Int) else u 41 k, rfl⟩, Or.inr ⟨by omega, b2, PlC_of (by omega) (fun k h0 h1 => hz k h0 (by omega)) hB, by first | rw [if_pos (by omega)] | rw [if_neg (by omega)]⟩⟩) dX4_fewest_110
            · skip
              refine z_bipush C dX4_fewest_101 (by decide) ?_
              refine z_goto C 110 dX4_fewest_103 (by decide) ?_
              exact kret (-9) (us (us (us u 42 f) 43 g) 41 (fun k => if k = 8 then b2 else if k = 8 then 4 else if k = 7 then ((bn (fun q => decide (u 6 q = 1)) (u 3 4).toNat : Nat) : Int) else u 41 k)) _ _ (⟨⟨f, g, fun k => if k = 8 then b2 else if k = 8 then 4 else if k = 7 then ((bn (fun q => decide (u 6 q = 1)) (u 3 4).toNat : Nat) : Int) else u 41 k, rfl⟩, Or.inr ⟨by omega, b2, PlC_of (by omega) (fun k h0 h1 => hz k h0 (by omega)) hB, by first | rw [if_pos (by omega)] | rw [if_neg (by omega)]⟩⟩) dX4_fewest_110
          · skip
            refine z_iconst C dX4_fewest_89 ?_
            refine z_callV C hK hDD (c_X4_chooseEchoes_5 (zl x) (zG x) a c ((up (up (us (us u 42 (f)) 43 (g)) 41 (7) (((bn (fun q => decide ((u 6) q = 1)) ((u 3 4)).toNat : Nat) : Int))) 41 (8) (4))) 0 ((fun _ => false)) ((plM u)) ((plE u)) (show 0 = (u 17 8) - 5 by omega) (show 0 ≤ 0 by omega) (show PQ (u 17 8) (u 3 8) (u 20) from pq_of hI (by omega)) (show (0 : Int) ≤ 4 ∧ (4 : Int) ≤ 4 by omega) (fun k h0 h1 => hf k h0 (Int.lt_of_lt_of_le (show k < u 17 8 from h1) (by omega))) (fun k h0 h1 => hg k h0 (Int.lt_of_lt_of_le (show k < u 17 8 from h1) (by omega))) (rfl) (fun _ _ _ => rfl) (congrArg (fun q : Nat => (q : Int)) (plE_bn hI.lev))) gX4_fewest_X4_chooseEchoes rfl zy_X4_chooseEchoes 41 (WB_41 a c ((up (up (us (us u 42 (f)) 43 (g)) 41 (7) (((bn (fun q => decide ((u 6) q = 1)) ((u 3 4)).toNat : Nat) : Int))) 41 (8) (4)))) rfl ⟨by omega, by decide⟩ rfl (Nat.le_of_ble_eq_true rfl) (st := []) (stk2 := fun _ => []) rfl (fun _ => rfl) dX4_fewest_90 (fun z23 u24 h25 => ?_)
            obtain ⟨b2, e1, hB⟩ := h25
            rw [e1]
            replace hB : Bst 4 b2 _ := hB
            change Z x 0 0 (WB a c (up (up (up (us (us u 42 (f)) 43 (g)) 41 (7) (((bn (fun q => decide ((u 6) q = 1)) ((u 3 4)).toNat : Nat) : Int))) 41 (8) (4)) 41 (8) (b2))) _ _ _
            have hbb := hB.1
            refine z_aload_n C 0 dX4_fewest_93 rfl ?_
            refine z_get C hK (v := .int (zI b2)) inX4_fewest_X4 41 (WB_41 a c ((up (up (up (us (us u 42 (f)) 43 (g)) 41 (7) (((bn (fun q => decide ((u 6) q = 1)) ((u 3 4)).toNat : Nat) : Int))) 41 (8) (4)) 41 (8) (b2)))) rfl 8 (by decide) (List.mem_of_getElem? (i := 7) rfl) rfl dX4_fewest_94 ?_
            refine z_iconst C dX4_fewest_97 ?_
            refine z_icmp_le C 106 dX4_fewest_98 (by decide) (by omega) (fun h26 => ?_) (fun h26 => ?_)
            · skip
              refine z_aload_n C 0 dX4_fewest_106 rfl ?_
              refine z_get C hK (v := .int (zI b2)) inX4_fewest_X4 41 (WB_41 a c ((up (up (up (us (us u 42 (f)) 43 (g)) 41 (7) (((bn (fun q => decide ((u 6) q = 1)) ((u 3 4)).toNat : Nat) : Int))) 41 (8) (4)) 41 (8) (b2)))) rfl 8 (by decide) (List.mem_of_getElem? (i := 7) rfl) rfl dX4_fewest_107 ?_
              exact kret b2 (us (us (us u 42 f) 43 g) 41 (fun k => if k = 8 then b2 else if k = 8 then 4 else if k = 7 then ((bn (fun q => decide (u 6 q = 1)) (u 3 4).toNat : Nat) : Int) else u 41 k)) _ _ (⟨⟨f, g, fun k => if k = 8 then b2 else if k = 8 then 4 else if k = 7 then ((bn (fun q => decide (u 6 q = 1)) (u 3 4).toNat : Nat) : Int) else u 41 k, rfl⟩, Or.inr ⟨by omega, b2, PlC_of (by omega) (fun k h0 h1 => hz k h0 (by omega)) hB, by first | rw [if_pos (by omega)] | rw [if_neg (by omega)]⟩⟩) dX4_fewest_110
            · skip
              refine z_bipush C dX4_fewest_101 (by decide) ?_
              refine z_goto C 110 dX4_fewest_103 (by decide) ?_
              exact kret (-9) (us (us (us u 42 f) 43 g) 41 (fun k => if k = 8 then b2 else if k = 8 then 4 else if k = 7 then ((bn (fun q => decide (u 6 q = 1)) (u 3 4).toNat : Nat) : Int) else u 41 k)) _ _ (⟨⟨f, g, fun k => if k = 8 then b2 else if k = 8 then 4 else if k = 7 then ((bn (fun q => decide (u 6 q = 1)) (u 3 4).toNat : Nat) : Int) else u 41 k, rfl⟩, Or.inr ⟨by omega, b2, PlC_of (by omega) (fun k h0 h1 => hz k h0 (by omega)) hB, by first | rw [if_pos (by omega)] | rw [if_neg (by omega)]⟩⟩) dX4_fewest_110
          · skip
            refine z_iconst C dX4_fewest_89 ?_
            refine z_callV C hK hDD (c_X4_chooseEchoes_6 (zl x) (zG x) a c ((up (up (us (us u 42 (f)) 43 (g)) 41 (7) (((bn (fun q => decide ((u 6) q = 1)) ((u 3 4)).toNat : Nat) : Int))) 41 (8) (4))) 0 ((fun _ => false)) ((plM u)) ((plE u)) (show 0 = (u 17 8) - 6 by omega) (show 0 ≤ 0 by omega) (show PQ (u 17 8) (u 3 8) (u 20) from pq_of hI (by omega)) (show (0 : Int) ≤ 4 ∧ (4 : Int) ≤ 4 by omega) (fun k h0 h1 => hf k h0 (Int.lt_of_lt_of_le (show k < u 17 8 from h1) (by omega))) (fun k h0 h1 => hg k h0 (Int.lt_of_lt_of_le (show k < u 17 8 from h1) (by omega))) (rfl) (fun _ _ _ => rfl) (congrArg (fun q : Nat => (q : Int)) (plE_bn hI.lev))) gX4_fewest_X4_chooseEchoes rfl zy_X4_chooseEchoes 41 (WB_41 a c ((up (up (us (us u 42 (f)) 43 (g)) 41 (7) (((bn (fun q => decide ((u 6) q = 1)) ((u 3 4)).toNat : Nat) : Int))) 41 (8) (4)))) rfl ⟨by omega, by decide⟩ rfl (Nat.le_of_ble_eq_true rfl) (st := []) (stk2 := fun _ => []) rfl (fun _ => rfl) dX4_fewest_90 (fun z27 u28 h29 => ?_)
            obtain ⟨b2, e1, hB⟩ := h29
            rw [e1]
            replace hB : Bst 4 b2 _ := hB
            change Z x 0 0 (WB a c (up (up (up (us (us u 42 (f)) 43 (g)) 41 (7) (((bn (fun q => decide ((u 6) q = 1)) ((u 3 4)).toNat : Nat) : Int))) 41 (8) (4)) 41 (8) (b2))) _ _ _
            have hbb := hB.1
            refine z_aload_n C 0 dX4_fewest_93 rfl ?_
            refine z_get C hK (v := .int (zI b2)) inX4_fewest_X4 41 (WB_41 a c ((up (up (up (us (us u 42 (f)) 43 (g)) 41 (7) (((bn (fun q => decide ((u 6) q = 1)) ((u 3 4)).toNat : Nat) : Int))) 41 (8) (4)) 41 (8) (b2)))) rfl 8 (by decide) (List.mem_of_getElem? (i := 7) rfl) rfl dX4_fewest_94 ?_
            refine z_iconst C dX4_fewest_97 ?_
            refine z_icmp_le C 106 dX4_fewest_98 (by decide) (by omega) (fun h30 => ?_) (fun h30 => ?_)
            · skip
              refine z_aload_n C 0 dX4_fewest_106 rfl ?_
              refine z_get C hK (v := .int (zI b2)) inX4_fewest_X4 41 (WB_41 a c ((up (up (up (us (us u 42 (f)) 43 (g)) 41 (7) (((bn (fun q => decide ((u 6) q = 1)) ((u 3 4)).toNat : Nat) : Int))) 41 (8) (4)) 41 (8) (b2)))) rfl 8 (by decide) (List.mem_of_getElem? (i := 7) rfl) rfl dX4_fewest_107 ?_
              exact kret b2 (us (us (us u 42 f) 43 g) 41 (fun k => if k = 8 then b2 else if k = 8 then 4 else if k = 7 then ((bn (fun q => decide (u 6 q = 1)) (u 3 4).toNat : Nat) : Int) else u 41 k)) _ _ (⟨⟨f, g, fun k => if k = 8 then b2 else if k = 8 then 4 else if k = 7 then ((bn (fun q => decide (u 6 q = 1)) (u 3 4).toNat : Nat) : Int) else u 41 k, rfl⟩, Or.inr ⟨by omega, b2, PlC_of (by omega) (fun k h0 h1 => hz k h0 (by omega)) hB, by first | rw [if_pos (by omega)] | rw [if_neg (by omega)]⟩⟩) dX4_fewest_110
            · skip
              refine z_bipush C dX4_fewest_101 (by decide) ?_
              refine z_goto C 110 dX4_fewest_103 (by decide) ?_
              exact kret (-9) (us (us (us u 42 f) 43 g) 41 (fun k => if k = 8 then b2 else if k = 8 then 4 else if k = 7 then ((bn (fun q => decide (u 6 q = 1)) (u 3 4).toNat : Nat) : Int) else u 41 k)) _ _ (⟨⟨f, g, fun k => if k = 8 then b2 else if k = 8 then 4 else if k = 7 then ((bn (fun q => decide (u 6 q = 1)) (u 3 4).toNat : Nat) : Int) else u 41 k, rfl⟩, Or.inr ⟨by omega, b2, PlC_of (by omega) (fun k h0 h1 => hz k h0 (by omega)) hB, by first | rw [if_pos (by omega)] | rw [if_neg (by omega)]⟩⟩) dX4_fewest_110
        · skip
          refine z_aload_n C 0 dX4_fewest_25 rfl ?_
          refine z_get C hK (v := .ref (a 42)) inX4_fewest_X4 41 (WB_41 a c ((us (us u 42 (f)) 43 (g)))) rfl 3 (by decide) (List.mem_of_getElem? (i := 2) rfl) rfl dX4_fewest_26 ?_
          refine z_iload_n C 1 dX4_fewest_29 rfl ?_
          refine z_aload_n C 0 dX4_fewest_30 rfl ?_
          refine z_get C hK (v := .ref (a 37)) inX4_fewest_X4 41 (WB_41 a c ((us (us u 42 (f)) 43 (g)))) rfl 2 (by decide) (List.mem_of_getElem? (i := 3) rfl) rfl dX4_fewest_31 ?_
          refine z_aload_n C 0 dX4_fewest_34 rfl ?_
          refine z_get C hK (v := .ref (a 17)) inX4_fewest_X4 41 (WB_41 a c ((us (us u 42 (f)) 43 (g)))) rfl 1 (by decide) (List.mem_of_getElem? (i := 1) rfl) rfl dX4_fewest_35 ?_
          refine z_getN C hK (v := .ref (a 21)) inX4_fewest_X2 17 (WB_17 a c ((us (us u 42 (f)) 43 (g)))) rfl 3 (by decide) (List.mem_of_getElem? (i := 35) rfl) rfl dX4_fewest_38 ?_
          have hny := hI.note i hi.1 (by omega)
          refine z_iload_n C 1 dX4_fewest_41 rfl ?_
          refine z_iald C hK 0 (g := (u 21)) (i := i) 21 (WB_21 a c ((us (us u 42 (f)) 43 (g)))) rfl (by decide) (by omega) dX4_fewest_42 ?_
          refine z_as (b := u 21 (i)) rfl ?_
          refine z_callVN C hK hDD (c_X6_likeSound (zl x) (zG x) a c ((us (us u 42 (f)) 43 (g))) (u 21 (i)) (hI) (show -200 ≤ (u 21 (i)) ∧ (u 21 (i)) ≤ 200 by omega)) ggX4_fewest_X6_likeSound (List.mem_of_getElem? (i := 30) rfl) (List.mem_of_getElem? (i := 9) rfl) (List.mem_of_getElem? (i := 8) rfl) (List.mem_of_getElem? (i := 10) rfl) rfl zy_X6_likeSound 37 (WB_37 a c ((us (us u 42 (f)) 43 (g)))) rfl ⟨by omega, by decide⟩ rfl (Nat.le_of_ble_eq_true rfl) (st := [.int (zI i), .ref (a 42)]) (stk2 := fun z31 => [.int (zI z31), .int (zI i), .ref (a 42)]) rfl (fun _ => rfl) dX4_fewest_43 (fun z31 u32 h33 => ?_)
          rw [h33.1]; replace h33 := h33.2
          refine z_as (b := ((like ((u 18)) ((u 17 6)) ((u 3 6)) ((u 3 4)) (u 21 (i)) : Nat) : Int)) h33 ?_
          refine z_iast C hK (hDD _) 0 (g := (us (us u 42 (f)) 43 (g)) 42) 42 (WB_42 a c ((us (us u 42 (f)) 43 (g)))) rfl (by decide) (by omega) (WB_42_set a c ((us (us u 42 (f)) 43 (g))) i (((like ((u 18)) ((u 17 6)) ((u 3 6)) ((u 3 4)) (u 21 (i)) : Nat) : Int))) dX4_fewest_46 ?_
          refine z_aload_n C 0 dX4_fewest_47 rfl ?_
          refine z_get C hK (v := .ref (a 43)) inX4_fewest_X4 41 (WB_41 a c ((up (us (us u 42 (f)) 43 (g)) 42 (i) (((like ((u 18)) ((u 17 6)) ((u 3 6)) ((u 3 4)) (u 21 (i)) : Nat) : Int))))) rfl 4 (by decide) (List.mem_of_getElem? (i := 4) rfl) rfl dX4_fewest_48 ?_
          refine z_iload_n C 1 dX4_fewest_51 rfl ?_
          refine z_iconst C dX4_fewest_52 ?_
          refine z_zast C hK (hDD _) 1 (g := (up (us (us u 42 (f)) 43 (g)) 42 (i) (((like ((u 18)) ((u 17 6)) ((u 3 6)) ((u 3 4)) (u 21 (i)) : Nat) : Int))) 43) 43 (WB_43 a c ((up (us (us u 42 (f)) 43 (g)) 42 (i) (((like ((u 18)) ((u 17 6)) ((u 3 6)) ((u 3 4)) (u 21 (i)) : Nat) : Int))))) rfl (by decide) (by omega) (by omega) (WB_43_set a c ((up (us (us u 42 (f)) 43 (g)) 42 (i) (((like ((u 18)) ((u 17 6)) ((u 3 6)) ((u 3 4)) (u 21 (i)) : Nat) : Int)))) i 0) dX4_fewest_53 ?_
          refine z_aload_n C 0 dX4_fewest_54 rfl ?_
          refine z_get C hK (v := .ref (a 42)) inX4_fewest_X4 41 (WB_41 a c ((up (up (us (us u 42 (f)) 43 (g)) 42 (i) (((like ((u 18)) ((u 17 6)) ((u 3 6)) ((u 3 4)) (u 21 (i)) : Nat) : Int))) 43 (i) (0)))) rfl 3 (by decide) (List.mem_of_getElem? (i := 2) rfl) rfl dX4_fewest_55 ?_
          refine z_iload_n C 1 dX4_fewest_58 rfl ?_
          refine z_iald C hK 0 (g := ((up (us (us u 42 (f)) 43 (g)) 42 (i) (((like ((u 18)) ((u 17 6)) ((u 3 6)) ((u 3 4)) (u 21 (i)) : Nat) : Int))) 42)) (i := i) 42 (WB_42 a c ((up (up (us (us u 42 (f)) 43 (g)) 42 (i) (((like ((u 18)) ((u 17 6)) ((u 3 6)) ((u 3 4)) (u 21 (i)) : Nat) : Int))) 43 (i) (0)))) rfl (by decide) (by omega) dX4_fewest_59 ?_
          refine z_as (b := ((like (u 18) (u 17 6) (u 3 6) (u 3 4) (u 21 i) : Nat) : Int)) (up_at _ _ _ _) ?_
          refine z_if_ne C 66 dX4_fewest_60 (by decide) (by have := like_lt (u 18) (u 17 6) (u 3 6) (u 3 4) (u 21 i); omega) (fun h34 => ?_) (fun h34 => ?_)
          · have hnz : nz (plM u i) := nz_yes rfl h34
            refine z_iinc C 1 [(1, .int (zI (i + 1))), (0, .ref (a 41))] dX4_fewest_66 rfl (by decide) rfl ?_
            refine z_goto C 14 dX4_fewest_69 (by decide) ?_
            refine z_lv [(0, .ref (a 41)), (1, .int (zI (i + 1)))] [1, 0] rfl ?_
            exact ih14 (i + 1) (fun j => if j = i then ((like (u 18) (u 17 6) (u 3 6) (u 3 4) (u 21 i) : Nat) : Int) else f j) (fun j => if j = i then 0 else g j) (by omega) (fw_put hf rfl) (fw_put hg rfl) (nz_put hz hnz) (by omega)
          · have hnz : ¬ nz (plM u i) := nz_no rfl h34
            refine z_bipush C dX4_fewest_63 (by decide) ?_
            exact kret (-9) (us (us u 42 (fun j => if j = i then ((like (u 18) (u 17 6) (u 3 6) (u 3 4) (u 21 i) : Nat) : Int) else f j)) 43 (fun j => if j = i then 0 else g j)) _ _ (⟨⟨_, _, u 41, us_keep u _ _⟩, Or.inr ⟨by omega, 4, Bst_none (by omega) (fun t h => absurd (h.1 i hi.1 (by omega)) hnz), rfl⟩⟩) dX4_fewest_65
    refine z_lv [(0, .ref (a 41)), (1, .int (zI 0))] [1, 0] rfl ?_
    exact L14_2 (((u 17 8 - 0 : Int)).toNat + 1) 0 ((u 42)) ((u 43)) (by omega) (fun k h0 h1 => absurd h1 (by omega)) (fun k h0 h1 => absurd h1 (by omega)) (fun k h0 h1 => absurd h1 (by omega)) (by omega)
  · skip
    refine z_iconst C dX4_fewest_10 ?_
    exact kret 0 u _ _ (⟨⟨u 42, u 43, u 41, us3_self u⟩, Or.inl ⟨by omega, rfl⟩⟩) dX4_fewest_11
