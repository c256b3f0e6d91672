/-! ===== contracts: the reference's items ===== -/

theorem zy_X11_readItem : zY yX11_readItem 0 := ⟨by decide +kernel, by decide +kernel, by decide +kernel⟩
-- NoteBellsModel.readItem
theorem inX11_readItem_X11 : ∀ w ∈ wsX110, w ∈ wsX11_readItem := fun w h => List.mem_cons_of_mem _ (List.mem_append_right _ (h))
set_option maxHeartbeats 8000000 in
set_option maxRecDepth 100000 in
theorem c_X11_readItem (l : Launch) (D : va_G) (a : Nat → Nat) (c : Nat → ClassId) (u : zU) (Dr : zU) (i : Nat) (hI : IM u) (hC : Cur u i) (hk0 : kd (u 1) (u 0 1) (ps (u 1) (u 0 1) i) ≠ 0) (hD : DM u Dr) : ZM l D (zTy c) (WM a c) yX11_readItem wsX11_readItem 6 [.ref (a 0)] u rI (fun z u' => (z = 0 ∧ FrR (u) u' ∧ ∃ jj : Nat, ItNo (KT (u 1) (u 0 1)) (NTk (u 1) (u 0 1)) Dr i jj ∧ Cur u' jj) ∨ (z = 1 ∧ FrR (u) u' ∧ ∃ (jj : Nat) (D1 : zU), ItOk (KT (u 1) (u 0 1)) (NTk (u 1) (u 0 1)) Dr i jj D1 ∧ Cur u' jj ∧ DM u' D1)) := by
  refine ZM.ofZ (cc := cX11_readItem) (maxL := 3) [(0, .ref (a 0))] rfl (by decide +kernel) rfl (Nat.le_of_ble_eq_true rfl) (WM_addr a c) ?_
  intro x C hK _ _ hDD kret
  have hD0 := hD
  have hC0 := hC
  obtain ⟨m1, m2, m3, m4, m5, m6⟩ := hD
  have htl := hI.tlen
  obtain ⟨hc1, hc2⟩ := hC
  have hat0 := at_bd htl.1 hc2
  have hc3 := hc2
  unfold RdP at hc3
  have hkb := kd_bd (u 1) (u 0 1) (ps (u 1) (u 0 1) i)
  obtain ⟨wh, hwh⟩ : ∃ wh : Int, wh = u 0 5 := ⟨_, rfl⟩
  have eK : KT (u 1) (u 0 1) (i : Int) = kd (u 1) (u 0 1) (ps (u 1) (u 0 1) i) := rfl
  refine z_aload_n C 0 dX11_readItem_0 rfl ?_
  refine z_get C hK (v := .int (zI (u 0 5))) inX11_readItem_X11 0 (WM_0 a c u) rfl 5 (by decide) (List.mem_of_getElem? (i := 1) rfl) rfl dX11_readItem_1 ?_
  refine z_as (b := wh) (hwh.symm) ?_
  refine z_istore_n C [(1, .int (zI wh)), (0, .ref (a 0))] dX11_readItem_4 rfl (by decide) rfl ?_
  refine z_aload_n C 1 dX11_readItem_5 rfl ?_
  refine z_get C hK (v := .int (zI (u 0 4))) inX11_readItem_X11 0 (WM_0 a c u) rfl 4 (by decide) (List.mem_of_getElem? (i := 2) rfl) rfl dX11_readItem_6 ?_
  refine z_iconst C dX11_readItem_9 ?_
  refine z_icmp_ne C 56 dX11_readItem_10 (by decide) (by omega) (fun h1 => ?_) (fun h1 => ?_)
  · have hno : ItNo (KT (u 1) (u 0 1)) (NTk (u 1) (u 0 1)) Dr i i := Or.inr (Or.inr (Or.inr (Or.inr (Or.inr ⟨Or.inl (by omega), rfl⟩))))
    refine z_iconst C dX11_readItem_56 ?_
    exact kret 0 u _ _ (Or.inl ⟨rfl, FrR_rf u, i, hno, hC0⟩) (by omega) dX11_readItem_57
  · have hk1 : kd (u 1) (u 0 1) (ps (u 1) (u 0 1) i) ≠ 1 := by omega
    have hKw : KT (u 1) (u 0 1) (i : Int) = 4 + wh := by omega
    have hw5 : wh = 0 ∨ wh = 1 ∨ wh = 2 ∨ wh = 3 ∨ wh = 4 := by omega
    rcases (hw5 : wh = 0 ∨ wh = 1 ∨ wh = 2 ∨ wh = 3 ∨ wh = 4) with hs2 | hs2 | hs2 | hs2 | hs2
    · subst hs2
      refine z_iload_n C 0 dX11_readItem_13 rfl ?_
      refine z_if_ne C 26 dX11_readItem_14 (by decide) (by omega) (fun h3 => ?_) (fun h3 => ?_)
      · exfalso; omega
      · skip
        refine z_aload_n C 1 dX11_readItem_17 rfl ?_
        refine z_get C hK (v := .int (zI (u 0 6))) inX11_readItem_X11 0 (WM_0 a c u) rfl 6 (by decide) (List.mem_of_getElem? (i := 3) rfl) rfl dX11_readItem_18 ?_
        refine z_bipush C dX11_readItem_21 (by decide) ?_
        refine z_icmp_eq C 56 dX11_readItem_23 (by decide) (by omega) (fun h4 => ?_) (fun h4 => ?_)
        · have hno : ItNo (KT (u 1) (u 0 1)) (NTk (u 1) (u 0 1)) Dr i i := Or.inl ⟨by omega, Or.inl ⟨by omega, rfl⟩⟩
          refine z_iconst C dX11_readItem_56 ?_
          exact kret 0 u _ _ (Or.inl ⟨rfl, FrR_rf u, i, hno, hC0⟩) (by omega) dX11_readItem_57
        · have hl7 : u 0 6 < 8 := by omega
          have hk4 : KT (u 1) (u 0 1) (i : Int) = 4 := by omega
          refine z_iload_n C 0 dX11_readItem_26 rfl ?_
          refine z_iconst C dX11_readItem_27 ?_
          refine z_icmp_ne C 39 dX11_readItem_28 (by decide) (by omega) (fun h5 => ?_) (fun h5 => ?_)
          · skip
            refine z_iload_n C 0 dX11_readItem_39 rfl ?_
            refine z_iconst C dX11_readItem_40 ?_
            refine z_icmp_le C 58 dX11_readItem_41 (by decide) (by omega) (fun h6 => ?_) (fun h6 => ?_)
            · skip
              refine z_iload_n C 0 dX11_readItem_58 rfl ?_
              refine z_if_ne C 144 dX11_readItem_59 (by decide) (by omega) (fun h7 => ?_) (fun h7 => ?_)
              · exfalso; omega
              · skip
                refine z_iconst C dX11_readItem_62 ?_
                refine z_istore_n C [(2, .int (zI 0)), (1, .int (zI 0)), (0, .ref (a 0))] dX11_readItem_63 rfl (by decide) rfl ?_
                refine z_iload_n C 0 dX11_readItem_64 rfl ?_
                refine z_iconst C dX11_readItem_65 ?_
                refine z_icmp_ge C 131 dX11_readItem_66 (by decide) (by omega) (fun h8 => ?_) (fun h8 => ?_)
                · exfalso; omega
                · skip
                  refine z_aload_n C 2 dX11_readItem_69 rfl ?_
                  refine z_get C hK (v := .ref (a 2)) inX11_readItem_X11 0 (WM_0 a c u) rfl 8 (by decide) (List.mem_of_getElem? (i := 6) rfl) rfl dX11_readItem_70 ?_
                  refine z_iconst C dX11_readItem_73 ?_
                  refine z_aload_n C 2 dX11_readItem_74 rfl ?_
                  refine z_get C hK (v := .int (zI (u 0 6))) inX11_readItem_X11 0 (WM_0 a c u) rfl 6 (by decide) (List.mem_of_getElem? (i := 3) rfl) rfl dX11_readItem_75 ?_
                  refine z_imul C dX11_readItem_78 ?_
                  refine z_iload_n C 0 dX11_readItem_79 rfl ?_
                  refine z_iadd C dX11_readItem_80 ?_
                  refine z_as (b := 3 * (u 0 6)) (by omega) ?_
                  refine z_aload_n C 2 dX11_readItem_81 rfl ?_
                  refine z_iconst C dX11_readItem_82 ?_
                  refine z_iload_n C 0 dX11_readItem_83 rfl ?_
                  refine z_if_ne C 92 dX11_readItem_84 (by decide) (by omega) (fun h9 => ?_) (fun h9 => ?_)
                  · exfalso; omega
                  · skip
                    refine z_bipush C dX11_readItem_87 (by decide) ?_
                    refine z_goto C 103 dX11_readItem_89 (by decide) ?_
                    refine z_callV C hK hDD (c_X11_number (zl x) (zG x) a c u 0 60 i (hI) (hC0) (hk1) (hat0) (by omega) (by omega)) gX11_readItem_X11_number rfl zy_X11_number 0 (WM_0 a c u) rfl ⟨by omega, by decide⟩ rfl (Nat.le_of_ble_eq_true rfl) (st := [.int (zI (3 * (u 0 6))), .ref (a 2)]) (stk2 := fun z10 => [.int (zI z10), .int (zI (3 * (u 0 6))), .ref (a 2)]) rfl (fun _ => rfl) dX11_readItem_103 (fun z10 u11 h12 => ?_)
                    obtain ⟨tok1, td1, pt1, e1, hR1, hz1⟩ := h12
                    rw [e1]
                    have ha1 := at_bd htl.1 hR1
                    have k1r : (kd (u 1) (u 0 1) (ps (u 1) (u 0 1) (i + 1)) = 2 ∧ 0 ≤ nmb (u 1) (u 0 1) (ps (u 1) (u 0 1) (i + 1)) ∧ nmb (u 1) (u 0 1) (ps (u 1) (u 0 1) (i + 1)) ≤ 60 ∧ z10 = nmb (u 1) (u 0 1) (ps (u 1) (u 0 1) (i + 1))) ∨ (¬ (kd (u 1) (u 0 1) (ps (u 1) (u 0 1) (i + 1)) = 2 ∧ 0 ≤ nmb (u 1) (u 0 1) (ps (u 1) (u 0 1) (i + 1)) ∧ nmb (u 1) (u 0 1) (ps (u 1) (u 0 1) (i + 1)) ≤ 60) ∧ z10 = -1) := by omega
                    have b1z : -1 ≤ z10 ∧ z10 ≤ 99 := by have q := nmb_bd (tx := u 1) (n := u 0 1) (b := ps (u 1) (u 0 1) (i + 1)); omega
                    change Z x 0 0 (WM a c (up (up (up (up u 0 (2) (pt1)) 0 (3) ((ps (u 1) (u 0 1) (i + 1)))) 0 (4) (tok1)) 0 (5) (td1))) _ _ _
                    refine z_iast C hK (hDD _) 0 (g := (up (up (up (up u 0 (2) (pt1)) 0 (3) ((ps (u 1) (u 0 1) (i + 1)))) 0 (4) (tok1)) 0 (5) (td1)) 2) 2 (WM_2 a c ((up (up (up (up u 0 (2) (pt1)) 0 (3) ((ps (u 1) (u 0 1) (i + 1)))) 0 (4) (tok1)) 0 (5) (td1)))) rfl (by decide) (by omega) (WM_2_set a c ((up (up (up (up u 0 (2) (pt1)) 0 (3) ((ps (u 1) (u 0 1) (i + 1)))) 0 (4) (tok1)) 0 (5) (td1))) (3 * (u 0 6)) z10) dX11_readItem_106 ?_
                    refine z_aload_n C 2 dX11_readItem_107 rfl ?_
                    refine z_get C hK (v := .ref (a 2)) inX11_readItem_X11 0 (WM_0 a c ((up (up (up (up (up u 0 (2) (pt1)) 0 (3) ((ps (u 1) (u 0 1) (i + 1)))) 0 (4) (tok1)) 0 (5) (td1)) 2 (3 * (u 0 6)) (z10)))) rfl 8 (by decide) (List.mem_of_getElem? (i := 6) rfl) rfl dX11_readItem_108 ?_
                    refine z_iconst C dX11_readItem_111 ?_
                    refine z_aload_n C 2 dX11_readItem_112 rfl ?_
                    refine z_get C hK (v := .int (zI (u 0 6))) inX11_readItem_X11 0 (WM_0 a c ((up (up (up (up (up u 0 (2) (pt1)) 0 (3) ((ps (u 1) (u 0 1) (i + 1)))) 0 (4) (tok1)) 0 (5) (td1)) 2 (3 * (u 0 6)) (z10)))) rfl 6 (by decide) (List.mem_of_getElem? (i := 3) rfl) rfl dX11_readItem_113 ?_
                    refine z_imul C dX11_readItem_116 ?_
                    refine z_iload_n C 0 dX11_readItem_117 rfl ?_
                    refine z_iadd C dX11_readItem_118 ?_
                    refine z_as (b := 3 * (u 0 6)) (by omega) ?_
                    refine z_iald C hK 0 (g := ((up (up (up (up (up u 0 (2) (pt1)) 0 (3) ((ps (u 1) (u 0 1) (i + 1)))) 0 (4) (tok1)) 0 (5) (td1)) 2 (3 * (u 0 6)) (z10)) 2)) (i := (3 * (u 0 6))) 2 (WM_2 a c ((up (up (up (up (up u 0 (2) (pt1)) 0 (3) ((ps (u 1) (u 0 1) (i + 1)))) 0 (4) (tok1)) 0 (5) (td1)) 2 (3 * (u 0 6)) (z10)))) rfl (by decide) (by omega) dX11_readItem_119 ?_
                    refine z_as (b := z10) (up_eq _ _ _ _) ?_
                    refine z_if_ge C 125 dX11_readItem_120 (by decide) (by omega) (fun h13 => ?_) (fun h13 => ?_)
                    · have k1 : kd (u 1) (u 0 1) (ps (u 1) (u 0 1) (i + 1)) = 2 ∧ 0 ≤ nmb (u 1) (u 0 1) (ps (u 1) (u 0 1) (i + 1)) ∧ nmb (u 1) (u 0 1) (ps (u 1) (u 0 1) (i + 1)) ≤ 60 := by omega
                      have n1 : Nu (KT (u 1) (u 0 1)) (NTk (u 1) (u 0 1)) ((i : Int) + 1) 0 60 := k1
                      refine z_iinc C 0 [(2, .int (zI (0 + 1))), (1, .int (zI 0)), (0, .ref (a 0))] dX11_readItem_125 rfl (by decide) rfl ?_
                      refine z_goto C 64 dX11_readItem_128 (by decide) ?_
                      refine z_iload_n C 0 dX11_readItem_64 rfl ?_
                      refine z_iconst C dX11_readItem_65 ?_
                      refine z_icmp_ge C 131 dX11_readItem_66 (by decide) (by omega) (fun h14 => ?_) (fun h14 => ?_)
                      · exfalso; omega
                      · skip
                        refine z_aload_n C 2 dX11_readItem_69 rfl ?_
                        refine z_get C hK (v := .ref (a 2)) inX11_readItem_X11 0 (WM_0 a c ((up (up (up (up (up u 0 (2) (pt1)) 0 (3) ((ps (u 1) (u 0 1) (i + 1)))) 0 (4) (tok1)) 0 (5) (td1)) 2 (3 * (u 0 6)) (z10)))) rfl 8 (by decide) (List.mem_of_getElem? (i := 6) rfl) rfl dX11_readItem_70 ?_
                        refine z_iconst C dX11_readItem_73 ?_
                        refine z_aload_n C 2 dX11_readItem_74 rfl ?_
                        refine z_get C hK (v := .int (zI (u 0 6))) inX11_readItem_X11 0 (WM_0 a c ((up (up (up (up (up u 0 (2) (pt1)) 0 (3) ((ps (u 1) (u 0 1) (i + 1)))) 0 (4) (tok1)) 0 (5) (td1)) 2 (3 * (u 0 6)) (z10)))) rfl 6 (by decide) (List.mem_of_getElem? (i := 3) rfl) rfl dX11_readItem_75 ?_
                        refine z_imul C dX11_readItem_78 ?_
                        refine z_iload_n C 0 dX11_readItem_79 rfl ?_
                        refine z_iadd C dX11_readItem_80 ?_
                        refine z_as (b := 3 * (u 0 6) + 1) (by omega) ?_
                        refine z_aload_n C 2 dX11_readItem_81 rfl ?_
                        refine z_iconst C dX11_readItem_82 ?_
                        refine z_iload_n C 0 dX11_readItem_83 rfl ?_
                        refine z_if_ne C 92 dX11_readItem_84 (by decide) (by omega) (fun h15 => ?_) (fun h15 => ?_)
                        · skip
                          refine z_iload_n C 0 dX11_readItem_92 rfl ?_
                          refine z_iconst C dX11_readItem_93 ?_
                          refine z_icmp_ne C 102 dX11_readItem_94 (by decide) (by omega) (fun h16 => ?_) (fun h16 => ?_)
                          · exfalso; omega
                          · skip
                            refine z_bipush C dX11_readItem_97 (by decide) ?_
                            refine z_goto C 103 dX11_readItem_99 (by decide) ?_
                            refine z_callV C hK hDD (c_X11_number (zl x) (zG x) a c ((up (up (up (up (up u 0 (2) (pt1)) 0 (3) ((ps (u 1) (u 0 1) (i + 1)))) 0 (4) (tok1)) 0 (5) (td1)) 2 (3 * (u 0 6)) (z10))) 0 9 ((i + 1)) (hI) (⟨rfl, hR1⟩) (ne_12 k1.1) (ha1) (show -2147483648 ≤ 0 ∧ 0 < 2147483648 by omega) (show -2147483648 ≤ 9 ∧ 9 < 2147483648 by omega)) gX11_readItem_X11_number rfl zy_X11_number 0 (WM_0 a c ((up (up (up (up (up u 0 (2) (pt1)) 0 (3) ((ps (u 1) (u 0 1) (i + 1)))) 0 (4) (tok1)) 0 (5) (td1)) 2 (3 * (u 0 6)) (z10)))) rfl ⟨by omega, by decide⟩ rfl (Nat.le_of_ble_eq_true rfl) (st := [.int (zI (3 * (u 0 6) + 1)), .ref (a 2)]) (stk2 := fun z17 => [.int (zI z17), .int (zI (3 * (u 0 6) + 1)), .ref (a 2)]) rfl (fun _ => rfl) dX11_readItem_103 (fun z17 u18 h19 => ?_)
                            replace h19 : ∃ tok td pt : Int, u18 = rds (((up (up (up (up (up u 0 (2) (pt1)) 0 (3) ((ps (u 1) (u 0 1) (i + 1)))) 0 (4) (tok1)) 0 (5) (td1)) 2 (3 * (u 0 6)) (z10)))) (ps ((u 1)) ((u 0 1)) (((i + 1)) + 1)) tok td pt ∧ RdP ((u 1)) ((u 0 1)) (ps ((u 1)) ((u 0 1)) (((i + 1)) + 1)) tok td pt ∧ (((kd ((u 1)) ((u 0 1)) (ps ((u 1)) ((u 0 1)) (((i + 1)) + 1)) = 2 ∧ 0 ≤ nmb ((u 1)) ((u 0 1)) (ps ((u 1)) ((u 0 1)) (((i + 1)) + 1)) ∧ nmb ((u 1)) ((u 0 1)) (ps ((u 1)) ((u 0 1)) (((i + 1)) + 1)) ≤ 9) ∧ z17 = nmb ((u 1)) ((u 0 1)) (ps ((u 1)) ((u 0 1)) (((i + 1)) + 1))) ∨ (¬ (kd ((u 1)) ((u 0 1)) (ps ((u 1)) ((u 0 1)) (((i + 1)) + 1)) = 2 ∧ 0 ≤ nmb ((u 1)) ((u 0 1)) (ps ((u 1)) ((u 0 1)) (((i + 1)) + 1)) ∧ nmb ((u 1)) ((u 0 1)) (ps ((u 1)) ((u 0 1)) (((i + 1)) + 1)) ≤ 9) ∧ z17 = -1)) := h19
                            obtain ⟨tok2, td2, pt2, e2, hR2, hz2⟩ := h19
                            rw [e2]
                            have ha2 := at_bd htl.1 hR2
                            have k2r : (kd (u 1) (u 0 1) (ps (u 1) (u 0 1) (i + 1 + 1)) = 2 ∧ 0 ≤ nmb (u 1) (u 0 1) (ps (u 1) (u 0 1) (i + 1 + 1)) ∧ nmb (u 1) (u 0 1) (ps (u 1) (u 0 1) (i + 1 + 1)) ≤ 9 ∧ z17 = nmb (u 1) (u 0 1) (ps (u 1) (u 0 1) (i + 1 + 1))) ∨ (¬ (kd (u 1) (u 0 1) (ps (u 1) (u 0 1) (i + 1 + 1)) = 2 ∧ 0 ≤ nmb (u 1) (u 0 1) (ps (u 1) (u 0 1) (i + 1 + 1)) ∧ nmb (u 1) (u 0 1) (ps (u 1) (u 0 1) (i + 1 + 1)) ≤ 9) ∧ z17 = -1) := by omega
                            have b2z : -1 ≤ z17 ∧ z17 ≤ 99 := by have q := nmb_bd (tx := u 1) (n := u 0 1) (b := ps (u 1) (u 0 1) (i + 1 + 1)); omega
                            change Z x 0 0 (WM a c (up (up (up (up (up u 2 (3 * (u 0 6)) (z10)) 0 (2) (pt2)) 0 (3) ((ps (u 1) (u 0 1) (i + 1 + 1)))) 0 (4) (tok2)) 0 (5) (td2))) _ _ _
                            refine z_iast C hK (hDD _) 0 (g := (up (up (up (up (up u 2 (3 * (u 0 6)) (z10)) 0 (2) (pt2)) 0 (3) ((ps (u 1) (u 0 1) (i + 1 + 1)))) 0 (4) (tok2)) 0 (5) (td2)) 2) 2 (WM_2 a c ((up (up (up (up (up u 2 (3 * (u 0 6)) (z10)) 0 (2) (pt2)) 0 (3) ((ps (u 1) (u 0 1) (i + 1 + 1)))) 0 (4) (tok2)) 0 (5) (td2)))) rfl (by decide) (by omega) (WM_2_set a c ((up (up (up (up (up u 2 (3 * (u 0 6)) (z10)) 0 (2) (pt2)) 0 (3) ((ps (u 1) (u 0 1) (i + 1 + 1)))) 0 (4) (tok2)) 0 (5) (td2))) (3 * (u 0 6) + 1) z17) dX11_readItem_106 ?_
                            refine z_aload_n C 2 dX11_readItem_107 rfl ?_
                            refine z_get C hK (v := .ref (a 2)) inX11_readItem_X11 0 (WM_0 a c ((up (up (up (up (up (up u 2 (3 * (u 0 6)) (z10)) 0 (2) (pt2)) 0 (3) ((ps (u 1) (u 0 1) (i + 1 + 1)))) 0 (4) (tok2)) 0 (5) (td2)) 2 (3 * (u 0 6) + 1) (z17)))) rfl 8 (by decide) (List.mem_of_getElem? (i := 6) rfl) rfl dX11_readItem_108 ?_
                            refine z_iconst C dX11_readItem_111 ?_
                            refine z_aload_n C 2 dX11_readItem_112 rfl ?_
                            refine z_get C hK (v := .int (zI (u 0 6))) inX11_readItem_X11 0 (WM_0 a c ((up (up (up (up (up (up u 2 (3 * (u 0 6)) (z10)) 0 (2) (pt2)) 0 (3) ((ps (u 1) (u 0 1) (i + 1 + 1)))) 0 (4) (tok2)) 0 (5) (td2)) 2 (3 * (u 0 6) + 1) (z17)))) rfl 6 (by decide) (List.mem_of_getElem? (i := 3) rfl) rfl dX11_readItem_113 ?_
                            refine z_imul C dX11_readItem_116 ?_
                            refine z_iload_n C 0 dX11_readItem_117 rfl ?_
                            refine z_iadd C dX11_readItem_118 ?_
                            refine z_as (b := 3 * (u 0 6) + 1) (by omega) ?_
                            refine z_iald C hK 0 (g := ((up (up (up (up (up (up u 2 (3 * (u 0 6)) (z10)) 0 (2) (pt2)) 0 (3) ((ps (u 1) (u 0 1) (i + 1 + 1)))) 0 (4) (tok2)) 0 (5) (td2)) 2 (3 * (u 0 6) + 1) (z17)) 2)) (i := (3 * (u 0 6) + 1)) 2 (WM_2 a c ((up (up (up (up (up (up u 2 (3 * (u 0 6)) (z10)) 0 (2) (pt2)) 0 (3) ((ps (u 1) (u 0 1) (i + 1 + 1)))) 0 (4) (tok2)) 0 (5) (td2)) 2 (3 * (u 0 6) + 1) (z17)))) rfl (by decide) (by omega) dX11_readItem_119 ?_
                            refine z_as (b := z17) (up_eq _ _ _ _) ?_
                            refine z_if_ge C 125 dX11_readItem_120 (by decide) (by omega) (fun h20 => ?_) (fun h20 => ?_)
                            · have k2 : kd (u 1) (u 0 1) (ps (u 1) (u 0 1) (i + 1 + 1)) = 2 ∧ 0 ≤ nmb (u 1) (u 0 1) (ps (u 1) (u 0 1) (i + 1 + 1)) ∧ nmb (u 1) (u 0 1) (ps (u 1) (u 0 1) (i + 1 + 1)) ≤ 9 := by omega
                              have n2 : Nu (KT (u 1) (u 0 1)) (NTk (u 1) (u 0 1)) ((i : Int) + 1 + 1) 0 9 := k2
                              refine z_iinc C 0 [(2, .int (zI ((0 + 1) + 1))), (1, .int (zI 0)), (0, .ref (a 0))] dX11_readItem_125 rfl (by decide) rfl ?_
                              refine z_goto C 64 dX11_readItem_128 (by decide) ?_
                              refine z_iload_n C 0 dX11_readItem_64 rfl ?_
                              refine z_iconst C dX11_readItem_65 ?_
                              refine z_icmp_ge C 131 dX11_readItem_66 (by decide) (by omega) (fun h21 => ?_) (fun h21 => ?_)
                              · exfalso; omega
                              · skip
                                refine z_aload_n C 2 dX11_readItem_69 rfl ?_
                                refine z_get C hK (v := .ref (a 2)) inX11_readItem_X11 0 (WM_0 a c ((up (up (up (up (up (up u 2 (3 * (u 0 6)) (z10)) 0 (2) (pt2)) 0 (3) ((ps (u 1) (u 0 1) (i + 1 + 1)))) 0 (4) (tok2)) 0 (5) (td2)) 2 (3 * (u 0 6) + 1) (z17)))) rfl 8 (by decide) (List.mem_of_getElem? (i := 6) rfl) rfl dX11_readItem_70 ?_
                                refine z_iconst C dX11_readItem_73 ?_
                                refine z_aload_n C 2 dX11_readItem_74 rfl ?_
                                refine z_get C hK (v := .int (zI (u 0 6))) inX11_readItem_X11 0 (WM_0 a c ((up (up (up (up (up (up u 2 (3 * (u 0 6)) (z10)) 0 (2) (pt2)) 0 (3) ((ps (u 1) (u 0 1) (i + 1 + 1)))) 0 (4) (tok2)) 0 (5) (td2)) 2 (3 * (u 0 6) + 1) (z17)))) rfl 6 (by decide) (List.mem_of_getElem? (i := 3) rfl) rfl dX11_readItem_75 ?_
                                refine z_imul C dX11_readItem_78 ?_
                                refine z_iload_n C 0 dX11_readItem_79 rfl ?_
                                refine z_iadd C dX11_readItem_80 ?_
                                refine z_as (b := 3 * (u 0 6) + 2) (by omega) ?_
                                refine z_aload_n C 2 dX11_readItem_81 rfl ?_
                                refine z_iconst C dX11_readItem_82 ?_
                                refine z_iload_n C 0 dX11_readItem_83 rfl ?_
                                refine z_if_ne C 92 dX11_readItem_84 (by decide) (by omega) (fun h22 => ?_) (fun h22 => ?_)
                                · skip
                                  refine z_iload_n C 0 dX11_readItem_92 rfl ?_
                                  refine z_iconst C dX11_readItem_93 ?_
                                  refine z_icmp_ne C 102 dX11_readItem_94 (by decide) (by omega) (fun h23 => ?_) (fun h23 => ?_)
                                  · skip
                                    refine z_iconst C dX11_readItem_102 ?_
                                    refine z_callV C hK hDD (c_X11_number (zl x) (zG x) a c ((up (up (up (up (up (up u 2 (3 * (u 0 6)) (z10)) 0 (2) (pt2)) 0 (3) ((ps (u 1) (u 0 1) (i + 1 + 1)))) 0 (4) (tok2)) 0 (5) (td2)) 2 (3 * (u 0 6) + 1) (z17))) 0 1 ((i + 1 + 1)) (hI) (⟨rfl, hR2⟩) (ne_12 k2.1) (ha2) (show -2147483648 ≤ 0 ∧ 0 < 2147483648 by omega) (show -2147483648 ≤ 1 ∧ 1 < 2147483648 by omega)) gX11_readItem_X11_number rfl zy_X11_number 0 (WM_0 a c ((up (up (up (up (up (up u 2 (3 * (u 0 6)) (z10)) 0 (2) (pt2)) 0 (3) ((ps (u 1) (u 0 1) (i + 1 + 1)))) 0 (4) (tok2)) 0 (5) (td2)) 2 (3 * (u 0 6) + 1) (z17)))) rfl ⟨by omega, by decide⟩ rfl (Nat.le_of_ble_eq_true rfl) (st := [.int (zI (3 * (u 0 6) + 2)), .ref (a 2)]) (stk2 := fun z24 => [.int (zI z24), .int (zI (3 * (u 0 6) + 2)), .ref (a 2)]) rfl (fun _ => rfl) dX11_readItem_103 (fun z24 u25 h26 => ?_)
                                    replace h26 : ∃ tok td pt : Int, u25 = rds (((up (up (up (up (up (up u 2 (3 * (u 0 6)) (z10)) 0 (2) (pt2)) 0 (3) ((ps (u 1) (u 0 1) (i + 1 + 1)))) 0 (4) (tok2)) 0 (5) (td2)) 2 (3 * (u 0 6) + 1) (z17)))) (ps ((u 1)) ((u 0 1)) (((i + 1 + 1)) + 1)) tok td pt ∧ RdP ((u 1)) ((u 0 1)) (ps ((u 1)) ((u 0 1)) (((i + 1 + 1)) + 1)) tok td pt ∧ (((kd ((u 1)) ((u 0 1)) (ps ((u 1)) ((u 0 1)) (((i + 1 + 1)) + 1)) = 2 ∧ 0 ≤ nmb ((u 1)) ((u 0 1)) (ps ((u 1)) ((u 0 1)) (((i + 1 + 1)) + 1)) ∧ nmb ((u 1)) ((u 0 1)) (ps ((u 1)) ((u 0 1)) (((i + 1 + 1)) + 1)) ≤ 1) ∧ z24 = nmb ((u 1)) ((u 0 1)) (ps ((u 1)) ((u 0 1)) (((i + 1 + 1)) + 1))) ∨ (¬ (kd ((u 1)) ((u 0 1)) (ps ((u 1)) ((u 0 1)) (((i + 1 + 1)) + 1)) = 2 ∧ 0 ≤ nmb ((u 1)) ((u 0 1)) (ps ((u 1)) ((u 0 1)) (((i + 1 + 1)) + 1)) ∧ nmb ((u 1)) ((u 0 1)) (ps ((u 1)) ((u 0 1)) (((i + 1 + 1)) + 1)) ≤ 1) ∧ z24 = -1)) := h26
                                    obtain ⟨tok3, td3, pt3, e3, hR3, hz3⟩ := h26
                                    rw [e3]
                                    have ha3 := at_bd htl.1 hR3
                                    have k3r : (kd (u 1) (u 0 1) (ps (u 1) (u 0 1) (i + 1 + 1 + 1)) = 2 ∧ 0 ≤ nmb (u 1) (u 0 1) (ps (u 1) (u 0 1) (i + 1 + 1 + 1)) ∧ nmb (u 1) (u 0 1) (ps (u 1) (u 0 1) (i + 1 + 1 + 1)) ≤ 1 ∧ z24 = nmb (u 1) (u 0 1) (ps (u 1) (u 0 1) (i + 1 + 1 + 1))) ∨ (¬ (kd (u 1) (u 0 1) (ps (u 1) (u 0 1) (i + 1 + 1 + 1)) = 2 ∧ 0 ≤ nmb (u 1) (u 0 1) (ps (u 1) (u 0 1) (i + 1 + 1 + 1)) ∧ nmb (u 1) (u 0 1) (ps (u 1) (u 0 1) (i + 1 + 1 + 1)) ≤ 1) ∧ z24 = -1) := by omega
                                    have b3z : -1 ≤ z24 ∧ z24 ≤ 99 := by have q := nmb_bd (tx := u 1) (n := u 0 1) (b := ps (u 1) (u 0 1) (i + 1 + 1 + 1)); omega
                                    change Z x 0 0 (WM a c (up (up (up (up (up (up u 2 (3 * (u 0 6)) (z10)) 2 (3 * (u 0 6) + 1) (z17)) 0 (2) (pt3)) 0 (3) ((ps (u 1) (u 0 1) (i + 1 + 1 + 1)))) 0 (4) (tok3)) 0 (5) (td3))) _ _ _
                                    refine z_iast C hK (hDD _) 0 (g := (up (up (up (up (up (up u 2 (3 * (u 0 6)) (z10)) 2 (3 * (u 0 6) + 1) (z17)) 0 (2) (pt3)) 0 (3) ((ps (u 1) (u 0 1) (i + 1 + 1 + 1)))) 0 (4) (tok3)) 0 (5) (td3)) 2) 2 (WM_2 a c ((up (up (up (up (up (up u 2 (3 * (u 0 6)) (z10)) 2 (3 * (u 0 6) + 1) (z17)) 0 (2) (pt3)) 0 (3) ((ps (u 1) (u 0 1) (i + 1 + 1 + 1)))) 0 (4) (tok3)) 0 (5) (td3)))) rfl (by decide) (by omega) (WM_2_set a c ((up (up (up (up (up (up u 2 (3 * (u 0 6)) (z10)) 2 (3 * (u 0 6) + 1) (z17)) 0 (2) (pt3)) 0 (3) ((ps (u 1) (u 0 1) (i + 1 + 1 + 1)))) 0 (4) (tok3)) 0 (5) (td3))) (3 * (u 0 6) + 2) z24) dX11_readItem_106 ?_
                                    refine z_aload_n C 2 dX11_readItem_107 rfl ?_
                                    refine z_get C hK (v := .ref (a 2)) inX11_readItem_X11 0 (WM_0 a c ((up (up (up (up (up (up (up u 2 (3 * (u 0 6)) (z10)) 2 (3 * (u 0 6) + 1) (z17)) 0 (2) (pt3)) 0 (3) ((ps (u 1) (u 0 1) (i + 1 + 1 + 1)))) 0 (4) (tok3)) 0 (5) (td3)) 2 (3 * (u 0 6) + 2) (z24)))) rfl 8 (by decide) (List.mem_of_getElem? (i := 6) rfl) rfl dX11_readItem_108 ?_
                                    refine z_iconst C dX11_readItem_111 ?_
                                    refine z_aload_n C 2 dX11_readItem_112 rfl ?_
                                    refine z_get C hK (v := .int (zI (u 0 6))) inX11_readItem_X11 0 (WM_0 a c ((up (up (up (up (up (up (up u 2 (3 * (u 0 6)) (z10)) 2 (3 * (u 0 6) + 1) (z17)) 0 (2) (pt3)) 0 (3) ((ps (u 1) (u 0 1) (i + 1 + 1 + 1)))) 0 (4) (tok3)) 0 (5) (td3)) 2 (3 * (u 0 6) + 2) (z24)))) rfl 6 (by decide) (List.mem_of_getElem? (i := 3) rfl) rfl dX11_readItem_113 ?_
                                    refine z_imul C dX11_readItem_116 ?_
                                    refine z_iload_n C 0 dX11_readItem_117 rfl ?_
                                    refine z_iadd C dX11_readItem_118 ?_
                                    refine z_as (b := 3 * (u 0 6) + 2) (by omega) ?_
                                    refine z_iald C hK 0 (g := ((up (up (up (up (up (up (up u 2 (3 * (u 0 6)) (z10)) 2 (3 * (u 0 6) + 1) (z17)) 0 (2) (pt3)) 0 (3) ((ps (u 1) (u 0 1) (i + 1 + 1 + 1)))) 0 (4) (tok3)) 0 (5) (td3)) 2 (3 * (u 0 6) + 2) (z24)) 2)) (i := (3 * (u 0 6) + 2)) 2 (WM_2 a c ((up (up (up (up (up (up (up u 2 (3 * (u 0 6)) (z10)) 2 (3 * (u 0 6) + 1) (z17)) 0 (2) (pt3)) 0 (3) ((ps (u 1) (u 0 1) (i + 1 + 1 + 1)))) 0 (4) (tok3)) 0 (5) (td3)) 2 (3 * (u 0 6) + 2) (z24)))) rfl (by decide) (by omega) dX11_readItem_119 ?_
                                    refine z_as (b := z24) (up_eq _ _ _ _) ?_
                                    refine z_if_ge C 125 dX11_readItem_120 (by decide) (by omega) (fun h27 => ?_) (fun h27 => ?_)
                                    · have k3 : kd (u 1) (u 0 1) (ps (u 1) (u 0 1) (i + 1 + 1 + 1)) = 2 ∧ 0 ≤ nmb (u 1) (u 0 1) (ps (u 1) (u 0 1) (i + 1 + 1 + 1)) ∧ nmb (u 1) (u 0 1) (ps (u 1) (u 0 1) (i + 1 + 1 + 1)) ≤ 1 := by omega
                                      have n3 : Nu (KT (u 1) (u 0 1)) (NTk (u 1) (u 0 1)) ((i : Int) + 1 + 1 + 1) 0 1 := k3
                                      refine z_iinc C 0 [(2, .int (zI (((0 + 1) + 1) + 1))), (1, .int (zI 0)), (0, .ref (a 0))] dX11_readItem_125 rfl (by decide) rfl ?_
                                      refine z_goto C 64 dX11_readItem_128 (by decide) ?_
                                      refine z_iload_n C 0 dX11_readItem_64 rfl ?_
                                      refine z_iconst C dX11_readItem_65 ?_
                                      refine z_icmp_ge C 131 dX11_readItem_66 (by decide) (by omega) (fun h28 => ?_) (fun h28 => ?_)
                                      · skip
                                        have k1z : z10 = nmb (u 1) (u 0 1) (ps (u 1) (u 0 1) (i + 1)) := by omega
                                        have k2z : z17 = nmb (u 1) (u 0 1) (ps (u 1) (u 0 1) (i + 1 + 1)) := by omega
                                        have k3z : z24 = nmb (u 1) (u 0 1) (ps (u 1) (u 0 1) (i + 1 + 1 + 1)) := by omega
                                        refine z_aload_n C 2 dX11_readItem_131 rfl ?_
                                        refine z_dup C dX11_readItem_132 rfl ?_
                                        refine z_get C hK (v := .int (zI (u 0 6))) inX11_readItem_X11 0 (WM_0 a c ((up (up (up (up (up (up (up u 2 (3 * (u 0 6)) (z10)) 2 (3 * (u 0 6) + 1) (z17)) 0 (2) (pt3)) 0 (3) ((ps (u 1) (u 0 1) (i + 1 + 1 + 1)))) 0 (4) (tok3)) 0 (5) (td3)) 2 (3 * (u 0 6) + 2) (z24)))) rfl 6 (by decide) (List.mem_of_getElem? (i := 3) rfl) rfl dX11_readItem_133 ?_
                                        refine z_iconst C dX11_readItem_136 ?_
                                        refine z_iadd C dX11_readItem_137 ?_
                                        refine z_put C hK (hDD _) inX11_readItem_X11 tyX11 tyX11_ok nmX11 0 (WM_0 a c ((up (up (up (up (up (up (up u 2 (3 * (u 0 6)) (z10)) 2 (3 * (u 0 6) + 1) (z17)) 0 (2) (pt3)) 0 (3) ((ps (u 1) (u 0 1) (i + 1 + 1 + 1)))) 0 (4) (tok3)) 0 (5) (td3)) 2 (3 * (u 0 6) + 2) (z24)))) rfl 6 (by decide) (List.mem_of_getElem? (i := 3) rfl) rfl rfl rfl (Nat.le_of_ble_eq_true rfl) (WM_0_p6 a c ((up (up (up (up (up (up (up u 2 (3 * (u 0 6)) (z10)) 2 (3 * (u 0 6) + 1) (z17)) 0 (2) (pt3)) 0 (3) ((ps (u 1) (u 0 1) (i + 1 + 1 + 1)))) 0 (4) (tok3)) 0 (5) (td3)) 2 (3 * (u 0 6) + 2) (z24))) ((u 0 6) + 1)) dX11_readItem_138 ?_
                                        refine z_goto C 254 dX11_readItem_141 (by decide) ?_
                                        refine z_aload_n C 2 dX11_readItem_254 rfl ?_
                                        refine z_callV C hK hDD (c_X11_reads (zl x) (zG x) a c ((up (up (up (up (up (up (up (up u 2 (3 * (u 0 6)) (z10)) 2 (3 * (u 0 6) + 1) (z17)) 0 (2) (pt3)) 0 (3) ((ps (u 1) (u 0 1) (i + 1 + 1 + 1)))) 0 (4) (tok3)) 0 (5) (td3)) 2 (3 * (u 0 6) + 2) (z24)) 0 (6) ((u 0 6) + 1)))  (hI) (ha3)) gX11_readItem_X11_reads rfl zy_X11_reads 0 (WM_0 a c ((up (up (up (up (up (up (up (up u 2 (3 * (u 0 6)) (z10)) 2 (3 * (u 0 6) + 1) (z17)) 0 (2) (pt3)) 0 (3) ((ps (u 1) (u 0 1) (i + 1 + 1 + 1)))) 0 (4) (tok3)) 0 (5) (td3)) 2 (3 * (u 0 6) + 2) (z24)) 0 (6) ((u 0 6) + 1)))) rfl ⟨by omega, by decide⟩ rfl (Nat.le_of_ble_eq_true rfl) (st := []) (stk2 := fun _ => []) rfl (fun _ => rfl) dX11_readItem_255 (fun z29 u30 h31 => ?_)
                                        replace h31 : ∃ tok td at' : Int, u30 = rds (((up (up (up (up (up (up (up (up u 2 (3 * (u 0 6)) (z10)) 2 (3 * (u 0 6) + 1) (z17)) 0 (2) (pt3)) 0 (3) ((ps (u 1) (u 0 1) (i + 1 + 1 + 1)))) 0 (4) (tok3)) 0 (5) (td3)) 2 (3 * (u 0 6) + 2) (z24)) 0 (6) ((u 0 6) + 1)))) (skp ((u 1)) ((u 0 1)) ((pt3))) tok td at' ∧ RdP ((u 1)) ((u 0 1)) (skp ((u 1)) ((u 0 1)) ((pt3))) tok td at' := h31
                                        obtain ⟨tokE, tdE, ptE, eE, hRE⟩ := h31
                                        rw [nxR hR3 (ne_12 k3.1)] at eE hRE
                                        rw [eE]
                                        have hRF := hRE
                                        unfold RdP at hRF
                                        have eKE : KT (u 1) (u 0 1) ((i : Int) + 1 + 1 + 1 + 1) = kd (u 1) (u 0 1) (ps (u 1) (u 0 1) (i + 1 + 1 + 1 + 1)) := rfl
                                        change Z x 0 0 (WM a c (up (up (up (up (up (up (up (up u 2 (3 * (u 0 6)) (z10)) 2 (3 * (u 0 6) + 1) (z17)) 2 (3 * (u 0 6) + 2) (z24)) 0 (6) ((u 0 6) + 1)) 0 (2) (ptE)) 0 (3) ((ps (u 1) (u 0 1) (i + 1 + 1 + 1 + 1)))) 0 (4) (tokE)) 0 (5) (tdE))) _ _ _
                                        refine z_aload_n C 2 dX11_readItem_258 rfl ?_
                                        refine z_get C hK (v := .int (zI tokE)) inX11_readItem_X11 0 (WM_0 a c ((up (up (up (up (up (up (up (up u 2 (3 * (u 0 6)) (z10)) 2 (3 * (u 0 6) + 1) (z17)) 2 (3 * (u 0 6) + 2) (z24)) 0 (6) ((u 0 6) + 1)) 0 (2) (ptE)) 0 (3) ((ps (u 1) (u 0 1) (i + 1 + 1 + 1 + 1)))) 0 (4) (tokE)) 0 (5) (tdE)))) rfl 4 (by decide) (List.mem_of_getElem? (i := 2) rfl) rfl dX11_readItem_259 ?_
                                        refine z_iconst C dX11_readItem_262 ?_
                                        refine z_icmp_ne C 270 dX11_readItem_263 (by decide) (by omega) (fun h32 => ?_) (fun h32 => ?_)
                                        · have nE : ¬ KT (u 1) (u 0 1) ((i : Int) + 1 + 1 + 1 + 1) = 3 := by omega
                                          refine z_iconst C dX11_readItem_270 ?_
                                          exact kret 0 ((up (up (up (up (up (up (up (up u 2 (3 * (u 0 6)) (z10)) 2 (3 * (u 0 6) + 1) (z17)) 2 (3 * (u 0 6) + 2) (z24)) 0 (6) ((u 0 6) + 1)) 0 (2) (ptE)) 0 (3) ((ps (u 1) (u 0 1) (i + 1 + 1 + 1 + 1)))) 0 (4) (tokE)) 0 (5) (tdE))) _ _ (Or.inl ⟨rfl, FrR_u0 (by decide) (FrR_u0 (by decide) (FrR_u0 (by decide) (FrR_u0 (by decide) (FrR_u0 (by decide) (FrR_uc (by decide) (FrR_uc (by decide) (FrR_uc (by decide) (FrR_rf u)))))))), i + 1 + 1 + 1 + 1, Or.inl ⟨hk4, Or.inr (Or.inr (Or.inr (Or.inr ⟨by omega, n1, n2, n3, nE, rfl⟩)))⟩, rfl, hRE⟩) (by omega) dX11_readItem_271
                                        · have nE : KT (u 1) (u 0 1) ((i : Int) + 1 + 1 + 1 + 1) = 3 := by omega
                                          refine z_iconst C dX11_readItem_266 ?_
                                          refine z_goto C 271 dX11_readItem_267 (by decide) ?_
                                          exact kret 1 ((up (up (up (up (up (up (up (up u 2 (3 * (u 0 6)) (z10)) 2 (3 * (u 0 6) + 1) (z17)) 2 (3 * (u 0 6) + 2) (z24)) 0 (6) ((u 0 6) + 1)) 0 (2) (ptE)) 0 (3) ((ps (u 1) (u 0 1) (i + 1 + 1 + 1 + 1)))) 0 (4) (tokE)) 0 (5) (tdE))) _ _ (Or.inr ⟨rfl, FrR_u0 (by decide) (FrR_u0 (by decide) (FrR_u0 (by decide) (FrR_u0 (by decide) (FrR_u0 (by decide) (FrR_uc (by decide) (FrR_uc (by decide) (FrR_uc (by decide) (FrR_rf u)))))))), i + 1 + 1 + 1 + 1, up (up (up (up Dr 1 (Dr 0 0) (z10)) 2 (Dr 0 0) (z17)) 3 (Dr 0 0) (z24)) 0 0 (Dr 0 0 + 1), Or.inl ⟨hk4, by omega, n1, n2, n3, nE, rfl, by rw [k1z, k2z, k3z]; rfl⟩, ⟨rfl, hRE⟩, DM_level hD0 (by omega)⟩) (by omega) dX11_readItem_271
                                      · exfalso; omega
                                    · have k3 : ¬ (kd (u 1) (u 0 1) (ps (u 1) (u 0 1) (i + 1 + 1 + 1)) = 2 ∧ 0 ≤ nmb (u 1) (u 0 1) (ps (u 1) (u 0 1) (i + 1 + 1 + 1)) ∧ nmb (u 1) (u 0 1) (ps (u 1) (u 0 1) (i + 1 + 1 + 1)) ≤ 1) := by omega
                                      have n3 : ¬ Nu (KT (u 1) (u 0 1)) (NTk (u 1) (u 0 1)) ((i : Int) + 1 + 1 + 1) 0 1 := k3
                                      refine z_iconst C dX11_readItem_123 ?_
                                      exact kret 0 ((up (up (up (up (up (up (up u 2 (3 * (u 0 6)) (z10)) 2 (3 * (u 0 6) + 1) (z17)) 0 (2) (pt3)) 0 (3) ((ps (u 1) (u 0 1) (i + 1 + 1 + 1)))) 0 (4) (tok3)) 0 (5) (td3)) 2 (3 * (u 0 6) + 2) (z24))) _ _ (Or.inl ⟨rfl, FrR_uc (by decide) (FrR_u0 (by decide) (FrR_u0 (by decide) (FrR_u0 (by decide) (FrR_u0 (by decide) (FrR_uc (by decide) (FrR_uc (by decide) (FrR_rf u))))))), i + 1 + 1 + 1, Or.inl ⟨hk4, Or.inr (Or.inr (Or.inr (Or.inl ⟨by omega, n1, n2, n3, rfl⟩)))⟩, rfl, hR3⟩) (by omega) dX11_readItem_124
                                  · exfalso; omega
                                · exfalso; omega
                            · have k2 : ¬ (kd (u 1) (u 0 1) (ps (u 1) (u 0 1) (i + 1 + 1)) = 2 ∧ 0 ≤ nmb (u 1) (u 0 1) (ps (u 1) (u 0 1) (i + 1 + 1)) ∧ nmb (u 1) (u 0 1) (ps (u 1) (u 0 1) (i + 1 + 1)) ≤ 9) := by omega
                              have n2 : ¬ Nu (KT (u 1) (u 0 1)) (NTk (u 1) (u 0 1)) ((i : Int) + 1 + 1) 0 9 := k2
                              refine z_iconst C dX11_readItem_123 ?_
                              exact kret 0 ((up (up (up (up (up (up u 2 (3 * (u 0 6)) (z10)) 0 (2) (pt2)) 0 (3) ((ps (u 1) (u 0 1) (i + 1 + 1)))) 0 (4) (tok2)) 0 (5) (td2)) 2 (3 * (u 0 6) + 1) (z17))) _ _ (Or.inl ⟨rfl, FrR_uc (by decide) (FrR_u0 (by decide) (FrR_u0 (by decide) (FrR_u0 (by decide) (FrR_u0 (by decide) (FrR_uc (by decide) (FrR_rf u)))))), i + 1 + 1, Or.inl ⟨hk4, Or.inr (Or.inr (Or.inl ⟨by omega, n1, n2, rfl⟩))⟩, rfl, hR2⟩) (by omega) dX11_readItem_124
                        · exfalso; omega
                    · have k1 : ¬ (kd (u 1) (u 0 1) (ps (u 1) (u 0 1) (i + 1)) = 2 ∧ 0 ≤ nmb (u 1) (u 0 1) (ps (u 1) (u 0 1) (i + 1)) ∧ nmb (u 1) (u 0 1) (ps (u 1) (u 0 1) (i + 1)) ≤ 60) := by omega
                      have n1 : ¬ Nu (KT (u 1) (u 0 1)) (NTk (u 1) (u 0 1)) ((i : Int) + 1) 0 60 := k1
                      refine z_iconst C dX11_readItem_123 ?_
                      exact kret 0 ((up (up (up (up (up u 0 (2) (pt1)) 0 (3) ((ps (u 1) (u 0 1) (i + 1)))) 0 (4) (tok1)) 0 (5) (td1)) 2 (3 * (u 0 6)) (z10))) _ _ (Or.inl ⟨rfl, FrR_uc (by decide) (FrR_u0 (by decide) (FrR_u0 (by decide) (FrR_u0 (by decide) (FrR_u0 (by decide) (FrR_rf u))))), i + 1, Or.inl ⟨hk4, Or.inr (Or.inl ⟨by omega, n1, rfl⟩)⟩, rfl, hR1⟩) (by omega) dX11_readItem_124
            · exfalso; omega
          · exfalso; omega
    · subst hs2
      refine z_iload_n C 0 dX11_readItem_13 rfl ?_
      refine z_if_ne C 26 dX11_readItem_14 (by decide) (by omega) (fun h33 => ?_) (fun h33 => ?_)
      · skip
        refine z_iload_n C 0 dX11_readItem_26 rfl ?_
        refine z_iconst C dX11_readItem_27 ?_
        refine z_icmp_ne C 39 dX11_readItem_28 (by decide) (by omega) (fun h34 => ?_) (fun h34 => ?_)
        · exfalso; omega
        · skip
          refine z_aload_n C 1 dX11_readItem_31 rfl ?_
          refine z_get C hK (v := .int (zI (u 0 7))) inX11_readItem_X11 0 (WM_0 a c u) rfl 7 (by decide) (List.mem_of_getElem? (i := 4) rfl) rfl dX11_readItem_32 ?_
          refine z_iconst C dX11_readItem_35 ?_
          refine z_icmp_eq C 56 dX11_readItem_36 (by decide) (by omega) (fun h35 => ?_) (fun h35 => ?_)
          · have hno : ItNo (KT (u 1) (u 0 1)) (NTk (u 1) (u 0 1)) Dr i i := Or.inr (Or.inl ⟨by omega, Or.inl ⟨by omega, rfl⟩⟩)
            refine z_iconst C dX11_readItem_56 ?_
            exact kret 0 u _ _ (Or.inl ⟨rfl, FrR_rf u, i, hno, hC0⟩) (by omega) dX11_readItem_57
          · have hl7 : u 0 7 < 3 := by omega
            have hk4 : KT (u 1) (u 0 1) (i : Int) = 5 := by omega
            refine z_iload_n C 0 dX11_readItem_39 rfl ?_
            refine z_iconst C dX11_readItem_40 ?_
            refine z_icmp_le C 58 dX11_readItem_41 (by decide) (by omega) (fun h36 => ?_) (fun h36 => ?_)
            · skip
              refine z_iload_n C 0 dX11_readItem_58 rfl ?_
              refine z_if_ne C 144 dX11_readItem_59 (by decide) (by omega) (fun h37 => ?_) (fun h37 => ?_)
              · skip
                refine z_iload_n C 0 dX11_readItem_144 rfl ?_
                refine z_iconst C dX11_readItem_145 ?_
                refine z_icmp_ne C 196 dX11_readItem_146 (by decide) (by omega) (fun h38 => ?_) (fun h38 => ?_)
                · exfalso; omega
                · skip
                  refine z_aload_n C 1 dX11_readItem_149 rfl ?_
                  refine z_get C hK (v := .ref (a 3)) inX11_readItem_X11 0 (WM_0 a c u) rfl 9 (by decide) (List.mem_of_getElem? (i := 7) rfl) rfl dX11_readItem_150 ?_
                  refine z_aload_n C 1 dX11_readItem_153 rfl ?_
                  refine z_get C hK (v := .int (zI (u 0 7))) inX11_readItem_X11 0 (WM_0 a c u) rfl 7 (by decide) (List.mem_of_getElem? (i := 4) rfl) rfl dX11_readItem_154 ?_
                  refine z_aload_n C 1 dX11_readItem_157 rfl ?_
                  refine z_iconst C dX11_readItem_158 ?_
                  refine z_aload_n C 1 dX11_readItem_159 rfl ?_
                  refine z_get C hK (v := .int (zI (u 0 6))) inX11_readItem_X11 0 (WM_0 a c u) rfl 6 (by decide) (List.mem_of_getElem? (i := 3) rfl) rfl dX11_readItem_160 ?_
                  refine z_iconst C dX11_readItem_163 ?_
                  refine z_isub C dX11_readItem_164 ?_
                  refine z_callV C hK hDD (c_X11_number (zl x) (zG x) a c u 0 ((u 0 6) - 1) i (hI) (hC0) (hk1) (hat0) (by omega) (by omega)) gX11_readItem_X11_number rfl zy_X11_number 0 (WM_0 a c u) rfl ⟨by omega, by decide⟩ rfl (Nat.le_of_ble_eq_true rfl) (st := [.int (zI (u 0 7)), .ref (a 3)]) (stk2 := fun z39 => [.int (zI z39), .int (zI (u 0 7)), .ref (a 3)]) rfl (fun _ => rfl) dX11_readItem_165 (fun z39 u40 h41 => ?_)
                  obtain ⟨tok1, td1, pt1, e1, hR1, hz1⟩ := h41
                  rw [e1]
                  have ha1 := at_bd htl.1 hR1
                  have k1r : (kd (u 1) (u 0 1) (ps (u 1) (u 0 1) (i + 1)) = 2 ∧ 0 ≤ nmb (u 1) (u 0 1) (ps (u 1) (u 0 1) (i + 1)) ∧ nmb (u 1) (u 0 1) (ps (u 1) (u 0 1) (i + 1)) ≤ (u 0 6 - 1) ∧ z39 = nmb (u 1) (u 0 1) (ps (u 1) (u 0 1) (i + 1))) ∨ (¬ (kd (u 1) (u 0 1) (ps (u 1) (u 0 1) (i + 1)) = 2 ∧ 0 ≤ nmb (u 1) (u 0 1) (ps (u 1) (u 0 1) (i + 1)) ∧ nmb (u 1) (u 0 1) (ps (u 1) (u 0 1) (i + 1)) ≤ (u 0 6 - 1)) ∧ z39 = -1) := by omega
                  have b1z : -1 ≤ z39 ∧ z39 ≤ 99 := by have q := nmb_bd (tx := u 1) (n := u 0 1) (b := ps (u 1) (u 0 1) (i + 1)); omega
                  change Z x 0 0 (WM a c (up (up (up (up u 0 (2) (pt1)) 0 (3) ((ps (u 1) (u 0 1) (i + 1)))) 0 (4) (tok1)) 0 (5) (td1))) _ _ _
                  refine z_iast C hK (hDD _) 0 (g := (up (up (up (up u 0 (2) (pt1)) 0 (3) ((ps (u 1) (u 0 1) (i + 1)))) 0 (4) (tok1)) 0 (5) (td1)) 3) 3 (WM_3 a c ((up (up (up (up u 0 (2) (pt1)) 0 (3) ((ps (u 1) (u 0 1) (i + 1)))) 0 (4) (tok1)) 0 (5) (td1)))) rfl (by decide) (by omega) (WM_3_set a c ((up (up (up (up u 0 (2) (pt1)) 0 (3) ((ps (u 1) (u 0 1) (i + 1)))) 0 (4) (tok1)) 0 (5) (td1))) (u 0 7) z39) dX11_readItem_168 ?_
                  refine z_aload_n C 1 dX11_readItem_169 rfl ?_
                  refine z_get C hK (v := .ref (a 3)) inX11_readItem_X11 0 (WM_0 a c ((up (up (up (up (up u 0 (2) (pt1)) 0 (3) ((ps (u 1) (u 0 1) (i + 1)))) 0 (4) (tok1)) 0 (5) (td1)) 3 (u 0 7) (z39)))) rfl 9 (by decide) (List.mem_of_getElem? (i := 7) rfl) rfl dX11_readItem_170 ?_
                  refine z_aload_n C 1 dX11_readItem_173 rfl ?_
                  refine z_get C hK (v := .int (zI (u 0 7))) inX11_readItem_X11 0 (WM_0 a c ((up (up (up (up (up u 0 (2) (pt1)) 0 (3) ((ps (u 1) (u 0 1) (i + 1)))) 0 (4) (tok1)) 0 (5) (td1)) 3 (u 0 7) (z39)))) rfl 7 (by decide) (List.mem_of_getElem? (i := 4) rfl) rfl dX11_readItem_174 ?_
                  refine z_iald C hK 0 (g := ((up (up (up (up (up u 0 (2) (pt1)) 0 (3) ((ps (u 1) (u 0 1) (i + 1)))) 0 (4) (tok1)) 0 (5) (td1)) 3 (u 0 7) (z39)) 3)) (i := (u 0 7)) 3 (WM_3 a c ((up (up (up (up (up u 0 (2) (pt1)) 0 (3) ((ps (u 1) (u 0 1) (i + 1)))) 0 (4) (tok1)) 0 (5) (td1)) 3 (u 0 7) (z39)))) rfl (by decide) (by omega) dX11_readItem_177 ?_
                  refine z_as (b := z39) (up_eq _ _ _ _) ?_
                  refine z_if_ge C 183 dX11_readItem_178 (by decide) (by omega) (fun h42 => ?_) (fun h42 => ?_)
                  · have k1 : kd (u 1) (u 0 1) (ps (u 1) (u 0 1) (i + 1)) = 2 ∧ 0 ≤ nmb (u 1) (u 0 1) (ps (u 1) (u 0 1) (i + 1)) ∧ nmb (u 1) (u 0 1) (ps (u 1) (u 0 1) (i + 1)) ≤ (u 0 6 - 1) := by omega
                    have n1 : Nu (KT (u 1) (u 0 1)) (NTk (u 1) (u 0 1)) ((i : Int) + 1) 0 (u 0 6 - 1) := k1
                    have k1z : z39 = nmb (u 1) (u 0 1) (ps (u 1) (u 0 1) (i + 1)) := by omega
                    refine z_aload_n C 1 dX11_readItem_183 rfl ?_
                    refine z_dup C dX11_readItem_184 rfl ?_
                    refine z_get C hK (v := .int (zI (u 0 7))) inX11_readItem_X11 0 (WM_0 a c ((up (up (up (up (up u 0 (2) (pt1)) 0 (3) ((ps (u 1) (u 0 1) (i + 1)))) 0 (4) (tok1)) 0 (5) (td1)) 3 (u 0 7) (z39)))) rfl 7 (by decide) (List.mem_of_getElem? (i := 4) rfl) rfl dX11_readItem_185 ?_
                    refine z_iconst C dX11_readItem_188 ?_
                    refine z_iadd C dX11_readItem_189 ?_
                    refine z_put C hK (hDD _) inX11_readItem_X11 tyX11 tyX11_ok nmX11 0 (WM_0 a c ((up (up (up (up (up u 0 (2) (pt1)) 0 (3) ((ps (u 1) (u 0 1) (i + 1)))) 0 (4) (tok1)) 0 (5) (td1)) 3 (u 0 7) (z39)))) rfl 7 (by decide) (List.mem_of_getElem? (i := 4) rfl) rfl rfl rfl (Nat.le_of_ble_eq_true rfl) (WM_0_p7 a c ((up (up (up (up (up u 0 (2) (pt1)) 0 (3) ((ps (u 1) (u 0 1) (i + 1)))) 0 (4) (tok1)) 0 (5) (td1)) 3 (u 0 7) (z39))) ((u 0 7) + 1)) dX11_readItem_190 ?_
                    refine z_goto C 254 dX11_readItem_193 (by decide) ?_
                    refine z_aload_n C 1 dX11_readItem_254 rfl ?_
                    refine z_callV C hK hDD (c_X11_reads (zl x) (zG x) a c ((up (up (up (up (up (up u 0 (2) (pt1)) 0 (3) ((ps (u 1) (u 0 1) (i + 1)))) 0 (4) (tok1)) 0 (5) (td1)) 3 (u 0 7) (z39)) 0 (7) ((u 0 7) + 1)))  (hI) (ha1)) gX11_readItem_X11_reads rfl zy_X11_reads 0 (WM_0 a c ((up (up (up (up (up (up u 0 (2) (pt1)) 0 (3) ((ps (u 1) (u 0 1) (i + 1)))) 0 (4) (tok1)) 0 (5) (td1)) 3 (u 0 7) (z39)) 0 (7) ((u 0 7) + 1)))) rfl ⟨by omega, by decide⟩ rfl (Nat.le_of_ble_eq_true rfl) (st := []) (stk2 := fun _ => []) rfl (fun _ => rfl) dX11_readItem_255 (fun z43 u44 h45 => ?_)
                    replace h45 : ∃ tok td at' : Int, u44 = rds (((up (up (up (up (up (up u 0 (2) (pt1)) 0 (3) ((ps (u 1) (u 0 1) (i + 1)))) 0 (4) (tok1)) 0 (5) (td1)) 3 (u 0 7) (z39)) 0 (7) ((u 0 7) + 1)))) (skp ((u 1)) ((u 0 1)) ((pt1))) tok td at' ∧ RdP ((u 1)) ((u 0 1)) (skp ((u 1)) ((u 0 1)) ((pt1))) tok td at' := h45
                    obtain ⟨tokE, tdE, ptE, eE, hRE⟩ := h45
                    rw [nxR hR1 (ne_12 k1.1)] at eE hRE
                    rw [eE]
                    have hRF := hRE
                    unfold RdP at hRF
                    have eKE : KT (u 1) (u 0 1) ((i : Int) + 1 + 1) = kd (u 1) (u 0 1) (ps (u 1) (u 0 1) (i + 1 + 1)) := rfl
                    change Z x 0 0 (WM a c (up (up (up (up (up (up u 3 (u 0 7) (z39)) 0 (7) ((u 0 7) + 1)) 0 (2) (ptE)) 0 (3) ((ps (u 1) (u 0 1) (i + 1 + 1)))) 0 (4) (tokE)) 0 (5) (tdE))) _ _ _
                    refine z_aload_n C 1 dX11_readItem_258 rfl ?_
                    refine z_get C hK (v := .int (zI tokE)) inX11_readItem_X11 0 (WM_0 a c ((up (up (up (up (up (up u 3 (u 0 7) (z39)) 0 (7) ((u 0 7) + 1)) 0 (2) (ptE)) 0 (3) ((ps (u 1) (u 0 1) (i + 1 + 1)))) 0 (4) (tokE)) 0 (5) (tdE)))) rfl 4 (by decide) (List.mem_of_getElem? (i := 2) rfl) rfl dX11_readItem_259 ?_
                    refine z_iconst C dX11_readItem_262 ?_
                    refine z_icmp_ne C 270 dX11_readItem_263 (by decide) (by omega) (fun h46 => ?_) (fun h46 => ?_)
                    · have nE : ¬ KT (u 1) (u 0 1) ((i : Int) + 1 + 1) = 3 := by omega
                      refine z_iconst C dX11_readItem_270 ?_
                      exact kret 0 ((up (up (up (up (up (up u 3 (u 0 7) (z39)) 0 (7) ((u 0 7) + 1)) 0 (2) (ptE)) 0 (3) ((ps (u 1) (u 0 1) (i + 1 + 1)))) 0 (4) (tokE)) 0 (5) (tdE))) _ _ (Or.inl ⟨rfl, FrR_u0 (by decide) (FrR_u0 (by decide) (FrR_u0 (by decide) (FrR_u0 (by decide) (FrR_u0 (by decide) (FrR_uc (by decide) (FrR_rf u)))))), i + 1 + 1, Or.inr (Or.inl ⟨hk4, Or.inr (Or.inr ⟨by omega, by rw [m1.2]; exact n1, nE, rfl⟩)⟩), rfl, hRE⟩) (by omega) dX11_readItem_271
                    · have nE : KT (u 1) (u 0 1) ((i : Int) + 1 + 1) = 3 := by omega
                      refine z_iconst C dX11_readItem_266 ?_
                      refine z_goto C 271 dX11_readItem_267 (by decide) ?_
                      exact kret 1 ((up (up (up (up (up (up u 3 (u 0 7) (z39)) 0 (7) ((u 0 7) + 1)) 0 (2) (ptE)) 0 (3) ((ps (u 1) (u 0 1) (i + 1 + 1)))) 0 (4) (tokE)) 0 (5) (tdE))) _ _ (Or.inr ⟨rfl, FrR_u0 (by decide) (FrR_u0 (by decide) (FrR_u0 (by decide) (FrR_u0 (by decide) (FrR_u0 (by decide) (FrR_uc (by decide) (FrR_rf u)))))), i + 1 + 1, up (up Dr 4 (Dr 0 1) (z39)) 0 1 (Dr 0 1 + 1), Or.inr (Or.inl ⟨hk4, by omega, by rw [m1.2]; exact n1, nE, rfl, by rw [k1z]; rfl⟩), ⟨rfl, hRE⟩, DM_man hD0 (by omega)⟩) (by omega) dX11_readItem_271
                  · have k1 : ¬ (kd (u 1) (u 0 1) (ps (u 1) (u 0 1) (i + 1)) = 2 ∧ 0 ≤ nmb (u 1) (u 0 1) (ps (u 1) (u 0 1) (i + 1)) ∧ nmb (u 1) (u 0 1) (ps (u 1) (u 0 1) (i + 1)) ≤ (u 0 6 - 1)) := by omega
                    have n1 : ¬ Nu (KT (u 1) (u 0 1)) (NTk (u 1) (u 0 1)) ((i : Int) + 1) 0 (u 0 6 - 1) := k1
                    refine z_iconst C dX11_readItem_181 ?_
                    exact kret 0 ((up (up (up (up (up u 0 (2) (pt1)) 0 (3) ((ps (u 1) (u 0 1) (i + 1)))) 0 (4) (tok1)) 0 (5) (td1)) 3 (u 0 7) (z39))) _ _ (Or.inl ⟨rfl, FrR_uc (by decide) (FrR_u0 (by decide) (FrR_u0 (by decide) (FrR_u0 (by decide) (FrR_u0 (by decide) (FrR_rf u))))), i + 1, Or.inr (Or.inl ⟨hk4, Or.inr (Or.inl ⟨by omega, by rw [m1.2]; exact n1, rfl⟩)⟩), rfl, hR1⟩) (by omega) dX11_readItem_182
              · exfalso; omega
            · exfalso; omega
      · exfalso; omega
    · subst hs2
      refine z_iload_n C 0 dX11_readItem_13 rfl ?_
      refine z_if_ne C 26 dX11_readItem_14 (by decide) (by omega) (fun h47 => ?_) (fun h47 => ?_)
      · skip
        refine z_iload_n C 0 dX11_readItem_26 rfl ?_
        refine z_iconst C dX11_readItem_27 ?_
        refine z_icmp_ne C 39 dX11_readItem_28 (by decide) (by omega) (fun h48 => ?_) (fun h48 => ?_)
        · skip
          refine z_iload_n C 0 dX11_readItem_39 rfl ?_
          refine z_iconst C dX11_readItem_40 ?_
          refine z_icmp_le C 58 dX11_readItem_41 (by decide) (by omega) (fun h49 => ?_) (fun h49 => ?_)
          · exfalso; omega
          · skip
            refine z_aload_n C 1 dX11_readItem_44 rfl ?_
            refine z_get C hK (v := .int (zI (u 0 11))) inX11_readItem_X11 0 (WM_0 a c u) rfl 11 (by decide) (List.mem_of_getElem? (i := 5) rfl) rfl dX11_readItem_45 ?_
            refine z_iload_n C 0 dX11_readItem_48 rfl ?_
            refine z_ishr C (u 0 11 / 4) dX11_readItem_49 ((rt_shr (by omega)).1) ?_
            refine z_iconst C dX11_readItem_50 ?_
            refine z_iand C ((u 0 11 / 4) % 2) dX11_readItem_51 (rt_and (by omega)) ?_
            refine z_iconst C dX11_readItem_52 ?_
            refine z_icmp_ne C 58 dX11_readItem_53 (by decide) (by omega) (fun h50 => ?_) (fun h50 => ?_)
            · have hnt := h50
              refine z_iload_n C 0 dX11_readItem_58 rfl ?_
              refine z_if_ne C 144 dX11_readItem_59 (by decide) (by omega) (fun h51 => ?_) (fun h51 => ?_)
              · skip
                refine z_iload_n C 0 dX11_readItem_144 rfl ?_
                refine z_iconst C dX11_readItem_145 ?_
                refine z_icmp_ne C 196 dX11_readItem_146 (by decide) (by omega) (fun h52 => ?_) (fun h52 => ?_)
                · skip
                  have hk4 : KT (u 1) (u 0 1) (i : Int) = 6 := by omega
                  refine z_aload_n C 1 dX11_readItem_196 rfl ?_
                  refine z_get C hK (v := .ref (a 4)) inX11_readItem_X11 0 (WM_0 a c u) rfl 10 (by decide) (List.mem_of_getElem? (i := 8) rfl) rfl dX11_readItem_197 ?_
                  refine z_iload_n C 0 dX11_readItem_200 rfl ?_
                  refine z_iconst C dX11_readItem_201 ?_
                  refine z_isub C dX11_readItem_202 ?_
                  refine z_as (b := 0) (by decide) ?_
                  refine z_aload_n C 1 dX11_readItem_203 rfl ?_
                  refine z_iload_n C 0 dX11_readItem_204 rfl ?_
                  refine z_iconst C dX11_readItem_205 ?_
                  refine z_icmp_ne C 213 dX11_readItem_206 (by decide) (by omega) (fun h53 => ?_) (fun h53 => ?_)
                  · skip
                    refine z_iconst C dX11_readItem_213 ?_
                    refine z_iload_n C 0 dX11_readItem_214 rfl ?_
                    refine z_iconst C dX11_readItem_215 ?_
                    refine z_icmp_ne C 223 dX11_readItem_216 (by decide) (by omega) (fun h54 => ?_) (fun h54 => ?_)
                    · skip
                      refine z_bipush C dX11_readItem_223 (by decide) ?_
                      refine z_callV C hK hDD (c_X11_number (zl x) (zG x) a c u 0 9 i (hI) (hC0) (hk1) (hat0) (by omega) (by omega)) gX11_readItem_X11_number rfl zy_X11_number 0 (WM_0 a c u) rfl ⟨by omega, by decide⟩ rfl (Nat.le_of_ble_eq_true rfl) (st := [.int (zI 0), .ref (a 4)]) (stk2 := fun z55 => [.int (zI z55), .int (zI 0), .ref (a 4)]) rfl (fun _ => rfl) dX11_readItem_225 (fun z55 u56 h57 => ?_)
                      obtain ⟨tok1, td1, pt1, e1, hR1, hz1⟩ := h57
                      rw [e1]
                      have ha1 := at_bd htl.1 hR1
                      have k1r : (kd (u 1) (u 0 1) (ps (u 1) (u 0 1) (i + 1)) = 2 ∧ 0 ≤ nmb (u 1) (u 0 1) (ps (u 1) (u 0 1) (i + 1)) ∧ nmb (u 1) (u 0 1) (ps (u 1) (u 0 1) (i + 1)) ≤ 9 ∧ z55 = nmb (u 1) (u 0 1) (ps (u 1) (u 0 1) (i + 1))) ∨ (¬ (kd (u 1) (u 0 1) (ps (u 1) (u 0 1) (i + 1)) = 2 ∧ 0 ≤ nmb (u 1) (u 0 1) (ps (u 1) (u 0 1) (i + 1)) ∧ nmb (u 1) (u 0 1) (ps (u 1) (u 0 1) (i + 1)) ≤ 9) ∧ z55 = -1) := by omega
                      have b1z : -1 ≤ z55 ∧ z55 ≤ 99 := by have q := nmb_bd (tx := u 1) (n := u 0 1) (b := ps (u 1) (u 0 1) (i + 1)); omega
                      change Z x 0 0 (WM a c (up (up (up (up u 0 (2) (pt1)) 0 (3) ((ps (u 1) (u 0 1) (i + 1)))) 0 (4) (tok1)) 0 (5) (td1))) _ _ _
                      refine z_iast C hK (hDD _) 0 (g := (up (up (up (up u 0 (2) (pt1)) 0 (3) ((ps (u 1) (u 0 1) (i + 1)))) 0 (4) (tok1)) 0 (5) (td1)) 4) 4 (WM_4 a c ((up (up (up (up u 0 (2) (pt1)) 0 (3) ((ps (u 1) (u 0 1) (i + 1)))) 0 (4) (tok1)) 0 (5) (td1)))) rfl (by decide) (by omega) (WM_4_set a c ((up (up (up (up u 0 (2) (pt1)) 0 (3) ((ps (u 1) (u 0 1) (i + 1)))) 0 (4) (tok1)) 0 (5) (td1))) 0 z55) dX11_readItem_228 ?_
                      refine z_aload_n C 1 dX11_readItem_229 rfl ?_
                      refine z_get C hK (v := .ref (a 4)) inX11_readItem_X11 0 (WM_0 a c ((up (up (up (up (up u 0 (2) (pt1)) 0 (3) ((ps (u 1) (u 0 1) (i + 1)))) 0 (4) (tok1)) 0 (5) (td1)) 4 (0) (z55)))) rfl 10 (by decide) (List.mem_of_getElem? (i := 8) rfl) rfl dX11_readItem_230 ?_
                      refine z_iload_n C 0 dX11_readItem_233 rfl ?_
                      refine z_iconst C dX11_readItem_234 ?_
                      refine z_isub C dX11_readItem_235 ?_
                      refine z_as (b := 0) (by decide) ?_
                      refine z_iald C hK 0 (g := ((up (up (up (up (up u 0 (2) (pt1)) 0 (3) ((ps (u 1) (u 0 1) (i + 1)))) 0 (4) (tok1)) 0 (5) (td1)) 4 (0) (z55)) 4)) (i := 0) 4 (WM_4 a c ((up (up (up (up (up u 0 (2) (pt1)) 0 (3) ((ps (u 1) (u 0 1) (i + 1)))) 0 (4) (tok1)) 0 (5) (td1)) 4 (0) (z55)))) rfl (by decide) (by omega) dX11_readItem_236 ?_
                      refine z_as (b := z55) (up_eq _ _ _ _) ?_
                      refine z_if_ge C 242 dX11_readItem_237 (by decide) (by omega) (fun h58 => ?_) (fun h58 => ?_)
                      · have k1 : kd (u 1) (u 0 1) (ps (u 1) (u 0 1) (i + 1)) = 2 ∧ 0 ≤ nmb (u 1) (u 0 1) (ps (u 1) (u 0 1) (i + 1)) ∧ nmb (u 1) (u 0 1) (ps (u 1) (u 0 1) (i + 1)) ≤ 9 := by omega
                        have n1 : Nu (KT (u 1) (u 0 1)) (NTk (u 1) (u 0 1)) ((i : Int) + 1) 0 9 := k1
                        have k1z : z55 = nmb (u 1) (u 0 1) (ps (u 1) (u 0 1) (i + 1)) := by omega
                        refine z_aload_n C 1 dX11_readItem_242 rfl ?_
                        refine z_dup C dX11_readItem_243 rfl ?_
                        refine z_get C hK (v := .int (zI (u 0 11))) inX11_readItem_X11 0 (WM_0 a c ((up (up (up (up (up u 0 (2) (pt1)) 0 (3) ((ps (u 1) (u 0 1) (i + 1)))) 0 (4) (tok1)) 0 (5) (td1)) 4 (0) (z55)))) rfl 11 (by decide) (List.mem_of_getElem? (i := 5) rfl) rfl dX11_readItem_244 ?_
                        refine z_iconst C dX11_readItem_247 ?_
                        refine z_iload_n C 0 dX11_readItem_248 rfl ?_
                        refine z_ishl C (4) dX11_readItem_249 (rt_1sh.1) ?_
                        refine z_ior C (u 0 11 + 4) dX11_readItem_250 ((rt_or (by omega)).1 hnt) ?_
                        refine z_put C hK (hDD _) inX11_readItem_X11 tyX11 tyX11_ok nmX11 0 (WM_0 a c ((up (up (up (up (up u 0 (2) (pt1)) 0 (3) ((ps (u 1) (u 0 1) (i + 1)))) 0 (4) (tok1)) 0 (5) (td1)) 4 (0) (z55)))) rfl 11 (by decide) (List.mem_of_getElem? (i := 5) rfl) rfl rfl rfl (Nat.le_of_ble_eq_true rfl) (WM_0_p11 a c ((up (up (up (up (up u 0 (2) (pt1)) 0 (3) ((ps (u 1) (u 0 1) (i + 1)))) 0 (4) (tok1)) 0 (5) (td1)) 4 (0) (z55))) (u 0 11 + 4)) dX11_readItem_251 ?_
                        refine z_aload_n C 1 dX11_readItem_254 rfl ?_
                        refine z_callV C hK hDD (c_X11_reads (zl x) (zG x) a c ((up (up (up (up (up (up u 0 (2) (pt1)) 0 (3) ((ps (u 1) (u 0 1) (i + 1)))) 0 (4) (tok1)) 0 (5) (td1)) 4 (0) (z55)) 0 (11) (u 0 11 + 4)))  (hI) (ha1)) gX11_readItem_X11_reads rfl zy_X11_reads 0 (WM_0 a c ((up (up (up (up (up (up u 0 (2) (pt1)) 0 (3) ((ps (u 1) (u 0 1) (i + 1)))) 0 (4) (tok1)) 0 (5) (td1)) 4 (0) (z55)) 0 (11) (u 0 11 + 4)))) rfl ⟨by omega, by decide⟩ rfl (Nat.le_of_ble_eq_true rfl) (st := []) (stk2 := fun _ => []) rfl (fun _ => rfl) dX11_readItem_255 (fun z59 u60 h61 => ?_)
                        replace h61 : ∃ tok td at' : Int, u60 = rds (((up (up (up (up (up (up u 0 (2) (pt1)) 0 (3) ((ps (u 1) (u 0 1) (i + 1)))) 0 (4) (tok1)) 0 (5) (td1)) 4 (0) (z55)) 0 (11) (u 0 11 + 4)))) (skp ((u 1)) ((u 0 1)) ((pt1))) tok td at' ∧ RdP ((u 1)) ((u 0 1)) (skp ((u 1)) ((u 0 1)) ((pt1))) tok td at' := h61
                        obtain ⟨tokE, tdE, ptE, eE, hRE⟩ := h61
                        rw [nxR hR1 (ne_12 k1.1)] at eE hRE
                        rw [eE]
                        have hRF := hRE
                        unfold RdP at hRF
                        have eKE : KT (u 1) (u 0 1) ((i : Int) + 1 + 1) = kd (u 1) (u 0 1) (ps (u 1) (u 0 1) (i + 1 + 1)) := rfl
                        change Z x 0 0 (WM a c (up (up (up (up (up (up u 4 (0) (z55)) 0 (11) (u 0 11 + 4)) 0 (2) (ptE)) 0 (3) ((ps (u 1) (u 0 1) (i + 1 + 1)))) 0 (4) (tokE)) 0 (5) (tdE))) _ _ _
                        refine z_aload_n C 1 dX11_readItem_258 rfl ?_
                        refine z_get C hK (v := .int (zI tokE)) inX11_readItem_X11 0 (WM_0 a c ((up (up (up (up (up (up u 4 (0) (z55)) 0 (11) (u 0 11 + 4)) 0 (2) (ptE)) 0 (3) ((ps (u 1) (u 0 1) (i + 1 + 1)))) 0 (4) (tokE)) 0 (5) (tdE)))) rfl 4 (by decide) (List.mem_of_getElem? (i := 2) rfl) rfl dX11_readItem_259 ?_
                        refine z_iconst C dX11_readItem_262 ?_
                        refine z_icmp_ne C 270 dX11_readItem_263 (by decide) (by omega) (fun h62 => ?_) (fun h62 => ?_)
                        · have nE : ¬ KT (u 1) (u 0 1) ((i : Int) + 1 + 1) = 3 := by omega
                          refine z_iconst C dX11_readItem_270 ?_
                          exact kret 0 ((up (up (up (up (up (up u 4 (0) (z55)) 0 (11) (u 0 11 + 4)) 0 (2) (ptE)) 0 (3) ((ps (u 1) (u 0 1) (i + 1 + 1)))) 0 (4) (tokE)) 0 (5) (tdE))) _ _ (Or.inl ⟨rfl, FrR_u0 (by decide) (FrR_u0 (by decide) (FrR_u0 (by decide) (FrR_u0 (by decide) (FrR_u0 (by decide) (FrR_uc (by decide) (FrR_rf u)))))), i + 1 + 1, Or.inr (Or.inr (Or.inl (⟨hk4, Or.inr (Or.inr ⟨by omega, n1, nE, rfl⟩)⟩))), rfl, hRE⟩) (by omega) dX11_readItem_271
                        · have nE : KT (u 1) (u 0 1) ((i : Int) + 1 + 1) = 3 := by omega
                          refine z_iconst C dX11_readItem_266 ?_
                          refine z_goto C 271 dX11_readItem_267 (by decide) ?_
                          exact kret 1 ((up (up (up (up (up (up u 4 (0) (z55)) 0 (11) (u 0 11 + 4)) 0 (2) (ptE)) 0 (3) ((ps (u 1) (u 0 1) (i + 1 + 1)))) 0 (4) (tokE)) 0 (5) (tdE))) _ _ (Or.inr ⟨rfl, FrR_u0 (by decide) (FrR_u0 (by decide) (FrR_u0 (by decide) (FrR_u0 (by decide) (FrR_u0 (by decide) (FrR_uc (by decide) (FrR_rf u)))))), i + 1 + 1, up (up Dr 0 2 (z55)) 0 5 1, Or.inr (Or.inr (Or.inl (⟨hk4, by omega, n1, nE, rfl, by rw [k1z]; rfl⟩))), ⟨rfl, hRE⟩, DM_ear hD0 (by omega)⟩) (by omega) dX11_readItem_271
                      · have k1 : ¬ (kd (u 1) (u 0 1) (ps (u 1) (u 0 1) (i + 1)) = 2 ∧ 0 ≤ nmb (u 1) (u 0 1) (ps (u 1) (u 0 1) (i + 1)) ∧ nmb (u 1) (u 0 1) (ps (u 1) (u 0 1) (i + 1)) ≤ 9) := by omega
                        have n1 : ¬ Nu (KT (u 1) (u 0 1)) (NTk (u 1) (u 0 1)) ((i : Int) + 1) 0 9 := k1
                        refine z_iconst C dX11_readItem_240 ?_
                        exact kret 0 ((up (up (up (up (up u 0 (2) (pt1)) 0 (3) ((ps (u 1) (u 0 1) (i + 1)))) 0 (4) (tok1)) 0 (5) (td1)) 4 (0) (z55))) _ _ (Or.inl ⟨rfl, FrR_uc (by decide) (FrR_u0 (by decide) (FrR_u0 (by decide) (FrR_u0 (by decide) (FrR_u0 (by decide) (FrR_rf u))))), i + 1, Or.inr (Or.inr (Or.inl (⟨hk4, Or.inr (Or.inl ⟨by omega, n1, rfl⟩)⟩))), rfl, hR1⟩) (by omega) dX11_readItem_241
                    · exfalso; omega
                  · exfalso; omega
                · exfalso; omega
              · exfalso; omega
            · have hno : ItNo (KT (u 1) (u 0 1)) (NTk (u 1) (u 0 1)) Dr i i := it_told (by omega)
              refine z_iconst C dX11_readItem_56 ?_
              exact kret 0 u _ _ (Or.inl ⟨rfl, FrR_rf u, i, hno, hC0⟩) (by omega) dX11_readItem_57
        · exfalso; omega
      · exfalso; omega
    · subst hs2
      refine z_iload_n C 0 dX11_readItem_13 rfl ?_
      refine z_if_ne C 26 dX11_readItem_14 (by decide) (by omega) (fun h63 => ?_) (fun h63 => ?_)
      · skip
        refine z_iload_n C 0 dX11_readItem_26 rfl ?_
        refine z_iconst C dX11_readItem_27 ?_
        refine z_icmp_ne C 39 dX11_readItem_28 (by decide) (by omega) (fun h64 => ?_) (fun h64 => ?_)
        · skip
          refine z_iload_n C 0 dX11_readItem_39 rfl ?_
          refine z_iconst C dX11_readItem_40 ?_
          refine z_icmp_le C 58 dX11_readItem_41 (by decide) (by omega) (fun h65 => ?_) (fun h65 => ?_)
          · exfalso; omega
          · skip
            refine z_aload_n C 1 dX11_readItem_44 rfl ?_
            refine z_get C hK (v := .int (zI (u 0 11))) inX11_readItem_X11 0 (WM_0 a c u) rfl 11 (by decide) (List.mem_of_getElem? (i := 5) rfl) rfl dX11_readItem_45 ?_
            refine z_iload_n C 0 dX11_readItem_48 rfl ?_
            refine z_ishr C (u 0 11 / 8) dX11_readItem_49 ((rt_shr (by omega)).2.1) ?_
            refine z_iconst C dX11_readItem_50 ?_
            refine z_iand C ((u 0 11 / 8) % 2) dX11_readItem_51 (rt_and (by omega)) ?_
            refine z_iconst C dX11_readItem_52 ?_
            refine z_icmp_ne C 58 dX11_readItem_53 (by decide) (by omega) (fun h66 => ?_) (fun h66 => ?_)
            · have hnt := h66
              refine z_iload_n C 0 dX11_readItem_58 rfl ?_
              refine z_if_ne C 144 dX11_readItem_59 (by decide) (by omega) (fun h67 => ?_) (fun h67 => ?_)
              · skip
                refine z_iload_n C 0 dX11_readItem_144 rfl ?_
                refine z_iconst C dX11_readItem_145 ?_
                refine z_icmp_ne C 196 dX11_readItem_146 (by decide) (by omega) (fun h68 => ?_) (fun h68 => ?_)
                · skip
                  have hk4 : KT (u 1) (u 0 1) (i : Int) = 7 := by omega
                  refine z_aload_n C 1 dX11_readItem_196 rfl ?_
                  refine z_get C hK (v := .ref (a 4)) inX11_readItem_X11 0 (WM_0 a c u) rfl 10 (by decide) (List.mem_of_getElem? (i := 8) rfl) rfl dX11_readItem_197 ?_
                  refine z_iload_n C 0 dX11_readItem_200 rfl ?_
                  refine z_iconst C dX11_readItem_201 ?_
                  refine z_isub C dX11_readItem_202 ?_
                  refine z_as (b := 1) (by decide) ?_
                  refine z_aload_n C 1 dX11_readItem_203 rfl ?_
                  refine z_iload_n C 0 dX11_readItem_204 rfl ?_
                  refine z_iconst C dX11_readItem_205 ?_
                  refine z_icmp_ne C 213 dX11_readItem_206 (by decide) (by omega) (fun h69 => ?_) (fun h69 => ?_)
                  · skip
                    refine z_iconst C dX11_readItem_213 ?_
                    refine z_iload_n C 0 dX11_readItem_214 rfl ?_
                    refine z_iconst C dX11_readItem_215 ?_
                    refine z_icmp_ne C 223 dX11_readItem_216 (by decide) (by omega) (fun h70 => ?_) (fun h70 => ?_)
                    · skip
                      refine z_bipush C dX11_readItem_223 (by decide) ?_
                      refine z_callV C hK hDD (c_X11_number (zl x) (zG x) a c u 0 9 i (hI) (hC0) (hk1) (hat0) (by omega) (by omega)) gX11_readItem_X11_number rfl zy_X11_number 0 (WM_0 a c u) rfl ⟨by omega, by decide⟩ rfl (Nat.le_of_ble_eq_true rfl) (st := [.int (zI 1), .ref (a 4)]) (stk2 := fun z71 => [.int (zI z71), .int (zI 1), .ref (a 4)]) rfl (fun _ => rfl) dX11_readItem_225 (fun z71 u72 h73 => ?_)
                      obtain ⟨tok1, td1, pt1, e1, hR1, hz1⟩ := h73
                      rw [e1]
                      have ha1 := at_bd htl.1 hR1
                      have k1r : (kd (u 1) (u 0 1) (ps (u 1) (u 0 1) (i + 1)) = 2 ∧ 0 ≤ nmb (u 1) (u 0 1) (ps (u 1) (u 0 1) (i + 1)) ∧ nmb (u 1) (u 0 1) (ps (u 1) (u 0 1) (i + 1)) ≤ 9 ∧ z71 = nmb (u 1) (u 0 1) (ps (u 1) (u 0 1) (i + 1))) ∨ (¬ (kd (u 1) (u 0 1) (ps (u 1) (u 0 1) (i + 1)) = 2 ∧ 0 ≤ nmb (u 1) (u 0 1) (ps (u 1) (u 0 1) (i + 1)) ∧ nmb (u 1) (u 0 1) (ps (u 1) (u 0 1) (i + 1)) ≤ 9) ∧ z71 = -1) := by omega
                      have b1z : -1 ≤ z71 ∧ z71 ≤ 99 := by have q := nmb_bd (tx := u 1) (n := u 0 1) (b := ps (u 1) (u 0 1) (i + 1)); omega
                      change Z x 0 0 (WM a c (up (up (up (up u 0 (2) (pt1)) 0 (3) ((ps (u 1) (u 0 1) (i + 1)))) 0 (4) (tok1)) 0 (5) (td1))) _ _ _
                      refine z_iast C hK (hDD _) 0 (g := (up (up (up (up u 0 (2) (pt1)) 0 (3) ((ps (u 1) (u 0 1) (i + 1)))) 0 (4) (tok1)) 0 (5) (td1)) 4) 4 (WM_4 a c ((up (up (up (up u 0 (2) (pt1)) 0 (3) ((ps (u 1) (u 0 1) (i + 1)))) 0 (4) (tok1)) 0 (5) (td1)))) rfl (by decide) (by omega) (WM_4_set a c ((up (up (up (up u 0 (2) (pt1)) 0 (3) ((ps (u 1) (u 0 1) (i + 1)))) 0 (4) (tok1)) 0 (5) (td1))) 1 z71) dX11_readItem_228 ?_
                      refine z_aload_n C 1 dX11_readItem_229 rfl ?_
                      refine z_get C hK (v := .ref (a 4)) inX11_readItem_X11 0 (WM_0 a c ((up (up (up (up (up u 0 (2) (pt1)) 0 (3) ((ps (u 1) (u 0 1) (i + 1)))) 0 (4) (tok1)) 0 (5) (td1)) 4 (1) (z71)))) rfl 10 (by decide) (List.mem_of_getElem? (i := 8) rfl) rfl dX11_readItem_230 ?_
                      refine z_iload_n C 0 dX11_readItem_233 rfl ?_
                      refine z_iconst C dX11_readItem_234 ?_
                      refine z_isub C dX11_readItem_235 ?_
                      refine z_as (b := 1) (by decide) ?_
                      refine z_iald C hK 0 (g := ((up (up (up (up (up u 0 (2) (pt1)) 0 (3) ((ps (u 1) (u 0 1) (i + 1)))) 0 (4) (tok1)) 0 (5) (td1)) 4 (1) (z71)) 4)) (i := 1) 4 (WM_4 a c ((up (up (up (up (up u 0 (2) (pt1)) 0 (3) ((ps (u 1) (u 0 1) (i + 1)))) 0 (4) (tok1)) 0 (5) (td1)) 4 (1) (z71)))) rfl (by decide) (by omega) dX11_readItem_236 ?_
                      refine z_as (b := z71) (up_eq _ _ _ _) ?_
                      refine z_if_ge C 242 dX11_readItem_237 (by decide) (by omega) (fun h74 => ?_) (fun h74 => ?_)
                      · have k1 : kd (u 1) (u 0 1) (ps (u 1) (u 0 1) (i + 1)) = 2 ∧ 0 ≤ nmb (u 1) (u 0 1) (ps (u 1) (u 0 1) (i + 1)) ∧ nmb (u 1) (u 0 1) (ps (u 1) (u 0 1) (i + 1)) ≤ 9 := by omega
                        have n1 : Nu (KT (u 1) (u 0 1)) (NTk (u 1) (u 0 1)) ((i : Int) + 1) 0 9 := k1
                        have k1z : z71 = nmb (u 1) (u 0 1) (ps (u 1) (u 0 1) (i + 1)) := by omega
                        refine z_aload_n C 1 dX11_readItem_242 rfl ?_
                        refine z_dup C dX11_readItem_243 rfl ?_
                        refine z_get C hK (v := .int (zI (u 0 11))) inX11_readItem_X11 0 (WM_0 a c ((up (up (up (up (up u 0 (2) (pt1)) 0 (3) ((ps (u 1) (u 0 1) (i + 1)))) 0 (4) (tok1)) 0 (5) (td1)) 4 (1) (z71)))) rfl 11 (by decide) (List.mem_of_getElem? (i := 5) rfl) rfl dX11_readItem_244 ?_
                        refine z_iconst C dX11_readItem_247 ?_
                        refine z_iload_n C 0 dX11_readItem_248 rfl ?_
                        refine z_ishl C (8) dX11_readItem_249 (rt_1sh.2.1) ?_
                        refine z_ior C (u 0 11 + 8) dX11_readItem_250 ((rt_or (by omega)).2.1 hnt) ?_
                        refine z_put C hK (hDD _) inX11_readItem_X11 tyX11 tyX11_ok nmX11 0 (WM_0 a c ((up (up (up (up (up u 0 (2) (pt1)) 0 (3) ((ps (u 1) (u 0 1) (i + 1)))) 0 (4) (tok1)) 0 (5) (td1)) 4 (1) (z71)))) rfl 11 (by decide) (List.mem_of_getElem? (i := 5) rfl) rfl rfl rfl (Nat.le_of_ble_eq_true rfl) (WM_0_p11 a c ((up (up (up (up (up u 0 (2) (pt1)) 0 (3) ((ps (u 1) (u 0 1) (i + 1)))) 0 (4) (tok1)) 0 (5) (td1)) 4 (1) (z71))) (u 0 11 + 8)) dX11_readItem_251 ?_
                        refine z_aload_n C 1 dX11_readItem_254 rfl ?_
                        refine z_callV C hK hDD (c_X11_reads (zl x) (zG x) a c ((up (up (up (up (up (up u 0 (2) (pt1)) 0 (3) ((ps (u 1) (u 0 1) (i + 1)))) 0 (4) (tok1)) 0 (5) (td1)) 4 (1) (z71)) 0 (11) (u 0 11 + 8)))  (hI) (ha1)) gX11_readItem_X11_reads rfl zy_X11_reads 0 (WM_0 a c ((up (up (up (up (up (up u 0 (2) (pt1)) 0 (3) ((ps (u 1) (u 0 1) (i + 1)))) 0 (4) (tok1)) 0 (5) (td1)) 4 (1) (z71)) 0 (11) (u 0 11 + 8)))) rfl ⟨by omega, by decide⟩ rfl (Nat.le_of_ble_eq_true rfl) (st := []) (stk2 := fun _ => []) rfl (fun _ => rfl) dX11_readItem_255 (fun z75 u76 h77 => ?_)
                        replace h77 : ∃ tok td at' : Int, u76 = rds (((up (up (up (up (up (up u 0 (2) (pt1)) 0 (3) ((ps (u 1) (u 0 1) (i + 1)))) 0 (4) (tok1)) 0 (5) (td1)) 4 (1) (z71)) 0 (11) (u 0 11 + 8)))) (skp ((u 1)) ((u 0 1)) ((pt1))) tok td at' ∧ RdP ((u 1)) ((u 0 1)) (skp ((u 1)) ((u 0 1)) ((pt1))) tok td at' := h77
                        obtain ⟨tokE, tdE, ptE, eE, hRE⟩ := h77
                        rw [nxR hR1 (ne_12 k1.1)] at eE hRE
                        rw [eE]
                        have hRF := hRE
                        unfold RdP at hRF
                        have eKE : KT (u 1) (u 0 1) ((i : Int) + 1 + 1) = kd (u 1) (u 0 1) (ps (u 1) (u 0 1) (i + 1 + 1)) := rfl
                        change Z x 0 0 (WM a c (up (up (up (up (up (up u 4 (1) (z71)) 0 (11) (u 0 11 + 8)) 0 (2) (ptE)) 0 (3) ((ps (u 1) (u 0 1) (i + 1 + 1)))) 0 (4) (tokE)) 0 (5) (tdE))) _ _ _
                        refine z_aload_n C 1 dX11_readItem_258 rfl ?_
                        refine z_get C hK (v := .int (zI tokE)) inX11_readItem_X11 0 (WM_0 a c ((up (up (up (up (up (up u 4 (1) (z71)) 0 (11) (u 0 11 + 8)) 0 (2) (ptE)) 0 (3) ((ps (u 1) (u 0 1) (i + 1 + 1)))) 0 (4) (tokE)) 0 (5) (tdE)))) rfl 4 (by decide) (List.mem_of_getElem? (i := 2) rfl) rfl dX11_readItem_259 ?_
                        refine z_iconst C dX11_readItem_262 ?_
                        refine z_icmp_ne C 270 dX11_readItem_263 (by decide) (by omega) (fun h78 => ?_) (fun h78 => ?_)
                        · have nE : ¬ KT (u 1) (u 0 1) ((i : Int) + 1 + 1) = 3 := by omega
                          refine z_iconst C dX11_readItem_270 ?_
                          exact kret 0 ((up (up (up (up (up (up u 4 (1) (z71)) 0 (11) (u 0 11 + 8)) 0 (2) (ptE)) 0 (3) ((ps (u 1) (u 0 1) (i + 1 + 1)))) 0 (4) (tokE)) 0 (5) (tdE))) _ _ (Or.inl ⟨rfl, FrR_u0 (by decide) (FrR_u0 (by decide) (FrR_u0 (by decide) (FrR_u0 (by decide) (FrR_u0 (by decide) (FrR_uc (by decide) (FrR_rf u)))))), i + 1 + 1, Or.inr (Or.inr (Or.inr (Or.inl (⟨hk4, Or.inr (Or.inr ⟨by omega, n1, nE, rfl⟩)⟩)))), rfl, hRE⟩) (by omega) dX11_readItem_271
                        · have nE : KT (u 1) (u 0 1) ((i : Int) + 1 + 1) = 3 := by omega
                          refine z_iconst C dX11_readItem_266 ?_
                          refine z_goto C 271 dX11_readItem_267 (by decide) ?_
                          exact kret 1 ((up (up (up (up (up (up u 4 (1) (z71)) 0 (11) (u 0 11 + 8)) 0 (2) (ptE)) 0 (3) ((ps (u 1) (u 0 1) (i + 1 + 1)))) 0 (4) (tokE)) 0 (5) (tdE))) _ _ (Or.inr ⟨rfl, FrR_u0 (by decide) (FrR_u0 (by decide) (FrR_u0 (by decide) (FrR_u0 (by decide) (FrR_u0 (by decide) (FrR_uc (by decide) (FrR_rf u)))))), i + 1 + 1, up (up Dr 0 3 (z71)) 0 6 1, Or.inr (Or.inr (Or.inr (Or.inl (⟨hk4, by omega, n1, nE, rfl, by rw [k1z]; rfl⟩)))), ⟨rfl, hRE⟩, DM_wet hD0 (by omega)⟩) (by omega) dX11_readItem_271
                      · have k1 : ¬ (kd (u 1) (u 0 1) (ps (u 1) (u 0 1) (i + 1)) = 2 ∧ 0 ≤ nmb (u 1) (u 0 1) (ps (u 1) (u 0 1) (i + 1)) ∧ nmb (u 1) (u 0 1) (ps (u 1) (u 0 1) (i + 1)) ≤ 9) := by omega
                        have n1 : ¬ Nu (KT (u 1) (u 0 1)) (NTk (u 1) (u 0 1)) ((i : Int) + 1) 0 9 := k1
                        refine z_iconst C dX11_readItem_240 ?_
                        exact kret 0 ((up (up (up (up (up u 0 (2) (pt1)) 0 (3) ((ps (u 1) (u 0 1) (i + 1)))) 0 (4) (tok1)) 0 (5) (td1)) 4 (1) (z71))) _ _ (Or.inl ⟨rfl, FrR_uc (by decide) (FrR_u0 (by decide) (FrR_u0 (by decide) (FrR_u0 (by decide) (FrR_u0 (by decide) (FrR_rf u))))), i + 1, Or.inr (Or.inr (Or.inr (Or.inl (⟨hk4, Or.inr (Or.inl ⟨by omega, n1, rfl⟩)⟩)))), rfl, hR1⟩) (by omega) dX11_readItem_241
                    · exfalso; omega
                  · exfalso; omega
                · exfalso; omega
              · exfalso; omega
            · have hno : ItNo (KT (u 1) (u 0 1)) (NTk (u 1) (u 0 1)) Dr i i := it_told (by omega)
              refine z_iconst C dX11_readItem_56 ?_
              exact kret 0 u _ _ (Or.inl ⟨rfl, FrR_rf u, i, hno, hC0⟩) (by omega) dX11_readItem_57
        · exfalso; omega
      · exfalso; omega
    · subst hs2
      refine z_iload_n C 0 dX11_readItem_13 rfl ?_
      refine z_if_ne C 26 dX11_readItem_14 (by decide) (by omega) (fun h79 => ?_) (fun h79 => ?_)
      · skip
        refine z_iload_n C 0 dX11_readItem_26 rfl ?_
        refine z_iconst C dX11_readItem_27 ?_
        refine z_icmp_ne C 39 dX11_readItem_28 (by decide) (by omega) (fun h80 => ?_) (fun h80 => ?_)
        · skip
          refine z_iload_n C 0 dX11_readItem_39 rfl ?_
          refine z_iconst C dX11_readItem_40 ?_
          refine z_icmp_le C 58 dX11_readItem_41 (by decide) (by omega) (fun h81 => ?_) (fun h81 => ?_)
          · exfalso; omega
          · skip
            refine z_aload_n C 1 dX11_readItem_44 rfl ?_
            refine z_get C hK (v := .int (zI (u 0 11))) inX11_readItem_X11 0 (WM_0 a c u) rfl 11 (by decide) (List.mem_of_getElem? (i := 5) rfl) rfl dX11_readItem_45 ?_
            refine z_iload_n C 0 dX11_readItem_48 rfl ?_
            refine z_ishr C (u 0 11 / 16) dX11_readItem_49 ((rt_shr (by omega)).2.2) ?_
            refine z_iconst C dX11_readItem_50 ?_
            refine z_iand C ((u 0 11 / 16) % 2) dX11_readItem_51 (rt_and (by omega)) ?_
            refine z_iconst C dX11_readItem_52 ?_
            refine z_icmp_ne C 58 dX11_readItem_53 (by decide) (by omega) (fun h82 => ?_) (fun h82 => ?_)
            · have hnt := h82
              refine z_iload_n C 0 dX11_readItem_58 rfl ?_
              refine z_if_ne C 144 dX11_readItem_59 (by decide) (by omega) (fun h83 => ?_) (fun h83 => ?_)
              · skip
                refine z_iload_n C 0 dX11_readItem_144 rfl ?_
                refine z_iconst C dX11_readItem_145 ?_
                refine z_icmp_ne C 196 dX11_readItem_146 (by decide) (by omega) (fun h84 => ?_) (fun h84 => ?_)
                · skip
                  have hk4 : KT (u 1) (u 0 1) (i : Int) = 8 := by omega
                  refine z_aload_n C 1 dX11_readItem_196 rfl ?_
                  refine z_get C hK (v := .ref (a 4)) inX11_readItem_X11 0 (WM_0 a c u) rfl 10 (by decide) (List.mem_of_getElem? (i := 8) rfl) rfl dX11_readItem_197 ?_
                  refine z_iload_n C 0 dX11_readItem_200 rfl ?_
                  refine z_iconst C dX11_readItem_201 ?_
                  refine z_isub C dX11_readItem_202 ?_
                  refine z_as (b := 2) (by decide) ?_
                  refine z_aload_n C 1 dX11_readItem_203 rfl ?_
                  refine z_iload_n C 0 dX11_readItem_204 rfl ?_
                  refine z_iconst C dX11_readItem_205 ?_
                  refine z_icmp_ne C 213 dX11_readItem_206 (by decide) (by omega) (fun h85 => ?_) (fun h85 => ?_)
                  · exfalso; omega
                  · skip
                    refine z_iconst C dX11_readItem_209 ?_
                    refine z_goto C 214 dX11_readItem_210 (by decide) ?_
                    refine z_iload_n C 0 dX11_readItem_214 rfl ?_
                    refine z_iconst C dX11_readItem_215 ?_
                    refine z_icmp_ne C 223 dX11_readItem_216 (by decide) (by omega) (fun h86 => ?_) (fun h86 => ?_)
                    · exfalso; omega
                    · skip
                      refine z_iconst C dX11_readItem_219 ?_
                      refine z_goto C 225 dX11_readItem_220 (by decide) ?_
                      refine z_callV C hK hDD (c_X11_number (zl x) (zG x) a c u 1 4 i (hI) (hC0) (hk1) (hat0) (by omega) (by omega)) gX11_readItem_X11_number rfl zy_X11_number 0 (WM_0 a c u) rfl ⟨by omega, by decide⟩ rfl (Nat.le_of_ble_eq_true rfl) (st := [.int (zI 2), .ref (a 4)]) (stk2 := fun z87 => [.int (zI z87), .int (zI 2), .ref (a 4)]) rfl (fun _ => rfl) dX11_readItem_225 (fun z87 u88 h89 => ?_)
                      obtain ⟨tok1, td1, pt1, e1, hR1, hz1⟩ := h89
                      rw [e1]
                      have ha1 := at_bd htl.1 hR1
                      have k1r : (kd (u 1) (u 0 1) (ps (u 1) (u 0 1) (i + 1)) = 2 ∧ 1 ≤ nmb (u 1) (u 0 1) (ps (u 1) (u 0 1) (i + 1)) ∧ nmb (u 1) (u 0 1) (ps (u 1) (u 0 1) (i + 1)) ≤ 4 ∧ z87 = nmb (u 1) (u 0 1) (ps (u 1) (u 0 1) (i + 1))) ∨ (¬ (kd (u 1) (u 0 1) (ps (u 1) (u 0 1) (i + 1)) = 2 ∧ 1 ≤ nmb (u 1) (u 0 1) (ps (u 1) (u 0 1) (i + 1)) ∧ nmb (u 1) (u 0 1) (ps (u 1) (u 0 1) (i + 1)) ≤ 4) ∧ z87 = -1) := by omega
                      have b1z : -1 ≤ z87 ∧ z87 ≤ 99 := by have q := nmb_bd (tx := u 1) (n := u 0 1) (b := ps (u 1) (u 0 1) (i + 1)); omega
                      change Z x 0 0 (WM a c (up (up (up (up u 0 (2) (pt1)) 0 (3) ((ps (u 1) (u 0 1) (i + 1)))) 0 (4) (tok1)) 0 (5) (td1))) _ _ _
                      refine z_iast C hK (hDD _) 0 (g := (up (up (up (up u 0 (2) (pt1)) 0 (3) ((ps (u 1) (u 0 1) (i + 1)))) 0 (4) (tok1)) 0 (5) (td1)) 4) 4 (WM_4 a c ((up (up (up (up u 0 (2) (pt1)) 0 (3) ((ps (u 1) (u 0 1) (i + 1)))) 0 (4) (tok1)) 0 (5) (td1)))) rfl (by decide) (by omega) (WM_4_set a c ((up (up (up (up u 0 (2) (pt1)) 0 (3) ((ps (u 1) (u 0 1) (i + 1)))) 0 (4) (tok1)) 0 (5) (td1))) 2 z87) dX11_readItem_228 ?_
                      refine z_aload_n C 1 dX11_readItem_229 rfl ?_
                      refine z_get C hK (v := .ref (a 4)) inX11_readItem_X11 0 (WM_0 a c ((up (up (up (up (up u 0 (2) (pt1)) 0 (3) ((ps (u 1) (u 0 1) (i + 1)))) 0 (4) (tok1)) 0 (5) (td1)) 4 (2) (z87)))) rfl 10 (by decide) (List.mem_of_getElem? (i := 8) rfl) rfl dX11_readItem_230 ?_
                      refine z_iload_n C 0 dX11_readItem_233 rfl ?_
                      refine z_iconst C dX11_readItem_234 ?_
                      refine z_isub C dX11_readItem_235 ?_
                      refine z_as (b := 2) (by decide) ?_
                      refine z_iald C hK 0 (g := ((up (up (up (up (up u 0 (2) (pt1)) 0 (3) ((ps (u 1) (u 0 1) (i + 1)))) 0 (4) (tok1)) 0 (5) (td1)) 4 (2) (z87)) 4)) (i := 2) 4 (WM_4 a c ((up (up (up (up (up u 0 (2) (pt1)) 0 (3) ((ps (u 1) (u 0 1) (i + 1)))) 0 (4) (tok1)) 0 (5) (td1)) 4 (2) (z87)))) rfl (by decide) (by omega) dX11_readItem_236 ?_
                      refine z_as (b := z87) (up_eq _ _ _ _) ?_
                      refine z_if_ge C 242 dX11_readItem_237 (by decide) (by omega) (fun h90 => ?_) (fun h90 => ?_)
                      · have k1 : kd (u 1) (u 0 1) (ps (u 1) (u 0 1) (i + 1)) = 2 ∧ 1 ≤ nmb (u 1) (u 0 1) (ps (u 1) (u 0 1) (i + 1)) ∧ nmb (u 1) (u 0 1) (ps (u 1) (u 0 1) (i + 1)) ≤ 4 := by omega
                        have n1 : Nu (KT (u 1) (u 0 1)) (NTk (u 1) (u 0 1)) ((i : Int) + 1) 1 4 := k1
                        have k1z : z87 = nmb (u 1) (u 0 1) (ps (u 1) (u 0 1) (i + 1)) := by omega
                        refine z_aload_n C 1 dX11_readItem_242 rfl ?_
                        refine z_dup C dX11_readItem_243 rfl ?_
                        refine z_get C hK (v := .int (zI (u 0 11))) inX11_readItem_X11 0 (WM_0 a c ((up (up (up (up (up u 0 (2) (pt1)) 0 (3) ((ps (u 1) (u 0 1) (i + 1)))) 0 (4) (tok1)) 0 (5) (td1)) 4 (2) (z87)))) rfl 11 (by decide) (List.mem_of_getElem? (i := 5) rfl) rfl dX11_readItem_244 ?_
                        refine z_iconst C dX11_readItem_247 ?_
                        refine z_iload_n C 0 dX11_readItem_248 rfl ?_
                        refine z_ishl C (16) dX11_readItem_249 (rt_1sh.2.2) ?_
                        refine z_ior C (u 0 11 + 16) dX11_readItem_250 ((rt_or (by omega)).2.2 hnt) ?_
                        refine z_put C hK (hDD _) inX11_readItem_X11 tyX11 tyX11_ok nmX11 0 (WM_0 a c ((up (up (up (up (up u 0 (2) (pt1)) 0 (3) ((ps (u 1) (u 0 1) (i + 1)))) 0 (4) (tok1)) 0 (5) (td1)) 4 (2) (z87)))) rfl 11 (by decide) (List.mem_of_getElem? (i := 5) rfl) rfl rfl rfl (Nat.le_of_ble_eq_true rfl) (WM_0_p11 a c ((up (up (up (up (up u 0 (2) (pt1)) 0 (3) ((ps (u 1) (u 0 1) (i + 1)))) 0 (4) (tok1)) 0 (5) (td1)) 4 (2) (z87))) (u 0 11 + 16)) dX11_readItem_251 ?_
                        refine z_aload_n C 1 dX11_readItem_254 rfl ?_
                        refine z_callV C hK hDD (c_X11_reads (zl x) (zG x) a c ((up (up (up (up (up (up u 0 (2) (pt1)) 0 (3) ((ps (u 1) (u 0 1) (i + 1)))) 0 (4) (tok1)) 0 (5) (td1)) 4 (2) (z87)) 0 (11) (u 0 11 + 16)))  (hI) (ha1)) gX11_readItem_X11_reads rfl zy_X11_reads 0 (WM_0 a c ((up (up (up (up (up (up u 0 (2) (pt1)) 0 (3) ((ps (u 1) (u 0 1) (i + 1)))) 0 (4) (tok1)) 0 (5) (td1)) 4 (2) (z87)) 0 (11) (u 0 11 + 16)))) rfl ⟨by omega, by decide⟩ rfl (Nat.le_of_ble_eq_true rfl) (st := []) (stk2 := fun _ => []) rfl (fun _ => rfl) dX11_readItem_255 (fun z91 u92 h93 => ?_)
                        replace h93 : ∃ tok td at' : Int, u92 = rds (((up (up (up (up (up (up u 0 (2) (pt1)) 0 (3) ((ps (u 1) (u 0 1) (i + 1)))) 0 (4) (tok1)) 0 (5) (td1)) 4 (2) (z87)) 0 (11) (u 0 11 + 16)))) (skp ((u 1)) ((u 0 1)) ((pt1))) tok td at' ∧ RdP ((u 1)) ((u 0 1)) (skp ((u 1)) ((u 0 1)) ((pt1))) tok td at' := h93
                        obtain ⟨tokE, tdE, ptE, eE, hRE⟩ := h93
                        rw [nxR hR1 (ne_12 k1.1)] at eE hRE
                        rw [eE]
                        have hRF := hRE
                        unfold RdP at hRF
                        have eKE : KT (u 1) (u 0 1) ((i : Int) + 1 + 1) = kd (u 1) (u 0 1) (ps (u 1) (u 0 1) (i + 1 + 1)) := rfl
                        change Z x 0 0 (WM a c (up (up (up (up (up (up u 4 (2) (z87)) 0 (11) (u 0 11 + 16)) 0 (2) (ptE)) 0 (3) ((ps (u 1) (u 0 1) (i + 1 + 1)))) 0 (4) (tokE)) 0 (5) (tdE))) _ _ _
                        refine z_aload_n C 1 dX11_readItem_258 rfl ?_
                        refine z_get C hK (v := .int (zI tokE)) inX11_readItem_X11 0 (WM_0 a c ((up (up (up (up (up (up u 4 (2) (z87)) 0 (11) (u 0 11 + 16)) 0 (2) (ptE)) 0 (3) ((ps (u 1) (u 0 1) (i + 1 + 1)))) 0 (4) (tokE)) 0 (5) (tdE)))) rfl 4 (by decide) (List.mem_of_getElem? (i := 2) rfl) rfl dX11_readItem_259 ?_
                        refine z_iconst C dX11_readItem_262 ?_
                        refine z_icmp_ne C 270 dX11_readItem_263 (by decide) (by omega) (fun h94 => ?_) (fun h94 => ?_)
                        · have nE : ¬ KT (u 1) (u 0 1) ((i : Int) + 1 + 1) = 3 := by omega
                          refine z_iconst C dX11_readItem_270 ?_
                          exact kret 0 ((up (up (up (up (up (up u 4 (2) (z87)) 0 (11) (u 0 11 + 16)) 0 (2) (ptE)) 0 (3) ((ps (u 1) (u 0 1) (i + 1 + 1)))) 0 (4) (tokE)) 0 (5) (tdE))) _ _ (Or.inl ⟨rfl, FrR_u0 (by decide) (FrR_u0 (by decide) (FrR_u0 (by decide) (FrR_u0 (by decide) (FrR_u0 (by decide) (FrR_uc (by decide) (FrR_rf u)))))), i + 1 + 1, Or.inr (Or.inr (Or.inr (Or.inr (Or.inl (⟨hk4, Or.inr (Or.inr ⟨by omega, n1, nE, rfl⟩)⟩))))), rfl, hRE⟩) (by omega) dX11_readItem_271
                        · have nE : KT (u 1) (u 0 1) ((i : Int) + 1 + 1) = 3 := by omega
                          refine z_iconst C dX11_readItem_266 ?_
                          refine z_goto C 271 dX11_readItem_267 (by decide) ?_
                          exact kret 1 ((up (up (up (up (up (up u 4 (2) (z87)) 0 (11) (u 0 11 + 16)) 0 (2) (ptE)) 0 (3) ((ps (u 1) (u 0 1) (i + 1 + 1)))) 0 (4) (tokE)) 0 (5) (tdE))) _ _ (Or.inr ⟨rfl, FrR_u0 (by decide) (FrR_u0 (by decide) (FrR_u0 (by decide) (FrR_u0 (by decide) (FrR_u0 (by decide) (FrR_uc (by decide) (FrR_rf u)))))), i + 1 + 1, up (up Dr 0 4 (z87)) 0 7 1, Or.inr (Or.inr (Or.inr (Or.inr (⟨hk4, by omega, n1, nE, rfl, by rw [k1z]; rfl⟩)))), ⟨rfl, hRE⟩, DM_pace hD0 (by omega)⟩) (by omega) dX11_readItem_271
                      · have k1 : ¬ (kd (u 1) (u 0 1) (ps (u 1) (u 0 1) (i + 1)) = 2 ∧ 1 ≤ nmb (u 1) (u 0 1) (ps (u 1) (u 0 1) (i + 1)) ∧ nmb (u 1) (u 0 1) (ps (u 1) (u 0 1) (i + 1)) ≤ 4) := by omega
                        have n1 : ¬ Nu (KT (u 1) (u 0 1)) (NTk (u 1) (u 0 1)) ((i : Int) + 1) 1 4 := k1
                        refine z_iconst C dX11_readItem_240 ?_
                        exact kret 0 ((up (up (up (up (up u 0 (2) (pt1)) 0 (3) ((ps (u 1) (u 0 1) (i + 1)))) 0 (4) (tok1)) 0 (5) (td1)) 4 (2) (z87))) _ _ (Or.inl ⟨rfl, FrR_uc (by decide) (FrR_u0 (by decide) (FrR_u0 (by decide) (FrR_u0 (by decide) (FrR_u0 (by decide) (FrR_rf u))))), i + 1, Or.inr (Or.inr (Or.inr (Or.inr (Or.inl (⟨hk4, Or.inr (Or.inl ⟨by omega, n1, rfl⟩)⟩))))), rfl, hR1⟩) (by omega) dX11_readItem_241
                · exfalso; omega
              · exfalso; omega
            · have hno : ItNo (KT (u 1) (u 0 1)) (NTk (u 1) (u 0 1)) Dr i i := it_told (by omega)
              refine z_iconst C dX11_readItem_56 ?_
              exact kret 0 u _ _ (Or.inl ⟨rfl, FrR_rf u, i, hno, hC0⟩) (by omega) dX11_readItem_57
        · exfalso; omega
      · exfalso; omega
