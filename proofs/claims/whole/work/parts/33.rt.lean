/-! ===== contracts: the reference's numbers ===== -/

theorem zy_X11_number : zY yX11_number 2 := ⟨by decide +kernel, by decide +kernel, by decide +kernel⟩
-- NoteBellsModel.number
theorem inX11_number_X11 : ∀ w ∈ wsX110, w ∈ wsX11_number := fun w h => List.mem_cons_of_mem _ (List.mem_append_right _ (h))
set_option maxHeartbeats 8000000 in
set_option maxRecDepth 100000 in
theorem c_X11_number (l : Launch) (D : va_G) (a : Nat → Nat) (c : Nat → ClassId) (u : zU) (lo hi : Int) (i : Nat) (hI : IM u) (hC : Cur u i) (hk1 : kd (u 1) (u 0 1) (ps (u 1) (u 0 1) i) ≠ 1) (hat : 0 ≤ u 0 2 ∧ u 0 2 ≤ u 0 1) (b_lo : -2147483648 ≤ lo ∧ lo < 2147483648) (b_hi : -2147483648 ≤ hi ∧ hi < 2147483648) : ZM l D (zTy c) (WM a c) yX11_number wsX11_number 5 [.ref (a 0), .int (zI lo), .int (zI hi)] u rI (fun z u' => ∃ tok td pt : Int, u' = rds (u) (ps (u 1) (u 0 1) (i + 1)) tok td pt ∧ RdP (u 1) (u 0 1) (ps (u 1) (u 0 1) (i + 1)) tok td pt ∧ (((kd (u 1) (u 0 1) (ps (u 1) (u 0 1) (i + 1)) = 2 ∧ lo ≤ nmb (u 1) (u 0 1) (ps (u 1) (u 0 1) (i + 1)) ∧ nmb (u 1) (u 0 1) (ps (u 1) (u 0 1) (i + 1)) ≤ hi) ∧ z = nmb (u 1) (u 0 1) (ps (u 1) (u 0 1) (i + 1))) ∨ (¬ (kd (u 1) (u 0 1) (ps (u 1) (u 0 1) (i + 1)) = 2 ∧ lo ≤ nmb (u 1) (u 0 1) (ps (u 1) (u 0 1) (i + 1)) ∧ nmb (u 1) (u 0 1) (ps (u 1) (u 0 1) (i + 1)) ≤ hi) ∧ z = -1))) := by
  refine ZM.ofI (cc := cX11_number) (maxL := 3) [(0, .ref (a 0)), (1, .int (zI lo)), (2, .int (zI hi))] rfl (by decide +kernel) rfl (Nat.le_of_ble_eq_true rfl) (WM_addr a c) ?_
  intro x C hK _ _ hDD kret
  refine z_aload_n C 0 dX11_number_0 rfl ?_
  refine z_callV C hK hDD (c_X11_reads (zl x) (zG x) a c u  (hI) (by omega)) gX11_number_X11_reads rfl zy_X11_reads 0 (WM_0 a c u) rfl ⟨by omega, by decide⟩ rfl (Nat.le_of_ble_eq_true rfl) (st := []) (stk2 := fun _ => []) rfl (fun _ => rfl) dX11_number_1 (fun z1 u2 h3 => ?_)
  obtain ⟨tok, td, pt, e1, hR⟩ := h3
  rw [nextR hC hk1] at e1 hR
  rw [e1]
  have hR2 := hR
  unfold RdP at hR2
  have hnb : tok = 2 → 0 ≤ td ∧ td ≤ 99 := fun q => by have h := nmb_bd (tx := u 1) (n := u 0 1) (b := (ps (u 1) (u 0 1) (i + 1))) (by omega); omega
  change Z x 0 0 (WM a c (up (up (up (up u 0 (2) (pt)) 0 (3) ((ps (u 1) (u 0 1) (i + 1)))) 0 (4) (tok)) 0 (5) (td))) _ _ _
  refine z_aload_n C 0 dX11_number_4 rfl ?_
  refine z_get C hK (v := .int (zI tok)) inX11_number_X11 0 (WM_0 a c ((up (up (up (up u 0 (2) (pt)) 0 (3) ((ps (u 1) (u 0 1) (i + 1)))) 0 (4) (tok)) 0 (5) (td)))) rfl 4 (by decide) (List.mem_of_getElem? (i := 1) rfl) rfl dX11_number_5 ?_
  refine z_iconst C dX11_number_8 ?_
  refine z_icmp_ne C 34 dX11_number_9 (by decide) (by omega) (fun h4 => ?_) (fun h4 => ?_)
  · skip
    refine z_iconst C dX11_number_34 ?_
    exact kret (-1) (rds u (ps (u 1) (u 0 1) (i + 1)) tok td pt) _ _ (⟨tok, td, pt, rfl, hR, by omega⟩) dX11_number_35
  · skip
    refine z_aload_n C 0 dX11_number_12 rfl ?_
    refine z_get C hK (v := .int (zI td)) inX11_number_X11 0 (WM_0 a c ((up (up (up (up u 0 (2) (pt)) 0 (3) ((ps (u 1) (u 0 1) (i + 1)))) 0 (4) (tok)) 0 (5) (td)))) rfl 5 (by decide) (List.mem_of_getElem? (i := 2) rfl) rfl dX11_number_13 ?_
    refine z_i2l C dX11_number_16 (by omega) ?_
    refine z_iload_n C 1 dX11_number_17 rfl ?_
    refine z_i2l C dX11_number_18 (by omega) ?_
    refine z_iload_n C 2 dX11_number_19 rfl ?_
    refine z_i2l C dX11_number_20 (by omega) ?_
    refine z_callS C hK hDD (c_X11_in (zl x) (zG x) ((WM a c)) (WM_addr a c) ((up (up (up (up u 0 (2) (pt)) 0 (3) ((ps (u 1) (u 0 1) (i + 1)))) 0 (4) (tok)) 0 (5) (td))) td lo hi (by omega) (by omega) (by omega)) gX11_number_X11_in rfl rfl zy_X11_in ⟨by omega, by decide⟩ rfl (Nat.le_of_ble_eq_true rfl) (st := []) (stk2 := fun z5 => [.int (zI z5)]) rfl (fun _ => rfl) dX11_number_21 (fun z5 u6 h7 => ?_)
    rw [h7.1]; replace h7 := h7.2
    replace h7 : ((z5 = 1 ∧ lo ≤ td ∧ td ≤ hi) ∨ (z5 = 0 ∧ ¬ (lo ≤ td ∧ td ≤ hi))) := h7
    refine z_if_eq C 34 dX11_number_24 (by decide) (by omega) (fun h8 => ?_) (fun h8 => ?_)
    · skip
      refine z_iconst C dX11_number_34 ?_
      exact kret (-1) (rds u (ps (u 1) (u 0 1) (i + 1)) tok td pt) _ _ (⟨tok, td, pt, rfl, hR, by omega⟩) dX11_number_35
    · skip
      refine z_aload_n C 0 dX11_number_27 rfl ?_
      refine z_get C hK (v := .int (zI td)) inX11_number_X11 0 (WM_0 a c ((up (up (up (up u 0 (2) (pt)) 0 (3) ((ps (u 1) (u 0 1) (i + 1)))) 0 (4) (tok)) 0 (5) (td)))) rfl 5 (by decide) (List.mem_of_getElem? (i := 2) rfl) rfl dX11_number_28 ?_
      refine z_goto C 35 dX11_number_31 (by decide) ?_
      exact kret td (rds u (ps (u 1) (u 0 1) (i + 1)) tok td pt) _ _ (⟨tok, td, pt, rfl, hR, by omega⟩) dX11_number_35
