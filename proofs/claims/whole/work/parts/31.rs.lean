/-! ===== contracts: the reference reads ===== -/
theorem lt_put {tx : Int → Int} {p q lo hi : Int} (h : ∀ j : Int, p ≤ j → j < q → lo ≤ tx j ∧ tx j ≤ hi) (hq : lo ≤ tx q ∧ tx q ≤ hi) : ∀ j : Int, p ≤ j → j < q + 1 → lo ≤ tx j ∧ tx j ≤ hi := fun j h0 h1 => by
  by_cases e : j = q
  · rw [e]; exact hq
  · exact h j h0 (by omega)
theorem lt_run {tx : Int → Int} {n p q lo hi : Int} (hp : p ≤ q) (he : q = p ∨ eor tx n lo hi (p + 1) = eor tx n lo hi q) (h : q < n ∧ lo ≤ tx q ∧ tx q ≤ hi) : eor tx n lo hi (p + 1) = eor tx n lo hi (q + 1) := by
  rcases he with e | e
  · rw [e]
  · rw [e, eor_on h]
theorem lv_more {tx : Int → Int} {p q v : Int} (hp : p ≤ q) (hv : v = lvl tx p (q - p).toNat) (h : q - p ≤ 7) : v * 256 + tx q = lvl tx p (q + 1 - p).toNat := by
  rw [show (q + 1 - p).toNat = (q - p).toNat + 1 by omega, lvl_S (by omega), ← hv, show p + (((q - p).toNat : Nat) : Int) = q by omega]
theorem lv_full {tx : Int → Int} {p q : Int} (h : 7 < q - p) : -1 = lvl tx p (q + 1 - p).toNat := (lvl_big (by omega)).symm
theorem nv_more {tx : Int → Int} {p q v : Int} (hp : p ≤ q) (hv : v = nva tx p (q - p).toNat) (h : v ≤ 99) : 10 * v + tx q - 48 = nva tx p (q + 1 - p).toNat := by
  rw [show (q + 1 - p).toNat = (q - p).toNat + 1 by omega]
  show _ = if 99 < nva tx p (q - p).toNat then nva tx p (q - p).toNat else 10 * nva tx p (q - p).toNat + tx (p + (((q - p).toNat : Nat) : Int)) - 48
  rw [← hv, if_neg (by omega), show p + (((q - p).toNat : Nat) : Int) = q by omega]
theorem nv_full {tx : Int → Int} {p q v : Int} (hp : p ≤ q) (hv : v = nva tx p (q - p).toNat) (h : 99 < v) : v = nva tx p (q + 1 - p).toNat := by
  rw [show (q + 1 - p).toNat = (q - p).toNat + 1 by omega]
  show _ = if 99 < nva tx p (q - p).toNat then nva tx p (q - p).toNat else _
  rw [← hv, if_pos h]

theorem zy_X11_reads : zY yX11_reads 0 := ⟨by decide +kernel, by decide +kernel, by decide +kernel⟩
-- NoteBellsModel.reads
theorem inX11_reads_X11 : ∀ w ∈ wsX110, w ∈ wsX11_reads := fun w h => List.mem_cons_of_mem _ (List.mem_append_right _ (h))
set_option maxHeartbeats 8000000 in
set_option maxRecDepth 100000 in
theorem c_X11_reads (l : Launch) (D : va_G) (a : Nat → Nat) (c : Nat → ClassId) (u : zU)  (hI : IM u) (b_at : 0 ≤ u 0 2 ∧ u 0 2 ≤ u 0 1) : ZM l D (zTy c) (WM a c) yX11_reads wsX11_reads 4 [.ref (a 0)] u rV (fun z u' => ∃ tok td at' : Int, u' = rds (u) (skp (u 1) (u 0 1) (u 0 2)) tok td at' ∧ RdP (u 1) (u 0 1) (skp (u 1) (u 0 1) (u 0 2)) tok td at') := by
  refine ZM.ofV (cc := cX11_reads) (maxL := 4) [(0, .ref (a 0))] rfl (by decide +kernel) rfl (Nat.le_of_ble_eq_true rfl) (WM_addr a c) ?_
  intro x C hK _ _ hDD kret
  have htl := hI.tlen
  have L0_1 : ∀ (fu : Nat) (p : Int), (u 0 2 ≤ p ∧ p ≤ u 0 1) → (skp (u 1) (u 0 1) (u 0 2) = skp (u 1) (u 0 1) p) → u 0 1 - p < (fu : Int) → Z x 0 0 (WM a c (up u 0 (2) (p))) [(0, .ref (a 0))] 0 [] := by
    intro fu
    induction fu with
    | zero => intro p hp hb hmeas; exfalso; omega
    | succ fu ih0 =>
      intro p hp hb hmeas
      refine z_aload_n C 0 dX11_reads_0 rfl ?_
      refine z_get C hK (v := .int (zI p)) inX11_reads_X11 0 (WM_0 a c ((up u 0 (2) (p)))) rfl 2 (by decide) (List.mem_of_getElem? (i := 1) rfl) rfl dX11_reads_1 ?_
      refine z_aload_n C 0 dX11_reads_4 rfl ?_
      refine z_get C hK (v := .int (zI (u 0 1))) inX11_reads_X11 0 (WM_0 a c ((up u 0 (2) (p)))) rfl 1 (by decide) (List.mem_of_getElem? (i := 2) rfl) rfl dX11_reads_5 ?_
      refine z_icmp_ge C 38 dX11_reads_8 (by decide) (by omega) (fun h2 => ?_) (fun h2 => ?_)
      · skip
        have hbp : skp (u 1) (u 0 1) (u 0 2) = p := hb.trans (skp_at (by omega))
        refine z_aload_n C 0 dX11_reads_38 rfl ?_
        refine z_aload_n C 0 dX11_reads_39 rfl ?_
        refine z_get C hK (v := .int (zI p)) inX11_reads_X11 0 (WM_0 a c ((up u 0 (2) (p)))) rfl 2 (by decide) (List.mem_of_getElem? (i := 1) rfl) rfl dX11_reads_40 ?_
        refine z_as (b := skp (u 1) (u 0 1) (u 0 2)) (hbp.symm) ?_
        refine z_put C hK (hDD _) inX11_reads_X11 tyX11 tyX11_ok nmX11 0 (WM_0 a c ((up u 0 (2) (p)))) rfl 3 (by decide) (List.mem_of_getElem? (i := 4) rfl) rfl rfl rfl (Nat.le_of_ble_eq_true rfl) (WM_0_p3 a c ((up u 0 (2) (p))) (skp (u 1) (u 0 1) (u 0 2))) dX11_reads_43 ?_
        refine z_aload_n C 0 dX11_reads_46 rfl ?_
        refine z_get C hK (v := .int (zI p)) inX11_reads_X11 0 (WM_0 a c ((up (up u 0 (2) (p)) 0 (3) (skp (u 1) (u 0 1) (u 0 2))))) rfl 2 (by decide) (List.mem_of_getElem? (i := 1) rfl) rfl dX11_reads_47 ?_
        refine z_aload_n C 0 dX11_reads_50 rfl ?_
        refine z_get C hK (v := .int (zI (u 0 1))) inX11_reads_X11 0 (WM_0 a c ((up (up u 0 (2) (p)) 0 (3) (skp (u 1) (u 0 1) (u 0 2))))) rfl 1 (by decide) (List.mem_of_getElem? (i := 2) rfl) rfl dX11_reads_51 ?_
        refine z_icmp_ge C 69 dX11_reads_54 (by decide) (by omega) (fun h3 => ?_) (fun h3 => ?_)
        · skip
          refine z_iconst C dX11_reads_69 ?_
          refine z_istore_n C [(1, .int (zI 0)), (0, .ref (a 0))] dX11_reads_70 rfl (by decide) rfl ?_
          refine z_aload_n C 1 dX11_reads_71 rfl ?_
          refine z_aload_n C 1 dX11_reads_72 rfl ?_
          refine z_get C hK (v := .int (zI p)) inX11_reads_X11 0 (WM_0 a c ((up (up u 0 (2) (p)) 0 (3) (skp (u 1) (u 0 1) (u 0 2))))) rfl 2 (by decide) (List.mem_of_getElem? (i := 1) rfl) rfl dX11_reads_73 ?_
          refine z_aload_n C 1 dX11_reads_76 rfl ?_
          refine z_get C hK (v := .int (zI (u 0 1))) inX11_reads_X11 0 (WM_0 a c ((up (up u 0 (2) (p)) 0 (3) (skp (u 1) (u 0 1) (u 0 2))))) rfl 1 (by decide) (List.mem_of_getElem? (i := 2) rfl) rfl dX11_reads_77 ?_
          refine z_icmp_ne C 87 dX11_reads_80 (by decide) (by omega) (fun h4 => ?_) (fun h4 => ?_)
          · exfalso; omega
          · skip
            refine z_iconst C dX11_reads_83 ?_
            refine z_goto C 120 dX11_reads_84 (by decide) ?_
            refine z_put C hK (hDD _) inX11_reads_X11 tyX11 tyX11_ok nmX11 0 (WM_0 a c ((up (up u 0 (2) (p)) 0 (3) (skp (u 1) (u 0 1) (u 0 2))))) rfl 4 (by decide) (List.mem_of_getElem? (i := 5) rfl) rfl rfl rfl (Nat.le_of_ble_eq_true rfl) (WM_0_p4 a c ((up (up u 0 (2) (p)) 0 (3) (skp (u 1) (u 0 1) (u 0 2)))) 0) dX11_reads_120 ?_
            refine z_aload_n C 1 dX11_reads_123 rfl ?_
            refine z_get C hK (v := .int (zI 0)) inX11_reads_X11 0 (WM_0 a c ((up (up (up u 0 (2) (p)) 0 (3) (skp (u 1) (u 0 1) (u 0 2))) 0 (4) (0)))) rfl 4 (by decide) (List.mem_of_getElem? (i := 5) rfl) rfl dX11_reads_124 ?_
            refine z_iconst C dX11_reads_127 ?_
            refine z_icmp_ne C 296 dX11_reads_128 (by decide) (by omega) (fun h5 => ?_) (fun h5 => ?_)
            · skip
              refine z_aload_n C 1 dX11_reads_296 rfl ?_
              refine z_get C hK (v := .int (zI 0)) inX11_reads_X11 0 (WM_0 a c ((up (up (up u 0 (2) (p)) 0 (3) (skp (u 1) (u 0 1) (u 0 2))) 0 (4) (0)))) rfl 4 (by decide) (List.mem_of_getElem? (i := 5) rfl) rfl dX11_reads_297 ?_
              refine z_iconst C dX11_reads_300 ?_
              refine z_icmp_ne C 425 dX11_reads_301 (by decide) (by omega) (fun h6 => ?_) (fun h6 => ?_)
              · skip
                refine z_aload_n C 1 dX11_reads_425 rfl ?_
                refine z_get C hK (v := .int (zI 0)) inX11_reads_X11 0 (WM_0 a c ((up (up (up u 0 (2) (p)) 0 (3) (skp (u 1) (u 0 1) (u 0 2))) 0 (4) (0)))) rfl 4 (by decide) (List.mem_of_getElem? (i := 5) rfl) rfl dX11_reads_426 ?_
                refine z_iconst C dX11_reads_429 ?_
                refine z_icmp_ne C 443 dX11_reads_430 (by decide) (by omega) (fun h7 => ?_) (fun h7 => ?_)
                · skip
                  exact kret 0 (rds u (skp (u 1) (u 0 1) (u 0 2)) 0 (u 0 5) p) _ _ (⟨_, _, _, rfl, by rw [hbp]; exact rd_end (by omega)⟩) dX11_reads_443
                · exfalso; omega
              · exfalso; omega
            · exfalso; omega
        · skip
          have hby := hI.byte p (by omega) (by omega)
          refine z_aload_n C 0 dX11_reads_57 rfl ?_
          refine z_get C hK (v := .ref (a 1)) inX11_reads_X11 0 (WM_0 a c ((up (up u 0 (2) (p)) 0 (3) (skp (u 1) (u 0 1) (u 0 2))))) rfl 0 (by decide) (List.mem_of_getElem? (i := 3) rfl) rfl dX11_reads_58 ?_
          refine z_aload_n C 0 dX11_reads_61 rfl ?_
          refine z_get C hK (v := .int (zI p)) inX11_reads_X11 0 (WM_0 a c ((up (up u 0 (2) (p)) 0 (3) (skp (u 1) (u 0 1) (u 0 2))))) rfl 2 (by decide) (List.mem_of_getElem? (i := 1) rfl) rfl dX11_reads_62 ?_
          refine z_iald C hK 0 (g := (u 1)) (i := p) 1 (WM_1 a c ((up (up u 0 (2) (p)) 0 (3) (skp (u 1) (u 0 1) (u 0 2))))) rfl (by decide) (by omega) dX11_reads_65 ?_
          refine z_as (b := u 1 (p)) rfl ?_
          refine z_goto C 70 dX11_reads_66 (by decide) ?_
          refine z_istore_n C [(1, .int (zI (u 1 (p)))), (0, .ref (a 0))] dX11_reads_70 rfl (by decide) rfl ?_
          refine z_aload_n C 1 dX11_reads_71 rfl ?_
          refine z_aload_n C 1 dX11_reads_72 rfl ?_
          refine z_get C hK (v := .int (zI p)) inX11_reads_X11 0 (WM_0 a c ((up (up u 0 (2) (p)) 0 (3) (skp (u 1) (u 0 1) (u 0 2))))) rfl 2 (by decide) (List.mem_of_getElem? (i := 1) rfl) rfl dX11_reads_73 ?_
          refine z_aload_n C 1 dX11_reads_76 rfl ?_
          refine z_get C hK (v := .int (zI (u 0 1))) inX11_reads_X11 0 (WM_0 a c ((up (up u 0 (2) (p)) 0 (3) (skp (u 1) (u 0 1) (u 0 2))))) rfl 1 (by decide) (List.mem_of_getElem? (i := 2) rfl) rfl dX11_reads_77 ?_
          refine z_icmp_ne C 87 dX11_reads_80 (by decide) (by omega) (fun h8 => ?_) (fun h8 => ?_)
          · skip
            refine z_iload_n C 0 dX11_reads_87 rfl ?_
            refine z_callS C hK hDD (c_X11_isLetter (zl x) (zG x) ((WM a c)) (WM_addr a c) ((up (up u 0 (2) (p)) 0 (3) (skp (u 1) (u 0 1) (u 0 2)))) (u 1 (p)) (by omega)) gX11_reads_X11_isLetter rfl rfl zy_X11_isLetter ⟨by omega, by decide⟩ rfl (Nat.le_of_ble_eq_true rfl) (st := [.ref (a 0)]) (stk2 := fun z9 => [.int (zI z9), .ref (a 0)]) rfl (fun _ => rfl) dX11_reads_88 (fun z9 u10 h11 => ?_)
            rw [h11.1]; replace h11 := h11.2
            replace h11 : ((z9 = 1 ∧ 97 ≤ (u 1 (p)) ∧ (u 1 (p)) ≤ 122) ∨ (z9 = 0 ∧ ¬ (97 ≤ (u 1 (p)) ∧ (u 1 (p)) ≤ 122))) := h11
            have KL := h11
            refine z_if_eq C 98 dX11_reads_91 (by decide) (by omega) (fun h12 => ?_) (fun h12 => ?_)
            · skip
              refine z_iload_n C 0 dX11_reads_98 rfl ?_
              refine z_callS C hK hDD (c_X11_isFigure (zl x) (zG x) ((WM a c)) (WM_addr a c) ((up (up u 0 (2) (p)) 0 (3) (skp (u 1) (u 0 1) (u 0 2)))) (u 1 (p)) (by omega)) gX11_reads_X11_isFigure rfl rfl zy_X11_isFigure ⟨by omega, by decide⟩ rfl (Nat.le_of_ble_eq_true rfl) (st := [.ref (a 0)]) (stk2 := fun z13 => [.int (zI z13), .ref (a 0)]) rfl (fun _ => rfl) dX11_reads_99 (fun z13 u14 h15 => ?_)
              rw [h15.1]; replace h15 := h15.2
              replace h15 : ((z13 = 1 ∧ 48 ≤ (u 1 (p)) ∧ (u 1 (p)) ≤ 57) ∨ (z13 = 0 ∧ ¬ (48 ≤ (u 1 (p)) ∧ (u 1 (p)) ≤ 57))) := h15
              have KF := h15
              refine z_if_eq C 109 dX11_reads_102 (by decide) (by omega) (fun h16 => ?_) (fun h16 => ?_)
              · skip
                refine z_iload_n C 0 dX11_reads_109 rfl ?_
                refine z_bipush C dX11_reads_110 (by decide) ?_
                refine z_icmp_ne C 119 dX11_reads_112 (by decide) (by omega) (fun h17 => ?_) (fun h17 => ?_)
                · skip
                  refine z_iconst C dX11_reads_119 ?_
                  refine z_put C hK (hDD _) inX11_reads_X11 tyX11 tyX11_ok nmX11 0 (WM_0 a c ((up (up u 0 (2) (p)) 0 (3) (skp (u 1) (u 0 1) (u 0 2))))) rfl 4 (by decide) (List.mem_of_getElem? (i := 5) rfl) rfl rfl rfl (Nat.le_of_ble_eq_true rfl) (WM_0_p4 a c ((up (up u 0 (2) (p)) 0 (3) (skp (u 1) (u 0 1) (u 0 2)))) 4) dX11_reads_120 ?_
                  refine z_aload_n C 1 dX11_reads_123 rfl ?_
                  refine z_get C hK (v := .int (zI 4)) inX11_reads_X11 0 (WM_0 a c ((up (up (up u 0 (2) (p)) 0 (3) (skp (u 1) (u 0 1) (u 0 2))) 0 (4) (4)))) rfl 4 (by decide) (List.mem_of_getElem? (i := 5) rfl) rfl dX11_reads_124 ?_
                  refine z_iconst C dX11_reads_127 ?_
                  refine z_icmp_ne C 296 dX11_reads_128 (by decide) (by omega) (fun h18 => ?_) (fun h18 => ?_)
                  · skip
                    refine z_aload_n C 1 dX11_reads_296 rfl ?_
                    refine z_get C hK (v := .int (zI 4)) inX11_reads_X11 0 (WM_0 a c ((up (up (up u 0 (2) (p)) 0 (3) (skp (u 1) (u 0 1) (u 0 2))) 0 (4) (4)))) rfl 4 (by decide) (List.mem_of_getElem? (i := 5) rfl) rfl dX11_reads_297 ?_
                    refine z_iconst C dX11_reads_300 ?_
                    refine z_icmp_ne C 425 dX11_reads_301 (by decide) (by omega) (fun h19 => ?_) (fun h19 => ?_)
                    · skip
                      refine z_aload_n C 1 dX11_reads_425 rfl ?_
                      refine z_get C hK (v := .int (zI 4)) inX11_reads_X11 0 (WM_0 a c ((up (up (up u 0 (2) (p)) 0 (3) (skp (u 1) (u 0 1) (u 0 2))) 0 (4) (4)))) rfl 4 (by decide) (List.mem_of_getElem? (i := 5) rfl) rfl dX11_reads_426 ?_
                      refine z_iconst C dX11_reads_429 ?_
                      refine z_icmp_ne C 443 dX11_reads_430 (by decide) (by omega) (fun h20 => ?_) (fun h20 => ?_)
                      · skip
                        exact kret 0 (rds u (skp (u 1) (u 0 1) (u 0 2)) 4 (u 0 5) p) _ _ (⟨_, _, _, rfl, by rw [hbp]; exact rd_bad (by omega) (by omega) (by omega) (by omega)⟩) dX11_reads_443
                      · exfalso; omega
                    · exfalso; omega
                  · exfalso; omega
                · skip
                  refine z_iconst C dX11_reads_115 ?_
                  refine z_goto C 120 dX11_reads_116 (by decide) ?_
                  refine z_put C hK (hDD _) inX11_reads_X11 tyX11 tyX11_ok nmX11 0 (WM_0 a c ((up (up u 0 (2) (p)) 0 (3) (skp (u 1) (u 0 1) (u 0 2))))) rfl 4 (by decide) (List.mem_of_getElem? (i := 5) rfl) rfl rfl rfl (Nat.le_of_ble_eq_true rfl) (WM_0_p4 a c ((up (up u 0 (2) (p)) 0 (3) (skp (u 1) (u 0 1) (u 0 2)))) 3) dX11_reads_120 ?_
                  refine z_aload_n C 1 dX11_reads_123 rfl ?_
                  refine z_get C hK (v := .int (zI 3)) inX11_reads_X11 0 (WM_0 a c ((up (up (up u 0 (2) (p)) 0 (3) (skp (u 1) (u 0 1) (u 0 2))) 0 (4) (3)))) rfl 4 (by decide) (List.mem_of_getElem? (i := 5) rfl) rfl dX11_reads_124 ?_
                  refine z_iconst C dX11_reads_127 ?_
                  refine z_icmp_ne C 296 dX11_reads_128 (by decide) (by omega) (fun h21 => ?_) (fun h21 => ?_)
                  · skip
                    refine z_aload_n C 1 dX11_reads_296 rfl ?_
                    refine z_get C hK (v := .int (zI 3)) inX11_reads_X11 0 (WM_0 a c ((up (up (up u 0 (2) (p)) 0 (3) (skp (u 1) (u 0 1) (u 0 2))) 0 (4) (3)))) rfl 4 (by decide) (List.mem_of_getElem? (i := 5) rfl) rfl dX11_reads_297 ?_
                    refine z_iconst C dX11_reads_300 ?_
                    refine z_icmp_ne C 425 dX11_reads_301 (by decide) (by omega) (fun h22 => ?_) (fun h22 => ?_)
                    · skip
                      refine z_aload_n C 1 dX11_reads_425 rfl ?_
                      refine z_get C hK (v := .int (zI 3)) inX11_reads_X11 0 (WM_0 a c ((up (up (up u 0 (2) (p)) 0 (3) (skp (u 1) (u 0 1) (u 0 2))) 0 (4) (3)))) rfl 4 (by decide) (List.mem_of_getElem? (i := 5) rfl) rfl dX11_reads_426 ?_
                      refine z_iconst C dX11_reads_429 ?_
                      refine z_icmp_ne C 443 dX11_reads_430 (by decide) (by omega) (fun h23 => ?_) (fun h23 => ?_)
                      · exfalso; omega
                      · skip
                        refine z_aload_n C 1 dX11_reads_433 rfl ?_
                        refine z_dup C dX11_reads_434 rfl ?_
                        refine z_get C hK (v := .int (zI p)) inX11_reads_X11 0 (WM_0 a c ((up (up (up u 0 (2) (p)) 0 (3) (skp (u 1) (u 0 1) (u 0 2))) 0 (4) (3)))) rfl 2 (by decide) (List.mem_of_getElem? (i := 1) rfl) rfl dX11_reads_435 ?_
                        refine z_iconst C dX11_reads_438 ?_
                        refine z_iadd C dX11_reads_439 ?_
                        refine z_put C hK (hDD _) inX11_reads_X11 tyX11 tyX11_ok nmX11 0 (WM_0 a c ((up (up (up u 0 (2) (p)) 0 (3) (skp (u 1) (u 0 1) (u 0 2))) 0 (4) (3)))) rfl 2 (by decide) (List.mem_of_getElem? (i := 1) rfl) rfl rfl rfl (Nat.le_of_ble_eq_true rfl) (WM_0_p2 a c ((up (up (up u 0 (2) (p)) 0 (3) (skp (u 1) (u 0 1) (u 0 2))) 0 (4) (3))) (p + 1)) dX11_reads_440 ?_
                        exact kret 0 (rds u (skp (u 1) (u 0 1) (u 0 2)) 3 (u 0 5) (p + 1)) _ _ (⟨_, _, _, rfl, by rw [hbp]; exact rd_semi (by omega) (by omega)⟩) dX11_reads_443
                    · exfalso; omega
                  · exfalso; omega
              · skip
                refine z_iconst C dX11_reads_105 ?_
                refine z_goto C 120 dX11_reads_106 (by decide) ?_
                refine z_put C hK (hDD _) inX11_reads_X11 tyX11 tyX11_ok nmX11 0 (WM_0 a c ((up (up u 0 (2) (p)) 0 (3) (skp (u 1) (u 0 1) (u 0 2))))) rfl 4 (by decide) (List.mem_of_getElem? (i := 5) rfl) rfl rfl rfl (Nat.le_of_ble_eq_true rfl) (WM_0_p4 a c ((up (up u 0 (2) (p)) 0 (3) (skp (u 1) (u 0 1) (u 0 2)))) 2) dX11_reads_120 ?_
                refine z_aload_n C 1 dX11_reads_123 rfl ?_
                refine z_get C hK (v := .int (zI 2)) inX11_reads_X11 0 (WM_0 a c ((up (up (up u 0 (2) (p)) 0 (3) (skp (u 1) (u 0 1) (u 0 2))) 0 (4) (2)))) rfl 4 (by decide) (List.mem_of_getElem? (i := 5) rfl) rfl dX11_reads_124 ?_
                refine z_iconst C dX11_reads_127 ?_
                refine z_icmp_ne C 296 dX11_reads_128 (by decide) (by omega) (fun h24 => ?_) (fun h24 => ?_)
                · skip
                  refine z_aload_n C 1 dX11_reads_296 rfl ?_
                  refine z_get C hK (v := .int (zI 2)) inX11_reads_X11 0 (WM_0 a c ((up (up (up u 0 (2) (p)) 0 (3) (skp (u 1) (u 0 1) (u 0 2))) 0 (4) (2)))) rfl 4 (by decide) (List.mem_of_getElem? (i := 5) rfl) rfl dX11_reads_297 ?_
                  refine z_iconst C dX11_reads_300 ?_
                  refine z_icmp_ne C 425 dX11_reads_301 (by decide) (by omega) (fun h25 => ?_) (fun h25 => ?_)
                  · exfalso; omega
                  · skip
                    refine z_iconst C dX11_reads_304 ?_
                    refine z_istore_n C [(2, .int (zI 0)), (1, .int (zI (u 1 (p)))), (0, .ref (a 0))] dX11_reads_305 rfl (by decide) rfl ?_
                    have L306_26 : ∀ (fu : Nat) (q : Int) (v : Int), (p ≤ q ∧ q ≤ u 0 1) → (∀ j : Int, p ≤ j → j < q → 48 ≤ u 1 j ∧ u 1 j ≤ 57) → (q = p ∨ eor (u 1) (u 0 1) 48 57 (p + 1) = eor (u 1) (u 0 1) 48 57 q) → (v = nva (u 1) p (q - p).toNat) → (p < u 0 1 ∧ 48 ≤ u 1 p ∧ u 1 p ≤ 57) → u 0 1 - q < (fu : Int) → Z x 0 0 (WM a c (up (up (up u 0 (2) (q)) 0 (3) (skp (u 1) (u 0 1) (u 0 2))) 0 (4) (2))) [(0, .ref (a 0)), (1, .int (zI (u 1 p))), (2, .int (zI v))] 306 [] := by
                      intro fu
                      induction fu with
                      | zero => intro q v hq hl he hv hpl hmeas; exfalso; omega
                      | succ fu ih306 =>
                        intro q v hq hl he hv hpl hmeas
                        skip
                        refine z_aload_n C 0 dX11_reads_306 rfl ?_
                        refine z_get C hK (v := .int (zI q)) inX11_reads_X11 0 (WM_0 a c ((up (up (up u 0 (2) (q)) 0 (3) (skp (u 1) (u 0 1) (u 0 2))) 0 (4) (2)))) rfl 2 (by decide) (List.mem_of_getElem? (i := 1) rfl) rfl dX11_reads_307 ?_
                        refine z_aload_n C 0 dX11_reads_310 rfl ?_
                        refine z_get C hK (v := .int (zI (u 0 1))) inX11_reads_X11 0 (WM_0 a c ((up (up (up u 0 (2) (q)) 0 (3) (skp (u 1) (u 0 1) (u 0 2))) 0 (4) (2)))) rfl 1 (by decide) (List.mem_of_getElem? (i := 2) rfl) rfl dX11_reads_311 ?_
                        refine z_icmp_ge C 373 dX11_reads_314 (by decide) (by omega) (fun h27 => ?_) (fun h27 => ?_)
                        · skip
                          have hxq : ¬ (q < u 0 1 ∧ 48 ≤ u 1 q ∧ u 1 q ≤ 57) := by omega
                          have hvb := nva_bd (q - p).toNat (fun j g0 g1 => hl j g0 (by omega))
                          rw [← hv] at hvb
                          refine z_iload_n C 2 dX11_reads_373 rfl ?_
                          refine z_bipush C dX11_reads_374 (by decide) ?_
                          refine z_icmp_gt C 398 dX11_reads_376 (by decide) (by omega) (fun h28 => ?_) (fun h28 => ?_)
                          · skip
                            refine z_iconst C dX11_reads_398 ?_
                            refine z_goto C 403 dX11_reads_399 (by decide) ?_
                            refine z_istore_n C [(3, .int (zI 1)), (0, .ref (a 0)), (1, .int (zI (u 1 p))), (2, .int (zI v))] dX11_reads_403 rfl (by decide) rfl ?_
                            refine z_aload_n C 1 dX11_reads_404 rfl ?_
                            refine z_iload_n C 3 dX11_reads_405 rfl ?_
                            refine z_put C hK (hDD _) inX11_reads_X11 tyX11 tyX11_ok nmX11 0 (WM_0 a c ((up (up (up u 0 (2) (q)) 0 (3) (skp (u 1) (u 0 1) (u 0 2))) 0 (4) (2)))) rfl 5 (by decide) (List.mem_of_getElem? (i := 13) rfl) rfl rfl rfl (Nat.le_of_ble_eq_true rfl) (WM_0_p5 a c ((up (up (up u 0 (2) (q)) 0 (3) (skp (u 1) (u 0 1) (u 0 2))) 0 (4) (2))) v) dX11_reads_406 ?_
                            refine z_aload_n C 1 dX11_reads_409 rfl ?_
                            refine z_iload_n C 0 dX11_reads_410 rfl ?_
                            refine z_if_eq C 418 dX11_reads_411 (by decide) (by omega) (fun h29 => ?_) (fun h29 => ?_)
                            · exfalso; omega
                            · skip
                              refine z_iconst C dX11_reads_414 ?_
                              refine z_goto C 419 dX11_reads_415 (by decide) ?_
                              refine z_put C hK (hDD _) inX11_reads_X11 tyX11 tyX11_ok nmX11 0 (WM_0 a c ((up (up (up (up u 0 (2) (q)) 0 (3) (skp (u 1) (u 0 1) (u 0 2))) 0 (4) (2)) 0 (5) (v)))) rfl 4 (by decide) (List.mem_of_getElem? (i := 5) rfl) rfl rfl rfl (Nat.le_of_ble_eq_true rfl) (WM_0_p4 a c ((up (up (up (up u 0 (2) (q)) 0 (3) (skp (u 1) (u 0 1) (u 0 2))) 0 (4) (2)) 0 (5) (v))) 4) dX11_reads_419 ?_
                              refine z_goto C 443 dX11_reads_422 (by decide) ?_
                              exact kret 0 (rds u (skp (u 1) (u 0 1) (u 0 2)) 4 v q) _ _ (⟨_, _, _, rfl, by rw [hbp]; exact rd_num hpl.1 hpl.2 hq hl he hxq hv (Or.inl ⟨by omega, rfl⟩)⟩) dX11_reads_443
                          · skip
                            refine z_aload_n C 0 dX11_reads_379 rfl ?_
                            refine z_get C hK (v := .int (zI q)) inX11_reads_X11 0 (WM_0 a c ((up (up (up u 0 (2) (q)) 0 (3) (skp (u 1) (u 0 1) (u 0 2))) 0 (4) (2)))) rfl 2 (by decide) (List.mem_of_getElem? (i := 1) rfl) rfl dX11_reads_380 ?_
                            refine z_aload_n C 0 dX11_reads_383 rfl ?_
                            refine z_get C hK (v := .int (zI (skp (u 1) (u 0 1) (u 0 2)))) inX11_reads_X11 0 (WM_0 a c ((up (up (up u 0 (2) (q)) 0 (3) (skp (u 1) (u 0 1) (u 0 2))) 0 (4) (2)))) rfl 3 (by decide) (List.mem_of_getElem? (i := 4) rfl) rfl dX11_reads_384 ?_
                            refine z_isub C dX11_reads_387 ?_
                            refine z_iconst C dX11_reads_388 ?_
                            refine z_icmp_le C 402 dX11_reads_389 (by decide) (by omega) (fun h30 => ?_) (fun h30 => ?_)
                            · skip
                              refine z_iconst C dX11_reads_402 ?_
                              refine z_istore_n C [(3, .int (zI 0)), (0, .ref (a 0)), (1, .int (zI (u 1 p))), (2, .int (zI v))] dX11_reads_403 rfl (by decide) rfl ?_
                              refine z_aload_n C 1 dX11_reads_404 rfl ?_
                              refine z_iload_n C 3 dX11_reads_405 rfl ?_
                              refine z_put C hK (hDD _) inX11_reads_X11 tyX11 tyX11_ok nmX11 0 (WM_0 a c ((up (up (up u 0 (2) (q)) 0 (3) (skp (u 1) (u 0 1) (u 0 2))) 0 (4) (2)))) rfl 5 (by decide) (List.mem_of_getElem? (i := 13) rfl) rfl rfl rfl (Nat.le_of_ble_eq_true rfl) (WM_0_p5 a c ((up (up (up u 0 (2) (q)) 0 (3) (skp (u 1) (u 0 1) (u 0 2))) 0 (4) (2))) v) dX11_reads_406 ?_
                              refine z_aload_n C 1 dX11_reads_409 rfl ?_
                              refine z_iload_n C 0 dX11_reads_410 rfl ?_
                              refine z_if_eq C 418 dX11_reads_411 (by decide) (by omega) (fun h31 => ?_) (fun h31 => ?_)
                              · skip
                                refine z_iconst C dX11_reads_418 ?_
                                refine z_put C hK (hDD _) inX11_reads_X11 tyX11 tyX11_ok nmX11 0 (WM_0 a c ((up (up (up (up u 0 (2) (q)) 0 (3) (skp (u 1) (u 0 1) (u 0 2))) 0 (4) (2)) 0 (5) (v)))) rfl 4 (by decide) (List.mem_of_getElem? (i := 5) rfl) rfl rfl rfl (Nat.le_of_ble_eq_true rfl) (WM_0_p4 a c ((up (up (up (up u 0 (2) (q)) 0 (3) (skp (u 1) (u 0 1) (u 0 2))) 0 (4) (2)) 0 (5) (v))) 2) dX11_reads_419 ?_
                                refine z_goto C 443 dX11_reads_422 (by decide) ?_
                                exact kret 0 (rds u (skp (u 1) (u 0 1) (u 0 2)) 2 v q) _ _ (⟨_, _, _, rfl, by rw [hbp]; exact rd_num hpl.1 hpl.2 hq hl he hxq hv (Or.inr ⟨by omega, rfl⟩)⟩) dX11_reads_443
                              · exfalso; omega
                            · skip
                              refine z_iload_n C 1 dX11_reads_392 rfl ?_
                              refine z_bipush C dX11_reads_393 (by decide) ?_
                              refine z_icmp_ne C 402 dX11_reads_395 (by decide) (by omega) (fun h32 => ?_) (fun h32 => ?_)
                              · skip
                                refine z_iconst C dX11_reads_402 ?_
                                refine z_istore_n C [(3, .int (zI 0)), (0, .ref (a 0)), (1, .int (zI (u 1 p))), (2, .int (zI v))] dX11_reads_403 rfl (by decide) rfl ?_
                                refine z_aload_n C 1 dX11_reads_404 rfl ?_
                                refine z_iload_n C 3 dX11_reads_405 rfl ?_
                                refine z_put C hK (hDD _) inX11_reads_X11 tyX11 tyX11_ok nmX11 0 (WM_0 a c ((up (up (up u 0 (2) (q)) 0 (3) (skp (u 1) (u 0 1) (u 0 2))) 0 (4) (2)))) rfl 5 (by decide) (List.mem_of_getElem? (i := 13) rfl) rfl rfl rfl (Nat.le_of_ble_eq_true rfl) (WM_0_p5 a c ((up (up (up u 0 (2) (q)) 0 (3) (skp (u 1) (u 0 1) (u 0 2))) 0 (4) (2))) v) dX11_reads_406 ?_
                                refine z_aload_n C 1 dX11_reads_409 rfl ?_
                                refine z_iload_n C 0 dX11_reads_410 rfl ?_
                                refine z_if_eq C 418 dX11_reads_411 (by decide) (by omega) (fun h33 => ?_) (fun h33 => ?_)
                                · skip
                                  refine z_iconst C dX11_reads_418 ?_
                                  refine z_put C hK (hDD _) inX11_reads_X11 tyX11 tyX11_ok nmX11 0 (WM_0 a c ((up (up (up (up u 0 (2) (q)) 0 (3) (skp (u 1) (u 0 1) (u 0 2))) 0 (4) (2)) 0 (5) (v)))) rfl 4 (by decide) (List.mem_of_getElem? (i := 5) rfl) rfl rfl rfl (Nat.le_of_ble_eq_true rfl) (WM_0_p4 a c ((up (up (up (up u 0 (2) (q)) 0 (3) (skp (u 1) (u 0 1) (u 0 2))) 0 (4) (2)) 0 (5) (v))) 2) dX11_reads_419 ?_
                                  refine z_goto C 443 dX11_reads_422 (by decide) ?_
                                  exact kret 0 (rds u (skp (u 1) (u 0 1) (u 0 2)) 2 v q) _ _ (⟨_, _, _, rfl, by rw [hbp]; exact rd_num hpl.1 hpl.2 hq hl he hxq hv (Or.inr ⟨by omega, rfl⟩)⟩) dX11_reads_443
                                · exfalso; omega
                              · skip
                                refine z_iconst C dX11_reads_398 ?_
                                refine z_goto C 403 dX11_reads_399 (by decide) ?_
                                refine z_istore_n C [(3, .int (zI 1)), (0, .ref (a 0)), (1, .int (zI (u 1 p))), (2, .int (zI v))] dX11_reads_403 rfl (by decide) rfl ?_
                                refine z_aload_n C 1 dX11_reads_404 rfl ?_
                                refine z_iload_n C 3 dX11_reads_405 rfl ?_
                                refine z_put C hK (hDD _) inX11_reads_X11 tyX11 tyX11_ok nmX11 0 (WM_0 a c ((up (up (up u 0 (2) (q)) 0 (3) (skp (u 1) (u 0 1) (u 0 2))) 0 (4) (2)))) rfl 5 (by decide) (List.mem_of_getElem? (i := 13) rfl) rfl rfl rfl (Nat.le_of_ble_eq_true rfl) (WM_0_p5 a c ((up (up (up u 0 (2) (q)) 0 (3) (skp (u 1) (u 0 1) (u 0 2))) 0 (4) (2))) v) dX11_reads_406 ?_
                                refine z_aload_n C 1 dX11_reads_409 rfl ?_
                                refine z_iload_n C 0 dX11_reads_410 rfl ?_
                                refine z_if_eq C 418 dX11_reads_411 (by decide) (by omega) (fun h34 => ?_) (fun h34 => ?_)
                                · exfalso; omega
                                · skip
                                  refine z_iconst C dX11_reads_414 ?_
                                  refine z_goto C 419 dX11_reads_415 (by decide) ?_
                                  refine z_put C hK (hDD _) inX11_reads_X11 tyX11 tyX11_ok nmX11 0 (WM_0 a c ((up (up (up (up u 0 (2) (q)) 0 (3) (skp (u 1) (u 0 1) (u 0 2))) 0 (4) (2)) 0 (5) (v)))) rfl 4 (by decide) (List.mem_of_getElem? (i := 5) rfl) rfl rfl rfl (Nat.le_of_ble_eq_true rfl) (WM_0_p4 a c ((up (up (up (up u 0 (2) (q)) 0 (3) (skp (u 1) (u 0 1) (u 0 2))) 0 (4) (2)) 0 (5) (v))) 4) dX11_reads_419 ?_
                                  refine z_goto C 443 dX11_reads_422 (by decide) ?_
                                  exact kret 0 (rds u (skp (u 1) (u 0 1) (u 0 2)) 4 v q) _ _ (⟨_, _, _, rfl, by rw [hbp]; exact rd_num hpl.1 hpl.2 hq hl he hxq hv (Or.inl ⟨by omega, rfl⟩)⟩) dX11_reads_443
                        · skip
                          have hbyq := hI.byte q (by omega) (by omega)
                          refine z_aload_n C 0 dX11_reads_317 rfl ?_
                          refine z_get C hK (v := .ref (a 1)) inX11_reads_X11 0 (WM_0 a c ((up (up (up u 0 (2) (q)) 0 (3) (skp (u 1) (u 0 1) (u 0 2))) 0 (4) (2)))) rfl 0 (by decide) (List.mem_of_getElem? (i := 3) rfl) rfl dX11_reads_318 ?_
                          refine z_aload_n C 0 dX11_reads_321 rfl ?_
                          refine z_get C hK (v := .int (zI q)) inX11_reads_X11 0 (WM_0 a c ((up (up (up u 0 (2) (q)) 0 (3) (skp (u 1) (u 0 1) (u 0 2))) 0 (4) (2)))) rfl 2 (by decide) (List.mem_of_getElem? (i := 1) rfl) rfl dX11_reads_322 ?_
                          refine z_iald C hK 0 (g := (u 1)) (i := q) 1 (WM_1 a c ((up (up (up u 0 (2) (q)) 0 (3) (skp (u 1) (u 0 1) (u 0 2))) 0 (4) (2)))) rfl (by decide) (by omega) dX11_reads_325 ?_
                          refine z_as (b := u 1 (q)) rfl ?_
                          refine z_callS C hK hDD (c_X11_isFigure (zl x) (zG x) ((WM a c)) (WM_addr a c) ((up (up (up u 0 (2) (q)) 0 (3) (skp (u 1) (u 0 1) (u 0 2))) 0 (4) (2))) (u 1 (q)) (by omega)) gX11_reads_X11_isFigure rfl rfl zy_X11_isFigure ⟨by omega, by decide⟩ rfl (Nat.le_of_ble_eq_true rfl) (st := []) (stk2 := fun z35 => [.int (zI z35)]) rfl (fun _ => rfl) dX11_reads_326 (fun z35 u36 h37 => ?_)
                          rw [h37.1]; replace h37 := h37.2
                          replace h37 : ((z35 = 1 ∧ 48 ≤ (u 1 (q)) ∧ (u 1 (q)) ≤ 57) ∨ (z35 = 0 ∧ ¬ (48 ≤ (u 1 (q)) ∧ (u 1 (q)) ≤ 57))) := h37
                          have KFq := h37
                          refine z_if_eq C 373 dX11_reads_329 (by decide) (by omega) (fun h38 => ?_) (fun h38 => ?_)
                          · skip
                            have hxq : ¬ (q < u 0 1 ∧ 48 ≤ u 1 q ∧ u 1 q ≤ 57) := by omega
                            have hvb := nva_bd (q - p).toNat (fun j g0 g1 => hl j g0 (by omega))
                            rw [← hv] at hvb
                            refine z_iload_n C 2 dX11_reads_373 rfl ?_
                            refine z_bipush C dX11_reads_374 (by decide) ?_
                            refine z_icmp_gt C 398 dX11_reads_376 (by decide) (by omega) (fun h39 => ?_) (fun h39 => ?_)
                            · skip
                              refine z_iconst C dX11_reads_398 ?_
                              refine z_goto C 403 dX11_reads_399 (by decide) ?_
                              refine z_istore_n C [(3, .int (zI 1)), (0, .ref (a 0)), (1, .int (zI (u 1 p))), (2, .int (zI v))] dX11_reads_403 rfl (by decide) rfl ?_
                              refine z_aload_n C 1 dX11_reads_404 rfl ?_
                              refine z_iload_n C 3 dX11_reads_405 rfl ?_
                              refine z_put C hK (hDD _) inX11_reads_X11 tyX11 tyX11_ok nmX11 0 (WM_0 a c ((up (up (up u 0 (2) (q)) 0 (3) (skp (u 1) (u 0 1) (u 0 2))) 0 (4) (2)))) rfl 5 (by decide) (List.mem_of_getElem? (i := 13) rfl) rfl rfl rfl (Nat.le_of_ble_eq_true rfl) (WM_0_p5 a c ((up (up (up u 0 (2) (q)) 0 (3) (skp (u 1) (u 0 1) (u 0 2))) 0 (4) (2))) v) dX11_reads_406 ?_
                              refine z_aload_n C 1 dX11_reads_409 rfl ?_
                              refine z_iload_n C 0 dX11_reads_410 rfl ?_
                              refine z_if_eq C 418 dX11_reads_411 (by decide) (by omega) (fun h40 => ?_) (fun h40 => ?_)
                              · exfalso; omega
                              · skip
                                refine z_iconst C dX11_reads_414 ?_
                                refine z_goto C 419 dX11_reads_415 (by decide) ?_
                                refine z_put C hK (hDD _) inX11_reads_X11 tyX11 tyX11_ok nmX11 0 (WM_0 a c ((up (up (up (up u 0 (2) (q)) 0 (3) (skp (u 1) (u 0 1) (u 0 2))) 0 (4) (2)) 0 (5) (v)))) rfl 4 (by decide) (List.mem_of_getElem? (i := 5) rfl) rfl rfl rfl (Nat.le_of_ble_eq_true rfl) (WM_0_p4 a c ((up (up (up (up u 0 (2) (q)) 0 (3) (skp (u 1) (u 0 1) (u 0 2))) 0 (4) (2)) 0 (5) (v))) 4) dX11_reads_419 ?_
                                refine z_goto C 443 dX11_reads_422 (by decide) ?_
                                exact kret 0 (rds u (skp (u 1) (u 0 1) (u 0 2)) 4 v q) _ _ (⟨_, _, _, rfl, by rw [hbp]; exact rd_num hpl.1 hpl.2 hq hl he hxq hv (Or.inl ⟨by omega, rfl⟩)⟩) dX11_reads_443
                            · skip
                              refine z_aload_n C 0 dX11_reads_379 rfl ?_
                              refine z_get C hK (v := .int (zI q)) inX11_reads_X11 0 (WM_0 a c ((up (up (up u 0 (2) (q)) 0 (3) (skp (u 1) (u 0 1) (u 0 2))) 0 (4) (2)))) rfl 2 (by decide) (List.mem_of_getElem? (i := 1) rfl) rfl dX11_reads_380 ?_
                              refine z_aload_n C 0 dX11_reads_383 rfl ?_
                              refine z_get C hK (v := .int (zI (skp (u 1) (u 0 1) (u 0 2)))) inX11_reads_X11 0 (WM_0 a c ((up (up (up u 0 (2) (q)) 0 (3) (skp (u 1) (u 0 1) (u 0 2))) 0 (4) (2)))) rfl 3 (by decide) (List.mem_of_getElem? (i := 4) rfl) rfl dX11_reads_384 ?_
                              refine z_isub C dX11_reads_387 ?_
                              refine z_iconst C dX11_reads_388 ?_
                              refine z_icmp_le C 402 dX11_reads_389 (by decide) (by omega) (fun h41 => ?_) (fun h41 => ?_)
                              · skip
                                refine z_iconst C dX11_reads_402 ?_
                                refine z_istore_n C [(3, .int (zI 0)), (0, .ref (a 0)), (1, .int (zI (u 1 p))), (2, .int (zI v))] dX11_reads_403 rfl (by decide) rfl ?_
                                refine z_aload_n C 1 dX11_reads_404 rfl ?_
                                refine z_iload_n C 3 dX11_reads_405 rfl ?_
                                refine z_put C hK (hDD _) inX11_reads_X11 tyX11 tyX11_ok nmX11 0 (WM_0 a c ((up (up (up u 0 (2) (q)) 0 (3) (skp (u 1) (u 0 1) (u 0 2))) 0 (4) (2)))) rfl 5 (by decide) (List.mem_of_getElem? (i := 13) rfl) rfl rfl rfl (Nat.le_of_ble_eq_true rfl) (WM_0_p5 a c ((up (up (up u 0 (2) (q)) 0 (3) (skp (u 1) (u 0 1) (u 0 2))) 0 (4) (2))) v) dX11_reads_406 ?_
                                refine z_aload_n C 1 dX11_reads_409 rfl ?_
                                refine z_iload_n C 0 dX11_reads_410 rfl ?_
                                refine z_if_eq C 418 dX11_reads_411 (by decide) (by omega) (fun h42 => ?_) (fun h42 => ?_)
                                · skip
                                  refine z_iconst C dX11_reads_418 ?_
                                  refine z_put C hK (hDD _) inX11_reads_X11 tyX11 tyX11_ok nmX11 0 (WM_0 a c ((up (up (up (up u 0 (2) (q)) 0 (3) (skp (u 1) (u 0 1) (u 0 2))) 0 (4) (2)) 0 (5) (v)))) rfl 4 (by decide) (List.mem_of_getElem? (i := 5) rfl) rfl rfl rfl (Nat.le_of_ble_eq_true rfl) (WM_0_p4 a c ((up (up (up (up u 0 (2) (q)) 0 (3) (skp (u 1) (u 0 1) (u 0 2))) 0 (4) (2)) 0 (5) (v))) 2) dX11_reads_419 ?_
                                  refine z_goto C 443 dX11_reads_422 (by decide) ?_
                                  exact kret 0 (rds u (skp (u 1) (u 0 1) (u 0 2)) 2 v q) _ _ (⟨_, _, _, rfl, by rw [hbp]; exact rd_num hpl.1 hpl.2 hq hl he hxq hv (Or.inr ⟨by omega, rfl⟩)⟩) dX11_reads_443
                                · exfalso; omega
                              · skip
                                refine z_iload_n C 1 dX11_reads_392 rfl ?_
                                refine z_bipush C dX11_reads_393 (by decide) ?_
                                refine z_icmp_ne C 402 dX11_reads_395 (by decide) (by omega) (fun h43 => ?_) (fun h43 => ?_)
                                · skip
                                  refine z_iconst C dX11_reads_402 ?_
                                  refine z_istore_n C [(3, .int (zI 0)), (0, .ref (a 0)), (1, .int (zI (u 1 p))), (2, .int (zI v))] dX11_reads_403 rfl (by decide) rfl ?_
                                  refine z_aload_n C 1 dX11_reads_404 rfl ?_
                                  refine z_iload_n C 3 dX11_reads_405 rfl ?_
                                  refine z_put C hK (hDD _) inX11_reads_X11 tyX11 tyX11_ok nmX11 0 (WM_0 a c ((up (up (up u 0 (2) (q)) 0 (3) (skp (u 1) (u 0 1) (u 0 2))) 0 (4) (2)))) rfl 5 (by decide) (List.mem_of_getElem? (i := 13) rfl) rfl rfl rfl (Nat.le_of_ble_eq_true rfl) (WM_0_p5 a c ((up (up (up u 0 (2) (q)) 0 (3) (skp (u 1) (u 0 1) (u 0 2))) 0 (4) (2))) v) dX11_reads_406 ?_
                                  refine z_aload_n C 1 dX11_reads_409 rfl ?_
                                  refine z_iload_n C 0 dX11_reads_410 rfl ?_
                                  refine z_if_eq C 418 dX11_reads_411 (by decide) (by omega) (fun h44 => ?_) (fun h44 => ?_)
                                  · skip
                                    refine z_iconst C dX11_reads_418 ?_
                                    refine z_put C hK (hDD _) inX11_reads_X11 tyX11 tyX11_ok nmX11 0 (WM_0 a c ((up (up (up (up u 0 (2) (q)) 0 (3) (skp (u 1) (u 0 1) (u 0 2))) 0 (4) (2)) 0 (5) (v)))) rfl 4 (by decide) (List.mem_of_getElem? (i := 5) rfl) rfl rfl rfl (Nat.le_of_ble_eq_true rfl) (WM_0_p4 a c ((up (up (up (up u 0 (2) (q)) 0 (3) (skp (u 1) (u 0 1) (u 0 2))) 0 (4) (2)) 0 (5) (v))) 2) dX11_reads_419 ?_
                                    refine z_goto C 443 dX11_reads_422 (by decide) ?_
                                    exact kret 0 (rds u (skp (u 1) (u 0 1) (u 0 2)) 2 v q) _ _ (⟨_, _, _, rfl, by rw [hbp]; exact rd_num hpl.1 hpl.2 hq hl he hxq hv (Or.inr ⟨by omega, rfl⟩)⟩) dX11_reads_443
                                  · exfalso; omega
                                · skip
                                  refine z_iconst C dX11_reads_398 ?_
                                  refine z_goto C 403 dX11_reads_399 (by decide) ?_
                                  refine z_istore_n C [(3, .int (zI 1)), (0, .ref (a 0)), (1, .int (zI (u 1 p))), (2, .int (zI v))] dX11_reads_403 rfl (by decide) rfl ?_
                                  refine z_aload_n C 1 dX11_reads_404 rfl ?_
                                  refine z_iload_n C 3 dX11_reads_405 rfl ?_
                                  refine z_put C hK (hDD _) inX11_reads_X11 tyX11 tyX11_ok nmX11 0 (WM_0 a c ((up (up (up u 0 (2) (q)) 0 (3) (skp (u 1) (u 0 1) (u 0 2))) 0 (4) (2)))) rfl 5 (by decide) (List.mem_of_getElem? (i := 13) rfl) rfl rfl rfl (Nat.le_of_ble_eq_true rfl) (WM_0_p5 a c ((up (up (up u 0 (2) (q)) 0 (3) (skp (u 1) (u 0 1) (u 0 2))) 0 (4) (2))) v) dX11_reads_406 ?_
                                  refine z_aload_n C 1 dX11_reads_409 rfl ?_
                                  refine z_iload_n C 0 dX11_reads_410 rfl ?_
                                  refine z_if_eq C 418 dX11_reads_411 (by decide) (by omega) (fun h45 => ?_) (fun h45 => ?_)
                                  · exfalso; omega
                                  · skip
                                    refine z_iconst C dX11_reads_414 ?_
                                    refine z_goto C 419 dX11_reads_415 (by decide) ?_
                                    refine z_put C hK (hDD _) inX11_reads_X11 tyX11 tyX11_ok nmX11 0 (WM_0 a c ((up (up (up (up u 0 (2) (q)) 0 (3) (skp (u 1) (u 0 1) (u 0 2))) 0 (4) (2)) 0 (5) (v)))) rfl 4 (by decide) (List.mem_of_getElem? (i := 5) rfl) rfl rfl rfl (Nat.le_of_ble_eq_true rfl) (WM_0_p4 a c ((up (up (up (up u 0 (2) (q)) 0 (3) (skp (u 1) (u 0 1) (u 0 2))) 0 (4) (2)) 0 (5) (v))) 4) dX11_reads_419 ?_
                                    refine z_goto C 443 dX11_reads_422 (by decide) ?_
                                    exact kret 0 (rds u (skp (u 1) (u 0 1) (u 0 2)) 4 v q) _ _ (⟨_, _, _, rfl, by rw [hbp]; exact rd_num hpl.1 hpl.2 hq hl he hxq hv (Or.inl ⟨by omega, rfl⟩)⟩) dX11_reads_443
                          · skip
                            have hvb := nva_bd (q - p).toNat (fun j g0 g1 => hl j g0 (by omega))
                            rw [← hv] at hvb
                            refine z_iload_n C 2 dX11_reads_332 rfl ?_
                            refine z_bipush C dX11_reads_333 (by decide) ?_
                            refine z_icmp_le C 342 dX11_reads_335 (by decide) (by omega) (fun h46 => ?_) (fun h46 => ?_)
                            · skip
                              refine z_bipush C dX11_reads_342 (by decide) ?_
                              refine z_iload_n C 2 dX11_reads_344 rfl ?_
                              refine z_imul C dX11_reads_345 ?_
                              refine z_aload_n C 0 dX11_reads_346 rfl ?_
                              refine z_get C hK (v := .ref (a 1)) inX11_reads_X11 0 (WM_0 a c ((up (up (up u 0 (2) (q)) 0 (3) (skp (u 1) (u 0 1) (u 0 2))) 0 (4) (2)))) rfl 0 (by decide) (List.mem_of_getElem? (i := 3) rfl) rfl dX11_reads_347 ?_
                              refine z_aload_n C 0 dX11_reads_350 rfl ?_
                              refine z_get C hK (v := .int (zI q)) inX11_reads_X11 0 (WM_0 a c ((up (up (up u 0 (2) (q)) 0 (3) (skp (u 1) (u 0 1) (u 0 2))) 0 (4) (2)))) rfl 2 (by decide) (List.mem_of_getElem? (i := 1) rfl) rfl dX11_reads_351 ?_
                              refine z_iald C hK 0 (g := (u 1)) (i := q) 1 (WM_1 a c ((up (up (up u 0 (2) (q)) 0 (3) (skp (u 1) (u 0 1) (u 0 2))) 0 (4) (2)))) rfl (by decide) (by omega) dX11_reads_354 ?_
                              refine z_as (b := u 1 (q)) rfl ?_
                              refine z_iadd C dX11_reads_355 ?_
                              refine z_bipush C dX11_reads_356 (by decide) ?_
                              refine z_isub C dX11_reads_358 ?_
                              refine z_istore_n C [(2, .int (zI (((10 * v) + (u 1 (q))) - 48))), (0, .ref (a 0)), (1, .int (zI (u 1 p)))] dX11_reads_359 rfl (by decide) rfl ?_
                              refine z_aload_n C 1 dX11_reads_360 rfl ?_
                              refine z_dup C dX11_reads_361 rfl ?_
                              refine z_get C hK (v := .int (zI q)) inX11_reads_X11 0 (WM_0 a c ((up (up (up u 0 (2) (q)) 0 (3) (skp (u 1) (u 0 1) (u 0 2))) 0 (4) (2)))) rfl 2 (by decide) (List.mem_of_getElem? (i := 1) rfl) rfl dX11_reads_362 ?_
                              refine z_iconst C dX11_reads_365 ?_
                              refine z_iadd C dX11_reads_366 ?_
                              refine z_put C hK (hDD _) inX11_reads_X11 tyX11 tyX11_ok nmX11 0 (WM_0 a c ((up (up (up u 0 (2) (q)) 0 (3) (skp (u 1) (u 0 1) (u 0 2))) 0 (4) (2)))) rfl 2 (by decide) (List.mem_of_getElem? (i := 1) rfl) rfl rfl rfl (Nat.le_of_ble_eq_true rfl) (WM_0_p2 a c ((up (up (up u 0 (2) (q)) 0 (3) (skp (u 1) (u 0 1) (u 0 2))) 0 (4) (2))) (q + 1)) dX11_reads_367 ?_
                              refine z_goto C 306 dX11_reads_370 (by decide) ?_
                              refine z_lv [(0, .ref (a 0)), (1, .int (zI (u 1 p))), (2, .int (zI (((10 * v) + (u 1 (q))) - 48)))] [1, 2, 0] rfl ?_
                              exact ih306 (q + 1) (((10 * v) + (u 1 (q))) - 48) (by omega) (lt_put hl (by omega)) (Or.inr (lt_run (by omega) he (by omega))) (by first | exact nv_more hq.1 hv (by omega) | exact nv_full hq.1 hv (by omega)) (hpl) (by omega)
                            · skip
                              refine z_iload_n C 2 dX11_reads_338 rfl ?_
                              refine z_goto C 359 dX11_reads_339 (by decide) ?_
                              refine z_istore_n C [(2, .int (zI v)), (0, .ref (a 0)), (1, .int (zI (u 1 p)))] dX11_reads_359 rfl (by decide) rfl ?_
                              refine z_aload_n C 1 dX11_reads_360 rfl ?_
                              refine z_dup C dX11_reads_361 rfl ?_
                              refine z_get C hK (v := .int (zI q)) inX11_reads_X11 0 (WM_0 a c ((up (up (up u 0 (2) (q)) 0 (3) (skp (u 1) (u 0 1) (u 0 2))) 0 (4) (2)))) rfl 2 (by decide) (List.mem_of_getElem? (i := 1) rfl) rfl dX11_reads_362 ?_
                              refine z_iconst C dX11_reads_365 ?_
                              refine z_iadd C dX11_reads_366 ?_
                              refine z_put C hK (hDD _) inX11_reads_X11 tyX11 tyX11_ok nmX11 0 (WM_0 a c ((up (up (up u 0 (2) (q)) 0 (3) (skp (u 1) (u 0 1) (u 0 2))) 0 (4) (2)))) rfl 2 (by decide) (List.mem_of_getElem? (i := 1) rfl) rfl rfl rfl (Nat.le_of_ble_eq_true rfl) (WM_0_p2 a c ((up (up (up u 0 (2) (q)) 0 (3) (skp (u 1) (u 0 1) (u 0 2))) 0 (4) (2))) (q + 1)) dX11_reads_367 ?_
                              refine z_goto C 306 dX11_reads_370 (by decide) ?_
                              refine z_lv [(0, .ref (a 0)), (1, .int (zI (u 1 p))), (2, .int (zI v))] [1, 2, 0] rfl ?_
                              exact ih306 (q + 1) v (by omega) (lt_put hl (by omega)) (Or.inr (lt_run (by omega) he (by omega))) (by first | exact nv_more hq.1 hv (by omega) | exact nv_full hq.1 hv (by omega)) (hpl) (by omega)
                    refine z_lv [(0, .ref (a 0)), (1, .int (zI (u 1 (p)))), (2, .int (zI 0))] [2, 1, 0] rfl ?_
                    exact L306_26 (((u 0 1 - p : Int)).toNat + 1) p 0 (by omega) (fun j h0 h1 => absurd h1 (by omega)) (Or.inl rfl) (by rw [Int.sub_self]; rfl) (by omega) (by omega)
                · exfalso; omega
            · skip
              refine z_iconst C dX11_reads_94 ?_
              refine z_goto C 120 dX11_reads_95 (by decide) ?_
              refine z_put C hK (hDD _) inX11_reads_X11 tyX11 tyX11_ok nmX11 0 (WM_0 a c ((up (up u 0 (2) (p)) 0 (3) (skp (u 1) (u 0 1) (u 0 2))))) rfl 4 (by decide) (List.mem_of_getElem? (i := 5) rfl) rfl rfl rfl (Nat.le_of_ble_eq_true rfl) (WM_0_p4 a c ((up (up u 0 (2) (p)) 0 (3) (skp (u 1) (u 0 1) (u 0 2)))) 1) dX11_reads_120 ?_
              refine z_aload_n C 1 dX11_reads_123 rfl ?_
              refine z_get C hK (v := .int (zI 1)) inX11_reads_X11 0 (WM_0 a c ((up (up (up u 0 (2) (p)) 0 (3) (skp (u 1) (u 0 1) (u 0 2))) 0 (4) (1)))) rfl 4 (by decide) (List.mem_of_getElem? (i := 5) rfl) rfl dX11_reads_124 ?_
              refine z_iconst C dX11_reads_127 ?_
              refine z_icmp_ne C 296 dX11_reads_128 (by decide) (by omega) (fun h47 => ?_) (fun h47 => ?_)
              · exfalso; omega
              · skip
                refine z_lconst C (z := 0) dX11_reads_131 (by decide) ?_
                refine z_lstore_n C [(2, .long (zL 0)), (1, .int (zI (u 1 (p)))), (0, .ref (a 0))] dX11_reads_132 rfl (by decide) rfl ?_
                have L133_48 : ∀ (fu : Nat) (q : Int) (v : Int), (p ≤ q ∧ q ≤ u 0 1) → (∀ j : Int, p ≤ j → j < q → 97 ≤ u 1 j ∧ u 1 j ≤ 122) → (q = p ∨ eor (u 1) (u 0 1) 97 122 (p + 1) = eor (u 1) (u 0 1) 97 122 q) → (v = lvl (u 1) p (q - p).toNat) → (p < u 0 1 ∧ 97 ≤ u 1 p ∧ u 1 p ≤ 122) → u 0 1 - q < (fu : Int) → Z x 0 0 (WM a c (up (up (up u 0 (2) (q)) 0 (3) (skp (u 1) (u 0 1) (u 0 2))) 0 (4) (1))) [(0, .ref (a 0)), (1, .int (zI (u 1 p))), (2, .long (zL v))] 133 [] := by
                  intro fu
                  induction fu with
                  | zero => intro q v hq hl he hv hpl hmeas; exfalso; omega
                  | succ fu ih133 =>
                    intro q v hq hl he hv hpl hmeas
                    skip
                    refine z_aload_n C 0 dX11_reads_133 rfl ?_
                    refine z_get C hK (v := .int (zI q)) inX11_reads_X11 0 (WM_0 a c ((up (up (up u 0 (2) (q)) 0 (3) (skp (u 1) (u 0 1) (u 0 2))) 0 (4) (1)))) rfl 2 (by decide) (List.mem_of_getElem? (i := 1) rfl) rfl dX11_reads_134 ?_
                    refine z_aload_n C 0 dX11_reads_137 rfl ?_
                    refine z_get C hK (v := .int (zI (u 0 1))) inX11_reads_X11 0 (WM_0 a c ((up (up (up u 0 (2) (q)) 0 (3) (skp (u 1) (u 0 1) (u 0 2))) 0 (4) (1)))) rfl 1 (by decide) (List.mem_of_getElem? (i := 2) rfl) rfl dX11_reads_138 ?_
                    refine z_icmp_ge C 209 dX11_reads_141 (by decide) (by omega) (fun h49 => ?_) (fun h49 => ?_)
                    · skip
                      have hxq : ¬ (q < u 0 1 ∧ 97 ≤ u 1 q ∧ u 1 q ≤ 122) := by omega
                      have hvr2 := lvl_rng (q - p).toNat (fun j g0 g1 => hl j g0 (by omega))
                      rw [← hv] at hvr2
                      refine z_aload_n C 0 dX11_reads_209 rfl ?_
                      refine z_lload_n C 2 dX11_reads_210 rfl ?_
                      refine z_ldc2 C (v := 465558725996) (z := 465558725996) (by decide) (List.mem_of_getElem? (i := 8) rfl) dX11_reads_211 ?_
                      refine z_lcmp C dX11_reads_214 (by omega) (fun r50 h51 => ?_)
                      refine z_if_ne C 222 dX11_reads_215 (by decide) (by omega) (fun h52 => ?_) (fun h52 => ?_)
                      · have w0n : v ≠ 465558725996 := by omega
                        refine z_lload_n C 2 dX11_reads_222 rfl ?_
                        refine z_ldc2 C (v := 7168366) (z := 7168366) (by decide) (List.mem_of_getElem? (i := 9) rfl) dX11_reads_223 ?_
                        refine z_lcmp C dX11_reads_226 (by omega) (fun r53 h54 => ?_)
                        refine z_if_ne C 234 dX11_reads_227 (by decide) (by omega) (fun h55 => ?_) (fun h55 => ?_)
                        · have w1n : v ≠ 7168366 := by omega
                          refine z_lload_n C 2 dX11_reads_234 rfl ?_
                          refine z_ldc2 C (v := 6644082) (z := 6644082) (by decide) (List.mem_of_getElem? (i := 10) rfl) dX11_reads_235 ?_
                          refine z_lcmp C dX11_reads_238 (by omega) (fun r56 h57 => ?_)
                          refine z_if_ne C 246 dX11_reads_239 (by decide) (by omega) (fun h58 => ?_) (fun h58 => ?_)
                          · have w2n : v ≠ 6644082 := by omega
                            refine z_lload_n C 2 dX11_reads_246 rfl ?_
                            refine z_ldc2 C (v := 7824756) (z := 7824756) (by decide) (List.mem_of_getElem? (i := 11) rfl) dX11_reads_247 ?_
                            refine z_lcmp C dX11_reads_250 (by omega) (fun r59 h60 => ?_)
                            refine z_if_ne C 258 dX11_reads_251 (by decide) (by omega) (fun h61 => ?_) (fun h61 => ?_)
                            · have w3n : v ≠ 7824756 := by omega
                              refine z_lload_n C 2 dX11_reads_258 rfl ?_
                              refine z_ldc2 C (v := 1885430629) (z := 1885430629) (by decide) (List.mem_of_getElem? (i := 12) rfl) dX11_reads_259 ?_
                              refine z_lcmp C dX11_reads_262 (by omega) (fun r62 h63 => ?_)
                              refine z_if_ne C 270 dX11_reads_263 (by decide) (by omega) (fun h64 => ?_) (fun h64 => ?_)
                              · have w4n : v ≠ 1885430629 := by omega
                                refine z_bipush C dX11_reads_270 (by decide) ?_
                                refine z_put C hK (hDD _) inX11_reads_X11 tyX11 tyX11_ok nmX11 0 (WM_0 a c ((up (up (up u 0 (2) (q)) 0 (3) (skp (u 1) (u 0 1) (u 0 2))) 0 (4) (1)))) rfl 5 (by decide) (List.mem_of_getElem? (i := 13) rfl) rfl rfl rfl (Nat.le_of_ble_eq_true rfl) (WM_0_p5 a c ((up (up (up u 0 (2) (q)) 0 (3) (skp (u 1) (u 0 1) (u 0 2))) 0 (4) (1))) (-9)) dX11_reads_272 ?_
                                refine z_aload_n C 0 dX11_reads_275 rfl ?_
                                refine z_aload_n C 0 dX11_reads_276 rfl ?_
                                refine z_get C hK (v := .int (zI (-9))) inX11_reads_X11 0 (WM_0 a c ((up (up (up (up u 0 (2) (q)) 0 (3) (skp (u 1) (u 0 1) (u 0 2))) 0 (4) (1)) 0 (5) (-9)))) rfl 5 (by decide) (List.mem_of_getElem? (i := 13) rfl) rfl dX11_reads_277 ?_
                                refine z_bipush C dX11_reads_280 (by decide) ?_
                                refine z_icmp_ne C 289 dX11_reads_282 (by decide) (by omega) (fun h65 => ?_) (fun h65 => ?_)
                                · exfalso; omega
                                · skip
                                  refine z_iconst C dX11_reads_285 ?_
                                  refine z_goto C 290 dX11_reads_286 (by decide) ?_
                                  refine z_put C hK (hDD _) inX11_reads_X11 tyX11 tyX11_ok nmX11 0 (WM_0 a c ((up (up (up (up u 0 (2) (q)) 0 (3) (skp (u 1) (u 0 1) (u 0 2))) 0 (4) (1)) 0 (5) (-9)))) rfl 4 (by decide) (List.mem_of_getElem? (i := 5) rfl) rfl rfl rfl (Nat.le_of_ble_eq_true rfl) (WM_0_p4 a c ((up (up (up (up u 0 (2) (q)) 0 (3) (skp (u 1) (u 0 1) (u 0 2))) 0 (4) (1)) 0 (5) (-9))) 4) dX11_reads_290 ?_
                                  refine z_goto C 443 dX11_reads_293 (by decide) ?_
                                  exact kret 0 (rds u (skp (u 1) (u 0 1) (u 0 2)) 4 (-9) q) _ _ (⟨_, _, _, rfl, by rw [hbp]; exact rd_word hpl.1 hpl.2 hq hl he hxq hv (Or.inr (Or.inr (Or.inr (Or.inr (Or.inr ⟨w0n, w1n, w2n, w3n, w4n, rfl⟩)))))⟩) dX11_reads_443
                              · have w4 : v = 1885430629 := by omega
                                refine z_iconst C dX11_reads_266 ?_
                                refine z_goto C 272 dX11_reads_267 (by decide) ?_
                                refine z_put C hK (hDD _) inX11_reads_X11 tyX11 tyX11_ok nmX11 0 (WM_0 a c ((up (up (up u 0 (2) (q)) 0 (3) (skp (u 1) (u 0 1) (u 0 2))) 0 (4) (1)))) rfl 5 (by decide) (List.mem_of_getElem? (i := 13) rfl) rfl rfl rfl (Nat.le_of_ble_eq_true rfl) (WM_0_p5 a c ((up (up (up u 0 (2) (q)) 0 (3) (skp (u 1) (u 0 1) (u 0 2))) 0 (4) (1))) 4) dX11_reads_272 ?_
                                refine z_aload_n C 0 dX11_reads_275 rfl ?_
                                refine z_aload_n C 0 dX11_reads_276 rfl ?_
                                refine z_get C hK (v := .int (zI 4)) inX11_reads_X11 0 (WM_0 a c ((up (up (up (up u 0 (2) (q)) 0 (3) (skp (u 1) (u 0 1) (u 0 2))) 0 (4) (1)) 0 (5) (4)))) rfl 5 (by decide) (List.mem_of_getElem? (i := 13) rfl) rfl dX11_reads_277 ?_
                                refine z_bipush C dX11_reads_280 (by decide) ?_
                                refine z_icmp_ne C 289 dX11_reads_282 (by decide) (by omega) (fun h66 => ?_) (fun h66 => ?_)
                                · skip
                                  refine z_iconst C dX11_reads_289 ?_
                                  refine z_put C hK (hDD _) inX11_reads_X11 tyX11 tyX11_ok nmX11 0 (WM_0 a c ((up (up (up (up u 0 (2) (q)) 0 (3) (skp (u 1) (u 0 1) (u 0 2))) 0 (4) (1)) 0 (5) (4)))) rfl 4 (by decide) (List.mem_of_getElem? (i := 5) rfl) rfl rfl rfl (Nat.le_of_ble_eq_true rfl) (WM_0_p4 a c ((up (up (up (up u 0 (2) (q)) 0 (3) (skp (u 1) (u 0 1) (u 0 2))) 0 (4) (1)) 0 (5) (4))) 1) dX11_reads_290 ?_
                                  refine z_goto C 443 dX11_reads_293 (by decide) ?_
                                  exact kret 0 (rds u (skp (u 1) (u 0 1) (u 0 2)) 1 4 q) _ _ (⟨_, _, _, rfl, by rw [hbp]; exact rd_word hpl.1 hpl.2 hq hl he hxq hv (Or.inr (Or.inr (Or.inr (Or.inr (Or.inl ⟨w0n, w1n, w2n, w3n, w4, rfl, rfl⟩)))))⟩) dX11_reads_443
                                · exfalso; omega
                            · have w3 : v = 7824756 := by omega
                              refine z_iconst C dX11_reads_254 ?_
                              refine z_goto C 272 dX11_reads_255 (by decide) ?_
                              refine z_put C hK (hDD _) inX11_reads_X11 tyX11 tyX11_ok nmX11 0 (WM_0 a c ((up (up (up u 0 (2) (q)) 0 (3) (skp (u 1) (u 0 1) (u 0 2))) 0 (4) (1)))) rfl 5 (by decide) (List.mem_of_getElem? (i := 13) rfl) rfl rfl rfl (Nat.le_of_ble_eq_true rfl) (WM_0_p5 a c ((up (up (up u 0 (2) (q)) 0 (3) (skp (u 1) (u 0 1) (u 0 2))) 0 (4) (1))) 3) dX11_reads_272 ?_
                              refine z_aload_n C 0 dX11_reads_275 rfl ?_
                              refine z_aload_n C 0 dX11_reads_276 rfl ?_
                              refine z_get C hK (v := .int (zI 3)) inX11_reads_X11 0 (WM_0 a c ((up (up (up (up u 0 (2) (q)) 0 (3) (skp (u 1) (u 0 1) (u 0 2))) 0 (4) (1)) 0 (5) (3)))) rfl 5 (by decide) (List.mem_of_getElem? (i := 13) rfl) rfl dX11_reads_277 ?_
                              refine z_bipush C dX11_reads_280 (by decide) ?_
                              refine z_icmp_ne C 289 dX11_reads_282 (by decide) (by omega) (fun h67 => ?_) (fun h67 => ?_)
                              · skip
                                refine z_iconst C dX11_reads_289 ?_
                                refine z_put C hK (hDD _) inX11_reads_X11 tyX11 tyX11_ok nmX11 0 (WM_0 a c ((up (up (up (up u 0 (2) (q)) 0 (3) (skp (u 1) (u 0 1) (u 0 2))) 0 (4) (1)) 0 (5) (3)))) rfl 4 (by decide) (List.mem_of_getElem? (i := 5) rfl) rfl rfl rfl (Nat.le_of_ble_eq_true rfl) (WM_0_p4 a c ((up (up (up (up u 0 (2) (q)) 0 (3) (skp (u 1) (u 0 1) (u 0 2))) 0 (4) (1)) 0 (5) (3))) 1) dX11_reads_290 ?_
                                refine z_goto C 443 dX11_reads_293 (by decide) ?_
                                exact kret 0 (rds u (skp (u 1) (u 0 1) (u 0 2)) 1 3 q) _ _ (⟨_, _, _, rfl, by rw [hbp]; exact rd_word hpl.1 hpl.2 hq hl he hxq hv (Or.inr (Or.inr (Or.inr (Or.inl ⟨w0n, w1n, w2n, w3, rfl, rfl⟩))))⟩) dX11_reads_443
                              · exfalso; omega
                          · have w2 : v = 6644082 := by omega
                            refine z_iconst C dX11_reads_242 ?_
                            refine z_goto C 272 dX11_reads_243 (by decide) ?_
                            refine z_put C hK (hDD _) inX11_reads_X11 tyX11 tyX11_ok nmX11 0 (WM_0 a c ((up (up (up u 0 (2) (q)) 0 (3) (skp (u 1) (u 0 1) (u 0 2))) 0 (4) (1)))) rfl 5 (by decide) (List.mem_of_getElem? (i := 13) rfl) rfl rfl rfl (Nat.le_of_ble_eq_true rfl) (WM_0_p5 a c ((up (up (up u 0 (2) (q)) 0 (3) (skp (u 1) (u 0 1) (u 0 2))) 0 (4) (1))) 2) dX11_reads_272 ?_
                            refine z_aload_n C 0 dX11_reads_275 rfl ?_
                            refine z_aload_n C 0 dX11_reads_276 rfl ?_
                            refine z_get C hK (v := .int (zI 2)) inX11_reads_X11 0 (WM_0 a c ((up (up (up (up u 0 (2) (q)) 0 (3) (skp (u 1) (u 0 1) (u 0 2))) 0 (4) (1)) 0 (5) (2)))) rfl 5 (by decide) (List.mem_of_getElem? (i := 13) rfl) rfl dX11_reads_277 ?_
                            refine z_bipush C dX11_reads_280 (by decide) ?_
                            refine z_icmp_ne C 289 dX11_reads_282 (by decide) (by omega) (fun h68 => ?_) (fun h68 => ?_)
                            · skip
                              refine z_iconst C dX11_reads_289 ?_
                              refine z_put C hK (hDD _) inX11_reads_X11 tyX11 tyX11_ok nmX11 0 (WM_0 a c ((up (up (up (up u 0 (2) (q)) 0 (3) (skp (u 1) (u 0 1) (u 0 2))) 0 (4) (1)) 0 (5) (2)))) rfl 4 (by decide) (List.mem_of_getElem? (i := 5) rfl) rfl rfl rfl (Nat.le_of_ble_eq_true rfl) (WM_0_p4 a c ((up (up (up (up u 0 (2) (q)) 0 (3) (skp (u 1) (u 0 1) (u 0 2))) 0 (4) (1)) 0 (5) (2))) 1) dX11_reads_290 ?_
                              refine z_goto C 443 dX11_reads_293 (by decide) ?_
                              exact kret 0 (rds u (skp (u 1) (u 0 1) (u 0 2)) 1 2 q) _ _ (⟨_, _, _, rfl, by rw [hbp]; exact rd_word hpl.1 hpl.2 hq hl he hxq hv (Or.inr (Or.inr (Or.inl ⟨w0n, w1n, w2, rfl, rfl⟩)))⟩) dX11_reads_443
                            · exfalso; omega
                        · have w1 : v = 7168366 := by omega
                          refine z_iconst C dX11_reads_230 ?_
                          refine z_goto C 272 dX11_reads_231 (by decide) ?_
                          refine z_put C hK (hDD _) inX11_reads_X11 tyX11 tyX11_ok nmX11 0 (WM_0 a c ((up (up (up u 0 (2) (q)) 0 (3) (skp (u 1) (u 0 1) (u 0 2))) 0 (4) (1)))) rfl 5 (by decide) (List.mem_of_getElem? (i := 13) rfl) rfl rfl rfl (Nat.le_of_ble_eq_true rfl) (WM_0_p5 a c ((up (up (up u 0 (2) (q)) 0 (3) (skp (u 1) (u 0 1) (u 0 2))) 0 (4) (1))) 1) dX11_reads_272 ?_
                          refine z_aload_n C 0 dX11_reads_275 rfl ?_
                          refine z_aload_n C 0 dX11_reads_276 rfl ?_
                          refine z_get C hK (v := .int (zI 1)) inX11_reads_X11 0 (WM_0 a c ((up (up (up (up u 0 (2) (q)) 0 (3) (skp (u 1) (u 0 1) (u 0 2))) 0 (4) (1)) 0 (5) (1)))) rfl 5 (by decide) (List.mem_of_getElem? (i := 13) rfl) rfl dX11_reads_277 ?_
                          refine z_bipush C dX11_reads_280 (by decide) ?_
                          refine z_icmp_ne C 289 dX11_reads_282 (by decide) (by omega) (fun h69 => ?_) (fun h69 => ?_)
                          · skip
                            refine z_iconst C dX11_reads_289 ?_
                            refine z_put C hK (hDD _) inX11_reads_X11 tyX11 tyX11_ok nmX11 0 (WM_0 a c ((up (up (up (up u 0 (2) (q)) 0 (3) (skp (u 1) (u 0 1) (u 0 2))) 0 (4) (1)) 0 (5) (1)))) rfl 4 (by decide) (List.mem_of_getElem? (i := 5) rfl) rfl rfl rfl (Nat.le_of_ble_eq_true rfl) (WM_0_p4 a c ((up (up (up (up u 0 (2) (q)) 0 (3) (skp (u 1) (u 0 1) (u 0 2))) 0 (4) (1)) 0 (5) (1))) 1) dX11_reads_290 ?_
                            refine z_goto C 443 dX11_reads_293 (by decide) ?_
                            exact kret 0 (rds u (skp (u 1) (u 0 1) (u 0 2)) 1 1 q) _ _ (⟨_, _, _, rfl, by rw [hbp]; exact rd_word hpl.1 hpl.2 hq hl he hxq hv (Or.inr (Or.inl ⟨w0n, w1, rfl, rfl⟩))⟩) dX11_reads_443
                          · exfalso; omega
                      · have w0 : v = 465558725996 := by omega
                        refine z_iconst C dX11_reads_218 ?_
                        refine z_goto C 272 dX11_reads_219 (by decide) ?_
                        refine z_put C hK (hDD _) inX11_reads_X11 tyX11 tyX11_ok nmX11 0 (WM_0 a c ((up (up (up u 0 (2) (q)) 0 (3) (skp (u 1) (u 0 1) (u 0 2))) 0 (4) (1)))) rfl 5 (by decide) (List.mem_of_getElem? (i := 13) rfl) rfl rfl rfl (Nat.le_of_ble_eq_true rfl) (WM_0_p5 a c ((up (up (up u 0 (2) (q)) 0 (3) (skp (u 1) (u 0 1) (u 0 2))) 0 (4) (1))) 0) dX11_reads_272 ?_
                        refine z_aload_n C 0 dX11_reads_275 rfl ?_
                        refine z_aload_n C 0 dX11_reads_276 rfl ?_
                        refine z_get C hK (v := .int (zI 0)) inX11_reads_X11 0 (WM_0 a c ((up (up (up (up u 0 (2) (q)) 0 (3) (skp (u 1) (u 0 1) (u 0 2))) 0 (4) (1)) 0 (5) (0)))) rfl 5 (by decide) (List.mem_of_getElem? (i := 13) rfl) rfl dX11_reads_277 ?_
                        refine z_bipush C dX11_reads_280 (by decide) ?_
                        refine z_icmp_ne C 289 dX11_reads_282 (by decide) (by omega) (fun h70 => ?_) (fun h70 => ?_)
                        · skip
                          refine z_iconst C dX11_reads_289 ?_
                          refine z_put C hK (hDD _) inX11_reads_X11 tyX11 tyX11_ok nmX11 0 (WM_0 a c ((up (up (up (up u 0 (2) (q)) 0 (3) (skp (u 1) (u 0 1) (u 0 2))) 0 (4) (1)) 0 (5) (0)))) rfl 4 (by decide) (List.mem_of_getElem? (i := 5) rfl) rfl rfl rfl (Nat.le_of_ble_eq_true rfl) (WM_0_p4 a c ((up (up (up (up u 0 (2) (q)) 0 (3) (skp (u 1) (u 0 1) (u 0 2))) 0 (4) (1)) 0 (5) (0))) 1) dX11_reads_290 ?_
                          refine z_goto C 443 dX11_reads_293 (by decide) ?_
                          exact kret 0 (rds u (skp (u 1) (u 0 1) (u 0 2)) 1 0 q) _ _ (⟨_, _, _, rfl, by rw [hbp]; exact rd_word hpl.1 hpl.2 hq hl he hxq hv (Or.inl ⟨w0, rfl, rfl⟩)⟩) dX11_reads_443
                        · exfalso; omega
                    · skip
                      have hbyq := hI.byte q (by omega) (by omega)
                      refine z_aload_n C 0 dX11_reads_144 rfl ?_
                      refine z_get C hK (v := .ref (a 1)) inX11_reads_X11 0 (WM_0 a c ((up (up (up u 0 (2) (q)) 0 (3) (skp (u 1) (u 0 1) (u 0 2))) 0 (4) (1)))) rfl 0 (by decide) (List.mem_of_getElem? (i := 3) rfl) rfl dX11_reads_145 ?_
                      refine z_aload_n C 0 dX11_reads_148 rfl ?_
                      refine z_get C hK (v := .int (zI q)) inX11_reads_X11 0 (WM_0 a c ((up (up (up u 0 (2) (q)) 0 (3) (skp (u 1) (u 0 1) (u 0 2))) 0 (4) (1)))) rfl 2 (by decide) (List.mem_of_getElem? (i := 1) rfl) rfl dX11_reads_149 ?_
                      refine z_iald C hK 0 (g := (u 1)) (i := q) 1 (WM_1 a c ((up (up (up u 0 (2) (q)) 0 (3) (skp (u 1) (u 0 1) (u 0 2))) 0 (4) (1)))) rfl (by decide) (by omega) dX11_reads_152 ?_
                      refine z_as (b := u 1 (q)) rfl ?_
                      refine z_callS C hK hDD (c_X11_isLetter (zl x) (zG x) ((WM a c)) (WM_addr a c) ((up (up (up u 0 (2) (q)) 0 (3) (skp (u 1) (u 0 1) (u 0 2))) 0 (4) (1))) (u 1 (q)) (by omega)) gX11_reads_X11_isLetter rfl rfl zy_X11_isLetter ⟨by omega, by decide⟩ rfl (Nat.le_of_ble_eq_true rfl) (st := []) (stk2 := fun z71 => [.int (zI z71)]) rfl (fun _ => rfl) dX11_reads_153 (fun z71 u72 h73 => ?_)
                      rw [h73.1]; replace h73 := h73.2
                      replace h73 : ((z71 = 1 ∧ 97 ≤ (u 1 (q)) ∧ (u 1 (q)) ≤ 122) ∨ (z71 = 0 ∧ ¬ (97 ≤ (u 1 (q)) ∧ (u 1 (q)) ≤ 122))) := h73
                      have KLq := h73
                      refine z_if_eq C 209 dX11_reads_156 (by decide) (by omega) (fun h74 => ?_) (fun h74 => ?_)
                      · skip
                        have hxq : ¬ (q < u 0 1 ∧ 97 ≤ u 1 q ∧ u 1 q ≤ 122) := by omega
                        have hvr2 := lvl_rng (q - p).toNat (fun j g0 g1 => hl j g0 (by omega))
                        rw [← hv] at hvr2
                        refine z_aload_n C 0 dX11_reads_209 rfl ?_
                        refine z_lload_n C 2 dX11_reads_210 rfl ?_
                        refine z_ldc2 C (v := 465558725996) (z := 465558725996) (by decide) (List.mem_of_getElem? (i := 8) rfl) dX11_reads_211 ?_
                        refine z_lcmp C dX11_reads_214 (by omega) (fun r75 h76 => ?_)
                        refine z_if_ne C 222 dX11_reads_215 (by decide) (by omega) (fun h77 => ?_) (fun h77 => ?_)
                        · have w0n : v ≠ 465558725996 := by omega
                          refine z_lload_n C 2 dX11_reads_222 rfl ?_
                          refine z_ldc2 C (v := 7168366) (z := 7168366) (by decide) (List.mem_of_getElem? (i := 9) rfl) dX11_reads_223 ?_
                          refine z_lcmp C dX11_reads_226 (by omega) (fun r78 h79 => ?_)
                          refine z_if_ne C 234 dX11_reads_227 (by decide) (by omega) (fun h80 => ?_) (fun h80 => ?_)
                          · have w1n : v ≠ 7168366 := by omega
                            refine z_lload_n C 2 dX11_reads_234 rfl ?_
                            refine z_ldc2 C (v := 6644082) (z := 6644082) (by decide) (List.mem_of_getElem? (i := 10) rfl) dX11_reads_235 ?_
                            refine z_lcmp C dX11_reads_238 (by omega) (fun r81 h82 => ?_)
                            refine z_if_ne C 246 dX11_reads_239 (by decide) (by omega) (fun h83 => ?_) (fun h83 => ?_)
                            · have w2n : v ≠ 6644082 := by omega
                              refine z_lload_n C 2 dX11_reads_246 rfl ?_
                              refine z_ldc2 C (v := 7824756) (z := 7824756) (by decide) (List.mem_of_getElem? (i := 11) rfl) dX11_reads_247 ?_
                              refine z_lcmp C dX11_reads_250 (by omega) (fun r84 h85 => ?_)
                              refine z_if_ne C 258 dX11_reads_251 (by decide) (by omega) (fun h86 => ?_) (fun h86 => ?_)
                              · have w3n : v ≠ 7824756 := by omega
                                refine z_lload_n C 2 dX11_reads_258 rfl ?_
                                refine z_ldc2 C (v := 1885430629) (z := 1885430629) (by decide) (List.mem_of_getElem? (i := 12) rfl) dX11_reads_259 ?_
                                refine z_lcmp C dX11_reads_262 (by omega) (fun r87 h88 => ?_)
                                refine z_if_ne C 270 dX11_reads_263 (by decide) (by omega) (fun h89 => ?_) (fun h89 => ?_)
                                · have w4n : v ≠ 1885430629 := by omega
                                  refine z_bipush C dX11_reads_270 (by decide) ?_
                                  refine z_put C hK (hDD _) inX11_reads_X11 tyX11 tyX11_ok nmX11 0 (WM_0 a c ((up (up (up u 0 (2) (q)) 0 (3) (skp (u 1) (u 0 1) (u 0 2))) 0 (4) (1)))) rfl 5 (by decide) (List.mem_of_getElem? (i := 13) rfl) rfl rfl rfl (Nat.le_of_ble_eq_true rfl) (WM_0_p5 a c ((up (up (up u 0 (2) (q)) 0 (3) (skp (u 1) (u 0 1) (u 0 2))) 0 (4) (1))) (-9)) dX11_reads_272 ?_
                                  refine z_aload_n C 0 dX11_reads_275 rfl ?_
                                  refine z_aload_n C 0 dX11_reads_276 rfl ?_
                                  refine z_get C hK (v := .int (zI (-9))) inX11_reads_X11 0 (WM_0 a c ((up (up (up (up u 0 (2) (q)) 0 (3) (skp (u 1) (u 0 1) (u 0 2))) 0 (4) (1)) 0 (5) (-9)))) rfl 5 (by decide) (List.mem_of_getElem? (i := 13) rfl) rfl dX11_reads_277 ?_
                                  refine z_bipush C dX11_reads_280 (by decide) ?_
                                  refine z_icmp_ne C 289 dX11_reads_282 (by decide) (by omega) (fun h90 => ?_) (fun h90 => ?_)
                                  · exfalso; omega
                                  · skip
                                    refine z_iconst C dX11_reads_285 ?_
                                    refine z_goto C 290 dX11_reads_286 (by decide) ?_
                                    refine z_put C hK (hDD _) inX11_reads_X11 tyX11 tyX11_ok nmX11 0 (WM_0 a c ((up (up (up (up u 0 (2) (q)) 0 (3) (skp (u 1) (u 0 1) (u 0 2))) 0 (4) (1)) 0 (5) (-9)))) rfl 4 (by decide) (List.mem_of_getElem? (i := 5) rfl) rfl rfl rfl (Nat.le_of_ble_eq_true rfl) (WM_0_p4 a c ((up (up (up (up u 0 (2) (q)) 0 (3) (skp (u 1) (u 0 1) (u 0 2))) 0 (4) (1)) 0 (5) (-9))) 4) dX11_reads_290 ?_
                                    refine z_goto C 443 dX11_reads_293 (by decide) ?_
                                    exact kret 0 (rds u (skp (u 1) (u 0 1) (u 0 2)) 4 (-9) q) _ _ (⟨_, _, _, rfl, by rw [hbp]; exact rd_word hpl.1 hpl.2 hq hl he hxq hv (Or.inr (Or.inr (Or.inr (Or.inr (Or.inr ⟨w0n, w1n, w2n, w3n, w4n, rfl⟩)))))⟩) dX11_reads_443
                                · have w4 : v = 1885430629 := by omega
                                  refine z_iconst C dX11_reads_266 ?_
                                  refine z_goto C 272 dX11_reads_267 (by decide) ?_
                                  refine z_put C hK (hDD _) inX11_reads_X11 tyX11 tyX11_ok nmX11 0 (WM_0 a c ((up (up (up u 0 (2) (q)) 0 (3) (skp (u 1) (u 0 1) (u 0 2))) 0 (4) (1)))) rfl 5 (by decide) (List.mem_of_getElem? (i := 13) rfl) rfl rfl rfl (Nat.le_of_ble_eq_true rfl) (WM_0_p5 a c ((up (up (up u 0 (2) (q)) 0 (3) (skp (u 1) (u 0 1) (u 0 2))) 0 (4) (1))) 4) dX11_reads_272 ?_
                                  refine z_aload_n C 0 dX11_reads_275 rfl ?_
                                  refine z_aload_n C 0 dX11_reads_276 rfl ?_
                                  refine z_get C hK (v := .int (zI 4)) inX11_reads_X11 0 (WM_0 a c ((up (up (up (up u 0 (2) (q)) 0 (3) (skp (u 1) (u 0 1) (u 0 2))) 0 (4) (1)) 0 (5) (4)))) rfl 5 (by decide) (List.mem_of_getElem? (i := 13) rfl) rfl dX11_reads_277 ?_
                                  refine z_bipush C dX11_reads_280 (by decide) ?_
                                  refine z_icmp_ne C 289 dX11_reads_282 (by decide) (by omega) (fun h91 => ?_) (fun h91 => ?_)
                                  · skip
                                    refine z_iconst C dX11_reads_289 ?_
                                    refine z_put C hK (hDD _) inX11_reads_X11 tyX11 tyX11_ok nmX11 0 (WM_0 a c ((up (up (up (up u 0 (2) (q)) 0 (3) (skp (u 1) (u 0 1) (u 0 2))) 0 (4) (1)) 0 (5) (4)))) rfl 4 (by decide) (List.mem_of_getElem? (i := 5) rfl) rfl rfl rfl (Nat.le_of_ble_eq_true rfl) (WM_0_p4 a c ((up (up (up (up u 0 (2) (q)) 0 (3) (skp (u 1) (u 0 1) (u 0 2))) 0 (4) (1)) 0 (5) (4))) 1) dX11_reads_290 ?_
                                    refine z_goto C 443 dX11_reads_293 (by decide) ?_
                                    exact kret 0 (rds u (skp (u 1) (u 0 1) (u 0 2)) 1 4 q) _ _ (⟨_, _, _, rfl, by rw [hbp]; exact rd_word hpl.1 hpl.2 hq hl he hxq hv (Or.inr (Or.inr (Or.inr (Or.inr (Or.inl ⟨w0n, w1n, w2n, w3n, w4, rfl, rfl⟩)))))⟩) dX11_reads_443
                                  · exfalso; omega
                              · have w3 : v = 7824756 := by omega
                                refine z_iconst C dX11_reads_254 ?_
                                refine z_goto C 272 dX11_reads_255 (by decide) ?_
                                refine z_put C hK (hDD _) inX11_reads_X11 tyX11 tyX11_ok nmX11 0 (WM_0 a c ((up (up (up u 0 (2) (q)) 0 (3) (skp (u 1) (u 0 1) (u 0 2))) 0 (4) (1)))) rfl 5 (by decide) (List.mem_of_getElem? (i := 13) rfl) rfl rfl rfl (Nat.le_of_ble_eq_true rfl) (WM_0_p5 a c ((up (up (up u 0 (2) (q)) 0 (3) (skp (u 1) (u 0 1) (u 0 2))) 0 (4) (1))) 3) dX11_reads_272 ?_
                                refine z_aload_n C 0 dX11_reads_275 rfl ?_
                                refine z_aload_n C 0 dX11_reads_276 rfl ?_
                                refine z_get C hK (v := .int (zI 3)) inX11_reads_X11 0 (WM_0 a c ((up (up (up (up u 0 (2) (q)) 0 (3) (skp (u 1) (u 0 1) (u 0 2))) 0 (4) (1)) 0 (5) (3)))) rfl 5 (by decide) (List.mem_of_getElem? (i := 13) rfl) rfl dX11_reads_277 ?_
                                refine z_bipush C dX11_reads_280 (by decide) ?_
                                refine z_icmp_ne C 289 dX11_reads_282 (by decide) (by omega) (fun h92 => ?_) (fun h92 => ?_)
                                · skip
                                  refine z_iconst C dX11_reads_289 ?_
                                  refine z_put C hK (hDD _) inX11_reads_X11 tyX11 tyX11_ok nmX11 0 (WM_0 a c ((up (up (up (up u 0 (2) (q)) 0 (3) (skp (u 1) (u 0 1) (u 0 2))) 0 (4) (1)) 0 (5) (3)))) rfl 4 (by decide) (List.mem_of_getElem? (i := 5) rfl) rfl rfl rfl (Nat.le_of_ble_eq_true rfl) (WM_0_p4 a c ((up (up (up (up u 0 (2) (q)) 0 (3) (skp (u 1) (u 0 1) (u 0 2))) 0 (4) (1)) 0 (5) (3))) 1) dX11_reads_290 ?_
                                  refine z_goto C 443 dX11_reads_293 (by decide) ?_
                                  exact kret 0 (rds u (skp (u 1) (u 0 1) (u 0 2)) 1 3 q) _ _ (⟨_, _, _, rfl, by rw [hbp]; exact rd_word hpl.1 hpl.2 hq hl he hxq hv (Or.inr (Or.inr (Or.inr (Or.inl ⟨w0n, w1n, w2n, w3, rfl, rfl⟩))))⟩) dX11_reads_443
                                · exfalso; omega
                            · have w2 : v = 6644082 := by omega
                              refine z_iconst C dX11_reads_242 ?_
                              refine z_goto C 272 dX11_reads_243 (by decide) ?_
                              refine z_put C hK (hDD _) inX11_reads_X11 tyX11 tyX11_ok nmX11 0 (WM_0 a c ((up (up (up u 0 (2) (q)) 0 (3) (skp (u 1) (u 0 1) (u 0 2))) 0 (4) (1)))) rfl 5 (by decide) (List.mem_of_getElem? (i := 13) rfl) rfl rfl rfl (Nat.le_of_ble_eq_true rfl) (WM_0_p5 a c ((up (up (up u 0 (2) (q)) 0 (3) (skp (u 1) (u 0 1) (u 0 2))) 0 (4) (1))) 2) dX11_reads_272 ?_
                              refine z_aload_n C 0 dX11_reads_275 rfl ?_
                              refine z_aload_n C 0 dX11_reads_276 rfl ?_
                              refine z_get C hK (v := .int (zI 2)) inX11_reads_X11 0 (WM_0 a c ((up (up (up (up u 0 (2) (q)) 0 (3) (skp (u 1) (u 0 1) (u 0 2))) 0 (4) (1)) 0 (5) (2)))) rfl 5 (by decide) (List.mem_of_getElem? (i := 13) rfl) rfl dX11_reads_277 ?_
                              refine z_bipush C dX11_reads_280 (by decide) ?_
                              refine z_icmp_ne C 289 dX11_reads_282 (by decide) (by omega) (fun h93 => ?_) (fun h93 => ?_)
                              · skip
                                refine z_iconst C dX11_reads_289 ?_
                                refine z_put C hK (hDD _) inX11_reads_X11 tyX11 tyX11_ok nmX11 0 (WM_0 a c ((up (up (up (up u 0 (2) (q)) 0 (3) (skp (u 1) (u 0 1) (u 0 2))) 0 (4) (1)) 0 (5) (2)))) rfl 4 (by decide) (List.mem_of_getElem? (i := 5) rfl) rfl rfl rfl (Nat.le_of_ble_eq_true rfl) (WM_0_p4 a c ((up (up (up (up u 0 (2) (q)) 0 (3) (skp (u 1) (u 0 1) (u 0 2))) 0 (4) (1)) 0 (5) (2))) 1) dX11_reads_290 ?_
                                refine z_goto C 443 dX11_reads_293 (by decide) ?_
                                exact kret 0 (rds u (skp (u 1) (u 0 1) (u 0 2)) 1 2 q) _ _ (⟨_, _, _, rfl, by rw [hbp]; exact rd_word hpl.1 hpl.2 hq hl he hxq hv (Or.inr (Or.inr (Or.inl ⟨w0n, w1n, w2, rfl, rfl⟩)))⟩) dX11_reads_443
                              · exfalso; omega
                          · have w1 : v = 7168366 := by omega
                            refine z_iconst C dX11_reads_230 ?_
                            refine z_goto C 272 dX11_reads_231 (by decide) ?_
                            refine z_put C hK (hDD _) inX11_reads_X11 tyX11 tyX11_ok nmX11 0 (WM_0 a c ((up (up (up u 0 (2) (q)) 0 (3) (skp (u 1) (u 0 1) (u 0 2))) 0 (4) (1)))) rfl 5 (by decide) (List.mem_of_getElem? (i := 13) rfl) rfl rfl rfl (Nat.le_of_ble_eq_true rfl) (WM_0_p5 a c ((up (up (up u 0 (2) (q)) 0 (3) (skp (u 1) (u 0 1) (u 0 2))) 0 (4) (1))) 1) dX11_reads_272 ?_
                            refine z_aload_n C 0 dX11_reads_275 rfl ?_
                            refine z_aload_n C 0 dX11_reads_276 rfl ?_
                            refine z_get C hK (v := .int (zI 1)) inX11_reads_X11 0 (WM_0 a c ((up (up (up (up u 0 (2) (q)) 0 (3) (skp (u 1) (u 0 1) (u 0 2))) 0 (4) (1)) 0 (5) (1)))) rfl 5 (by decide) (List.mem_of_getElem? (i := 13) rfl) rfl dX11_reads_277 ?_
                            refine z_bipush C dX11_reads_280 (by decide) ?_
                            refine z_icmp_ne C 289 dX11_reads_282 (by decide) (by omega) (fun h94 => ?_) (fun h94 => ?_)
                            · skip
                              refine z_iconst C dX11_reads_289 ?_
                              refine z_put C hK (hDD _) inX11_reads_X11 tyX11 tyX11_ok nmX11 0 (WM_0 a c ((up (up (up (up u 0 (2) (q)) 0 (3) (skp (u 1) (u 0 1) (u 0 2))) 0 (4) (1)) 0 (5) (1)))) rfl 4 (by decide) (List.mem_of_getElem? (i := 5) rfl) rfl rfl rfl (Nat.le_of_ble_eq_true rfl) (WM_0_p4 a c ((up (up (up (up u 0 (2) (q)) 0 (3) (skp (u 1) (u 0 1) (u 0 2))) 0 (4) (1)) 0 (5) (1))) 1) dX11_reads_290 ?_
                              refine z_goto C 443 dX11_reads_293 (by decide) ?_
                              exact kret 0 (rds u (skp (u 1) (u 0 1) (u 0 2)) 1 1 q) _ _ (⟨_, _, _, rfl, by rw [hbp]; exact rd_word hpl.1 hpl.2 hq hl he hxq hv (Or.inr (Or.inl ⟨w0n, w1, rfl, rfl⟩))⟩) dX11_reads_443
                            · exfalso; omega
                        · have w0 : v = 465558725996 := by omega
                          refine z_iconst C dX11_reads_218 ?_
                          refine z_goto C 272 dX11_reads_219 (by decide) ?_
                          refine z_put C hK (hDD _) inX11_reads_X11 tyX11 tyX11_ok nmX11 0 (WM_0 a c ((up (up (up u 0 (2) (q)) 0 (3) (skp (u 1) (u 0 1) (u 0 2))) 0 (4) (1)))) rfl 5 (by decide) (List.mem_of_getElem? (i := 13) rfl) rfl rfl rfl (Nat.le_of_ble_eq_true rfl) (WM_0_p5 a c ((up (up (up u 0 (2) (q)) 0 (3) (skp (u 1) (u 0 1) (u 0 2))) 0 (4) (1))) 0) dX11_reads_272 ?_
                          refine z_aload_n C 0 dX11_reads_275 rfl ?_
                          refine z_aload_n C 0 dX11_reads_276 rfl ?_
                          refine z_get C hK (v := .int (zI 0)) inX11_reads_X11 0 (WM_0 a c ((up (up (up (up u 0 (2) (q)) 0 (3) (skp (u 1) (u 0 1) (u 0 2))) 0 (4) (1)) 0 (5) (0)))) rfl 5 (by decide) (List.mem_of_getElem? (i := 13) rfl) rfl dX11_reads_277 ?_
                          refine z_bipush C dX11_reads_280 (by decide) ?_
                          refine z_icmp_ne C 289 dX11_reads_282 (by decide) (by omega) (fun h95 => ?_) (fun h95 => ?_)
                          · skip
                            refine z_iconst C dX11_reads_289 ?_
                            refine z_put C hK (hDD _) inX11_reads_X11 tyX11 tyX11_ok nmX11 0 (WM_0 a c ((up (up (up (up u 0 (2) (q)) 0 (3) (skp (u 1) (u 0 1) (u 0 2))) 0 (4) (1)) 0 (5) (0)))) rfl 4 (by decide) (List.mem_of_getElem? (i := 5) rfl) rfl rfl rfl (Nat.le_of_ble_eq_true rfl) (WM_0_p4 a c ((up (up (up (up u 0 (2) (q)) 0 (3) (skp (u 1) (u 0 1) (u 0 2))) 0 (4) (1)) 0 (5) (0))) 1) dX11_reads_290 ?_
                            refine z_goto C 443 dX11_reads_293 (by decide) ?_
                            exact kret 0 (rds u (skp (u 1) (u 0 1) (u 0 2)) 1 0 q) _ _ (⟨_, _, _, rfl, by rw [hbp]; exact rd_word hpl.1 hpl.2 hq hl he hxq hv (Or.inl ⟨w0, rfl, rfl⟩)⟩) dX11_reads_443
                          · exfalso; omega
                      · skip
                        refine z_aload_n C 0 dX11_reads_159 rfl ?_
                        refine z_get C hK (v := .int (zI q)) inX11_reads_X11 0 (WM_0 a c ((up (up (up u 0 (2) (q)) 0 (3) (skp (u 1) (u 0 1) (u 0 2))) 0 (4) (1)))) rfl 2 (by decide) (List.mem_of_getElem? (i := 1) rfl) rfl dX11_reads_160 ?_
                        refine z_aload_n C 0 dX11_reads_163 rfl ?_
                        refine z_get C hK (v := .int (zI (skp (u 1) (u 0 1) (u 0 2)))) inX11_reads_X11 0 (WM_0 a c ((up (up (up u 0 (2) (q)) 0 (3) (skp (u 1) (u 0 1) (u 0 2))) 0 (4) (1)))) rfl 3 (by decide) (List.mem_of_getElem? (i := 4) rfl) rfl dX11_reads_164 ?_
                        skip
                        refine z_isub C dX11_reads_167 ?_
                        refine z_bipush C dX11_reads_168 (by decide) ?_
                        refine z_icmp_le C 179 dX11_reads_170 (by decide) (by omega) (fun h96 => ?_) (fun h96 => ?_)
                        · skip
                          have hvr := (lvl_rng (q - p).toNat (fun j g0 g1 => hl j g0 (by omega))).2.2 (by omega)
                          rw [← hv] at hvr
                          refine z_lload_n C 2 dX11_reads_179 rfl ?_
                          refine z_ldc2 C (v := 256) (z := 256) (by decide) (List.mem_of_getElem? (i := 7) rfl) dX11_reads_180 ?_
                          refine z_lmul C (v * 256) dX11_reads_183 (zL_mul _ _) ?_
                          refine z_aload_n C 0 dX11_reads_184 rfl ?_
                          refine z_get C hK (v := .ref (a 1)) inX11_reads_X11 0 (WM_0 a c ((up (up (up u 0 (2) (q)) 0 (3) (skp (u 1) (u 0 1) (u 0 2))) 0 (4) (1)))) rfl 0 (by decide) (List.mem_of_getElem? (i := 3) rfl) rfl dX11_reads_185 ?_
                          refine z_aload_n C 0 dX11_reads_188 rfl ?_
                          refine z_get C hK (v := .int (zI q)) inX11_reads_X11 0 (WM_0 a c ((up (up (up u 0 (2) (q)) 0 (3) (skp (u 1) (u 0 1) (u 0 2))) 0 (4) (1)))) rfl 2 (by decide) (List.mem_of_getElem? (i := 1) rfl) rfl dX11_reads_189 ?_
                          refine z_iald C hK 0 (g := (u 1)) (i := q) 1 (WM_1 a c ((up (up (up u 0 (2) (q)) 0 (3) (skp (u 1) (u 0 1) (u 0 2))) 0 (4) (1)))) rfl (by decide) (by omega) dX11_reads_192 ?_
                          refine z_as (b := u 1 (q)) rfl ?_
                          refine z_i2l C dX11_reads_193 (by omega) ?_
                          refine z_ladd C ((v * 256) + (u 1 (q))) dX11_reads_194 (zL_add _ _) ?_
                          refine z_lstore_n C [(2, .long (zL ((v * 256) + (u 1 (q))))), (0, .ref (a 0)), (1, .int (zI (u 1 p)))] dX11_reads_195 rfl (by decide) rfl ?_
                          refine z_aload_n C 1 dX11_reads_196 rfl ?_
                          refine z_dup C dX11_reads_197 rfl ?_
                          refine z_get C hK (v := .int (zI q)) inX11_reads_X11 0 (WM_0 a c ((up (up (up u 0 (2) (q)) 0 (3) (skp (u 1) (u 0 1) (u 0 2))) 0 (4) (1)))) rfl 2 (by decide) (List.mem_of_getElem? (i := 1) rfl) rfl dX11_reads_198 ?_
                          refine z_iconst C dX11_reads_201 ?_
                          refine z_iadd C dX11_reads_202 ?_
                          refine z_put C hK (hDD _) inX11_reads_X11 tyX11 tyX11_ok nmX11 0 (WM_0 a c ((up (up (up u 0 (2) (q)) 0 (3) (skp (u 1) (u 0 1) (u 0 2))) 0 (4) (1)))) rfl 2 (by decide) (List.mem_of_getElem? (i := 1) rfl) rfl rfl rfl (Nat.le_of_ble_eq_true rfl) (WM_0_p2 a c ((up (up (up u 0 (2) (q)) 0 (3) (skp (u 1) (u 0 1) (u 0 2))) 0 (4) (1))) (q + 1)) dX11_reads_203 ?_
                          refine z_goto C 133 dX11_reads_206 (by decide) ?_
                          refine z_lv [(0, .ref (a 0)), (1, .int (zI (u 1 p))), (2, .long (zL ((v * 256) + (u 1 (q)))))] [1, 2, 0] rfl ?_
                          exact ih133 (q + 1) ((v * 256) + (u 1 (q))) (by omega) (lt_put hl (by omega)) (Or.inr (lt_run (by omega) he (by omega))) (by first | exact lv_more hq.1 hv (by omega) | exact lv_full (by omega)) (hpl) (by omega)
                        · skip
                          refine z_ldc2 C (v := (-1)) (z := (-1)) (by decide) (List.mem_of_getElem? (i := 6) rfl) dX11_reads_173 ?_
                          refine z_goto C 195 dX11_reads_176 (by decide) ?_
                          refine z_lstore_n C [(2, .long (zL (-1))), (0, .ref (a 0)), (1, .int (zI (u 1 p)))] dX11_reads_195 rfl (by decide) rfl ?_
                          refine z_aload_n C 1 dX11_reads_196 rfl ?_
                          refine z_dup C dX11_reads_197 rfl ?_
                          refine z_get C hK (v := .int (zI q)) inX11_reads_X11 0 (WM_0 a c ((up (up (up u 0 (2) (q)) 0 (3) (skp (u 1) (u 0 1) (u 0 2))) 0 (4) (1)))) rfl 2 (by decide) (List.mem_of_getElem? (i := 1) rfl) rfl dX11_reads_198 ?_
                          refine z_iconst C dX11_reads_201 ?_
                          refine z_iadd C dX11_reads_202 ?_
                          refine z_put C hK (hDD _) inX11_reads_X11 tyX11 tyX11_ok nmX11 0 (WM_0 a c ((up (up (up u 0 (2) (q)) 0 (3) (skp (u 1) (u 0 1) (u 0 2))) 0 (4) (1)))) rfl 2 (by decide) (List.mem_of_getElem? (i := 1) rfl) rfl rfl rfl (Nat.le_of_ble_eq_true rfl) (WM_0_p2 a c ((up (up (up u 0 (2) (q)) 0 (3) (skp (u 1) (u 0 1) (u 0 2))) 0 (4) (1))) (q + 1)) dX11_reads_203 ?_
                          refine z_goto C 133 dX11_reads_206 (by decide) ?_
                          refine z_lv [(0, .ref (a 0)), (1, .int (zI (u 1 p))), (2, .long (zL (-1)))] [1, 2, 0] rfl ?_
                          exact ih133 (q + 1) (-1) (by omega) (lt_put hl (by omega)) (Or.inr (lt_run (by omega) he (by omega))) (by first | exact lv_more hq.1 hv (by omega) | exact lv_full (by omega)) (hpl) (by omega)
                refine z_lv [(0, .ref (a 0)), (1, .int (zI (u 1 (p)))), (2, .long (zL 0))] [2, 1, 0] rfl ?_
                exact L133_48 (((u 0 1 - p : Int)).toNat + 1) p 0 (by omega) (fun j h0 h1 => absurd h1 (by omega)) (Or.inl rfl) (by rw [Int.sub_self]; rfl) (by omega) (by omega)
          · skip
            refine z_iconst C dX11_reads_83 ?_
            refine z_goto C 120 dX11_reads_84 (by decide) ?_
            refine z_put C hK (hDD _) inX11_reads_X11 tyX11 tyX11_ok nmX11 0 (WM_0 a c ((up (up u 0 (2) (p)) 0 (3) (skp (u 1) (u 0 1) (u 0 2))))) rfl 4 (by decide) (List.mem_of_getElem? (i := 5) rfl) rfl rfl rfl (Nat.le_of_ble_eq_true rfl) (WM_0_p4 a c ((up (up u 0 (2) (p)) 0 (3) (skp (u 1) (u 0 1) (u 0 2)))) 0) dX11_reads_120 ?_
            refine z_aload_n C 1 dX11_reads_123 rfl ?_
            refine z_get C hK (v := .int (zI 0)) inX11_reads_X11 0 (WM_0 a c ((up (up (up u 0 (2) (p)) 0 (3) (skp (u 1) (u 0 1) (u 0 2))) 0 (4) (0)))) rfl 4 (by decide) (List.mem_of_getElem? (i := 5) rfl) rfl dX11_reads_124 ?_
            refine z_iconst C dX11_reads_127 ?_
            refine z_icmp_ne C 296 dX11_reads_128 (by decide) (by omega) (fun h97 => ?_) (fun h97 => ?_)
            · skip
              refine z_aload_n C 1 dX11_reads_296 rfl ?_
              refine z_get C hK (v := .int (zI 0)) inX11_reads_X11 0 (WM_0 a c ((up (up (up u 0 (2) (p)) 0 (3) (skp (u 1) (u 0 1) (u 0 2))) 0 (4) (0)))) rfl 4 (by decide) (List.mem_of_getElem? (i := 5) rfl) rfl dX11_reads_297 ?_
              refine z_iconst C dX11_reads_300 ?_
              refine z_icmp_ne C 425 dX11_reads_301 (by decide) (by omega) (fun h98 => ?_) (fun h98 => ?_)
              · skip
                refine z_aload_n C 1 dX11_reads_425 rfl ?_
                refine z_get C hK (v := .int (zI 0)) inX11_reads_X11 0 (WM_0 a c ((up (up (up u 0 (2) (p)) 0 (3) (skp (u 1) (u 0 1) (u 0 2))) 0 (4) (0)))) rfl 4 (by decide) (List.mem_of_getElem? (i := 5) rfl) rfl dX11_reads_426 ?_
                refine z_iconst C dX11_reads_429 ?_
                refine z_icmp_ne C 443 dX11_reads_430 (by decide) (by omega) (fun h99 => ?_) (fun h99 => ?_)
                · skip
                  exact kret 0 (rds u (skp (u 1) (u 0 1) (u 0 2)) 0 (u 0 5) p) _ _ (⟨_, _, _, rfl, by rw [hbp]; exact rd_end (by omega)⟩) dX11_reads_443
                · exfalso; omega
              · exfalso; omega
            · exfalso; omega
      · skip
        have hby := hI.byte p (by omega) (by omega)
        refine z_aload_n C 0 dX11_reads_11 rfl ?_
        refine z_get C hK (v := .ref (a 1)) inX11_reads_X11 0 (WM_0 a c ((up u 0 (2) (p)))) rfl 0 (by decide) (List.mem_of_getElem? (i := 3) rfl) rfl dX11_reads_12 ?_
        refine z_aload_n C 0 dX11_reads_15 rfl ?_
        refine z_get C hK (v := .int (zI p)) inX11_reads_X11 0 (WM_0 a c ((up u 0 (2) (p)))) rfl 2 (by decide) (List.mem_of_getElem? (i := 1) rfl) rfl dX11_reads_16 ?_
        refine z_iald C hK 0 (g := (u 1)) (i := p) 1 (WM_1 a c ((up u 0 (2) (p)))) rfl (by decide) (by omega) dX11_reads_19 ?_
        refine z_as (b := u 1 (p)) rfl ?_
        refine z_bipush C dX11_reads_20 (by decide) ?_
        refine z_icmp_ne C 38 dX11_reads_22 (by decide) (by omega) (fun h100 => ?_) (fun h100 => ?_)
        · skip
          have hbp : skp (u 1) (u 0 1) (u 0 2) = p := hb.trans (skp_at (by omega))
          refine z_aload_n C 0 dX11_reads_38 rfl ?_
          refine z_aload_n C 0 dX11_reads_39 rfl ?_
          refine z_get C hK (v := .int (zI p)) inX11_reads_X11 0 (WM_0 a c ((up u 0 (2) (p)))) rfl 2 (by decide) (List.mem_of_getElem? (i := 1) rfl) rfl dX11_reads_40 ?_
          refine z_as (b := skp (u 1) (u 0 1) (u 0 2)) (hbp.symm) ?_
          refine z_put C hK (hDD _) inX11_reads_X11 tyX11 tyX11_ok nmX11 0 (WM_0 a c ((up u 0 (2) (p)))) rfl 3 (by decide) (List.mem_of_getElem? (i := 4) rfl) rfl rfl rfl (Nat.le_of_ble_eq_true rfl) (WM_0_p3 a c ((up u 0 (2) (p))) (skp (u 1) (u 0 1) (u 0 2))) dX11_reads_43 ?_
          refine z_aload_n C 0 dX11_reads_46 rfl ?_
          refine z_get C hK (v := .int (zI p)) inX11_reads_X11 0 (WM_0 a c ((up (up u 0 (2) (p)) 0 (3) (skp (u 1) (u 0 1) (u 0 2))))) rfl 2 (by decide) (List.mem_of_getElem? (i := 1) rfl) rfl dX11_reads_47 ?_
          refine z_aload_n C 0 dX11_reads_50 rfl ?_
          refine z_get C hK (v := .int (zI (u 0 1))) inX11_reads_X11 0 (WM_0 a c ((up (up u 0 (2) (p)) 0 (3) (skp (u 1) (u 0 1) (u 0 2))))) rfl 1 (by decide) (List.mem_of_getElem? (i := 2) rfl) rfl dX11_reads_51 ?_
          refine z_icmp_ge C 69 dX11_reads_54 (by decide) (by omega) (fun h101 => ?_) (fun h101 => ?_)
          · skip
            refine z_iconst C dX11_reads_69 ?_
            refine z_istore_n C [(1, .int (zI 0)), (0, .ref (a 0))] dX11_reads_70 rfl (by decide) rfl ?_
            refine z_aload_n C 1 dX11_reads_71 rfl ?_
            refine z_aload_n C 1 dX11_reads_72 rfl ?_
            refine z_get C hK (v := .int (zI p)) inX11_reads_X11 0 (WM_0 a c ((up (up u 0 (2) (p)) 0 (3) (skp (u 1) (u 0 1) (u 0 2))))) rfl 2 (by decide) (List.mem_of_getElem? (i := 1) rfl) rfl dX11_reads_73 ?_
            refine z_aload_n C 1 dX11_reads_76 rfl ?_
            refine z_get C hK (v := .int (zI (u 0 1))) inX11_reads_X11 0 (WM_0 a c ((up (up u 0 (2) (p)) 0 (3) (skp (u 1) (u 0 1) (u 0 2))))) rfl 1 (by decide) (List.mem_of_getElem? (i := 2) rfl) rfl dX11_reads_77 ?_
            refine z_icmp_ne C 87 dX11_reads_80 (by decide) (by omega) (fun h102 => ?_) (fun h102 => ?_)
            · exfalso; omega
            · skip
              refine z_iconst C dX11_reads_83 ?_
              refine z_goto C 120 dX11_reads_84 (by decide) ?_
              refine z_put C hK (hDD _) inX11_reads_X11 tyX11 tyX11_ok nmX11 0 (WM_0 a c ((up (up u 0 (2) (p)) 0 (3) (skp (u 1) (u 0 1) (u 0 2))))) rfl 4 (by decide) (List.mem_of_getElem? (i := 5) rfl) rfl rfl rfl (Nat.le_of_ble_eq_true rfl) (WM_0_p4 a c ((up (up u 0 (2) (p)) 0 (3) (skp (u 1) (u 0 1) (u 0 2)))) 0) dX11_reads_120 ?_
              refine z_aload_n C 1 dX11_reads_123 rfl ?_
              refine z_get C hK (v := .int (zI 0)) inX11_reads_X11 0 (WM_0 a c ((up (up (up u 0 (2) (p)) 0 (3) (skp (u 1) (u 0 1) (u 0 2))) 0 (4) (0)))) rfl 4 (by decide) (List.mem_of_getElem? (i := 5) rfl) rfl dX11_reads_124 ?_
              refine z_iconst C dX11_reads_127 ?_
              refine z_icmp_ne C 296 dX11_reads_128 (by decide) (by omega) (fun h103 => ?_) (fun h103 => ?_)
              · skip
                refine z_aload_n C 1 dX11_reads_296 rfl ?_
                refine z_get C hK (v := .int (zI 0)) inX11_reads_X11 0 (WM_0 a c ((up (up (up u 0 (2) (p)) 0 (3) (skp (u 1) (u 0 1) (u 0 2))) 0 (4) (0)))) rfl 4 (by decide) (List.mem_of_getElem? (i := 5) rfl) rfl dX11_reads_297 ?_
                refine z_iconst C dX11_reads_300 ?_
                refine z_icmp_ne C 425 dX11_reads_301 (by decide) (by omega) (fun h104 => ?_) (fun h104 => ?_)
                · skip
                  refine z_aload_n C 1 dX11_reads_425 rfl ?_
                  refine z_get C hK (v := .int (zI 0)) inX11_reads_X11 0 (WM_0 a c ((up (up (up u 0 (2) (p)) 0 (3) (skp (u 1) (u 0 1) (u 0 2))) 0 (4) (0)))) rfl 4 (by decide) (List.mem_of_getElem? (i := 5) rfl) rfl dX11_reads_426 ?_
                  refine z_iconst C dX11_reads_429 ?_
                  refine z_icmp_ne C 443 dX11_reads_430 (by decide) (by omega) (fun h105 => ?_) (fun h105 => ?_)
                  · skip
                    exact kret 0 (rds u (skp (u 1) (u 0 1) (u 0 2)) 0 (u 0 5) p) _ _ (⟨_, _, _, rfl, by rw [hbp]; exact rd_end (by omega)⟩) dX11_reads_443
                  · exfalso; omega
                · exfalso; omega
              · exfalso; omega
          · skip
            have hby := hI.byte p (by omega) (by omega)
            refine z_aload_n C 0 dX11_reads_57 rfl ?_
            refine z_get C hK (v := .ref (a 1)) inX11_reads_X11 0 (WM_0 a c ((up (up u 0 (2) (p)) 0 (3) (skp (u 1) (u 0 1) (u 0 2))))) rfl 0 (by decide) (List.mem_of_getElem? (i := 3) rfl) rfl dX11_reads_58 ?_
            refine z_aload_n C 0 dX11_reads_61 rfl ?_
            refine z_get C hK (v := .int (zI p)) inX11_reads_X11 0 (WM_0 a c ((up (up u 0 (2) (p)) 0 (3) (skp (u 1) (u 0 1) (u 0 2))))) rfl 2 (by decide) (List.mem_of_getElem? (i := 1) rfl) rfl dX11_reads_62 ?_
            refine z_iald C hK 0 (g := (u 1)) (i := p) 1 (WM_1 a c ((up (up u 0 (2) (p)) 0 (3) (skp (u 1) (u 0 1) (u 0 2))))) rfl (by decide) (by omega) dX11_reads_65 ?_
            refine z_as (b := u 1 (p)) rfl ?_
            refine z_goto C 70 dX11_reads_66 (by decide) ?_
            refine z_istore_n C [(1, .int (zI (u 1 (p)))), (0, .ref (a 0))] dX11_reads_70 rfl (by decide) rfl ?_
            refine z_aload_n C 1 dX11_reads_71 rfl ?_
            refine z_aload_n C 1 dX11_reads_72 rfl ?_
            refine z_get C hK (v := .int (zI p)) inX11_reads_X11 0 (WM_0 a c ((up (up u 0 (2) (p)) 0 (3) (skp (u 1) (u 0 1) (u 0 2))))) rfl 2 (by decide) (List.mem_of_getElem? (i := 1) rfl) rfl dX11_reads_73 ?_
            refine z_aload_n C 1 dX11_reads_76 rfl ?_
            refine z_get C hK (v := .int (zI (u 0 1))) inX11_reads_X11 0 (WM_0 a c ((up (up u 0 (2) (p)) 0 (3) (skp (u 1) (u 0 1) (u 0 2))))) rfl 1 (by decide) (List.mem_of_getElem? (i := 2) rfl) rfl dX11_reads_77 ?_
            refine z_icmp_ne C 87 dX11_reads_80 (by decide) (by omega) (fun h106 => ?_) (fun h106 => ?_)
            · skip
              refine z_iload_n C 0 dX11_reads_87 rfl ?_
              refine z_callS C hK hDD (c_X11_isLetter (zl x) (zG x) ((WM a c)) (WM_addr a c) ((up (up u 0 (2) (p)) 0 (3) (skp (u 1) (u 0 1) (u 0 2)))) (u 1 (p)) (by omega)) gX11_reads_X11_isLetter rfl rfl zy_X11_isLetter ⟨by omega, by decide⟩ rfl (Nat.le_of_ble_eq_true rfl) (st := [.ref (a 0)]) (stk2 := fun z107 => [.int (zI z107), .ref (a 0)]) rfl (fun _ => rfl) dX11_reads_88 (fun z107 u108 h109 => ?_)
              rw [h109.1]; replace h109 := h109.2
              replace h109 : ((z107 = 1 ∧ 97 ≤ (u 1 (p)) ∧ (u 1 (p)) ≤ 122) ∨ (z107 = 0 ∧ ¬ (97 ≤ (u 1 (p)) ∧ (u 1 (p)) ≤ 122))) := h109
              have KL := h109
              refine z_if_eq C 98 dX11_reads_91 (by decide) (by omega) (fun h110 => ?_) (fun h110 => ?_)
              · skip
                refine z_iload_n C 0 dX11_reads_98 rfl ?_
                refine z_callS C hK hDD (c_X11_isFigure (zl x) (zG x) ((WM a c)) (WM_addr a c) ((up (up u 0 (2) (p)) 0 (3) (skp (u 1) (u 0 1) (u 0 2)))) (u 1 (p)) (by omega)) gX11_reads_X11_isFigure rfl rfl zy_X11_isFigure ⟨by omega, by decide⟩ rfl (Nat.le_of_ble_eq_true rfl) (st := [.ref (a 0)]) (stk2 := fun z111 => [.int (zI z111), .ref (a 0)]) rfl (fun _ => rfl) dX11_reads_99 (fun z111 u112 h113 => ?_)
                rw [h113.1]; replace h113 := h113.2
                replace h113 : ((z111 = 1 ∧ 48 ≤ (u 1 (p)) ∧ (u 1 (p)) ≤ 57) ∨ (z111 = 0 ∧ ¬ (48 ≤ (u 1 (p)) ∧ (u 1 (p)) ≤ 57))) := h113
                have KF := h113
                refine z_if_eq C 109 dX11_reads_102 (by decide) (by omega) (fun h114 => ?_) (fun h114 => ?_)
                · skip
                  refine z_iload_n C 0 dX11_reads_109 rfl ?_
                  refine z_bipush C dX11_reads_110 (by decide) ?_
                  refine z_icmp_ne C 119 dX11_reads_112 (by decide) (by omega) (fun h115 => ?_) (fun h115 => ?_)
                  · skip
                    refine z_iconst C dX11_reads_119 ?_
                    refine z_put C hK (hDD _) inX11_reads_X11 tyX11 tyX11_ok nmX11 0 (WM_0 a c ((up (up u 0 (2) (p)) 0 (3) (skp (u 1) (u 0 1) (u 0 2))))) rfl 4 (by decide) (List.mem_of_getElem? (i := 5) rfl) rfl rfl rfl (Nat.le_of_ble_eq_true rfl) (WM_0_p4 a c ((up (up u 0 (2) (p)) 0 (3) (skp (u 1) (u 0 1) (u 0 2)))) 4) dX11_reads_120 ?_
                    refine z_aload_n C 1 dX11_reads_123 rfl ?_
                    refine z_get C hK (v := .int (zI 4)) inX11_reads_X11 0 (WM_0 a c ((up (up (up u 0 (2) (p)) 0 (3) (skp (u 1) (u 0 1) (u 0 2))) 0 (4) (4)))) rfl 4 (by decide) (List.mem_of_getElem? (i := 5) rfl) rfl dX11_reads_124 ?_
                    refine z_iconst C dX11_reads_127 ?_
                    refine z_icmp_ne C 296 dX11_reads_128 (by decide) (by omega) (fun h116 => ?_) (fun h116 => ?_)
                    · skip
                      refine z_aload_n C 1 dX11_reads_296 rfl ?_
                      refine z_get C hK (v := .int (zI 4)) inX11_reads_X11 0 (WM_0 a c ((up (up (up u 0 (2) (p)) 0 (3) (skp (u 1) (u 0 1) (u 0 2))) 0 (4) (4)))) rfl 4 (by decide) (List.mem_of_getElem? (i := 5) rfl) rfl dX11_reads_297 ?_
                      refine z_iconst C dX11_reads_300 ?_
                      refine z_icmp_ne C 425 dX11_reads_301 (by decide) (by omega) (fun h117 => ?_) (fun h117 => ?_)
                      · skip
                        refine z_aload_n C 1 dX11_reads_425 rfl ?_
                        refine z_get C hK (v := .int (zI 4)) inX11_reads_X11 0 (WM_0 a c ((up (up (up u 0 (2) (p)) 0 (3) (skp (u 1) (u 0 1) (u 0 2))) 0 (4) (4)))) rfl 4 (by decide) (List.mem_of_getElem? (i := 5) rfl) rfl dX11_reads_426 ?_
                        refine z_iconst C dX11_reads_429 ?_
                        refine z_icmp_ne C 443 dX11_reads_430 (by decide) (by omega) (fun h118 => ?_) (fun h118 => ?_)
                        · skip
                          exact kret 0 (rds u (skp (u 1) (u 0 1) (u 0 2)) 4 (u 0 5) p) _ _ (⟨_, _, _, rfl, by rw [hbp]; exact rd_bad (by omega) (by omega) (by omega) (by omega)⟩) dX11_reads_443
                        · exfalso; omega
                      · exfalso; omega
                    · exfalso; omega
                  · skip
                    refine z_iconst C dX11_reads_115 ?_
                    refine z_goto C 120 dX11_reads_116 (by decide) ?_
                    refine z_put C hK (hDD _) inX11_reads_X11 tyX11 tyX11_ok nmX11 0 (WM_0 a c ((up (up u 0 (2) (p)) 0 (3) (skp (u 1) (u 0 1) (u 0 2))))) rfl 4 (by decide) (List.mem_of_getElem? (i := 5) rfl) rfl rfl rfl (Nat.le_of_ble_eq_true rfl) (WM_0_p4 a c ((up (up u 0 (2) (p)) 0 (3) (skp (u 1) (u 0 1) (u 0 2)))) 3) dX11_reads_120 ?_
                    refine z_aload_n C 1 dX11_reads_123 rfl ?_
                    refine z_get C hK (v := .int (zI 3)) inX11_reads_X11 0 (WM_0 a c ((up (up (up u 0 (2) (p)) 0 (3) (skp (u 1) (u 0 1) (u 0 2))) 0 (4) (3)))) rfl 4 (by decide) (List.mem_of_getElem? (i := 5) rfl) rfl dX11_reads_124 ?_
                    refine z_iconst C dX11_reads_127 ?_
                    refine z_icmp_ne C 296 dX11_reads_128 (by decide) (by omega) (fun h119 => ?_) (fun h119 => ?_)
                    · skip
                      refine z_aload_n C 1 dX11_reads_296 rfl ?_
                      refine z_get C hK (v := .int (zI 3)) inX11_reads_X11 0 (WM_0 a c ((up (up (up u 0 (2) (p)) 0 (3) (skp (u 1) (u 0 1) (u 0 2))) 0 (4) (3)))) rfl 4 (by decide) (List.mem_of_getElem? (i := 5) rfl) rfl dX11_reads_297 ?_
                      refine z_iconst C dX11_reads_300 ?_
                      refine z_icmp_ne C 425 dX11_reads_301 (by decide) (by omega) (fun h120 => ?_) (fun h120 => ?_)
                      · skip
                        refine z_aload_n C 1 dX11_reads_425 rfl ?_
                        refine z_get C hK (v := .int (zI 3)) inX11_reads_X11 0 (WM_0 a c ((up (up (up u 0 (2) (p)) 0 (3) (skp (u 1) (u 0 1) (u 0 2))) 0 (4) (3)))) rfl 4 (by decide) (List.mem_of_getElem? (i := 5) rfl) rfl dX11_reads_426 ?_
                        refine z_iconst C dX11_reads_429 ?_
                        refine z_icmp_ne C 443 dX11_reads_430 (by decide) (by omega) (fun h121 => ?_) (fun h121 => ?_)
                        · exfalso; omega
                        · skip
                          refine z_aload_n C 1 dX11_reads_433 rfl ?_
                          refine z_dup C dX11_reads_434 rfl ?_
                          refine z_get C hK (v := .int (zI p)) inX11_reads_X11 0 (WM_0 a c ((up (up (up u 0 (2) (p)) 0 (3) (skp (u 1) (u 0 1) (u 0 2))) 0 (4) (3)))) rfl 2 (by decide) (List.mem_of_getElem? (i := 1) rfl) rfl dX11_reads_435 ?_
                          refine z_iconst C dX11_reads_438 ?_
                          refine z_iadd C dX11_reads_439 ?_
                          refine z_put C hK (hDD _) inX11_reads_X11 tyX11 tyX11_ok nmX11 0 (WM_0 a c ((up (up (up u 0 (2) (p)) 0 (3) (skp (u 1) (u 0 1) (u 0 2))) 0 (4) (3)))) rfl 2 (by decide) (List.mem_of_getElem? (i := 1) rfl) rfl rfl rfl (Nat.le_of_ble_eq_true rfl) (WM_0_p2 a c ((up (up (up u 0 (2) (p)) 0 (3) (skp (u 1) (u 0 1) (u 0 2))) 0 (4) (3))) (p + 1)) dX11_reads_440 ?_
                          exact kret 0 (rds u (skp (u 1) (u 0 1) (u 0 2)) 3 (u 0 5) (p + 1)) _ _ (⟨_, _, _, rfl, by rw [hbp]; exact rd_semi (by omega) (by omega)⟩) dX11_reads_443
                      · exfalso; omega
                    · exfalso; omega
                · skip
                  refine z_iconst C dX11_reads_105 ?_
                  refine z_goto C 120 dX11_reads_106 (by decide) ?_
                  refine z_put C hK (hDD _) inX11_reads_X11 tyX11 tyX11_ok nmX11 0 (WM_0 a c ((up (up u 0 (2) (p)) 0 (3) (skp (u 1) (u 0 1) (u 0 2))))) rfl 4 (by decide) (List.mem_of_getElem? (i := 5) rfl) rfl rfl rfl (Nat.le_of_ble_eq_true rfl) (WM_0_p4 a c ((up (up u 0 (2) (p)) 0 (3) (skp (u 1) (u 0 1) (u 0 2)))) 2) dX11_reads_120 ?_
                  refine z_aload_n C 1 dX11_reads_123 rfl ?_
                  refine z_get C hK (v := .int (zI 2)) inX11_reads_X11 0 (WM_0 a c ((up (up (up u 0 (2) (p)) 0 (3) (skp (u 1) (u 0 1) (u 0 2))) 0 (4) (2)))) rfl 4 (by decide) (List.mem_of_getElem? (i := 5) rfl) rfl dX11_reads_124 ?_
                  refine z_iconst C dX11_reads_127 ?_
                  refine z_icmp_ne C 296 dX11_reads_128 (by decide) (by omega) (fun h122 => ?_) (fun h122 => ?_)
                  · skip
                    refine z_aload_n C 1 dX11_reads_296 rfl ?_
                    refine z_get C hK (v := .int (zI 2)) inX11_reads_X11 0 (WM_0 a c ((up (up (up u 0 (2) (p)) 0 (3) (skp (u 1) (u 0 1) (u 0 2))) 0 (4) (2)))) rfl 4 (by decide) (List.mem_of_getElem? (i := 5) rfl) rfl dX11_reads_297 ?_
                    refine z_iconst C dX11_reads_300 ?_
                    refine z_icmp_ne C 425 dX11_reads_301 (by decide) (by omega) (fun h123 => ?_) (fun h123 => ?_)
                    · exfalso; omega
                    · skip
                      refine z_iconst C dX11_reads_304 ?_
                      refine z_istore_n C [(2, .int (zI 0)), (1, .int (zI (u 1 (p)))), (0, .ref (a 0))] dX11_reads_305 rfl (by decide) rfl ?_
                      have L306_124 : ∀ (fu : Nat) (q : Int) (v : Int), (p ≤ q ∧ q ≤ u 0 1) → (∀ j : Int, p ≤ j → j < q → 48 ≤ u 1 j ∧ u 1 j ≤ 57) → (q = p ∨ eor (u 1) (u 0 1) 48 57 (p + 1) = eor (u 1) (u 0 1) 48 57 q) → (v = nva (u 1) p (q - p).toNat) → (p < u 0 1 ∧ 48 ≤ u 1 p ∧ u 1 p ≤ 57) → u 0 1 - q < (fu : Int) → Z x 0 0 (WM a c (up (up (up u 0 (2) (q)) 0 (3) (skp (u 1) (u 0 1) (u 0 2))) 0 (4) (2))) [(0, .ref (a 0)), (1, .int (zI (u 1 p))), (2, .int (zI v))] 306 [] := by
                        intro fu
                        induction fu with
                        | zero => intro q v hq hl he hv hpl hmeas; exfalso; omega
                        | succ fu ih306 =>
                          intro q v hq hl he hv hpl hmeas
                          skip
                          refine z_aload_n C 0 dX11_reads_306 rfl ?_
                          refine z_get C hK (v := .int (zI q)) inX11_reads_X11 0 (WM_0 a c ((up (up (up u 0 (2) (q)) 0 (3) (skp (u 1) (u 0 1) (u 0 2))) 0 (4) (2)))) rfl 2 (by decide) (List.mem_of_getElem? (i := 1) rfl) rfl dX11_reads_307 ?_
                          refine z_aload_n C 0 dX11_reads_310 rfl ?_
                          refine z_get C hK (v := .int (zI (u 0 1))) inX11_reads_X11 0 (WM_0 a c ((up (up (up u 0 (2) (q)) 0 (3) (skp (u 1) (u 0 1) (u 0 2))) 0 (4) (2)))) rfl 1 (by decide) (List.mem_of_getElem? (i := 2) rfl) rfl dX11_reads_311 ?_
                          refine z_icmp_ge C 373 dX11_reads_314 (by decide) (by omega) (fun h125 => ?_) (fun h125 => ?_)
                          · skip
                            have hxq : ¬ (q < u 0 1 ∧ 48 ≤ u 1 q ∧ u 1 q ≤ 57) := by omega
                            have hvb := nva_bd (q - p).toNat (fun j g0 g1 => hl j g0 (by omega))
                            rw [← hv] at hvb
                            refine z_iload_n C 2 dX11_reads_373 rfl ?_
                            refine z_bipush C dX11_reads_374 (by decide) ?_
                            refine z_icmp_gt C 398 dX11_reads_376 (by decide) (by omega) (fun h126 => ?_) (fun h126 => ?_)
                            · skip
                              refine z_iconst C dX11_reads_398 ?_
                              refine z_goto C 403 dX11_reads_399 (by decide) ?_
                              refine z_istore_n C [(3, .int (zI 1)), (0, .ref (a 0)), (1, .int (zI (u 1 p))), (2, .int (zI v))] dX11_reads_403 rfl (by decide) rfl ?_
                              refine z_aload_n C 1 dX11_reads_404 rfl ?_
                              refine z_iload_n C 3 dX11_reads_405 rfl ?_
                              refine z_put C hK (hDD _) inX11_reads_X11 tyX11 tyX11_ok nmX11 0 (WM_0 a c ((up (up (up u 0 (2) (q)) 0 (3) (skp (u 1) (u 0 1) (u 0 2))) 0 (4) (2)))) rfl 5 (by decide) (List.mem_of_getElem? (i := 13) rfl) rfl rfl rfl (Nat.le_of_ble_eq_true rfl) (WM_0_p5 a c ((up (up (up u 0 (2) (q)) 0 (3) (skp (u 1) (u 0 1) (u 0 2))) 0 (4) (2))) v) dX11_reads_406 ?_
                              refine z_aload_n C 1 dX11_reads_409 rfl ?_
                              refine z_iload_n C 0 dX11_reads_410 rfl ?_
                              refine z_if_eq C 418 dX11_reads_411 (by decide) (by omega) (fun h127 => ?_) (fun h127 => ?_)
                              · exfalso; omega
                              · skip
                                refine z_iconst C dX11_reads_414 ?_
                                refine z_goto C 419 dX11_reads_415 (by decide) ?_
                                refine z_put C hK (hDD _) inX11_reads_X11 tyX11 tyX11_ok nmX11 0 (WM_0 a c ((up (up (up (up u 0 (2) (q)) 0 (3) (skp (u 1) (u 0 1) (u 0 2))) 0 (4) (2)) 0 (5) (v)))) rfl 4 (by decide) (List.mem_of_getElem? (i := 5) rfl) rfl rfl rfl (Nat.le_of_ble_eq_true rfl) (WM_0_p4 a c ((up (up (up (up u 0 (2) (q)) 0 (3) (skp (u 1) (u 0 1) (u 0 2))) 0 (4) (2)) 0 (5) (v))) 4) dX11_reads_419 ?_
                                refine z_goto C 443 dX11_reads_422 (by decide) ?_
                                exact kret 0 (rds u (skp (u 1) (u 0 1) (u 0 2)) 4 v q) _ _ (⟨_, _, _, rfl, by rw [hbp]; exact rd_num hpl.1 hpl.2 hq hl he hxq hv (Or.inl ⟨by omega, rfl⟩)⟩) dX11_reads_443
                            · skip
                              refine z_aload_n C 0 dX11_reads_379 rfl ?_
                              refine z_get C hK (v := .int (zI q)) inX11_reads_X11 0 (WM_0 a c ((up (up (up u 0 (2) (q)) 0 (3) (skp (u 1) (u 0 1) (u 0 2))) 0 (4) (2)))) rfl 2 (by decide) (List.mem_of_getElem? (i := 1) rfl) rfl dX11_reads_380 ?_
                              refine z_aload_n C 0 dX11_reads_383 rfl ?_
                              refine z_get C hK (v := .int (zI (skp (u 1) (u 0 1) (u 0 2)))) inX11_reads_X11 0 (WM_0 a c ((up (up (up u 0 (2) (q)) 0 (3) (skp (u 1) (u 0 1) (u 0 2))) 0 (4) (2)))) rfl 3 (by decide) (List.mem_of_getElem? (i := 4) rfl) rfl dX11_reads_384 ?_
                              refine z_isub C dX11_reads_387 ?_
                              refine z_iconst C dX11_reads_388 ?_
                              refine z_icmp_le C 402 dX11_reads_389 (by decide) (by omega) (fun h128 => ?_) (fun h128 => ?_)
                              · skip
                                refine z_iconst C dX11_reads_402 ?_
                                refine z_istore_n C [(3, .int (zI 0)), (0, .ref (a 0)), (1, .int (zI (u 1 p))), (2, .int (zI v))] dX11_reads_403 rfl (by decide) rfl ?_
                                refine z_aload_n C 1 dX11_reads_404 rfl ?_
                                refine z_iload_n C 3 dX11_reads_405 rfl ?_
                                refine z_put C hK (hDD _) inX11_reads_X11 tyX11 tyX11_ok nmX11 0 (WM_0 a c ((up (up (up u 0 (2) (q)) 0 (3) (skp (u 1) (u 0 1) (u 0 2))) 0 (4) (2)))) rfl 5 (by decide) (List.mem_of_getElem? (i := 13) rfl) rfl rfl rfl (Nat.le_of_ble_eq_true rfl) (WM_0_p5 a c ((up (up (up u 0 (2) (q)) 0 (3) (skp (u 1) (u 0 1) (u 0 2))) 0 (4) (2))) v) dX11_reads_406 ?_
                                refine z_aload_n C 1 dX11_reads_409 rfl ?_
                                refine z_iload_n C 0 dX11_reads_410 rfl ?_
                                refine z_if_eq C 418 dX11_reads_411 (by decide) (by omega) (fun h129 => ?_) (fun h129 => ?_)
                                · skip
                                  refine z_iconst C dX11_reads_418 ?_
                                  refine z_put C hK (hDD _) inX11_reads_X11 tyX11 tyX11_ok nmX11 0 (WM_0 a c ((up (up (up (up u 0 (2) (q)) 0 (3) (skp (u 1) (u 0 1) (u 0 2))) 0 (4) (2)) 0 (5) (v)))) rfl 4 (by decide) (List.mem_of_getElem? (i := 5) rfl) rfl rfl rfl (Nat.le_of_ble_eq_true rfl) (WM_0_p4 a c ((up (up (up (up u 0 (2) (q)) 0 (3) (skp (u 1) (u 0 1) (u 0 2))) 0 (4) (2)) 0 (5) (v))) 2) dX11_reads_419 ?_
                                  refine z_goto C 443 dX11_reads_422 (by decide) ?_
                                  exact kret 0 (rds u (skp (u 1) (u 0 1) (u 0 2)) 2 v q) _ _ (⟨_, _, _, rfl, by rw [hbp]; exact rd_num hpl.1 hpl.2 hq hl he hxq hv (Or.inr ⟨by omega, rfl⟩)⟩) dX11_reads_443
                                · exfalso; omega
                              · skip
                                refine z_iload_n C 1 dX11_reads_392 rfl ?_
                                refine z_bipush C dX11_reads_393 (by decide) ?_
                                refine z_icmp_ne C 402 dX11_reads_395 (by decide) (by omega) (fun h130 => ?_) (fun h130 => ?_)
                                · skip
                                  refine z_iconst C dX11_reads_402 ?_
                                  refine z_istore_n C [(3, .int (zI 0)), (0, .ref (a 0)), (1, .int (zI (u 1 p))), (2, .int (zI v))] dX11_reads_403 rfl (by decide) rfl ?_
                                  refine z_aload_n C 1 dX11_reads_404 rfl ?_
                                  refine z_iload_n C 3 dX11_reads_405 rfl ?_
                                  refine z_put C hK (hDD _) inX11_reads_X11 tyX11 tyX11_ok nmX11 0 (WM_0 a c ((up (up (up u 0 (2) (q)) 0 (3) (skp (u 1) (u 0 1) (u 0 2))) 0 (4) (2)))) rfl 5 (by decide) (List.mem_of_getElem? (i := 13) rfl) rfl rfl rfl (Nat.le_of_ble_eq_true rfl) (WM_0_p5 a c ((up (up (up u 0 (2) (q)) 0 (3) (skp (u 1) (u 0 1) (u 0 2))) 0 (4) (2))) v) dX11_reads_406 ?_
                                  refine z_aload_n C 1 dX11_reads_409 rfl ?_
                                  refine z_iload_n C 0 dX11_reads_410 rfl ?_
                                  refine z_if_eq C 418 dX11_reads_411 (by decide) (by omega) (fun h131 => ?_) (fun h131 => ?_)
                                  · skip
                                    refine z_iconst C dX11_reads_418 ?_
                                    refine z_put C hK (hDD _) inX11_reads_X11 tyX11 tyX11_ok nmX11 0 (WM_0 a c ((up (up (up (up u 0 (2) (q)) 0 (3) (skp (u 1) (u 0 1) (u 0 2))) 0 (4) (2)) 0 (5) (v)))) rfl 4 (by decide) (List.mem_of_getElem? (i := 5) rfl) rfl rfl rfl (Nat.le_of_ble_eq_true rfl) (WM_0_p4 a c ((up (up (up (up u 0 (2) (q)) 0 (3) (skp (u 1) (u 0 1) (u 0 2))) 0 (4) (2)) 0 (5) (v))) 2) dX11_reads_419 ?_
                                    refine z_goto C 443 dX11_reads_422 (by decide) ?_
                                    exact kret 0 (rds u (skp (u 1) (u 0 1) (u 0 2)) 2 v q) _ _ (⟨_, _, _, rfl, by rw [hbp]; exact rd_num hpl.1 hpl.2 hq hl he hxq hv (Or.inr ⟨by omega, rfl⟩)⟩) dX11_reads_443
                                  · exfalso; omega
                                · skip
                                  refine z_iconst C dX11_reads_398 ?_
                                  refine z_goto C 403 dX11_reads_399 (by decide) ?_
                                  refine z_istore_n C [(3, .int (zI 1)), (0, .ref (a 0)), (1, .int (zI (u 1 p))), (2, .int (zI v))] dX11_reads_403 rfl (by decide) rfl ?_
                                  refine z_aload_n C 1 dX11_reads_404 rfl ?_
                                  refine z_iload_n C 3 dX11_reads_405 rfl ?_
                                  refine z_put C hK (hDD _) inX11_reads_X11 tyX11 tyX11_ok nmX11 0 (WM_0 a c ((up (up (up u 0 (2) (q)) 0 (3) (skp (u 1) (u 0 1) (u 0 2))) 0 (4) (2)))) rfl 5 (by decide) (List.mem_of_getElem? (i := 13) rfl) rfl rfl rfl (Nat.le_of_ble_eq_true rfl) (WM_0_p5 a c ((up (up (up u 0 (2) (q)) 0 (3) (skp (u 1) (u 0 1) (u 0 2))) 0 (4) (2))) v) dX11_reads_406 ?_
                                  refine z_aload_n C 1 dX11_reads_409 rfl ?_
                                  refine z_iload_n C 0 dX11_reads_410 rfl ?_
                                  refine z_if_eq C 418 dX11_reads_411 (by decide) (by omega) (fun h132 => ?_) (fun h132 => ?_)
                                  · exfalso; omega
                                  · skip
                                    refine z_iconst C dX11_reads_414 ?_
                                    refine z_goto C 419 dX11_reads_415 (by decide) ?_
                                    refine z_put C hK (hDD _) inX11_reads_X11 tyX11 tyX11_ok nmX11 0 (WM_0 a c ((up (up (up (up u 0 (2) (q)) 0 (3) (skp (u 1) (u 0 1) (u 0 2))) 0 (4) (2)) 0 (5) (v)))) rfl 4 (by decide) (List.mem_of_getElem? (i := 5) rfl) rfl rfl rfl (Nat.le_of_ble_eq_true rfl) (WM_0_p4 a c ((up (up (up (up u 0 (2) (q)) 0 (3) (skp (u 1) (u 0 1) (u 0 2))) 0 (4) (2)) 0 (5) (v))) 4) dX11_reads_419 ?_
                                    refine z_goto C 443 dX11_reads_422 (by decide) ?_
                                    exact kret 0 (rds u (skp (u 1) (u 0 1) (u 0 2)) 4 v q) _ _ (⟨_, _, _, rfl, by rw [hbp]; exact rd_num hpl.1 hpl.2 hq hl he hxq hv (Or.inl ⟨by omega, rfl⟩)⟩) dX11_reads_443
                          · skip
                            have hbyq := hI.byte q (by omega) (by omega)
                            refine z_aload_n C 0 dX11_reads_317 rfl ?_
                            refine z_get C hK (v := .ref (a 1)) inX11_reads_X11 0 (WM_0 a c ((up (up (up u 0 (2) (q)) 0 (3) (skp (u 1) (u 0 1) (u 0 2))) 0 (4) (2)))) rfl 0 (by decide) (List.mem_of_getElem? (i := 3) rfl) rfl dX11_reads_318 ?_
                            refine z_aload_n C 0 dX11_reads_321 rfl ?_
                            refine z_get C hK (v := .int (zI q)) inX11_reads_X11 0 (WM_0 a c ((up (up (up u 0 (2) (q)) 0 (3) (skp (u 1) (u 0 1) (u 0 2))) 0 (4) (2)))) rfl 2 (by decide) (List.mem_of_getElem? (i := 1) rfl) rfl dX11_reads_322 ?_
                            refine z_iald C hK 0 (g := (u 1)) (i := q) 1 (WM_1 a c ((up (up (up u 0 (2) (q)) 0 (3) (skp (u 1) (u 0 1) (u 0 2))) 0 (4) (2)))) rfl (by decide) (by omega) dX11_reads_325 ?_
                            refine z_as (b := u 1 (q)) rfl ?_
                            refine z_callS C hK hDD (c_X11_isFigure (zl x) (zG x) ((WM a c)) (WM_addr a c) ((up (up (up u 0 (2) (q)) 0 (3) (skp (u 1) (u 0 1) (u 0 2))) 0 (4) (2))) (u 1 (q)) (by omega)) gX11_reads_X11_isFigure rfl rfl zy_X11_isFigure ⟨by omega, by decide⟩ rfl (Nat.le_of_ble_eq_true rfl) (st := []) (stk2 := fun z133 => [.int (zI z133)]) rfl (fun _ => rfl) dX11_reads_326 (fun z133 u134 h135 => ?_)
                            rw [h135.1]; replace h135 := h135.2
                            replace h135 : ((z133 = 1 ∧ 48 ≤ (u 1 (q)) ∧ (u 1 (q)) ≤ 57) ∨ (z133 = 0 ∧ ¬ (48 ≤ (u 1 (q)) ∧ (u 1 (q)) ≤ 57))) := h135
                            have KFq := h135
                            refine z_if_eq C 373 dX11_reads_329 (by decide) (by omega) (fun h136 => ?_) (fun h136 => ?_)
                            · skip
                              have hxq : ¬ (q < u 0 1 ∧ 48 ≤ u 1 q ∧ u 1 q ≤ 57) := by omega
                              have hvb := nva_bd (q - p).toNat (fun j g0 g1 => hl j g0 (by omega))
                              rw [← hv] at hvb
                              refine z_iload_n C 2 dX11_reads_373 rfl ?_
                              refine z_bipush C dX11_reads_374 (by decide) ?_
                              refine z_icmp_gt C 398 dX11_reads_376 (by decide) (by omega) (fun h137 => ?_) (fun h137 => ?_)
                              · skip
                                refine z_iconst C dX11_reads_398 ?_
                                refine z_goto C 403 dX11_reads_399 (by decide) ?_
                                refine z_istore_n C [(3, .int (zI 1)), (0, .ref (a 0)), (1, .int (zI (u 1 p))), (2, .int (zI v))] dX11_reads_403 rfl (by decide) rfl ?_
                                refine z_aload_n C 1 dX11_reads_404 rfl ?_
                                refine z_iload_n C 3 dX11_reads_405 rfl ?_
                                refine z_put C hK (hDD _) inX11_reads_X11 tyX11 tyX11_ok nmX11 0 (WM_0 a c ((up (up (up u 0 (2) (q)) 0 (3) (skp (u 1) (u 0 1) (u 0 2))) 0 (4) (2)))) rfl 5 (by decide) (List.mem_of_getElem? (i := 13) rfl) rfl rfl rfl (Nat.le_of_ble_eq_true rfl) (WM_0_p5 a c ((up (up (up u 0 (2) (q)) 0 (3) (skp (u 1) (u 0 1) (u 0 2))) 0 (4) (2))) v) dX11_reads_406 ?_
                                refine z_aload_n C 1 dX11_reads_409 rfl ?_
                                refine z_iload_n C 0 dX11_reads_410 rfl ?_
                                refine z_if_eq C 418 dX11_reads_411 (by decide) (by omega) (fun h138 => ?_) (fun h138 => ?_)
                                · exfalso; omega
                                · skip
                                  refine z_iconst C dX11_reads_414 ?_
                                  refine z_goto C 419 dX11_reads_415 (by decide) ?_
                                  refine z_put C hK (hDD _) inX11_reads_X11 tyX11 tyX11_ok nmX11 0 (WM_0 a c ((up (up (up (up u 0 (2) (q)) 0 (3) (skp (u 1) (u 0 1) (u 0 2))) 0 (4) (2)) 0 (5) (v)))) rfl 4 (by decide) (List.mem_of_getElem? (i := 5) rfl) rfl rfl rfl (Nat.le_of_ble_eq_true rfl) (WM_0_p4 a c ((up (up (up (up u 0 (2) (q)) 0 (3) (skp (u 1) (u 0 1) (u 0 2))) 0 (4) (2)) 0 (5) (v))) 4) dX11_reads_419 ?_
                                  refine z_goto C 443 dX11_reads_422 (by decide) ?_
                                  exact kret 0 (rds u (skp (u 1) (u 0 1) (u 0 2)) 4 v q) _ _ (⟨_, _, _, rfl, by rw [hbp]; exact rd_num hpl.1 hpl.2 hq hl he hxq hv (Or.inl ⟨by omega, rfl⟩)⟩) dX11_reads_443
                              · skip
                                refine z_aload_n C 0 dX11_reads_379 rfl ?_
                                refine z_get C hK (v := .int (zI q)) inX11_reads_X11 0 (WM_0 a c ((up (up (up u 0 (2) (q)) 0 (3) (skp (u 1) (u 0 1) (u 0 2))) 0 (4) (2)))) rfl 2 (by decide) (List.mem_of_getElem? (i := 1) rfl) rfl dX11_reads_380 ?_
                                refine z_aload_n C 0 dX11_reads_383 rfl ?_
                                refine z_get C hK (v := .int (zI (skp (u 1) (u 0 1) (u 0 2)))) inX11_reads_X11 0 (WM_0 a c ((up (up (up u 0 (2) (q)) 0 (3) (skp (u 1) (u 0 1) (u 0 2))) 0 (4) (2)))) rfl 3 (by decide) (List.mem_of_getElem? (i := 4) rfl) rfl dX11_reads_384 ?_
                                refine z_isub C dX11_reads_387 ?_
                                refine z_iconst C dX11_reads_388 ?_
                                refine z_icmp_le C 402 dX11_reads_389 (by decide) (by omega) (fun h139 => ?_) (fun h139 => ?_)
                                · skip
                                  refine z_iconst C dX11_reads_402 ?_
                                  refine z_istore_n C [(3, .int (zI 0)), (0, .ref (a 0)), (1, .int (zI (u 1 p))), (2, .int (zI v))] dX11_reads_403 rfl (by decide) rfl ?_
                                  refine z_aload_n C 1 dX11_reads_404 rfl ?_
                                  refine z_iload_n C 3 dX11_reads_405 rfl ?_
                                  refine z_put C hK (hDD _) inX11_reads_X11 tyX11 tyX11_ok nmX11 0 (WM_0 a c ((up (up (up u 0 (2) (q)) 0 (3) (skp (u 1) (u 0 1) (u 0 2))) 0 (4) (2)))) rfl 5 (by decide) (List.mem_of_getElem? (i := 13) rfl) rfl rfl rfl (Nat.le_of_ble_eq_true rfl) (WM_0_p5 a c ((up (up (up u 0 (2) (q)) 0 (3) (skp (u 1) (u 0 1) (u 0 2))) 0 (4) (2))) v) dX11_reads_406 ?_
                                  refine z_aload_n C 1 dX11_reads_409 rfl ?_
                                  refine z_iload_n C 0 dX11_reads_410 rfl ?_
                                  refine z_if_eq C 418 dX11_reads_411 (by decide) (by omega) (fun h140 => ?_) (fun h140 => ?_)
                                  · skip
                                    refine z_iconst C dX11_reads_418 ?_
                                    refine z_put C hK (hDD _) inX11_reads_X11 tyX11 tyX11_ok nmX11 0 (WM_0 a c ((up (up (up (up u 0 (2) (q)) 0 (3) (skp (u 1) (u 0 1) (u 0 2))) 0 (4) (2)) 0 (5) (v)))) rfl 4 (by decide) (List.mem_of_getElem? (i := 5) rfl) rfl rfl rfl (Nat.le_of_ble_eq_true rfl) (WM_0_p4 a c ((up (up (up (up u 0 (2) (q)) 0 (3) (skp (u 1) (u 0 1) (u 0 2))) 0 (4) (2)) 0 (5) (v))) 2) dX11_reads_419 ?_
                                    refine z_goto C 443 dX11_reads_422 (by decide) ?_
                                    exact kret 0 (rds u (skp (u 1) (u 0 1) (u 0 2)) 2 v q) _ _ (⟨_, _, _, rfl, by rw [hbp]; exact rd_num hpl.1 hpl.2 hq hl he hxq hv (Or.inr ⟨by omega, rfl⟩)⟩) dX11_reads_443
                                  · exfalso; omega
                                · skip
                                  refine z_iload_n C 1 dX11_reads_392 rfl ?_
                                  refine z_bipush C dX11_reads_393 (by decide) ?_
                                  refine z_icmp_ne C 402 dX11_reads_395 (by decide) (by omega) (fun h141 => ?_) (fun h141 => ?_)
                                  · skip
                                    refine z_iconst C dX11_reads_402 ?_
                                    refine z_istore_n C [(3, .int (zI 0)), (0, .ref (a 0)), (1, .int (zI (u 1 p))), (2, .int (zI v))] dX11_reads_403 rfl (by decide) rfl ?_
                                    refine z_aload_n C 1 dX11_reads_404 rfl ?_
                                    refine z_iload_n C 3 dX11_reads_405 rfl ?_
                                    refine z_put C hK (hDD _) inX11_reads_X11 tyX11 tyX11_ok nmX11 0 (WM_0 a c ((up (up (up u 0 (2) (q)) 0 (3) (skp (u 1) (u 0 1) (u 0 2))) 0 (4) (2)))) rfl 5 (by decide) (List.mem_of_getElem? (i := 13) rfl) rfl rfl rfl (Nat.le_of_ble_eq_true rfl) (WM_0_p5 a c ((up (up (up u 0 (2) (q)) 0 (3) (skp (u 1) (u 0 1) (u 0 2))) 0 (4) (2))) v) dX11_reads_406 ?_
                                    refine z_aload_n C 1 dX11_reads_409 rfl ?_
                                    refine z_iload_n C 0 dX11_reads_410 rfl ?_
                                    refine z_if_eq C 418 dX11_reads_411 (by decide) (by omega) (fun h142 => ?_) (fun h142 => ?_)
                                    · skip
                                      refine z_iconst C dX11_reads_418 ?_
                                      refine z_put C hK (hDD _) inX11_reads_X11 tyX11 tyX11_ok nmX11 0 (WM_0 a c ((up (up (up (up u 0 (2) (q)) 0 (3) (skp (u 1) (u 0 1) (u 0 2))) 0 (4) (2)) 0 (5) (v)))) rfl 4 (by decide) (List.mem_of_getElem? (i := 5) rfl) rfl rfl rfl (Nat.le_of_ble_eq_true rfl) (WM_0_p4 a c ((up (up (up (up u 0 (2) (q)) 0 (3) (skp (u 1) (u 0 1) (u 0 2))) 0 (4) (2)) 0 (5) (v))) 2) dX11_reads_419 ?_
                                      refine z_goto C 443 dX11_reads_422 (by decide) ?_
                                      exact kret 0 (rds u (skp (u 1) (u 0 1) (u 0 2)) 2 v q) _ _ (⟨_, _, _, rfl, by rw [hbp]; exact rd_num hpl.1 hpl.2 hq hl he hxq hv (Or.inr ⟨by omega, rfl⟩)⟩) dX11_reads_443
                                    · exfalso; omega
                                  · skip
                                    refine z_iconst C dX11_reads_398 ?_
                                    refine z_goto C 403 dX11_reads_399 (by decide) ?_
                                    refine z_istore_n C [(3, .int (zI 1)), (0, .ref (a 0)), (1, .int (zI (u 1 p))), (2, .int (zI v))] dX11_reads_403 rfl (by decide) rfl ?_
                                    refine z_aload_n C 1 dX11_reads_404 rfl ?_
                                    refine z_iload_n C 3 dX11_reads_405 rfl ?_
                                    refine z_put C hK (hDD _) inX11_reads_X11 tyX11 tyX11_ok nmX11 0 (WM_0 a c ((up (up (up u 0 (2) (q)) 0 (3) (skp (u 1) (u 0 1) (u 0 2))) 0 (4) (2)))) rfl 5 (by decide) (List.mem_of_getElem? (i := 13) rfl) rfl rfl rfl (Nat.le_of_ble_eq_true rfl) (WM_0_p5 a c ((up (up (up u 0 (2) (q)) 0 (3) (skp (u 1) (u 0 1) (u 0 2))) 0 (4) (2))) v) dX11_reads_406 ?_
                                    refine z_aload_n C 1 dX11_reads_409 rfl ?_
                                    refine z_iload_n C 0 dX11_reads_410 rfl ?_
                                    refine z_if_eq C 418 dX11_reads_411 (by decide) (by omega) (fun h143 => ?_) (fun h143 => ?_)
                                    · exfalso; omega
                                    · skip
                                      refine z_iconst C dX11_reads_414 ?_
                                      refine z_goto C 419 dX11_reads_415 (by decide) ?_
                                      refine z_put C hK (hDD _) inX11_reads_X11 tyX11 tyX11_ok nmX11 0 (WM_0 a c ((up (up (up (up u 0 (2) (q)) 0 (3) (skp (u 1) (u 0 1) (u 0 2))) 0 (4) (2)) 0 (5) (v)))) rfl 4 (by decide) (List.mem_of_getElem? (i := 5) rfl) rfl rfl rfl (Nat.le_of_ble_eq_true rfl) (WM_0_p4 a c ((up (up (up (up u 0 (2) (q)) 0 (3) (skp (u 1) (u 0 1) (u 0 2))) 0 (4) (2)) 0 (5) (v))) 4) dX11_reads_419 ?_
                                      refine z_goto C 443 dX11_reads_422 (by decide) ?_
                                      exact kret 0 (rds u (skp (u 1) (u 0 1) (u 0 2)) 4 v q) _ _ (⟨_, _, _, rfl, by rw [hbp]; exact rd_num hpl.1 hpl.2 hq hl he hxq hv (Or.inl ⟨by omega, rfl⟩)⟩) dX11_reads_443
                            · skip
                              have hvb := nva_bd (q - p).toNat (fun j g0 g1 => hl j g0 (by omega))
                              rw [← hv] at hvb
                              refine z_iload_n C 2 dX11_reads_332 rfl ?_
                              refine z_bipush C dX11_reads_333 (by decide) ?_
                              refine z_icmp_le C 342 dX11_reads_335 (by decide) (by omega) (fun h144 => ?_) (fun h144 => ?_)
                              · skip
                                refine z_bipush C dX11_reads_342 (by decide) ?_
                                refine z_iload_n C 2 dX11_reads_344 rfl ?_
                                refine z_imul C dX11_reads_345 ?_
                                refine z_aload_n C 0 dX11_reads_346 rfl ?_
                                refine z_get C hK (v := .ref (a 1)) inX11_reads_X11 0 (WM_0 a c ((up (up (up u 0 (2) (q)) 0 (3) (skp (u 1) (u 0 1) (u 0 2))) 0 (4) (2)))) rfl 0 (by decide) (List.mem_of_getElem? (i := 3) rfl) rfl dX11_reads_347 ?_
                                refine z_aload_n C 0 dX11_reads_350 rfl ?_
                                refine z_get C hK (v := .int (zI q)) inX11_reads_X11 0 (WM_0 a c ((up (up (up u 0 (2) (q)) 0 (3) (skp (u 1) (u 0 1) (u 0 2))) 0 (4) (2)))) rfl 2 (by decide) (List.mem_of_getElem? (i := 1) rfl) rfl dX11_reads_351 ?_
                                refine z_iald C hK 0 (g := (u 1)) (i := q) 1 (WM_1 a c ((up (up (up u 0 (2) (q)) 0 (3) (skp (u 1) (u 0 1) (u 0 2))) 0 (4) (2)))) rfl (by decide) (by omega) dX11_reads_354 ?_
                                refine z_as (b := u 1 (q)) rfl ?_
                                refine z_iadd C dX11_reads_355 ?_
                                refine z_bipush C dX11_reads_356 (by decide) ?_
                                refine z_isub C dX11_reads_358 ?_
                                refine z_istore_n C [(2, .int (zI (((10 * v) + (u 1 (q))) - 48))), (0, .ref (a 0)), (1, .int (zI (u 1 p)))] dX11_reads_359 rfl (by decide) rfl ?_
                                refine z_aload_n C 1 dX11_reads_360 rfl ?_
                                refine z_dup C dX11_reads_361 rfl ?_
                                refine z_get C hK (v := .int (zI q)) inX11_reads_X11 0 (WM_0 a c ((up (up (up u 0 (2) (q)) 0 (3) (skp (u 1) (u 0 1) (u 0 2))) 0 (4) (2)))) rfl 2 (by decide) (List.mem_of_getElem? (i := 1) rfl) rfl dX11_reads_362 ?_
                                refine z_iconst C dX11_reads_365 ?_
                                refine z_iadd C dX11_reads_366 ?_
                                refine z_put C hK (hDD _) inX11_reads_X11 tyX11 tyX11_ok nmX11 0 (WM_0 a c ((up (up (up u 0 (2) (q)) 0 (3) (skp (u 1) (u 0 1) (u 0 2))) 0 (4) (2)))) rfl 2 (by decide) (List.mem_of_getElem? (i := 1) rfl) rfl rfl rfl (Nat.le_of_ble_eq_true rfl) (WM_0_p2 a c ((up (up (up u 0 (2) (q)) 0 (3) (skp (u 1) (u 0 1) (u 0 2))) 0 (4) (2))) (q + 1)) dX11_reads_367 ?_
                                refine z_goto C 306 dX11_reads_370 (by decide) ?_
                                refine z_lv [(0, .ref (a 0)), (1, .int (zI (u 1 p))), (2, .int (zI (((10 * v) + (u 1 (q))) - 48)))] [1, 2, 0] rfl ?_
                                exact ih306 (q + 1) (((10 * v) + (u 1 (q))) - 48) (by omega) (lt_put hl (by omega)) (Or.inr (lt_run (by omega) he (by omega))) (by first | exact nv_more hq.1 hv (by omega) | exact nv_full hq.1 hv (by omega)) (hpl) (by omega)
                              · skip
                                refine z_iload_n C 2 dX11_reads_338 rfl ?_
                                refine z_goto C 359 dX11_reads_339 (by decide) ?_
                                refine z_istore_n C [(2, .int (zI v)), (0, .ref (a 0)), (1, .int (zI (u 1 p)))] dX11_reads_359 rfl (by decide) rfl ?_
                                refine z_aload_n C 1 dX11_reads_360 rfl ?_
                                refine z_dup C dX11_reads_361 rfl ?_
                                refine z_get C hK (v := .int (zI q)) inX11_reads_X11 0 (WM_0 a c ((up (up (up u 0 (2) (q)) 0 (3) (skp (u 1) (u 0 1) (u 0 2))) 0 (4) (2)))) rfl 2 (by decide) (List.mem_of_getElem? (i := 1) rfl) rfl dX11_reads_362 ?_
                                refine z_iconst C dX11_reads_365 ?_
                                refine z_iadd C dX11_reads_366 ?_
                                refine z_put C hK (hDD _) inX11_reads_X11 tyX11 tyX11_ok nmX11 0 (WM_0 a c ((up (up (up u 0 (2) (q)) 0 (3) (skp (u 1) (u 0 1) (u 0 2))) 0 (4) (2)))) rfl 2 (by decide) (List.mem_of_getElem? (i := 1) rfl) rfl rfl rfl (Nat.le_of_ble_eq_true rfl) (WM_0_p2 a c ((up (up (up u 0 (2) (q)) 0 (3) (skp (u 1) (u 0 1) (u 0 2))) 0 (4) (2))) (q + 1)) dX11_reads_367 ?_
                                refine z_goto C 306 dX11_reads_370 (by decide) ?_
                                refine z_lv [(0, .ref (a 0)), (1, .int (zI (u 1 p))), (2, .int (zI v))] [1, 2, 0] rfl ?_
                                exact ih306 (q + 1) v (by omega) (lt_put hl (by omega)) (Or.inr (lt_run (by omega) he (by omega))) (by first | exact nv_more hq.1 hv (by omega) | exact nv_full hq.1 hv (by omega)) (hpl) (by omega)
                      refine z_lv [(0, .ref (a 0)), (1, .int (zI (u 1 (p)))), (2, .int (zI 0))] [2, 1, 0] rfl ?_
                      exact L306_124 (((u 0 1 - p : Int)).toNat + 1) p 0 (by omega) (fun j h0 h1 => absurd h1 (by omega)) (Or.inl rfl) (by rw [Int.sub_self]; rfl) (by omega) (by omega)
                  · exfalso; omega
              · skip
                refine z_iconst C dX11_reads_94 ?_
                refine z_goto C 120 dX11_reads_95 (by decide) ?_
                refine z_put C hK (hDD _) inX11_reads_X11 tyX11 tyX11_ok nmX11 0 (WM_0 a c ((up (up u 0 (2) (p)) 0 (3) (skp (u 1) (u 0 1) (u 0 2))))) rfl 4 (by decide) (List.mem_of_getElem? (i := 5) rfl) rfl rfl rfl (Nat.le_of_ble_eq_true rfl) (WM_0_p4 a c ((up (up u 0 (2) (p)) 0 (3) (skp (u 1) (u 0 1) (u 0 2)))) 1) dX11_reads_120 ?_
                refine z_aload_n C 1 dX11_reads_123 rfl ?_
                refine z_get C hK (v := .int (zI 1)) inX11_reads_X11 0 (WM_0 a c ((up (up (up u 0 (2) (p)) 0 (3) (skp (u 1) (u 0 1) (u 0 2))) 0 (4) (1)))) rfl 4 (by decide) (List.mem_of_getElem? (i := 5) rfl) rfl dX11_reads_124 ?_
                refine z_iconst C dX11_reads_127 ?_
                refine z_icmp_ne C 296 dX11_reads_128 (by decide) (by omega) (fun h145 => ?_) (fun h145 => ?_)
                · exfalso; omega
                · skip
                  refine z_lconst C (z := 0) dX11_reads_131 (by decide) ?_
                  refine z_lstore_n C [(2, .long (zL 0)), (1, .int (zI (u 1 (p)))), (0, .ref (a 0))] dX11_reads_132 rfl (by decide) rfl ?_
                  have L133_146 : ∀ (fu : Nat) (q : Int) (v : Int), (p ≤ q ∧ q ≤ u 0 1) → (∀ j : Int, p ≤ j → j < q → 97 ≤ u 1 j ∧ u 1 j ≤ 122) → (q = p ∨ eor (u 1) (u 0 1) 97 122 (p + 1) = eor (u 1) (u 0 1) 97 122 q) → (v = lvl (u 1) p (q - p).toNat) → (p < u 0 1 ∧ 97 ≤ u 1 p ∧ u 1 p ≤ 122) → u 0 1 - q < (fu : Int) → Z x 0 0 (WM a c (up (up (up u 0 (2) (q)) 0 (3) (skp (u 1) (u 0 1) (u 0 2))) 0 (4) (1))) [(0, .ref (a 0)), (1, .int (zI (u 1 p))), (2, .long (zL v))] 133 [] := by
                    intro fu
                    induction fu with
                    | zero => intro q v hq hl he hv hpl hmeas; exfalso; omega
                    | succ fu ih133 =>
                      intro q v hq hl he hv hpl hmeas
                      skip
                      refine z_aload_n C 0 dX11_reads_133 rfl ?_
                      refine z_get C hK (v := .int (zI q)) inX11_reads_X11 0 (WM_0 a c ((up (up (up u 0 (2) (q)) 0 (3) (skp (u 1) (u 0 1) (u 0 2))) 0 (4) (1)))) rfl 2 (by decide) (List.mem_of_getElem? (i := 1) rfl) rfl dX11_reads_134 ?_
                      refine z_aload_n C 0 dX11_reads_137 rfl ?_
                      refine z_get C hK (v := .int (zI (u 0 1))) inX11_reads_X11 0 (WM_0 a c ((up (up (up u 0 (2) (q)) 0 (3) (skp (u 1) (u 0 1) (u 0 2))) 0 (4) (1)))) rfl 1 (by decide) (List.mem_of_getElem? (i := 2) rfl) rfl dX11_reads_138 ?_
                      refine z_icmp_ge C 209 dX11_reads_141 (by decide) (by omega) (fun h147 => ?_) (fun h147 => ?_)
                      · skip
                        have hxq : ¬ (q < u 0 1 ∧ 97 ≤ u 1 q ∧ u 1 q ≤ 122) := by omega
                        have hvr2 := lvl_rng (q - p).toNat (fun j g0 g1 => hl j g0 (by omega))
                        rw [← hv] at hvr2
                        refine z_aload_n C 0 dX11_reads_209 rfl ?_
                        refine z_lload_n C 2 dX11_reads_210 rfl ?_
                        refine z_ldc2 C (v := 465558725996) (z := 465558725996) (by decide) (List.mem_of_getElem? (i := 8) rfl) dX11_reads_211 ?_
                        refine z_lcmp C dX11_reads_214 (by omega) (fun r148 h149 => ?_)
                        refine z_if_ne C 222 dX11_reads_215 (by decide) (by omega) (fun h150 => ?_) (fun h150 => ?_)
                        · have w0n : v ≠ 465558725996 := by omega
                          refine z_lload_n C 2 dX11_reads_222 rfl ?_
                          refine z_ldc2 C (v := 7168366) (z := 7168366) (by decide) (List.mem_of_getElem? (i := 9) rfl) dX11_reads_223 ?_
                          refine z_lcmp C dX11_reads_226 (by omega) (fun r151 h152 => ?_)
                          refine z_if_ne C 234 dX11_reads_227 (by decide) (by omega) (fun h153 => ?_) (fun h153 => ?_)
                          · have w1n : v ≠ 7168366 := by omega
                            refine z_lload_n C 2 dX11_reads_234 rfl ?_
                            refine z_ldc2 C (v := 6644082) (z := 6644082) (by decide) (List.mem_of_getElem? (i := 10) rfl) dX11_reads_235 ?_
                            refine z_lcmp C dX11_reads_238 (by omega) (fun r154 h155 => ?_)
                            refine z_if_ne C 246 dX11_reads_239 (by decide) (by omega) (fun h156 => ?_) (fun h156 => ?_)
                            · have w2n : v ≠ 6644082 := by omega
                              refine z_lload_n C 2 dX11_reads_246 rfl ?_
                              refine z_ldc2 C (v := 7824756) (z := 7824756) (by decide) (List.mem_of_getElem? (i := 11) rfl) dX11_reads_247 ?_
                              refine z_lcmp C dX11_reads_250 (by omega) (fun r157 h158 => ?_)
                              refine z_if_ne C 258 dX11_reads_251 (by decide) (by omega) (fun h159 => ?_) (fun h159 => ?_)
                              · have w3n : v ≠ 7824756 := by omega
                                refine z_lload_n C 2 dX11_reads_258 rfl ?_
                                refine z_ldc2 C (v := 1885430629) (z := 1885430629) (by decide) (List.mem_of_getElem? (i := 12) rfl) dX11_reads_259 ?_
                                refine z_lcmp C dX11_reads_262 (by omega) (fun r160 h161 => ?_)
                                refine z_if_ne C 270 dX11_reads_263 (by decide) (by omega) (fun h162 => ?_) (fun h162 => ?_)
                                · have w4n : v ≠ 1885430629 := by omega
                                  refine z_bipush C dX11_reads_270 (by decide) ?_
                                  refine z_put C hK (hDD _) inX11_reads_X11 tyX11 tyX11_ok nmX11 0 (WM_0 a c ((up (up (up u 0 (2) (q)) 0 (3) (skp (u 1) (u 0 1) (u 0 2))) 0 (4) (1)))) rfl 5 (by decide) (List.mem_of_getElem? (i := 13) rfl) rfl rfl rfl (Nat.le_of_ble_eq_true rfl) (WM_0_p5 a c ((up (up (up u 0 (2) (q)) 0 (3) (skp (u 1) (u 0 1) (u 0 2))) 0 (4) (1))) (-9)) dX11_reads_272 ?_
                                  refine z_aload_n C 0 dX11_reads_275 rfl ?_
                                  refine z_aload_n C 0 dX11_reads_276 rfl ?_
                                  refine z_get C hK (v := .int (zI (-9))) inX11_reads_X11 0 (WM_0 a c ((up (up (up (up u 0 (2) (q)) 0 (3) (skp (u 1) (u 0 1) (u 0 2))) 0 (4) (1)) 0 (5) (-9)))) rfl 5 (by decide) (List.mem_of_getElem? (i := 13) rfl) rfl dX11_reads_277 ?_
                                  refine z_bipush C dX11_reads_280 (by decide) ?_
                                  refine z_icmp_ne C 289 dX11_reads_282 (by decide) (by omega) (fun h163 => ?_) (fun h163 => ?_)
                                  · exfalso; omega
                                  · skip
                                    refine z_iconst C dX11_reads_285 ?_
                                    refine z_goto C 290 dX11_reads_286 (by decide) ?_
                                    refine z_put C hK (hDD _) inX11_reads_X11 tyX11 tyX11_ok nmX11 0 (WM_0 a c ((up (up (up (up u 0 (2) (q)) 0 (3) (skp (u 1) (u 0 1) (u 0 2))) 0 (4) (1)) 0 (5) (-9)))) rfl 4 (by decide) (List.mem_of_getElem? (i := 5) rfl) rfl rfl rfl (Nat.le_of_ble_eq_true rfl) (WM_0_p4 a c ((up (up (up (up u 0 (2) (q)) 0 (3) (skp (u 1) (u 0 1) (u 0 2))) 0 (4) (1)) 0 (5) (-9))) 4) dX11_reads_290 ?_
                                    refine z_goto C 443 dX11_reads_293 (by decide) ?_
                                    exact kret 0 (rds u (skp (u 1) (u 0 1) (u 0 2)) 4 (-9) q) _ _ (⟨_, _, _, rfl, by rw [hbp]; exact rd_word hpl.1 hpl.2 hq hl he hxq hv (Or.inr (Or.inr (Or.inr (Or.inr (Or.inr ⟨w0n, w1n, w2n, w3n, w4n, rfl⟩)))))⟩) dX11_reads_443
                                · have w4 : v = 1885430629 := by omega
                                  refine z_iconst C dX11_reads_266 ?_
                                  refine z_goto C 272 dX11_reads_267 (by decide) ?_
                                  refine z_put C hK (hDD _) inX11_reads_X11 tyX11 tyX11_ok nmX11 0 (WM_0 a c ((up (up (up u 0 (2) (q)) 0 (3) (skp (u 1) (u 0 1) (u 0 2))) 0 (4) (1)))) rfl 5 (by decide) (List.mem_of_getElem? (i := 13) rfl) rfl rfl rfl (Nat.le_of_ble_eq_true rfl) (WM_0_p5 a c ((up (up (up u 0 (2) (q)) 0 (3) (skp (u 1) (u 0 1) (u 0 2))) 0 (4) (1))) 4) dX11_reads_272 ?_
                                  refine z_aload_n C 0 dX11_reads_275 rfl ?_
                                  refine z_aload_n C 0 dX11_reads_276 rfl ?_
                                  refine z_get C hK (v := .int (zI 4)) inX11_reads_X11 0 (WM_0 a c ((up (up (up (up u 0 (2) (q)) 0 (3) (skp (u 1) (u 0 1) (u 0 2))) 0 (4) (1)) 0 (5) (4)))) rfl 5 (by decide) (List.mem_of_getElem? (i := 13) rfl) rfl dX11_reads_277 ?_
                                  refine z_bipush C dX11_reads_280 (by decide) ?_
                                  refine z_icmp_ne C 289 dX11_reads_282 (by decide) (by omega) (fun h164 => ?_) (fun h164 => ?_)
                                  · skip
                                    refine z_iconst C dX11_reads_289 ?_
                                    refine z_put C hK (hDD _) inX11_reads_X11 tyX11 tyX11_ok nmX11 0 (WM_0 a c ((up (up (up (up u 0 (2) (q)) 0 (3) (skp (u 1) (u 0 1) (u 0 2))) 0 (4) (1)) 0 (5) (4)))) rfl 4 (by decide) (List.mem_of_getElem? (i := 5) rfl) rfl rfl rfl (Nat.le_of_ble_eq_true rfl) (WM_0_p4 a c ((up (up (up (up u 0 (2) (q)) 0 (3) (skp (u 1) (u 0 1) (u 0 2))) 0 (4) (1)) 0 (5) (4))) 1) dX11_reads_290 ?_
                                    refine z_goto C 443 dX11_reads_293 (by decide) ?_
                                    exact kret 0 (rds u (skp (u 1) (u 0 1) (u 0 2)) 1 4 q) _ _ (⟨_, _, _, rfl, by rw [hbp]; exact rd_word hpl.1 hpl.2 hq hl he hxq hv (Or.inr (Or.inr (Or.inr (Or.inr (Or.inl ⟨w0n, w1n, w2n, w3n, w4, rfl, rfl⟩)))))⟩) dX11_reads_443
                                  · exfalso; omega
                              · have w3 : v = 7824756 := by omega
                                refine z_iconst C dX11_reads_254 ?_
                                refine z_goto C 272 dX11_reads_255 (by decide) ?_
                                refine z_put C hK (hDD _) inX11_reads_X11 tyX11 tyX11_ok nmX11 0 (WM_0 a c ((up (up (up u 0 (2) (q)) 0 (3) (skp (u 1) (u 0 1) (u 0 2))) 0 (4) (1)))) rfl 5 (by decide) (List.mem_of_getElem? (i := 13) rfl) rfl rfl rfl (Nat.le_of_ble_eq_true rfl) (WM_0_p5 a c ((up (up (up u 0 (2) (q)) 0 (3) (skp (u 1) (u 0 1) (u 0 2))) 0 (4) (1))) 3) dX11_reads_272 ?_
                                refine z_aload_n C 0 dX11_reads_275 rfl ?_
                                refine z_aload_n C 0 dX11_reads_276 rfl ?_
                                refine z_get C hK (v := .int (zI 3)) inX11_reads_X11 0 (WM_0 a c ((up (up (up (up u 0 (2) (q)) 0 (3) (skp (u 1) (u 0 1) (u 0 2))) 0 (4) (1)) 0 (5) (3)))) rfl 5 (by decide) (List.mem_of_getElem? (i := 13) rfl) rfl dX11_reads_277 ?_
                                refine z_bipush C dX11_reads_280 (by decide) ?_
                                refine z_icmp_ne C 289 dX11_reads_282 (by decide) (by omega) (fun h165 => ?_) (fun h165 => ?_)
                                · skip
                                  refine z_iconst C dX11_reads_289 ?_
                                  refine z_put C hK (hDD _) inX11_reads_X11 tyX11 tyX11_ok nmX11 0 (WM_0 a c ((up (up (up (up u 0 (2) (q)) 0 (3) (skp (u 1) (u 0 1) (u 0 2))) 0 (4) (1)) 0 (5) (3)))) rfl 4 (by decide) (List.mem_of_getElem? (i := 5) rfl) rfl rfl rfl (Nat.le_of_ble_eq_true rfl) (WM_0_p4 a c ((up (up (up (up u 0 (2) (q)) 0 (3) (skp (u 1) (u 0 1) (u 0 2))) 0 (4) (1)) 0 (5) (3))) 1) dX11_reads_290 ?_
                                  refine z_goto C 443 dX11_reads_293 (by decide) ?_
                                  exact kret 0 (rds u (skp (u 1) (u 0 1) (u 0 2)) 1 3 q) _ _ (⟨_, _, _, rfl, by rw [hbp]; exact rd_word hpl.1 hpl.2 hq hl he hxq hv (Or.inr (Or.inr (Or.inr (Or.inl ⟨w0n, w1n, w2n, w3, rfl, rfl⟩))))⟩) dX11_reads_443
                                · exfalso; omega
                            · have w2 : v = 6644082 := by omega
                              refine z_iconst C dX11_reads_242 ?_
                              refine z_goto C 272 dX11_reads_243 (by decide) ?_
                              refine z_put C hK (hDD _) inX11_reads_X11 tyX11 tyX11_ok nmX11 0 (WM_0 a c ((up (up (up u 0 (2) (q)) 0 (3) (skp (u 1) (u 0 1) (u 0 2))) 0 (4) (1)))) rfl 5 (by decide) (List.mem_of_getElem? (i := 13) rfl) rfl rfl rfl (Nat.le_of_ble_eq_true rfl) (WM_0_p5 a c ((up (up (up u 0 (2) (q)) 0 (3) (skp (u 1) (u 0 1) (u 0 2))) 0 (4) (1))) 2) dX11_reads_272 ?_
                              refine z_aload_n C 0 dX11_reads_275 rfl ?_
                              refine z_aload_n C 0 dX11_reads_276 rfl ?_
                              refine z_get C hK (v := .int (zI 2)) inX11_reads_X11 0 (WM_0 a c ((up (up (up (up u 0 (2) (q)) 0 (3) (skp (u 1) (u 0 1) (u 0 2))) 0 (4) (1)) 0 (5) (2)))) rfl 5 (by decide) (List.mem_of_getElem? (i := 13) rfl) rfl dX11_reads_277 ?_
                              refine z_bipush C dX11_reads_280 (by decide) ?_
                              refine z_icmp_ne C 289 dX11_reads_282 (by decide) (by omega) (fun h166 => ?_) (fun h166 => ?_)
                              · skip
                                refine z_iconst C dX11_reads_289 ?_
                                refine z_put C hK (hDD _) inX11_reads_X11 tyX11 tyX11_ok nmX11 0 (WM_0 a c ((up (up (up (up u 0 (2) (q)) 0 (3) (skp (u 1) (u 0 1) (u 0 2))) 0 (4) (1)) 0 (5) (2)))) rfl 4 (by decide) (List.mem_of_getElem? (i := 5) rfl) rfl rfl rfl (Nat.le_of_ble_eq_true rfl) (WM_0_p4 a c ((up (up (up (up u 0 (2) (q)) 0 (3) (skp (u 1) (u 0 1) (u 0 2))) 0 (4) (1)) 0 (5) (2))) 1) dX11_reads_290 ?_
                                refine z_goto C 443 dX11_reads_293 (by decide) ?_
                                exact kret 0 (rds u (skp (u 1) (u 0 1) (u 0 2)) 1 2 q) _ _ (⟨_, _, _, rfl, by rw [hbp]; exact rd_word hpl.1 hpl.2 hq hl he hxq hv (Or.inr (Or.inr (Or.inl ⟨w0n, w1n, w2, rfl, rfl⟩)))⟩) dX11_reads_443
                              · exfalso; omega
                          · have w1 : v = 7168366 := by omega
                            refine z_iconst C dX11_reads_230 ?_
                            refine z_goto C 272 dX11_reads_231 (by decide) ?_
                            refine z_put C hK (hDD _) inX11_reads_X11 tyX11 tyX11_ok nmX11 0 (WM_0 a c ((up (up (up u 0 (2) (q)) 0 (3) (skp (u 1) (u 0 1) (u 0 2))) 0 (4) (1)))) rfl 5 (by decide) (List.mem_of_getElem? (i := 13) rfl) rfl rfl rfl (Nat.le_of_ble_eq_true rfl) (WM_0_p5 a c ((up (up (up u 0 (2) (q)) 0 (3) (skp (u 1) (u 0 1) (u 0 2))) 0 (4) (1))) 1) dX11_reads_272 ?_
                            refine z_aload_n C 0 dX11_reads_275 rfl ?_
                            refine z_aload_n C 0 dX11_reads_276 rfl ?_
                            refine z_get C hK (v := .int (zI 1)) inX11_reads_X11 0 (WM_0 a c ((up (up (up (up u 0 (2) (q)) 0 (3) (skp (u 1) (u 0 1) (u 0 2))) 0 (4) (1)) 0 (5) (1)))) rfl 5 (by decide) (List.mem_of_getElem? (i := 13) rfl) rfl dX11_reads_277 ?_
                            refine z_bipush C dX11_reads_280 (by decide) ?_
                            refine z_icmp_ne C 289 dX11_reads_282 (by decide) (by omega) (fun h167 => ?_) (fun h167 => ?_)
                            · skip
                              refine z_iconst C dX11_reads_289 ?_
                              refine z_put C hK (hDD _) inX11_reads_X11 tyX11 tyX11_ok nmX11 0 (WM_0 a c ((up (up (up (up u 0 (2) (q)) 0 (3) (skp (u 1) (u 0 1) (u 0 2))) 0 (4) (1)) 0 (5) (1)))) rfl 4 (by decide) (List.mem_of_getElem? (i := 5) rfl) rfl rfl rfl (Nat.le_of_ble_eq_true rfl) (WM_0_p4 a c ((up (up (up (up u 0 (2) (q)) 0 (3) (skp (u 1) (u 0 1) (u 0 2))) 0 (4) (1)) 0 (5) (1))) 1) dX11_reads_290 ?_
                              refine z_goto C 443 dX11_reads_293 (by decide) ?_
                              exact kret 0 (rds u (skp (u 1) (u 0 1) (u 0 2)) 1 1 q) _ _ (⟨_, _, _, rfl, by rw [hbp]; exact rd_word hpl.1 hpl.2 hq hl he hxq hv (Or.inr (Or.inl ⟨w0n, w1, rfl, rfl⟩))⟩) dX11_reads_443
                            · exfalso; omega
                        · have w0 : v = 465558725996 := by omega
                          refine z_iconst C dX11_reads_218 ?_
                          refine z_goto C 272 dX11_reads_219 (by decide) ?_
                          refine z_put C hK (hDD _) inX11_reads_X11 tyX11 tyX11_ok nmX11 0 (WM_0 a c ((up (up (up u 0 (2) (q)) 0 (3) (skp (u 1) (u 0 1) (u 0 2))) 0 (4) (1)))) rfl 5 (by decide) (List.mem_of_getElem? (i := 13) rfl) rfl rfl rfl (Nat.le_of_ble_eq_true rfl) (WM_0_p5 a c ((up (up (up u 0 (2) (q)) 0 (3) (skp (u 1) (u 0 1) (u 0 2))) 0 (4) (1))) 0) dX11_reads_272 ?_
                          refine z_aload_n C 0 dX11_reads_275 rfl ?_
                          refine z_aload_n C 0 dX11_reads_276 rfl ?_
                          refine z_get C hK (v := .int (zI 0)) inX11_reads_X11 0 (WM_0 a c ((up (up (up (up u 0 (2) (q)) 0 (3) (skp (u 1) (u 0 1) (u 0 2))) 0 (4) (1)) 0 (5) (0)))) rfl 5 (by decide) (List.mem_of_getElem? (i := 13) rfl) rfl dX11_reads_277 ?_
                          refine z_bipush C dX11_reads_280 (by decide) ?_
                          refine z_icmp_ne C 289 dX11_reads_282 (by decide) (by omega) (fun h168 => ?_) (fun h168 => ?_)
                          · skip
                            refine z_iconst C dX11_reads_289 ?_
                            refine z_put C hK (hDD _) inX11_reads_X11 tyX11 tyX11_ok nmX11 0 (WM_0 a c ((up (up (up (up u 0 (2) (q)) 0 (3) (skp (u 1) (u 0 1) (u 0 2))) 0 (4) (1)) 0 (5) (0)))) rfl 4 (by decide) (List.mem_of_getElem? (i := 5) rfl) rfl rfl rfl (Nat.le_of_ble_eq_true rfl) (WM_0_p4 a c ((up (up (up (up u 0 (2) (q)) 0 (3) (skp (u 1) (u 0 1) (u 0 2))) 0 (4) (1)) 0 (5) (0))) 1) dX11_reads_290 ?_
                            refine z_goto C 443 dX11_reads_293 (by decide) ?_
                            exact kret 0 (rds u (skp (u 1) (u 0 1) (u 0 2)) 1 0 q) _ _ (⟨_, _, _, rfl, by rw [hbp]; exact rd_word hpl.1 hpl.2 hq hl he hxq hv (Or.inl ⟨w0, rfl, rfl⟩)⟩) dX11_reads_443
                          · exfalso; omega
                      · skip
                        have hbyq := hI.byte q (by omega) (by omega)
                        refine z_aload_n C 0 dX11_reads_144 rfl ?_
                        refine z_get C hK (v := .ref (a 1)) inX11_reads_X11 0 (WM_0 a c ((up (up (up u 0 (2) (q)) 0 (3) (skp (u 1) (u 0 1) (u 0 2))) 0 (4) (1)))) rfl 0 (by decide) (List.mem_of_getElem? (i := 3) rfl) rfl dX11_reads_145 ?_
                        refine z_aload_n C 0 dX11_reads_148 rfl ?_
                        refine z_get C hK (v := .int (zI q)) inX11_reads_X11 0 (WM_0 a c ((up (up (up u 0 (2) (q)) 0 (3) (skp (u 1) (u 0 1) (u 0 2))) 0 (4) (1)))) rfl 2 (by decide) (List.mem_of_getElem? (i := 1) rfl) rfl dX11_reads_149 ?_
                        refine z_iald C hK 0 (g := (u 1)) (i := q) 1 (WM_1 a c ((up (up (up u 0 (2) (q)) 0 (3) (skp (u 1) (u 0 1) (u 0 2))) 0 (4) (1)))) rfl (by decide) (by omega) dX11_reads_152 ?_
                        refine z_as (b := u 1 (q)) rfl ?_
                        refine z_callS C hK hDD (c_X11_isLetter (zl x) (zG x) ((WM a c)) (WM_addr a c) ((up (up (up u 0 (2) (q)) 0 (3) (skp (u 1) (u 0 1) (u 0 2))) 0 (4) (1))) (u 1 (q)) (by omega)) gX11_reads_X11_isLetter rfl rfl zy_X11_isLetter ⟨by omega, by decide⟩ rfl (Nat.le_of_ble_eq_true rfl) (st := []) (stk2 := fun z169 => [.int (zI z169)]) rfl (fun _ => rfl) dX11_reads_153 (fun z169 u170 h171 => ?_)
                        rw [h171.1]; replace h171 := h171.2
                        replace h171 : ((z169 = 1 ∧ 97 ≤ (u 1 (q)) ∧ (u 1 (q)) ≤ 122) ∨ (z169 = 0 ∧ ¬ (97 ≤ (u 1 (q)) ∧ (u 1 (q)) ≤ 122))) := h171
                        have KLq := h171
                        refine z_if_eq C 209 dX11_reads_156 (by decide) (by omega) (fun h172 => ?_) (fun h172 => ?_)
                        · skip
                          have hxq : ¬ (q < u 0 1 ∧ 97 ≤ u 1 q ∧ u 1 q ≤ 122) := by omega
                          have hvr2 := lvl_rng (q - p).toNat (fun j g0 g1 => hl j g0 (by omega))
                          rw [← hv] at hvr2
                          refine z_aload_n C 0 dX11_reads_209 rfl ?_
                          refine z_lload_n C 2 dX11_reads_210 rfl ?_
                          refine z_ldc2 C (v := 465558725996) (z := 465558725996) (by decide) (List.mem_of_getElem? (i := 8) rfl) dX11_reads_211 ?_
                          refine z_lcmp C dX11_reads_214 (by omega) (fun r173 h174 => ?_)
                          refine z_if_ne C 222 dX11_reads_215 (by decide) (by omega) (fun h175 => ?_) (fun h175 => ?_)
                          · have w0n : v ≠ 465558725996 := by omega
                            refine z_lload_n C 2 dX11_reads_222 rfl ?_
                            refine z_ldc2 C (v := 7168366) (z := 7168366) (by decide) (List.mem_of_getElem? (i := 9) rfl) dX11_reads_223 ?_
                            refine z_lcmp C dX11_reads_226 (by omega) (fun r176 h177 => ?_)
                            refine z_if_ne C 234 dX11_reads_227 (by decide) (by omega) (fun h178 => ?_) (fun h178 => ?_)
                            · have w1n : v ≠ 7168366 := by omega
                              refine z_lload_n C 2 dX11_reads_234 rfl ?_
                              refine z_ldc2 C (v := 6644082) (z := 6644082) (by decide) (List.mem_of_getElem? (i := 10) rfl) dX11_reads_235 ?_
                              refine z_lcmp C dX11_reads_238 (by omega) (fun r179 h180 => ?_)
                              refine z_if_ne C 246 dX11_reads_239 (by decide) (by omega) (fun h181 => ?_) (fun h181 => ?_)
                              · have w2n : v ≠ 6644082 := by omega
                                refine z_lload_n C 2 dX11_reads_246 rfl ?_
                                refine z_ldc2 C (v := 7824756) (z := 7824756) (by decide) (List.mem_of_getElem? (i := 11) rfl) dX11_reads_247 ?_
                                refine z_lcmp C dX11_reads_250 (by omega) (fun r182 h183 => ?_)
                                refine z_if_ne C 258 dX11_reads_251 (by decide) (by omega) (fun h184 => ?_) (fun h184 => ?_)
                                · have w3n : v ≠ 7824756 := by omega
                                  refine z_lload_n C 2 dX11_reads_258 rfl ?_
                                  refine z_ldc2 C (v := 1885430629) (z := 1885430629) (by decide) (List.mem_of_getElem? (i := 12) rfl) dX11_reads_259 ?_
                                  refine z_lcmp C dX11_reads_262 (by omega) (fun r185 h186 => ?_)
                                  refine z_if_ne C 270 dX11_reads_263 (by decide) (by omega) (fun h187 => ?_) (fun h187 => ?_)
                                  · have w4n : v ≠ 1885430629 := by omega
                                    refine z_bipush C dX11_reads_270 (by decide) ?_
                                    refine z_put C hK (hDD _) inX11_reads_X11 tyX11 tyX11_ok nmX11 0 (WM_0 a c ((up (up (up u 0 (2) (q)) 0 (3) (skp (u 1) (u 0 1) (u 0 2))) 0 (4) (1)))) rfl 5 (by decide) (List.mem_of_getElem? (i := 13) rfl) rfl rfl rfl (Nat.le_of_ble_eq_true rfl) (WM_0_p5 a c ((up (up (up u 0 (2) (q)) 0 (3) (skp (u 1) (u 0 1) (u 0 2))) 0 (4) (1))) (-9)) dX11_reads_272 ?_
                                    refine z_aload_n C 0 dX11_reads_275 rfl ?_
                                    refine z_aload_n C 0 dX11_reads_276 rfl ?_
                                    refine z_get C hK (v := .int (zI (-9))) inX11_reads_X11 0 (WM_0 a c ((up (up (up (up u 0 (2) (q)) 0 (3) (skp (u 1) (u 0 1) (u 0 2))) 0 (4) (1)) 0 (5) (-9)))) rfl 5 (by decide) (List.mem_of_getElem? (i := 13) rfl) rfl dX11_reads_277 ?_
                                    refine z_bipush C dX11_reads_280 (by decide) ?_
                                    refine z_icmp_ne C 289 dX11_reads_282 (by decide) (by omega) (fun h188 => ?_) (fun h188 => ?_)
                                    · exfalso; omega
                                    · skip
                                      refine z_iconst C dX11_reads_285 ?_
                                      refine z_goto C 290 dX11_reads_286 (by decide) ?_
                                      refine z_put C hK (hDD _) inX11_reads_X11 tyX11 tyX11_ok nmX11 0 (WM_0 a c ((up (up (up (up u 0 (2) (q)) 0 (3) (skp (u 1) (u 0 1) (u 0 2))) 0 (4) (1)) 0 (5) (-9)))) rfl 4 (by decide) (List.mem_of_getElem? (i := 5) rfl) rfl rfl rfl (Nat.le_of_ble_eq_true rfl) (WM_0_p4 a c ((up (up (up (up u 0 (2) (q)) 0 (3) (skp (u 1) (u 0 1) (u 0 2))) 0 (4) (1)) 0 (5) (-9))) 4) dX11_reads_290 ?_
                                      refine z_goto C 443 dX11_reads_293 (by decide) ?_
                                      exact kret 0 (rds u (skp (u 1) (u 0 1) (u 0 2)) 4 (-9) q) _ _ (⟨_, _, _, rfl, by rw [hbp]; exact rd_word hpl.1 hpl.2 hq hl he hxq hv (Or.inr (Or.inr (Or.inr (Or.inr (Or.inr ⟨w0n, w1n, w2n, w3n, w4n, rfl⟩)))))⟩) dX11_reads_443
                                  · have w4 : v = 1885430629 := by omega
                                    refine z_iconst C dX11_reads_266 ?_
                                    refine z_goto C 272 dX11_reads_267 (by decide) ?_
                                    refine z_put C hK (hDD _) inX11_reads_X11 tyX11 tyX11_ok nmX11 0 (WM_0 a c ((up (up (up u 0 (2) (q)) 0 (3) (skp (u 1) (u 0 1) (u 0 2))) 0 (4) (1)))) rfl 5 (by decide) (List.mem_of_getElem? (i := 13) rfl) rfl rfl rfl (Nat.le_of_ble_eq_true rfl) (WM_0_p5 a c ((up (up (up u 0 (2) (q)) 0 (3) (skp (u 1) (u 0 1) (u 0 2))) 0 (4) (1))) 4) dX11_reads_272 ?_
                                    refine z_aload_n C 0 dX11_reads_275 rfl ?_
                                    refine z_aload_n C 0 dX11_reads_276 rfl ?_
                                    refine z_get C hK (v := .int (zI 4)) inX11_reads_X11 0 (WM_0 a c ((up (up (up (up u 0 (2) (q)) 0 (3) (skp (u 1) (u 0 1) (u 0 2))) 0 (4) (1)) 0 (5) (4)))) rfl 5 (by decide) (List.mem_of_getElem? (i := 13) rfl) rfl dX11_reads_277 ?_
                                    refine z_bipush C dX11_reads_280 (by decide) ?_
                                    refine z_icmp_ne C 289 dX11_reads_282 (by decide) (by omega) (fun h189 => ?_) (fun h189 => ?_)
                                    · skip
                                      refine z_iconst C dX11_reads_289 ?_
                                      refine z_put C hK (hDD _) inX11_reads_X11 tyX11 tyX11_ok nmX11 0 (WM_0 a c ((up (up (up (up u 0 (2) (q)) 0 (3) (skp (u 1) (u 0 1) (u 0 2))) 0 (4) (1)) 0 (5) (4)))) rfl 4 (by decide) (List.mem_of_getElem? (i := 5) rfl) rfl rfl rfl (Nat.le_of_ble_eq_true rfl) (WM_0_p4 a c ((up (up (up (up u 0 (2) (q)) 0 (3) (skp (u 1) (u 0 1) (u 0 2))) 0 (4) (1)) 0 (5) (4))) 1) dX11_reads_290 ?_
                                      refine z_goto C 443 dX11_reads_293 (by decide) ?_
                                      exact kret 0 (rds u (skp (u 1) (u 0 1) (u 0 2)) 1 4 q) _ _ (⟨_, _, _, rfl, by rw [hbp]; exact rd_word hpl.1 hpl.2 hq hl he hxq hv (Or.inr (Or.inr (Or.inr (Or.inr (Or.inl ⟨w0n, w1n, w2n, w3n, w4, rfl, rfl⟩)))))⟩) dX11_reads_443
                                    · exfalso; omega
                                · have w3 : v = 7824756 := by omega
                                  refine z_iconst C dX11_reads_254 ?_
                                  refine z_goto C 272 dX11_reads_255 (by decide) ?_
                                  refine z_put C hK (hDD _) inX11_reads_X11 tyX11 tyX11_ok nmX11 0 (WM_0 a c ((up (up (up u 0 (2) (q)) 0 (3) (skp (u 1) (u 0 1) (u 0 2))) 0 (4) (1)))) rfl 5 (by decide) (List.mem_of_getElem? (i := 13) rfl) rfl rfl rfl (Nat.le_of_ble_eq_true rfl) (WM_0_p5 a c ((up (up (up u 0 (2) (q)) 0 (3) (skp (u 1) (u 0 1) (u 0 2))) 0 (4) (1))) 3) dX11_reads_272 ?_
                                  refine z_aload_n C 0 dX11_reads_275 rfl ?_
                                  refine z_aload_n C 0 dX11_reads_276 rfl ?_
                                  refine z_get C hK (v := .int (zI 3)) inX11_reads_X11 0 (WM_0 a c ((up (up (up (up u 0 (2) (q)) 0 (3) (skp (u 1) (u 0 1) (u 0 2))) 0 (4) (1)) 0 (5) (3)))) rfl 5 (by decide) (List.mem_of_getElem? (i := 13) rfl) rfl dX11_reads_277 ?_
                                  refine z_bipush C dX11_reads_280 (by decide) ?_
                                  refine z_icmp_ne C 289 dX11_reads_282 (by decide) (by omega) (fun h190 => ?_) (fun h190 => ?_)
                                  · skip
                                    refine z_iconst C dX11_reads_289 ?_
                                    refine z_put C hK (hDD _) inX11_reads_X11 tyX11 tyX11_ok nmX11 0 (WM_0 a c ((up (up (up (up u 0 (2) (q)) 0 (3) (skp (u 1) (u 0 1) (u 0 2))) 0 (4) (1)) 0 (5) (3)))) rfl 4 (by decide) (List.mem_of_getElem? (i := 5) rfl) rfl rfl rfl (Nat.le_of_ble_eq_true rfl) (WM_0_p4 a c ((up (up (up (up u 0 (2) (q)) 0 (3) (skp (u 1) (u 0 1) (u 0 2))) 0 (4) (1)) 0 (5) (3))) 1) dX11_reads_290 ?_
                                    refine z_goto C 443 dX11_reads_293 (by decide) ?_
                                    exact kret 0 (rds u (skp (u 1) (u 0 1) (u 0 2)) 1 3 q) _ _ (⟨_, _, _, rfl, by rw [hbp]; exact rd_word hpl.1 hpl.2 hq hl he hxq hv (Or.inr (Or.inr (Or.inr (Or.inl ⟨w0n, w1n, w2n, w3, rfl, rfl⟩))))⟩) dX11_reads_443
                                  · exfalso; omega
                              · have w2 : v = 6644082 := by omega
                                refine z_iconst C dX11_reads_242 ?_
                                refine z_goto C 272 dX11_reads_243 (by decide) ?_
                                refine z_put C hK (hDD _) inX11_reads_X11 tyX11 tyX11_ok nmX11 0 (WM_0 a c ((up (up (up u 0 (2) (q)) 0 (3) (skp (u 1) (u 0 1) (u 0 2))) 0 (4) (1)))) rfl 5 (by decide) (List.mem_of_getElem? (i := 13) rfl) rfl rfl rfl (Nat.le_of_ble_eq_true rfl) (WM_0_p5 a c ((up (up (up u 0 (2) (q)) 0 (3) (skp (u 1) (u 0 1) (u 0 2))) 0 (4) (1))) 2) dX11_reads_272 ?_
                                refine z_aload_n C 0 dX11_reads_275 rfl ?_
                                refine z_aload_n C 0 dX11_reads_276 rfl ?_
                                refine z_get C hK (v := .int (zI 2)) inX11_reads_X11 0 (WM_0 a c ((up (up (up (up u 0 (2) (q)) 0 (3) (skp (u 1) (u 0 1) (u 0 2))) 0 (4) (1)) 0 (5) (2)))) rfl 5 (by decide) (List.mem_of_getElem? (i := 13) rfl) rfl dX11_reads_277 ?_
                                refine z_bipush C dX11_reads_280 (by decide) ?_
                                refine z_icmp_ne C 289 dX11_reads_282 (by decide) (by omega) (fun h191 => ?_) (fun h191 => ?_)
                                · skip
                                  refine z_iconst C dX11_reads_289 ?_
                                  refine z_put C hK (hDD _) inX11_reads_X11 tyX11 tyX11_ok nmX11 0 (WM_0 a c ((up (up (up (up u 0 (2) (q)) 0 (3) (skp (u 1) (u 0 1) (u 0 2))) 0 (4) (1)) 0 (5) (2)))) rfl 4 (by decide) (List.mem_of_getElem? (i := 5) rfl) rfl rfl rfl (Nat.le_of_ble_eq_true rfl) (WM_0_p4 a c ((up (up (up (up u 0 (2) (q)) 0 (3) (skp (u 1) (u 0 1) (u 0 2))) 0 (4) (1)) 0 (5) (2))) 1) dX11_reads_290 ?_
                                  refine z_goto C 443 dX11_reads_293 (by decide) ?_
                                  exact kret 0 (rds u (skp (u 1) (u 0 1) (u 0 2)) 1 2 q) _ _ (⟨_, _, _, rfl, by rw [hbp]; exact rd_word hpl.1 hpl.2 hq hl he hxq hv (Or.inr (Or.inr (Or.inl ⟨w0n, w1n, w2, rfl, rfl⟩)))⟩) dX11_reads_443
                                · exfalso; omega
                            · have w1 : v = 7168366 := by omega
                              refine z_iconst C dX11_reads_230 ?_
                              refine z_goto C 272 dX11_reads_231 (by decide) ?_
                              refine z_put C hK (hDD _) inX11_reads_X11 tyX11 tyX11_ok nmX11 0 (WM_0 a c ((up (up (up u 0 (2) (q)) 0 (3) (skp (u 1) (u 0 1) (u 0 2))) 0 (4) (1)))) rfl 5 (by decide) (List.mem_of_getElem? (i := 13) rfl) rfl rfl rfl (Nat.le_of_ble_eq_true rfl) (WM_0_p5 a c ((up (up (up u 0 (2) (q)) 0 (3) (skp (u 1) (u 0 1) (u 0 2))) 0 (4) (1))) 1) dX11_reads_272 ?_
                              refine z_aload_n C 0 dX11_reads_275 rfl ?_
                              refine z_aload_n C 0 dX11_reads_276 rfl ?_
                              refine z_get C hK (v := .int (zI 1)) inX11_reads_X11 0 (WM_0 a c ((up (up (up (up u 0 (2) (q)) 0 (3) (skp (u 1) (u 0 1) (u 0 2))) 0 (4) (1)) 0 (5) (1)))) rfl 5 (by decide) (List.mem_of_getElem? (i := 13) rfl) rfl dX11_reads_277 ?_
                              refine z_bipush C dX11_reads_280 (by decide) ?_
                              refine z_icmp_ne C 289 dX11_reads_282 (by decide) (by omega) (fun h192 => ?_) (fun h192 => ?_)
                              · skip
                                refine z_iconst C dX11_reads_289 ?_
                                refine z_put C hK (hDD _) inX11_reads_X11 tyX11 tyX11_ok nmX11 0 (WM_0 a c ((up (up (up (up u 0 (2) (q)) 0 (3) (skp (u 1) (u 0 1) (u 0 2))) 0 (4) (1)) 0 (5) (1)))) rfl 4 (by decide) (List.mem_of_getElem? (i := 5) rfl) rfl rfl rfl (Nat.le_of_ble_eq_true rfl) (WM_0_p4 a c ((up (up (up (up u 0 (2) (q)) 0 (3) (skp (u 1) (u 0 1) (u 0 2))) 0 (4) (1)) 0 (5) (1))) 1) dX11_reads_290 ?_
                                refine z_goto C 443 dX11_reads_293 (by decide) ?_
                                exact kret 0 (rds u (skp (u 1) (u 0 1) (u 0 2)) 1 1 q) _ _ (⟨_, _, _, rfl, by rw [hbp]; exact rd_word hpl.1 hpl.2 hq hl he hxq hv (Or.inr (Or.inl ⟨w0n, w1, rfl, rfl⟩))⟩) dX11_reads_443
                              · exfalso; omega
                          · have w0 : v = 465558725996 := by omega
                            refine z_iconst C dX11_reads_218 ?_
                            refine z_goto C 272 dX11_reads_219 (by decide) ?_
                            refine z_put C hK (hDD _) inX11_reads_X11 tyX11 tyX11_ok nmX11 0 (WM_0 a c ((up (up (up u 0 (2) (q)) 0 (3) (skp (u 1) (u 0 1) (u 0 2))) 0 (4) (1)))) rfl 5 (by decide) (List.mem_of_getElem? (i := 13) rfl) rfl rfl rfl (Nat.le_of_ble_eq_true rfl) (WM_0_p5 a c ((up (up (up u 0 (2) (q)) 0 (3) (skp (u 1) (u 0 1) (u 0 2))) 0 (4) (1))) 0) dX11_reads_272 ?_
                            refine z_aload_n C 0 dX11_reads_275 rfl ?_
                            refine z_aload_n C 0 dX11_reads_276 rfl ?_
                            refine z_get C hK (v := .int (zI 0)) inX11_reads_X11 0 (WM_0 a c ((up (up (up (up u 0 (2) (q)) 0 (3) (skp (u 1) (u 0 1) (u 0 2))) 0 (4) (1)) 0 (5) (0)))) rfl 5 (by decide) (List.mem_of_getElem? (i := 13) rfl) rfl dX11_reads_277 ?_
                            refine z_bipush C dX11_reads_280 (by decide) ?_
                            refine z_icmp_ne C 289 dX11_reads_282 (by decide) (by omega) (fun h193 => ?_) (fun h193 => ?_)
                            · skip
                              refine z_iconst C dX11_reads_289 ?_
                              refine z_put C hK (hDD _) inX11_reads_X11 tyX11 tyX11_ok nmX11 0 (WM_0 a c ((up (up (up (up u 0 (2) (q)) 0 (3) (skp (u 1) (u 0 1) (u 0 2))) 0 (4) (1)) 0 (5) (0)))) rfl 4 (by decide) (List.mem_of_getElem? (i := 5) rfl) rfl rfl rfl (Nat.le_of_ble_eq_true rfl) (WM_0_p4 a c ((up (up (up (up u 0 (2) (q)) 0 (3) (skp (u 1) (u 0 1) (u 0 2))) 0 (4) (1)) 0 (5) (0))) 1) dX11_reads_290 ?_
                              refine z_goto C 443 dX11_reads_293 (by decide) ?_
                              exact kret 0 (rds u (skp (u 1) (u 0 1) (u 0 2)) 1 0 q) _ _ (⟨_, _, _, rfl, by rw [hbp]; exact rd_word hpl.1 hpl.2 hq hl he hxq hv (Or.inl ⟨w0, rfl, rfl⟩)⟩) dX11_reads_443
                            · exfalso; omega
                        · skip
                          refine z_aload_n C 0 dX11_reads_159 rfl ?_
                          refine z_get C hK (v := .int (zI q)) inX11_reads_X11 0 (WM_0 a c ((up (up (up u 0 (2) (q)) 0 (3) (skp (u 1) (u 0 1) (u 0 2))) 0 (4) (1)))) rfl 2 (by decide) (List.mem_of_getElem? (i := 1) rfl) rfl dX11_reads_160 ?_
                          refine z_aload_n C 0 dX11_reads_163 rfl ?_
                          refine z_get C hK (v := .int (zI (skp (u 1) (u 0 1) (u 0 2)))) inX11_reads_X11 0 (WM_0 a c ((up (up (up u 0 (2) (q)) 0 (3) (skp (u 1) (u 0 1) (u 0 2))) 0 (4) (1)))) rfl 3 (by decide) (List.mem_of_getElem? (i := 4) rfl) rfl dX11_reads_164 ?_
                          skip
                          refine z_isub C dX11_reads_167 ?_
                          refine z_bipush C dX11_reads_168 (by decide) ?_
                          refine z_icmp_le C 179 dX11_reads_170 (by decide) (by omega) (fun h194 => ?_) (fun h194 => ?_)
                          · skip
                            have hvr := (lvl_rng (q - p).toNat (fun j g0 g1 => hl j g0 (by omega))).2.2 (by omega)
                            rw [← hv] at hvr
                            refine z_lload_n C 2 dX11_reads_179 rfl ?_
                            refine z_ldc2 C (v := 256) (z := 256) (by decide) (List.mem_of_getElem? (i := 7) rfl) dX11_reads_180 ?_
                            refine z_lmul C (v * 256) dX11_reads_183 (zL_mul _ _) ?_
                            refine z_aload_n C 0 dX11_reads_184 rfl ?_
                            refine z_get C hK (v := .ref (a 1)) inX11_reads_X11 0 (WM_0 a c ((up (up (up u 0 (2) (q)) 0 (3) (skp (u 1) (u 0 1) (u 0 2))) 0 (4) (1)))) rfl 0 (by decide) (List.mem_of_getElem? (i := 3) rfl) rfl dX11_reads_185 ?_
                            refine z_aload_n C 0 dX11_reads_188 rfl ?_
                            refine z_get C hK (v := .int (zI q)) inX11_reads_X11 0 (WM_0 a c ((up (up (up u 0 (2) (q)) 0 (3) (skp (u 1) (u 0 1) (u 0 2))) 0 (4) (1)))) rfl 2 (by decide) (List.mem_of_getElem? (i := 1) rfl) rfl dX11_reads_189 ?_
                            refine z_iald C hK 0 (g := (u 1)) (i := q) 1 (WM_1 a c ((up (up (up u 0 (2) (q)) 0 (3) (skp (u 1) (u 0 1) (u 0 2))) 0 (4) (1)))) rfl (by decide) (by omega) dX11_reads_192 ?_
                            refine z_as (b := u 1 (q)) rfl ?_
                            refine z_i2l C dX11_reads_193 (by omega) ?_
                            refine z_ladd C ((v * 256) + (u 1 (q))) dX11_reads_194 (zL_add _ _) ?_
                            refine z_lstore_n C [(2, .long (zL ((v * 256) + (u 1 (q))))), (0, .ref (a 0)), (1, .int (zI (u 1 p)))] dX11_reads_195 rfl (by decide) rfl ?_
                            refine z_aload_n C 1 dX11_reads_196 rfl ?_
                            refine z_dup C dX11_reads_197 rfl ?_
                            refine z_get C hK (v := .int (zI q)) inX11_reads_X11 0 (WM_0 a c ((up (up (up u 0 (2) (q)) 0 (3) (skp (u 1) (u 0 1) (u 0 2))) 0 (4) (1)))) rfl 2 (by decide) (List.mem_of_getElem? (i := 1) rfl) rfl dX11_reads_198 ?_
                            refine z_iconst C dX11_reads_201 ?_
                            refine z_iadd C dX11_reads_202 ?_
                            refine z_put C hK (hDD _) inX11_reads_X11 tyX11 tyX11_ok nmX11 0 (WM_0 a c ((up (up (up u 0 (2) (q)) 0 (3) (skp (u 1) (u 0 1) (u 0 2))) 0 (4) (1)))) rfl 2 (by decide) (List.mem_of_getElem? (i := 1) rfl) rfl rfl rfl (Nat.le_of_ble_eq_true rfl) (WM_0_p2 a c ((up (up (up u 0 (2) (q)) 0 (3) (skp (u 1) (u 0 1) (u 0 2))) 0 (4) (1))) (q + 1)) dX11_reads_203 ?_
                            refine z_goto C 133 dX11_reads_206 (by decide) ?_
                            refine z_lv [(0, .ref (a 0)), (1, .int (zI (u 1 p))), (2, .long (zL ((v * 256) + (u 1 (q)))))] [1, 2, 0] rfl ?_
                            exact ih133 (q + 1) ((v * 256) + (u 1 (q))) (by omega) (lt_put hl (by omega)) (Or.inr (lt_run (by omega) he (by omega))) (by first | exact lv_more hq.1 hv (by omega) | exact lv_full (by omega)) (hpl) (by omega)
                          · skip
                            refine z_ldc2 C (v := (-1)) (z := (-1)) (by decide) (List.mem_of_getElem? (i := 6) rfl) dX11_reads_173 ?_
                            refine z_goto C 195 dX11_reads_176 (by decide) ?_
                            refine z_lstore_n C [(2, .long (zL (-1))), (0, .ref (a 0)), (1, .int (zI (u 1 p)))] dX11_reads_195 rfl (by decide) rfl ?_
                            refine z_aload_n C 1 dX11_reads_196 rfl ?_
                            refine z_dup C dX11_reads_197 rfl ?_
                            refine z_get C hK (v := .int (zI q)) inX11_reads_X11 0 (WM_0 a c ((up (up (up u 0 (2) (q)) 0 (3) (skp (u 1) (u 0 1) (u 0 2))) 0 (4) (1)))) rfl 2 (by decide) (List.mem_of_getElem? (i := 1) rfl) rfl dX11_reads_198 ?_
                            refine z_iconst C dX11_reads_201 ?_
                            refine z_iadd C dX11_reads_202 ?_
                            refine z_put C hK (hDD _) inX11_reads_X11 tyX11 tyX11_ok nmX11 0 (WM_0 a c ((up (up (up u 0 (2) (q)) 0 (3) (skp (u 1) (u 0 1) (u 0 2))) 0 (4) (1)))) rfl 2 (by decide) (List.mem_of_getElem? (i := 1) rfl) rfl rfl rfl (Nat.le_of_ble_eq_true rfl) (WM_0_p2 a c ((up (up (up u 0 (2) (q)) 0 (3) (skp (u 1) (u 0 1) (u 0 2))) 0 (4) (1))) (q + 1)) dX11_reads_203 ?_
                            refine z_goto C 133 dX11_reads_206 (by decide) ?_
                            refine z_lv [(0, .ref (a 0)), (1, .int (zI (u 1 p))), (2, .long (zL (-1)))] [1, 2, 0] rfl ?_
                            exact ih133 (q + 1) (-1) (by omega) (lt_put hl (by omega)) (Or.inr (lt_run (by omega) he (by omega))) (by first | exact lv_more hq.1 hv (by omega) | exact lv_full (by omega)) (hpl) (by omega)
                  refine z_lv [(0, .ref (a 0)), (1, .int (zI (u 1 (p)))), (2, .long (zL 0))] [2, 1, 0] rfl ?_
                  exact L133_146 (((u 0 1 - p : Int)).toNat + 1) p 0 (by omega) (fun j h0 h1 => absurd h1 (by omega)) (Or.inl rfl) (by rw [Int.sub_self]; rfl) (by omega) (by omega)
            · skip
              refine z_iconst C dX11_reads_83 ?_
              refine z_goto C 120 dX11_reads_84 (by decide) ?_
              refine z_put C hK (hDD _) inX11_reads_X11 tyX11 tyX11_ok nmX11 0 (WM_0 a c ((up (up u 0 (2) (p)) 0 (3) (skp (u 1) (u 0 1) (u 0 2))))) rfl 4 (by decide) (List.mem_of_getElem? (i := 5) rfl) rfl rfl rfl (Nat.le_of_ble_eq_true rfl) (WM_0_p4 a c ((up (up u 0 (2) (p)) 0 (3) (skp (u 1) (u 0 1) (u 0 2)))) 0) dX11_reads_120 ?_
              refine z_aload_n C 1 dX11_reads_123 rfl ?_
              refine z_get C hK (v := .int (zI 0)) inX11_reads_X11 0 (WM_0 a c ((up (up (up u 0 (2) (p)) 0 (3) (skp (u 1) (u 0 1) (u 0 2))) 0 (4) (0)))) rfl 4 (by decide) (List.mem_of_getElem? (i := 5) rfl) rfl dX11_reads_124 ?_
              refine z_iconst C dX11_reads_127 ?_
              refine z_icmp_ne C 296 dX11_reads_128 (by decide) (by omega) (fun h195 => ?_) (fun h195 => ?_)
              · skip
                refine z_aload_n C 1 dX11_reads_296 rfl ?_
                refine z_get C hK (v := .int (zI 0)) inX11_reads_X11 0 (WM_0 a c ((up (up (up u 0 (2) (p)) 0 (3) (skp (u 1) (u 0 1) (u 0 2))) 0 (4) (0)))) rfl 4 (by decide) (List.mem_of_getElem? (i := 5) rfl) rfl dX11_reads_297 ?_
                refine z_iconst C dX11_reads_300 ?_
                refine z_icmp_ne C 425 dX11_reads_301 (by decide) (by omega) (fun h196 => ?_) (fun h196 => ?_)
                · skip
                  refine z_aload_n C 1 dX11_reads_425 rfl ?_
                  refine z_get C hK (v := .int (zI 0)) inX11_reads_X11 0 (WM_0 a c ((up (up (up u 0 (2) (p)) 0 (3) (skp (u 1) (u 0 1) (u 0 2))) 0 (4) (0)))) rfl 4 (by decide) (List.mem_of_getElem? (i := 5) rfl) rfl dX11_reads_426 ?_
                  refine z_iconst C dX11_reads_429 ?_
                  refine z_icmp_ne C 443 dX11_reads_430 (by decide) (by omega) (fun h197 => ?_) (fun h197 => ?_)
                  · skip
                    exact kret 0 (rds u (skp (u 1) (u 0 1) (u 0 2)) 0 (u 0 5) p) _ _ (⟨_, _, _, rfl, by rw [hbp]; exact rd_end (by omega)⟩) dX11_reads_443
                  · exfalso; omega
                · exfalso; omega
              · exfalso; omega
        · skip
          refine z_aload_n C 0 dX11_reads_25 rfl ?_
          refine z_dup C dX11_reads_26 rfl ?_
          refine z_get C hK (v := .int (zI p)) inX11_reads_X11 0 (WM_0 a c ((up u 0 (2) (p)))) rfl 2 (by decide) (List.mem_of_getElem? (i := 1) rfl) rfl dX11_reads_27 ?_
          refine z_iconst C dX11_reads_30 ?_
          refine z_iadd C dX11_reads_31 ?_
          refine z_put C hK (hDD _) inX11_reads_X11 tyX11 tyX11_ok nmX11 0 (WM_0 a c ((up u 0 (2) (p)))) rfl 2 (by decide) (List.mem_of_getElem? (i := 1) rfl) rfl rfl rfl (Nat.le_of_ble_eq_true rfl) (WM_0_p2 a c ((up u 0 (2) (p))) (p + 1)) dX11_reads_32 ?_
          refine z_goto C 0 dX11_reads_35 (by decide) ?_
          exact ih0 (p + 1) (by omega) (hb.trans (skp_on (by omega))) (by omega)
  exact L0_1 (((u 0 1 - ((u 0 2)) : Int)).toNat + 1) ((u 0 2)) (by omega) (rfl) (by omega)
