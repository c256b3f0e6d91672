/-! ===== contracts: the reference, choices ===== -/
theorem lk_plN (u : zU) (i : Int) : ((like (u 5) (u 9 1) (u 9 0) (u 0 12) (u 11 i) : Nat) : Int) = ((bn (plN u i) 8 : Nat) : Int) := rfl
theorem mw_self (u : zU) (v : Int) : up u 0 28 v = up (us (us (us (us u 14 (u 14)) 15 (u 15)) 16 (u 16)) 17 (u 17)) 0 28 v := by
  rw [us_self u 14, us_self u 15, us_self u 16, us_self u 17]
theorem mw_self0 (u : zU) : u = up (us (us (us (us u 14 (u 14)) 15 (u 15)) 16 (u 16)) 17 (u 17)) 0 28 (u 0 28) := by
  rw [← mw_self, up_self]
theorem so_bd {so : Int → Int} {n a : Int} (h : ∀ j : Int, 0 ≤ j → j < n → so j = dg n a j) : ∀ j : Int, 0 ≤ j → j < n → -1 ≤ so j ∧ so j ≤ 5 := fun j h0 h1 => by
  rw [h j h0 h1]; exact dg_bd n a j
theorem bst_1 {F F2 : Int} {S : Int → Prop} (h : Bst F F2 (fun t => (1 ≤ t ∧ t ≤ 3) ∧ S t)) (hF : 1 ≤ F ∧ F ≤ 4) : 1 ≤ F2 ∧ F2 ≤ 4 := by
  have h1 := h.1
  rcases h.2.1 with e | e
  · omega
  · have := e.1; omega

theorem zy_X11_wrongAt : zY yX11_wrongAt 1 := ⟨by decide +kernel, by decide +kernel, by decide +kernel⟩
theorem zy_X11_men : zY yX11_men 0 := ⟨by decide +kernel, by decide +kernel, by decide +kernel⟩
-- NoteBellsModel.wrongAt
theorem inX11_wrongAt_X11 : ∀ w ∈ wsX110, w ∈ wsX11_wrongAt := fun w h => List.mem_cons_of_mem _ (List.mem_append_right _ (h))
set_option maxHeartbeats 1000000 in
set_option maxRecDepth 100000 in
theorem c_X11_wrongAt (l : Launch) (D : va_G) (a : Nat → Nat) (c : Nat → ClassId) (u : zU) (x1 : Int) (hI : IM u) (hn1 : 1 ≤ u 0 21) (b_x : 0 ≤ x1 ∧ x1 < 1000000) : ZM l D (zTy c) (WM a c) yX11_wrongAt wsX11_wrongAt 6 [.ref (a 0), .int (zI x1)] u rI (fun z u' => ∃ so al : Int → Int, u' = us (us (u) 14 so) 15 al ∧ (∀ j : Int, 0 ≤ j → j < u 0 21 → so j = dg (u 0 21) x1 j) ∧ ((z = -1 ∧ ∃ (E : Int → Bool) (X : Int → Nat → Bool), Run (plN u) (u 10) (u 9 2) (u 0 21) (plF u) so (u 0 21) E X ∧ (∀ j : Int, 0 ≤ j → j < u 0 21 → al j = ((bn (X j) 8 : Nat) : Int)) ∧ XL (u 0 21) (u 0 12) X ∧ E 0 = false) ∨ ((0 ≤ z ∧ z < u 0 21) ∧ Bad (plN u) (u 10) (u 9 2) (u 0 21) (plF u) so z))) := by
  refine ZM.ofI (cc := cX11_wrongAt) (maxL := 7) [(0, .ref (a 0)), (1, .int (zI x1))] rfl (by decide +kernel) rfl (Nat.le_of_ble_eq_true rfl) (WM_addr a c) ?_
  intro x C hK _ _ hDD kret
  have hno := hI.notes
  have hlv := hI.lev
  refine z_iload_n C 1 dX11_wrongAt_0 rfl ?_
  refine z_istore_n C [(2, .int (zI x1)), (0, .ref (a 0)), (1, .int (zI x1))] dX11_wrongAt_1 rfl (by decide) rfl ?_
  refine z_aload_n C 1 dX11_wrongAt_2 rfl ?_
  refine z_get C hK (v := .int (zI (u 0 21))) inX11_wrongAt_X11 0 (WM_0 a c u) rfl 21 (by decide) (List.mem_of_getElem? (i := 1) rfl) rfl dX11_wrongAt_3 ?_
  refine z_iconst C dX11_wrongAt_6 ?_
  refine z_isub C dX11_wrongAt_7 ?_
  refine z_istore_n C [(3, .int (zI ((u 0 21) - 1))), (2, .int (zI x1)), (0, .ref (a 0)), (1, .int (zI x1))] dX11_wrongAt_8 rfl (by decide) rfl ?_
  have L9_1 : ∀ (fu : Nat) (k : Int) (x2 : Int) (so : Int → Int), (-1 ≤ k ∧ k < u 0 21) → (x2 = x1 / 7 ^ (u 0 21 - 1 - k).toNat) → (0 ≤ x2 ∧ x2 < 1000000) → (∀ j : Int, k < j → j < u 0 21 → so j = dg (u 0 21) x1 j) → k + 1 < (fu : Int) → Z x 0 0 (WM a c (us u 14 (so))) [(0, .ref (a 0)), (1, .int (zI x1)), (2, .int (zI x2)), (3, .int (zI k))] 9 [] := by
    intro fu
    induction fu with
    | zero => intro k x2 so hk hx hxb hso hmeas; exfalso; omega
    | succ fu ih9 =>
      intro k x2 so hk hx hxb hso hmeas
      refine z_iload_n C 3 dX11_wrongAt_9 rfl ?_
      refine z_if_lt C 36 dX11_wrongAt_10 (by decide) (by omega) (fun h2 => ?_) (fun h2 => ?_)
      · skip
        refine z_iconst C dX11_wrongAt_36 ?_
        refine z_istore_n C [(3, .int (zI 0)), (0, .ref (a 0)), (1, .int (zI x1)), (2, .int (zI x2))] dX11_wrongAt_37 rfl (by decide) rfl ?_
        refine z_iconst C dX11_wrongAt_38 ?_
        refine z_istore C [(4, .int (zI 0)), (3, .int (zI 0)), (0, .ref (a 0)), (1, .int (zI x1)), (2, .int (zI x2))] dX11_wrongAt_39 (by decide) rfl ?_
        have L41_3 : ∀ (fu : Nat) (i : Int) (e : Int), (0 ≤ i ∧ i ≤ u 0 12) → (e = ((bn (fun q => decide (u 7 q = 1)) i.toNat : Nat) : Int)) → u 0 12 - i < (fu : Int) → Z x 0 0 (WM a c (us u 14 (so))) [(0, .ref (a 0)), (1, .int (zI x1)), (2, .int (zI x2)), (3, .int (zI e)), (4, .int (zI i))] 41 [] := by
          intro fu
          induction fu with
          | zero => intro i e hi hb hmeas; exfalso; omega
          | succ fu ih41 =>
            intro i e hi hb hmeas
            refine z_iload C 4 dX11_wrongAt_41 rfl ?_
            refine z_aload_n C 0 dX11_wrongAt_43 rfl ?_
            refine z_get C hK (v := .int (zI (u 0 12))) inX11_wrongAt_X11 0 (WM_0 a c ((us u 14 (so)))) rfl 12 (by decide) (List.mem_of_getElem? (i := 3) rfl) rfl dX11_wrongAt_44 ?_
            refine z_icmp_ge C 69 dX11_wrongAt_47 (by decide) (by omega) (fun h4 => ?_) (fun h4 => ?_)
            · skip
              have hso2 : ∀ j : Int, 0 ≤ j → j < u 0 21 → so j = dg (u 0 21) x1 j := fun j h0 h1 => hso j (by omega) h1
              have hee : e = ((bn (plF u) 8 : Nat) : Int) := hb.trans (congrArg (fun q : Nat => (q : Int)) (plF_bn (u := u) hlv (i := i) (by omega)))
              subst hee
              refine z_iconst C dX11_wrongAt_69 ?_
              refine z_istore C [(4, .int (zI 0)), (0, .ref (a 0)), (1, .int (zI x1)), (2, .int (zI x2)), (3, .int (zI (((bn (plF u) 8 : Nat) : Int))))] dX11_wrongAt_70 (by decide) rfl ?_
              have L72_5 : ∀ (fu : Nat) (i : Int) (E : Int → Bool) (X : Int → Nat → Bool) (al : Int → Int), (0 ≤ i ∧ i ≤ u 0 21) → (Run (plN u) (u 10) (u 9 2) (u 0 21) (plF u) so i E X) → (∀ j : Int, 0 ≤ j → j < i → al j = ((bn (X j) 8 : Nat) : Int)) → (XL (u 0 21) (u 0 12) X) → (E 0 = false) → u 0 21 - i < (fu : Int) → Z x 0 0 (WM a c (us (us u 14 (so)) 15 (al))) [(0, .ref (a 0)), (1, .int (zI x1)), (2, .int (zI x2)), (3, .int (zI (((bn (plF u) 8 : Nat) : Int)))), (4, .int (zI i))] 72 [] := by
                intro fu
                induction fu with
                | zero => intro i E X al hi2 hR hal hXl hE0 hmeas; exfalso; omega
                | succ fu ih72 =>
                  intro i E X al hi2 hR hal hXl hE0 hmeas
                  refine z_iload C 4 dX11_wrongAt_72 rfl ?_
                  refine z_aload_n C 0 dX11_wrongAt_74 rfl ?_
                  refine z_get C hK (v := .int (zI (u 0 21))) inX11_wrongAt_X11 0 (WM_0 a c ((us (us u 14 (so)) 15 (al)))) rfl 21 (by decide) (List.mem_of_getElem? (i := 1) rfl) rfl dX11_wrongAt_75 ?_
                  refine z_icmp_ge C 204 dX11_wrongAt_78 (by decide) (by omega) (fun h6 => ?_) (fun h6 => ?_)
                  · skip
                    refine z_iconst C dX11_wrongAt_204 ?_
                    exact kret (-1) (us (us u 14 so) 15 al) _ _ (⟨so, al, rfl, hso2, Or.inl ⟨rfl, E, X, by rw [show u 0 21 = i by omega] at hR ⊢; exact hR, fun j h0 h1 => hal j h0 (by omega), hXl, hE0⟩⟩) dX11_wrongAt_205
                  · skip
                    have hny := hI.note i hi2.1 (by omega)
                    have hsi := hso2 i hi2.1 (by omega)
                    have hdi := dg_bd (u 0 21) x1 i
                    have hmi := hI.minute i hi2.1 (by omega)
                    refine z_aload_n C 0 dX11_wrongAt_81 rfl ?_
                    refine z_aload_n C 0 dX11_wrongAt_82 rfl ?_
                    refine z_get C hK (v := .ref (a 11)) inX11_wrongAt_X11 0 (WM_0 a c ((us (us u 14 (so)) 15 (al)))) rfl 23 (by decide) (List.mem_of_getElem? (i := 5) rfl) rfl dX11_wrongAt_83 ?_
                    refine z_iload C 4 dX11_wrongAt_86 rfl ?_
                    refine z_iald C hK 0 (g := (u 11)) (i := i) 11 (WM_11 a c ((us (us u 14 (so)) 15 (al)))) rfl (by decide) (by omega) dX11_wrongAt_88 ?_
                    refine z_as (b := u 11 (i)) rfl ?_
                    refine z_callV C hK hDD (c_X11_comesOf (zl x) (zG x) a c ((us (us u 14 (so)) 15 (al))) (u 11 (i)) (hI) (show -200 ≤ (u 11 (i)) ∧ (u 11 (i)) ≤ 200 by omega)) gX11_wrongAt_X11_comesOf rfl zy_X11_comesOf 0 (WM_0 a c ((us (us u 14 (so)) 15 (al)))) rfl ⟨by omega, by decide⟩ rfl (Nat.le_of_ble_eq_true rfl) (st := []) (stk2 := fun z7 => [.int (zI z7)]) rfl (fun _ => rfl) dX11_wrongAt_89 (fun z7 u8 h9 => ?_)
                    rw [h9.1]; replace h9 := h9.2
                    refine z_as (b := ((like ((u 5)) ((u 9 1)) ((u 9 0)) ((u 0 12)) ((u 11 (i))) : Nat) : Int)) h9 ?_
                    refine z_istore C [(5, .int (zI (((like ((u 5)) ((u 9 1)) ((u 9 0)) ((u 0 12)) ((u 11 (i))) : Nat) : Int)))), (0, .ref (a 0)), (1, .int (zI x1)), (2, .int (zI x2)), (3, .int (zI (((bn (plF u) 8 : Nat) : Int)))), (4, .int (zI i))] dX11_wrongAt_92 (by decide) rfl ?_
                    refine z_aload_n C 1 dX11_wrongAt_94 rfl ?_
                    refine z_get C hK (v := .ref (a 14)) inX11_wrongAt_X11 0 (WM_0 a c ((us (us u 14 (so)) 15 (al)))) rfl 26 (by decide) (List.mem_of_getElem? (i := 2) rfl) rfl dX11_wrongAt_95 ?_
                    refine z_iload C 5 dX11_wrongAt_98 rfl ?_
                    refine z_iald C hK 0 (g := so) (i := i) 14 (WM_14 a c ((us (us u 14 (so)) 15 (al)))) rfl (by decide) (by omega) dX11_wrongAt_100 ?_
                    refine z_as (b := so (i)) rfl ?_
                    refine z_istore C [(6, .int (zI (so (i)))), (5, .int (zI (((like ((u 5)) ((u 9 1)) ((u 9 0)) ((u 0 12)) ((u 11 (i))) : Nat) : Int)))), (0, .ref (a 0)), (1, .int (zI x1)), (2, .int (zI x2)), (3, .int (zI (((bn (plF u) 8 : Nat) : Int)))), (4, .int (zI i))] dX11_wrongAt_101 (by decide) rfl ?_
                    refine z_aload_n C 2 dX11_wrongAt_103 rfl ?_
                    refine z_get C hK (v := .ref (a 15)) inX11_wrongAt_X11 0 (WM_0 a c ((us (us u 14 (so)) 15 (al)))) rfl 27 (by decide) (List.mem_of_getElem? (i := 6) rfl) rfl dX11_wrongAt_104 ?_
                    refine z_iload C 6 dX11_wrongAt_107 rfl ?_
                    refine z_iload C 1 dX11_wrongAt_109 rfl ?_
                    refine z_iast C hK (hDD _) 0 (g := (us (us u 14 (so)) 15 (al)) 15) 15 (WM_15 a c ((us (us u 14 (so)) 15 (al)))) rfl (by decide) (by omega) (WM_15_set a c ((us (us u 14 (so)) 15 (al))) i (((like ((u 5)) ((u 9 1)) ((u 9 0)) ((u 0 12)) ((u 11 (i))) : Nat) : Int))) dX11_wrongAt_111 ?_
                    refine z_iload C 0 dX11_wrongAt_112 rfl ?_
                    refine z_iload C 6 dX11_wrongAt_114 rfl ?_
                    refine z_icmp_ge C 153 dX11_wrongAt_116 (by decide) (by omega) (fun h10 => ?_) (fun h10 => ?_)
                    · skip
                      refine z_iload C 6 dX11_wrongAt_153 rfl ?_
                      exact kret i (us (us u 14 so) 15 (fun j => if j = i then ((like (u 5) (u 9 1) (u 9 0) (u 0 12) (u 11 i) : Nat) : Int) else al j)) _ _ (⟨so, _, rfl, hso2, Or.inr ⟨by omega, Run_bad (by omega) hR ⟨fun q => absurd q.1 (by omega), fun q => by first | exact absurd q.1 (by omega) | exact absurd q.2.2.1 (by omega) | exact absurd (((hR.1 (so i) q.1.1 (by omega)).2 ⟨q.1.2, hbad⟩).symm.trans q.2.1) (by decide)⟩⟩⟩) dX11_wrongAt_155
                    · skip
                      refine z_iload C 0 dX11_wrongAt_119 rfl ?_
                      refine z_if_lt C 156 dX11_wrongAt_121 (by decide) (by omega) (fun h11 => ?_) (fun h11 => ?_)
                      · skip
                        refine z_iload C 0 dX11_wrongAt_156 rfl ?_
                        refine z_if_lt C 175 dX11_wrongAt_158 (by decide) (by omega) (fun h12 => ?_) (fun h12 => ?_)
                        · skip
                          refine z_aload_n C 2 dX11_wrongAt_175 rfl ?_
                          refine z_get C hK (v := .ref (a 15)) inX11_wrongAt_X11 0 (WM_0 a c ((up (us (us u 14 (so)) 15 (al)) 15 (i) (((like ((u 5)) ((u 9 1)) ((u 9 0)) ((u 0 12)) ((u 11 (i))) : Nat) : Int))))) rfl 27 (by decide) (List.mem_of_getElem? (i := 6) rfl) rfl dX11_wrongAt_176 ?_
                          refine z_iload C 0 dX11_wrongAt_179 rfl ?_
                          refine z_if_ge C 189 dX11_wrongAt_181 (by decide) (by omega) (fun h13 => ?_) (fun h13 => ?_)
                          · exfalso; omega
                          · skip
                            refine z_iload C 6 dX11_wrongAt_184 rfl ?_
                            refine z_goto C 191 dX11_wrongAt_186 (by decide) ?_
                            refine z_iald C hK 0 (g := ((up (us (us u 14 (so)) 15 (al)) 15 (i) (((like ((u 5)) ((u 9 1)) ((u 9 0)) ((u 0 12)) ((u 11 (i))) : Nat) : Int))) 15)) (i := i) 15 (WM_15 a c ((up (us (us u 14 (so)) 15 (al)) 15 (i) (((like ((u 5)) ((u 9 1)) ((u 9 0)) ((u 0 12)) ((u 11 (i))) : Nat) : Int))))) rfl (by decide) (by omega) dX11_wrongAt_191 ?_
                            refine z_as (b := ((like ((u 5)) ((u 9 1)) ((u 9 0)) ((u 0 12)) ((u 11 (i))) : Nat) : Int)) (up_at _ _ _ _) ?_
                            refine z_if_ne C 198 dX11_wrongAt_192 (by decide) (by have h1 := like_lt (u 5) (u 9 1) (u 9 0) (u 0 12) (u 11 i); have h2 := bn_8 (ech (plF u) X (so i) i) (n := 8) (by omega); omega) (fun h14 => ?_) (fun h14 => ?_)
                            · have hnz : nz (X i) := nz_yes (hR.2.1 i (Int.le_refl _) (by omega)) h14
                              refine z_iinc C 6 [(4, .int (zI (i + 1))), (6, .int (zI (so (i)))), (5, .int (zI (((like ((u 5)) ((u 9 1)) ((u 9 0)) ((u 0 12)) ((u 11 (i))) : Nat) : Int)))), (0, .ref (a 0)), (1, .int (zI x1)), (2, .int (zI x2)), (3, .int (zI (((bn (plF u) 8 : Nat) : Int))))] dX11_wrongAt_198 rfl (by decide) rfl ?_
                              refine z_goto C 72 dX11_wrongAt_201 (by decide) ?_
                              refine z_lv [(0, .ref (a 0)), (1, .int (zI x1)), (2, .int (zI x2)), (3, .int (zI (((bn (plF u) 8 : Nat) : Int)))), (4, .int (zI (i + 1)))] [3, 4, 5, 6, 0] rfl ?_
                              exact ih72 (i + 1) E X ((fun j => if j = i then ((like (u 5) (u 9 1) (u 9 0) (u 0 12) (u 11 i) : Nat) : Int) else al j)) (by omega) (Run_own (by omega) hR (by omega) hnz) (al_put (M := plN u) (n := u 0 21) (by omega) (hR.2.1 i (Int.le_refl _) (by omega)) (lk_plN u i) hal) (hXl) (hE0) (by omega)
                            · have hnz : ¬ nz (X i) := nz_no (hR.2.1 i (Int.le_refl _) (by omega)) h14
                              refine z_iload C 6 dX11_wrongAt_195 rfl ?_
                              exact kret i (us (us u 14 so) 15 (fun j =>  if j = i then ((like (u 5) (u 9 1) (u 9 0) (u 0 12) (u 11 i) : Nat) : Int) else al j)) _ _ (⟨so, _, rfl, hso2, Or.inr ⟨by omega, Run_bad (by omega) hR ⟨fun q => by first | exact absurd q.1 (by omega) | exact hnz q.2, fun q => by first | exact absurd q.1 (by omega) | exact hnz q.2.2.2⟩⟩⟩) dX11_wrongAt_197
                        · skip
                          refine z_aload_n C 2 dX11_wrongAt_161 rfl ?_
                          refine z_get C hK (v := .ref (a 15)) inX11_wrongAt_X11 0 (WM_0 a c ((up (us (us u 14 (so)) 15 (al)) 15 (i) (((like ((u 5)) ((u 9 1)) ((u 9 0)) ((u 0 12)) ((u 11 (i))) : Nat) : Int))))) rfl 27 (by decide) (List.mem_of_getElem? (i := 6) rfl) rfl dX11_wrongAt_162 ?_
                          refine z_iload C 0 dX11_wrongAt_165 rfl ?_
                          refine z_dup2 C dX11_wrongAt_167 rfl rfl ?_
                          refine z_iald C hK 0 (g := ((up (us (us u 14 (so)) 15 (al)) 15 (i) (((like ((u 5)) ((u 9 1)) ((u 9 0)) ((u 0 12)) ((u 11 (i))) : Nat) : Int))) 15)) (i := (so (i))) 15 (WM_15 a c ((up (us (us u 14 (so)) 15 (al)) 15 (i) (((like ((u 5)) ((u 9 1)) ((u 9 0)) ((u 0 12)) ((u 11 (i))) : Nat) : Int))))) rfl (by decide) (by omega) dX11_wrongAt_168 ?_
                          refine z_as (b := ((bn (X (so i)) 8 : Nat) : Int)) ((up_off _ (show so i ≠ i by omega)).trans (hal (so i) (by omega) (by omega))) ?_
                          refine z_iload C 1 dX11_wrongAt_169 rfl ?_
                          refine z_iload_n C 5 dX11_wrongAt_171 rfl ?_
                          refine z_iand C (((bn (fun q => plN u i q && plF u q) 8 : Nat) : Int)) dX11_wrongAt_172 ((zI_and _ _).trans (congrArg (fun q : Nat => zI (q : Int)) (bn_and (plN u i) (plF u) 8))) ?_
                          refine z_iand C (((bn (ech (plF u) X (so i) i) 8 : Nat) : Int)) dX11_wrongAt_173 ((zI_and _ _).trans (congrArg (fun q : Nat => zI (q : Int)) (ech_and (M := plN u) (hR.2.1 i (Int.le_refl _) (by omega))))) ?_
                          refine z_iast C hK (hDD _) 0 (g := (up (us (us u 14 (so)) 15 (al)) 15 (i) (((like ((u 5)) ((u 9 1)) ((u 9 0)) ((u 0 12)) ((u 11 (i))) : Nat) : Int))) 15) 15 (WM_15 a c ((up (us (us u 14 (so)) 15 (al)) 15 (i) (((like ((u 5)) ((u 9 1)) ((u 9 0)) ((u 0 12)) ((u 11 (i))) : Nat) : Int))))) rfl (by decide) (by omega) (WM_15_set a c ((up (us (us u 14 (so)) 15 (al)) 15 (i) (((like ((u 5)) ((u 9 1)) ((u 9 0)) ((u 0 12)) ((u 11 (i))) : Nat) : Int)))) (so (i)) (((bn (ech (plF u) X (so i) i) 8 : Nat) : Int))) dX11_wrongAt_174 ?_
                          refine z_aload_n C 2 dX11_wrongAt_175 rfl ?_
                          refine z_get C hK (v := .ref (a 15)) inX11_wrongAt_X11 0 (WM_0 a c ((up (up (us (us u 14 (so)) 15 (al)) 15 (i) (((like ((u 5)) ((u 9 1)) ((u 9 0)) ((u 0 12)) ((u 11 (i))) : Nat) : Int))) 15 (so (i)) (((bn (ech (plF u) X (so i) i) 8 : Nat) : Int))))) rfl 27 (by decide) (List.mem_of_getElem? (i := 6) rfl) rfl dX11_wrongAt_176 ?_
                          refine z_iload C 0 dX11_wrongAt_179 rfl ?_
                          refine z_if_ge C 189 dX11_wrongAt_181 (by decide) (by omega) (fun h15 => ?_) (fun h15 => ?_)
                          · skip
                            refine z_iload C 0 dX11_wrongAt_189 rfl ?_
                            refine z_iald C hK 0 (g := ((up (up (us (us u 14 (so)) 15 (al)) 15 (i) (((like ((u 5)) ((u 9 1)) ((u 9 0)) ((u 0 12)) ((u 11 (i))) : Nat) : Int))) 15 (so (i)) (((bn (ech (plF u) X (so i) i) 8 : Nat) : Int))) 15)) (i := (so (i))) 15 (WM_15 a c ((up (up (us (us u 14 (so)) 15 (al)) 15 (i) (((like ((u 5)) ((u 9 1)) ((u 9 0)) ((u 0 12)) ((u 11 (i))) : Nat) : Int))) 15 (so (i)) (((bn (ech (plF u) X (so i) i) 8 : Nat) : Int))))) rfl (by decide) (by omega) dX11_wrongAt_191 ?_
                            refine z_as (b := ((bn (ech (plF u) X (so i) i) 8 : Nat) : Int)) (up_at _ _ _ _) ?_
                            refine z_if_ne C 198 dX11_wrongAt_192 (by decide) (by have h1 := like_lt (u 5) (u 9 1) (u 9 0) (u 0 12) (u 11 i); have h2 := bn_8 (ech (plF u) X (so i) i) (n := 8) (by omega); omega) (fun h16 => ?_) (fun h16 => ?_)
                            · have hnz : nz (ech (plF u) X (so i) i) := nz_yes rfl h16
                              refine z_iinc C 6 [(4, .int (zI (i + 1))), (6, .int (zI (so (i)))), (5, .int (zI (((like ((u 5)) ((u 9 1)) ((u 9 0)) ((u 0 12)) ((u 11 (i))) : Nat) : Int)))), (0, .ref (a 0)), (1, .int (zI x1)), (2, .int (zI x2)), (3, .int (zI (((bn (plF u) 8 : Nat) : Int))))] dX11_wrongAt_198 rfl (by decide) rfl ?_
                              refine z_goto C 72 dX11_wrongAt_201 (by decide) ?_
                              refine z_lv [(0, .ref (a 0)), (1, .int (zI x1)), (2, .int (zI x2)), (3, .int (zI (((bn (plF u) 8 : Nat) : Int)))), (4, .int (zI (i + 1)))] [3, 4, 5, 6, 0] rfl ?_
                              exact ih72 (i + 1) ((fun j => if j = i then true else E j)) ((fun j => if j = so i then ech (plF u) X (so i) i else X j)) ((fun j => if j = so i then ((bn (ech (plF u) X (so i) i) 8 : Nat) : Int) else if j = i then ((like (u 5) (u 9 1) (u 9 0) (u 0 12) (u 11 i) : Nat) : Int) else al j)) (by omega) (by first | (exfalso; omega) | exact Run_echo (by omega) hR (by omega) hs2 (by omega) hnz) (al_put2 (M := plN u) (n := u 0 21) (by omega) (by omega) (hR.2.1 i (Int.le_refl _) (by omega)) (lk_plN u i) rfl hal) (XL_ech (by omega) hXl) (Eq.trans (if_neg (show ¬ ((0 : Int) = i) by omega)) hE0) (by omega)
                            · have hnz : ¬ nz (ech (plF u) X (so i) i) := nz_no rfl h16
                              refine z_iload C 6 dX11_wrongAt_195 rfl ?_
                              exact kret i (us (us u 14 so) 15 (fun j => if j = so i then ((bn (ech (plF u) X (so i) i) 8 : Nat) : Int) else if j = i then ((like (u 5) (u 9 1) (u 9 0) (u 0 12) (u 11 i) : Nat) : Int) else al j)) _ _ (⟨so, _, rfl, hso2, Or.inr ⟨by omega, Run_bad (by omega) hR ⟨fun q => by first | exact absurd q.1 (by omega) | exact hnz q.2, fun q => by first | exact absurd q.1 (by omega) | exact hnz q.2.2.2⟩⟩⟩) dX11_wrongAt_197
                          · exfalso; omega
                      · skip
                        have hsf := hso2 (so i) (by omega) (by omega)
                        have hdf := dg_bd (u 0 21) x1 (so i)
                        have hmf := hI.minute (so i) (by omega) (by omega)
                        refine z_aload_n C 2 dX11_wrongAt_124 rfl ?_
                        refine z_get C hK (v := .ref (a 14)) inX11_wrongAt_X11 0 (WM_0 a c ((up (us (us u 14 (so)) 15 (al)) 15 (i) (((like ((u 5)) ((u 9 1)) ((u 9 0)) ((u 0 12)) ((u 11 (i))) : Nat) : Int))))) rfl 26 (by decide) (List.mem_of_getElem? (i := 2) rfl) rfl dX11_wrongAt_125 ?_
                        refine z_iload C 0 dX11_wrongAt_128 rfl ?_
                        refine z_iald C hK 0 (g := so) (i := (so (i))) 14 (WM_14 a c ((up (us (us u 14 (so)) 15 (al)) 15 (i) (((like ((u 5)) ((u 9 1)) ((u 9 0)) ((u 0 12)) ((u 11 (i))) : Nat) : Int))))) rfl (by decide) (by omega) dX11_wrongAt_130 ?_
                        refine z_if_ge C 153 dX11_wrongAt_131 (by decide) (by omega) (fun h17 => ?_) (fun h17 => ?_)
                        · have hbad : 0 ≤ so (so i) := h17
                          refine z_iload C 6 dX11_wrongAt_153 rfl ?_
                          exact kret i (us (us u 14 so) 15 (fun j => if j = i then ((like (u 5) (u 9 1) (u 9 0) (u 0 12) (u 11 i) : Nat) : Int) else al j)) _ _ (⟨so, _, rfl, hso2, Or.inr ⟨by omega, Run_bad (by omega) hR ⟨fun q => absurd q.1 (by omega), fun q => by first | exact absurd q.1 (by omega) | exact absurd q.2.2.1 (by omega) | exact absurd (((hR.1 (so i) q.1.1 (by omega)).2 ⟨q.1.2, hbad⟩).symm.trans q.2.1) (by decide)⟩⟩⟩) dX11_wrongAt_155
                        · have hs2 : so (so i) < 0 := by omega
                          refine z_aload_n C 2 dX11_wrongAt_134 rfl ?_
                          refine z_get C hK (v := .ref (a 10)) inX11_wrongAt_X11 0 (WM_0 a c ((up (us (us u 14 (so)) 15 (al)) 15 (i) (((like ((u 5)) ((u 9 1)) ((u 9 0)) ((u 0 12)) ((u 11 (i))) : Nat) : Int))))) rfl 22 (by decide) (List.mem_of_getElem? (i := 7) rfl) rfl dX11_wrongAt_135 ?_
                          refine z_iload C 6 dX11_wrongAt_138 rfl ?_
                          refine z_iald C hK 0 (g := (u 10)) (i := i) 10 (WM_10 a c ((up (us (us u 14 (so)) 15 (al)) 15 (i) (((like ((u 5)) ((u 9 1)) ((u 9 0)) ((u 0 12)) ((u 11 (i))) : Nat) : Int))))) rfl (by decide) (by omega) dX11_wrongAt_140 ?_
                          refine z_as (b := u 10 (i)) rfl ?_
                          refine z_aload_n C 2 dX11_wrongAt_141 rfl ?_
                          refine z_get C hK (v := .ref (a 10)) inX11_wrongAt_X11 0 (WM_0 a c ((up (us (us u 14 (so)) 15 (al)) 15 (i) (((like ((u 5)) ((u 9 1)) ((u 9 0)) ((u 0 12)) ((u 11 (i))) : Nat) : Int))))) rfl 22 (by decide) (List.mem_of_getElem? (i := 7) rfl) rfl dX11_wrongAt_142 ?_
                          refine z_iload C 0 dX11_wrongAt_145 rfl ?_
                          refine z_iald C hK 0 (g := (u 10)) (i := (so (i))) 10 (WM_10 a c ((up (us (us u 14 (so)) 15 (al)) 15 (i) (((like ((u 5)) ((u 9 1)) ((u 9 0)) ((u 0 12)) ((u 11 (i))) : Nat) : Int))))) rfl (by decide) (by omega) dX11_wrongAt_147 ?_
                          refine z_as (b := u 10 (so (i))) rfl ?_
                          refine z_isub C dX11_wrongAt_148 ?_
                          refine z_iconst C dX11_wrongAt_149 ?_
                          refine z_icmp_eq C 156 dX11_wrongAt_150 (by decide) (by omega) (fun h18 => ?_) (fun h18 => ?_)
                          · skip
                            refine z_iload C 0 dX11_wrongAt_156 rfl ?_
                            refine z_if_lt C 175 dX11_wrongAt_158 (by decide) (by omega) (fun h19 => ?_) (fun h19 => ?_)
                            · skip
                              refine z_aload_n C 2 dX11_wrongAt_175 rfl ?_
                              refine z_get C hK (v := .ref (a 15)) inX11_wrongAt_X11 0 (WM_0 a c ((up (us (us u 14 (so)) 15 (al)) 15 (i) (((like ((u 5)) ((u 9 1)) ((u 9 0)) ((u 0 12)) ((u 11 (i))) : Nat) : Int))))) rfl 27 (by decide) (List.mem_of_getElem? (i := 6) rfl) rfl dX11_wrongAt_176 ?_
                              refine z_iload C 0 dX11_wrongAt_179 rfl ?_
                              refine z_if_ge C 189 dX11_wrongAt_181 (by decide) (by omega) (fun h20 => ?_) (fun h20 => ?_)
                              · exfalso; omega
                              · skip
                                refine z_iload C 6 dX11_wrongAt_184 rfl ?_
                                refine z_goto C 191 dX11_wrongAt_186 (by decide) ?_
                                refine z_iald C hK 0 (g := ((up (us (us u 14 (so)) 15 (al)) 15 (i) (((like ((u 5)) ((u 9 1)) ((u 9 0)) ((u 0 12)) ((u 11 (i))) : Nat) : Int))) 15)) (i := i) 15 (WM_15 a c ((up (us (us u 14 (so)) 15 (al)) 15 (i) (((like ((u 5)) ((u 9 1)) ((u 9 0)) ((u 0 12)) ((u 11 (i))) : Nat) : Int))))) rfl (by decide) (by omega) dX11_wrongAt_191 ?_
                                refine z_as (b := ((like ((u 5)) ((u 9 1)) ((u 9 0)) ((u 0 12)) ((u 11 (i))) : Nat) : Int)) (up_at _ _ _ _) ?_
                                refine z_if_ne C 198 dX11_wrongAt_192 (by decide) (by have h1 := like_lt (u 5) (u 9 1) (u 9 0) (u 0 12) (u 11 i); have h2 := bn_8 (ech (plF u) X (so i) i) (n := 8) (by omega); omega) (fun h21 => ?_) (fun h21 => ?_)
                                · have hnz : nz (X i) := nz_yes (hR.2.1 i (Int.le_refl _) (by omega)) h21
                                  refine z_iinc C 6 [(4, .int (zI (i + 1))), (6, .int (zI (so (i)))), (5, .int (zI (((like ((u 5)) ((u 9 1)) ((u 9 0)) ((u 0 12)) ((u 11 (i))) : Nat) : Int)))), (0, .ref (a 0)), (1, .int (zI x1)), (2, .int (zI x2)), (3, .int (zI (((bn (plF u) 8 : Nat) : Int))))] dX11_wrongAt_198 rfl (by decide) rfl ?_
                                  refine z_goto C 72 dX11_wrongAt_201 (by decide) ?_
                                  refine z_lv [(0, .ref (a 0)), (1, .int (zI x1)), (2, .int (zI x2)), (3, .int (zI (((bn (plF u) 8 : Nat) : Int)))), (4, .int (zI (i + 1)))] [3, 4, 5, 6, 0] rfl ?_
                                  exact ih72 (i + 1) E X ((fun j => if j = i then ((like (u 5) (u 9 1) (u 9 0) (u 0 12) (u 11 i) : Nat) : Int) else al j)) (by omega) (Run_own (by omega) hR (by omega) hnz) (al_put (M := plN u) (n := u 0 21) (by omega) (hR.2.1 i (Int.le_refl _) (by omega)) (lk_plN u i) hal) (hXl) (hE0) (by omega)
                                · have hnz : ¬ nz (X i) := nz_no (hR.2.1 i (Int.le_refl _) (by omega)) h21
                                  refine z_iload C 6 dX11_wrongAt_195 rfl ?_
                                  exact kret i (us (us u 14 so) 15 (fun j =>  if j = i then ((like (u 5) (u 9 1) (u 9 0) (u 0 12) (u 11 i) : Nat) : Int) else al j)) _ _ (⟨so, _, rfl, hso2, Or.inr ⟨by omega, Run_bad (by omega) hR ⟨fun q => by first | exact absurd q.1 (by omega) | exact hnz q.2, fun q => by first | exact absurd q.1 (by omega) | exact hnz q.2.2.2⟩⟩⟩) dX11_wrongAt_197
                            · skip
                              refine z_aload_n C 2 dX11_wrongAt_161 rfl ?_
                              refine z_get C hK (v := .ref (a 15)) inX11_wrongAt_X11 0 (WM_0 a c ((up (us (us u 14 (so)) 15 (al)) 15 (i) (((like ((u 5)) ((u 9 1)) ((u 9 0)) ((u 0 12)) ((u 11 (i))) : Nat) : Int))))) rfl 27 (by decide) (List.mem_of_getElem? (i := 6) rfl) rfl dX11_wrongAt_162 ?_
                              refine z_iload C 0 dX11_wrongAt_165 rfl ?_
                              refine z_dup2 C dX11_wrongAt_167 rfl rfl ?_
                              refine z_iald C hK 0 (g := ((up (us (us u 14 (so)) 15 (al)) 15 (i) (((like ((u 5)) ((u 9 1)) ((u 9 0)) ((u 0 12)) ((u 11 (i))) : Nat) : Int))) 15)) (i := (so (i))) 15 (WM_15 a c ((up (us (us u 14 (so)) 15 (al)) 15 (i) (((like ((u 5)) ((u 9 1)) ((u 9 0)) ((u 0 12)) ((u 11 (i))) : Nat) : Int))))) rfl (by decide) (by omega) dX11_wrongAt_168 ?_
                              refine z_as (b := ((bn (X (so i)) 8 : Nat) : Int)) ((up_off _ (show so i ≠ i by omega)).trans (hal (so i) (by omega) (by omega))) ?_
                              refine z_iload C 1 dX11_wrongAt_169 rfl ?_
                              refine z_iload_n C 5 dX11_wrongAt_171 rfl ?_
                              refine z_iand C (((bn (fun q => plN u i q && plF u q) 8 : Nat) : Int)) dX11_wrongAt_172 ((zI_and _ _).trans (congrArg (fun q : Nat => zI (q : Int)) (bn_and (plN u i) (plF u) 8))) ?_
                              refine z_iand C (((bn (ech (plF u) X (so i) i) 8 : Nat) : Int)) dX11_wrongAt_173 ((zI_and _ _).trans (congrArg (fun q : Nat => zI (q : Int)) (ech_and (M := plN u) (hR.2.1 i (Int.le_refl _) (by omega))))) ?_
                              refine z_iast C hK (hDD _) 0 (g := (up (us (us u 14 (so)) 15 (al)) 15 (i) (((like ((u 5)) ((u 9 1)) ((u 9 0)) ((u 0 12)) ((u 11 (i))) : Nat) : Int))) 15) 15 (WM_15 a c ((up (us (us u 14 (so)) 15 (al)) 15 (i) (((like ((u 5)) ((u 9 1)) ((u 9 0)) ((u 0 12)) ((u 11 (i))) : Nat) : Int))))) rfl (by decide) (by omega) (WM_15_set a c ((up (us (us u 14 (so)) 15 (al)) 15 (i) (((like ((u 5)) ((u 9 1)) ((u 9 0)) ((u 0 12)) ((u 11 (i))) : Nat) : Int)))) (so (i)) (((bn (ech (plF u) X (so i) i) 8 : Nat) : Int))) dX11_wrongAt_174 ?_
                              refine z_aload_n C 2 dX11_wrongAt_175 rfl ?_
                              refine z_get C hK (v := .ref (a 15)) inX11_wrongAt_X11 0 (WM_0 a c ((up (up (us (us u 14 (so)) 15 (al)) 15 (i) (((like ((u 5)) ((u 9 1)) ((u 9 0)) ((u 0 12)) ((u 11 (i))) : Nat) : Int))) 15 (so (i)) (((bn (ech (plF u) X (so i) i) 8 : Nat) : Int))))) rfl 27 (by decide) (List.mem_of_getElem? (i := 6) rfl) rfl dX11_wrongAt_176 ?_
                              refine z_iload C 0 dX11_wrongAt_179 rfl ?_
                              refine z_if_ge C 189 dX11_wrongAt_181 (by decide) (by omega) (fun h22 => ?_) (fun h22 => ?_)
                              · skip
                                refine z_iload C 0 dX11_wrongAt_189 rfl ?_
                                refine z_iald C hK 0 (g := ((up (up (us (us u 14 (so)) 15 (al)) 15 (i) (((like ((u 5)) ((u 9 1)) ((u 9 0)) ((u 0 12)) ((u 11 (i))) : Nat) : Int))) 15 (so (i)) (((bn (ech (plF u) X (so i) i) 8 : Nat) : Int))) 15)) (i := (so (i))) 15 (WM_15 a c ((up (up (us (us u 14 (so)) 15 (al)) 15 (i) (((like ((u 5)) ((u 9 1)) ((u 9 0)) ((u 0 12)) ((u 11 (i))) : Nat) : Int))) 15 (so (i)) (((bn (ech (plF u) X (so i) i) 8 : Nat) : Int))))) rfl (by decide) (by omega) dX11_wrongAt_191 ?_
                                refine z_as (b := ((bn (ech (plF u) X (so i) i) 8 : Nat) : Int)) (up_at _ _ _ _) ?_
                                refine z_if_ne C 198 dX11_wrongAt_192 (by decide) (by have h1 := like_lt (u 5) (u 9 1) (u 9 0) (u 0 12) (u 11 i); have h2 := bn_8 (ech (plF u) X (so i) i) (n := 8) (by omega); omega) (fun h23 => ?_) (fun h23 => ?_)
                                · have hnz : nz (ech (plF u) X (so i) i) := nz_yes rfl h23
                                  refine z_iinc C 6 [(4, .int (zI (i + 1))), (6, .int (zI (so (i)))), (5, .int (zI (((like ((u 5)) ((u 9 1)) ((u 9 0)) ((u 0 12)) ((u 11 (i))) : Nat) : Int)))), (0, .ref (a 0)), (1, .int (zI x1)), (2, .int (zI x2)), (3, .int (zI (((bn (plF u) 8 : Nat) : Int))))] dX11_wrongAt_198 rfl (by decide) rfl ?_
                                  refine z_goto C 72 dX11_wrongAt_201 (by decide) ?_
                                  refine z_lv [(0, .ref (a 0)), (1, .int (zI x1)), (2, .int (zI x2)), (3, .int (zI (((bn (plF u) 8 : Nat) : Int)))), (4, .int (zI (i + 1)))] [3, 4, 5, 6, 0] rfl ?_
                                  exact ih72 (i + 1) ((fun j => if j = i then true else E j)) ((fun j => if j = so i then ech (plF u) X (so i) i else X j)) ((fun j => if j = so i then ((bn (ech (plF u) X (so i) i) 8 : Nat) : Int) else if j = i then ((like (u 5) (u 9 1) (u 9 0) (u 0 12) (u 11 i) : Nat) : Int) else al j)) (by omega) (by first | (exfalso; omega) | exact Run_echo (by omega) hR (by omega) hs2 (by omega) hnz) (al_put2 (M := plN u) (n := u 0 21) (by omega) (by omega) (hR.2.1 i (Int.le_refl _) (by omega)) (lk_plN u i) rfl hal) (XL_ech (by omega) hXl) (Eq.trans (if_neg (show ¬ ((0 : Int) = i) by omega)) hE0) (by omega)
                                · have hnz : ¬ nz (ech (plF u) X (so i) i) := nz_no rfl h23
                                  refine z_iload C 6 dX11_wrongAt_195 rfl ?_
                                  exact kret i (us (us u 14 so) 15 (fun j => if j = so i then ((bn (ech (plF u) X (so i) i) 8 : Nat) : Int) else if j = i then ((like (u 5) (u 9 1) (u 9 0) (u 0 12) (u 11 i) : Nat) : Int) else al j)) _ _ (⟨so, _, rfl, hso2, Or.inr ⟨by omega, Run_bad (by omega) hR ⟨fun q => by first | exact absurd q.1 (by omega) | exact hnz q.2, fun q => by first | exact absurd q.1 (by omega) | exact hnz q.2.2.2⟩⟩⟩) dX11_wrongAt_197
                              · exfalso; omega
                          · skip
                            refine z_iload C 6 dX11_wrongAt_153 rfl ?_
                            exact kret i (us (us u 14 so) 15 (fun j => if j = i then ((like (u 5) (u 9 1) (u 9 0) (u 0 12) (u 11 i) : Nat) : Int) else al j)) _ _ (⟨so, _, rfl, hso2, Or.inr ⟨by omega, Run_bad (by omega) hR ⟨fun q => absurd q.1 (by omega), fun q => by first | exact absurd q.1 (by omega) | exact absurd q.2.2.1 (by omega) | exact absurd (((hR.1 (so i) q.1.1 (by omega)).2 ⟨q.1.2, hbad⟩).symm.trans q.2.1) (by decide)⟩⟩⟩) dX11_wrongAt_155
              refine z_lv [(0, .ref (a 0)), (1, .int (zI x1)), (2, .int (zI x2)), (3, .int (zI (((bn (plF u) 8 : Nat) : Int)))), (4, .int (zI 0))] [1, 2, 3, 4, 0] rfl ?_
              exact L72_5 (((u 0 21 - 0 : Int)).toNat + 1) 0 ((fun _ => false)) ((plN u)) ((u 15)) (by omega) (Run_0) (fun j h0 h1 => absurd h1 (by omega)) (XL_0 u) (rfl) (by omega)
            · skip
              have he := hI.echo i hi.1 (by omega)
              refine z_iload_n C 3 dX11_wrongAt_50 rfl ?_
              refine z_aload_n C 0 dX11_wrongAt_51 rfl ?_
              refine z_get C hK (v := .ref (a 7)) inX11_wrongAt_X11 0 (WM_0 a c ((us u 14 (so)))) rfl 16 (by decide) (List.mem_of_getElem? (i := 4) rfl) rfl dX11_wrongAt_52 ?_
              refine z_iload C 4 dX11_wrongAt_55 rfl ?_
              refine z_iald C hK 0 (g := (u 7)) (i := i) 7 (WM_7 a c ((us u 14 (so)))) rfl (by decide) (by omega) dX11_wrongAt_57 ?_
              refine z_as (b := u 7 (i)) rfl ?_
              refine z_iload C 4 dX11_wrongAt_58 rfl ?_
              refine z_ishl C (((if u 7 i = 1 then 2 ^ i.toNat else 0 : Nat) : Int)) dX11_wrongAt_60 (echo_shl he (by omega)) ?_
              refine z_ior C (((bn (fun q => decide (u 7 q = 1)) i.toNat ||| (if u 7 i = 1 then 2 ^ i.toNat else 0) : Nat) : Int)) dX11_wrongAt_61 (by rw [hb]; exact zI_or _ _) ?_
              refine z_istore_n C [(3, .int (zI (((bn (fun q => decide (u 7 q = 1)) i.toNat ||| (if u 7 i = 1 then 2 ^ i.toNat else 0) : Nat) : Int)))), (0, .ref (a 0)), (1, .int (zI x1)), (2, .int (zI x2)), (4, .int (zI i))] dX11_wrongAt_62 rfl (by decide) rfl ?_
              refine z_iinc C 4 [(4, .int (zI (i + 1))), (3, .int (zI (((bn (fun q => decide (u 7 q = 1)) i.toNat ||| (if u 7 i = 1 then 2 ^ i.toNat else 0) : Nat) : Int)))), (0, .ref (a 0)), (1, .int (zI x1)), (2, .int (zI x2))] dX11_wrongAt_63 rfl (by decide) rfl ?_
              refine z_goto C 41 dX11_wrongAt_66 (by decide) ?_
              refine z_lv [(0, .ref (a 0)), (1, .int (zI x1)), (2, .int (zI x2)), (3, .int (zI (((bn (fun q => decide (u 7 q = 1)) i.toNat ||| (if u 7 i = 1 then 2 ^ i.toNat else 0) : Nat) : Int)))), (4, .int (zI (i + 1)))] [2, 3, 4, 1, 0] rfl ?_
              exact ih41 (i + 1) (((bn (fun q => decide (u 7 q = 1)) i.toNat ||| (if u 7 i = 1 then 2 ^ i.toNat else 0) : Nat) : Int)) (by omega) (echo_step (E := u 7) hi.1 he) (by omega)
        refine z_lv [(0, .ref (a 0)), (1, .int (zI x1)), (2, .int (zI x2)), (3, .int (zI 0)), (4, .int (zI 0))] [2, 3, 4, 1, 0] rfl ?_
        exact L41_3 (((u 0 12 - 0 : Int)).toNat + 1) 0 0 (by omega) (rfl) (by omega)
      · skip
        refine z_aload_n C 0 dX11_wrongAt_13 rfl ?_
        refine z_get C hK (v := .ref (a 14)) inX11_wrongAt_X11 0 (WM_0 a c ((us u 14 (so)))) rfl 26 (by decide) (List.mem_of_getElem? (i := 2) rfl) rfl dX11_wrongAt_14 ?_
        refine z_iload_n C 3 dX11_wrongAt_17 rfl ?_
        refine z_iload_n C 2 dX11_wrongAt_18 rfl ?_
        refine z_bipush C dX11_wrongAt_19 (by decide) ?_
        refine z_irem C dX11_wrongAt_21 (by omega) ?_
        refine z_as (b := x2 % 7) (Int.tmod_eq_emod_of_nonneg (by omega)) ?_
        refine z_iconst C dX11_wrongAt_22 ?_
        refine z_isub C dX11_wrongAt_23 ?_
        refine z_iast C hK (hDD _) 0 (g := (us u 14 (so)) 14) 14 (WM_14 a c ((us u 14 (so)))) rfl (by decide) (by omega) (WM_14_set a c ((us u 14 (so))) k ((x2 % 7) - 1)) dX11_wrongAt_24 ?_
        refine z_iload_n C 2 dX11_wrongAt_25 rfl ?_
        refine z_bipush C dX11_wrongAt_26 (by decide) ?_
        refine z_idiv C dX11_wrongAt_28 (by omega) ?_
        refine z_as (b := x2 / 7) (Int.tdiv_eq_ediv_of_nonneg (by omega)) ?_
        refine z_istore_n C [(2, .int (zI (x2 / 7))), (0, .ref (a 0)), (1, .int (zI x1)), (3, .int (zI k))] dX11_wrongAt_29 rfl (by decide) rfl ?_
        refine z_iinc C 3 [(3, .int (zI (k + (-1)))), (2, .int (zI (x2 / 7))), (0, .ref (a 0)), (1, .int (zI x1))] dX11_wrongAt_30 rfl (by decide) rfl ?_
        refine z_goto C 9 dX11_wrongAt_33 (by decide) ?_
        refine z_lv [(0, .ref (a 0)), (1, .int (zI x1)), (2, .int (zI (x2 / 7))), (3, .int (zI (k + (-1))))] [2, 3, 1, 0] rfl ?_
        exact ih9 (k + (-1)) (x2 / 7) ((fun j => if j = k then x2 % 7 - 1 else so j)) (by omega) (dg_next (by omega) hx) (by omega) (dg_put (by omega) hx hso) (by omega)
  refine z_lv [(0, .ref (a 0)), (1, .int (zI x1)), (2, .int (zI x1)), (3, .int (zI ((u 0 21) - 1)))] [2, 3, 1, 0] rfl ?_
  exact L9_1 (((((u 0 21) - 1) + 1 : Int)).toNat + 1) ((u 0 21) - 1) x1 ((u 14)) (by omega) (by rw [show (u 0 21 - 1 - (u 0 21 - 1)).toNat = 0 by omega]; exact (Int.ediv_one x1).symm) (by omega) (fun j h0 h1 => absurd h1 (by omega)) (by omega)
-- NoteBellsModel.men
theorem inX11_men_X11 : ∀ w ∈ wsX110, w ∈ wsX11_men := fun w h => List.mem_cons_of_mem _ (List.mem_append_right _ (h))
set_option maxHeartbeats 1000000 in
set_option maxRecDepth 100000 in
theorem c_X11_men (l : Launch) (D : va_G) (a : Nat → Nat) (c : Nat → ClassId) (u : zU)  (hI : IM u) : ZM l D (zTy c) (WM a c) yX11_men wsX11_men 9 [.ref (a 0)] u rI (fun z u' => (∃ (so al s t : Int → Int) (F : Int), u' = up (us (us (us (us (u) 14 so) 15 al) 16 s) 17 t) 0 28 F) ∧ ((u 0 21 = 0 ∧ z = 0) ∨ (u 0 21 ≠ 0 ∧ ∃ V : Int, Bst 4 V (PlR u) ∧ z = if 3 < V then -9 else V))) := by
  refine ZM.ofI (cc := cX11_men) (maxL := 6) [(0, .ref (a 0))] rfl (by decide +kernel) rfl (Nat.le_of_ble_eq_true rfl) (WM_addr a c) ?_
  intro x C hK _ _ hDD kret
  have hno := hI.notes
  have hpN := p7_bd (k := (u 0 21).toNat) (by omega)
  refine z_aload_n C 0 dX11_men_0 rfl ?_
  refine z_get C hK (v := .int (zI (u 0 21))) inX11_men_X11 0 (WM_0 a c u) rfl 21 (by decide) (List.mem_of_getElem? (i := 1) rfl) rfl dX11_men_1 ?_
  refine z_if_ne C 9 dX11_men_4 (by decide) (by omega) (fun h1 => ?_) (fun h1 => ?_)
  · skip
    refine z_aload_n C 0 dX11_men_9 rfl ?_
    refine z_iconst C dX11_men_10 ?_
    refine z_put C hK (hDD _) inX11_men_X11 tyX11 tyX11_ok nmX11 0 (WM_0 a c u) rfl 28 (by decide) (List.mem_of_getElem? (i := 2) rfl) rfl rfl rfl (Nat.le_of_ble_eq_true rfl) (WM_0_p28 a c u 4) dX11_men_11 ?_
    refine z_iconst C dX11_men_14 ?_
    refine z_istore_n C [(1, .int (zI 1)), (0, .ref (a 0))] dX11_men_15 rfl (by decide) rfl ?_
    refine z_iconst C dX11_men_16 ?_
    refine z_istore_n C [(2, .int (zI 0)), (1, .int (zI 1)), (0, .ref (a 0))] dX11_men_17 rfl (by decide) rfl ?_
    have L18_2 : ∀ (fu : Nat) (p : Int) (i : Int), (0 ≤ i ∧ i ≤ u 0 21) → (p = 7 ^ i.toNat) → u 0 21 - i < (fu : Int) → Z x 0 0 (WM a c (up u 0 (28) (4))) [(0, .ref (a 0)), (1, .int (zI p)), (2, .int (zI i))] 18 [] := by
      intro fu
      induction fu with
      | zero => intro p i hi hp hmeas; exfalso; omega
      | succ fu ih18 =>
        intro p i hi hp hmeas
        refine z_iload_n C 2 dX11_men_18 rfl ?_
        refine z_aload_n C 0 dX11_men_19 rfl ?_
        refine z_get C hK (v := .int (zI (u 0 21))) inX11_men_X11 0 (WM_0 a c ((up u 0 (28) (4)))) rfl 21 (by decide) (List.mem_of_getElem? (i := 1) rfl) rfl dX11_men_20 ?_
        refine z_icmp_ge C 37 dX11_men_23 (by decide) (by omega) (fun h3 => ?_) (fun h3 => ?_)
        · skip
          have hpe : p = 7 ^ (u 0 21).toNat := by rw [hp, show i = u 0 21 by omega]
          refine z_ws (ws' := (WM a c (up (us (us (us (us u 14 ((u 14))) 15 ((u 15))) 16 ((u 16))) 17 ((u 17))) 0 (28) (4)))) (congrArg (WM a c) (mw_self u 4)) ?_
          refine z_iconst C dX11_men_37 ?_
          refine z_istore_n C [(2, .int (zI 0)), (0, .ref (a 0)), (1, .int (zI p))] dX11_men_38 rfl (by decide) rfl ?_
          have L39_4 : ∀ (fu : Nat) (x1 : Int) (so : Int → Int) (al : Int → Int) (s : Int → Int) (t : Int → Int) (F : Int), (0 ≤ x1 ∧ x1 ≤ p) → (1 ≤ F ∧ F ≤ 4) → (Bst 4 F (fun t => Tri (plN u) (u 10) (u 9 2) (u 0 21) (plF u) x1 t)) → p - x1 < (fu : Int) → Z x 0 0 (WM a c (up (us (us (us (us u 14 (so)) 15 (al)) 16 (s)) 17 (t)) 0 (28) (F))) [(0, .ref (a 0)), (1, .int (zI p)), (2, .int (zI x1))] 39 [] := by
            intro fu
            induction fu with
            | zero => intro x1 so al s t F ha hF hB hmeas; exfalso; omega
            | succ fu ih39 =>
              intro x1 so al s t F ha hF hB hmeas
              refine z_iload_n C 2 dX11_men_39 rfl ?_
              refine z_iload_n C 1 dX11_men_40 rfl ?_
              refine z_icmp_ge C 107 dX11_men_41 (by decide) (by omega) (fun h5 => ?_) (fun h5 => ?_)
              · skip
                refine z_aload_n C 0 dX11_men_107 rfl ?_
                refine z_get C hK (v := .int (zI F)) inX11_men_X11 0 (WM_0 a c ((up (us (us (us (us u 14 (so)) 15 (al)) 16 (s)) 17 (t)) 0 (28) (F)))) rfl 28 (by decide) (List.mem_of_getElem? (i := 2) rfl) rfl dX11_men_108 ?_
                refine z_iconst C dX11_men_111 ?_
                refine z_icmp_le C 120 dX11_men_112 (by decide) (by omega) (fun h6 => ?_) (fun h6 => ?_)
                · skip
                  refine z_aload_n C 0 dX11_men_120 rfl ?_
                  refine z_get C hK (v := .int (zI F)) inX11_men_X11 0 (WM_0 a c ((up (us (us (us (us u 14 (so)) 15 (al)) 16 (s)) 17 (t)) 0 (28) (F)))) rfl 28 (by decide) (List.mem_of_getElem? (i := 2) rfl) rfl dX11_men_121 ?_
                  exact kret F (up (us (us (us (us u 14 so) 15 al) 16 s) 17 t) 0 28 F) _ _ (⟨⟨so, al, s, t, F, rfl⟩, Or.inr ⟨by omega, F, tri_end (by omega) (by rw [← hpe]; omega) hB, by first | rw [if_pos (by omega)] | rw [if_neg (by omega)]⟩⟩) dX11_men_124
                · skip
                  refine z_bipush C dX11_men_115 (by decide) ?_
                  refine z_goto C 124 dX11_men_117 (by decide) ?_
                  exact kret (-9) (up (us (us (us (us u 14 so) 15 al) 16 s) 17 t) 0 28 F) _ _ (⟨⟨so, al, s, t, F, rfl⟩, Or.inr ⟨by omega, F, tri_end (by omega) (by rw [← hpe]; omega) hB, by first | rw [if_pos (by omega)] | rw [if_neg (by omega)]⟩⟩) dX11_men_124
              · skip
                refine z_aload_n C 0 dX11_men_44 rfl ?_
                refine z_iload_n C 2 dX11_men_45 rfl ?_
                refine z_callV C hK hDD (c_X11_wrongAt (zl x) (zG x) a c ((up (us (us (us (us u 14 (so)) 15 (al)) 16 (s)) 17 (t)) 0 (28) (F))) x1 (hI) (show 1 ≤ (u 0 21) by omega) (show 0 ≤ x1 ∧ x1 < 1000000 by omega)) gX11_men_X11_wrongAt rfl zy_X11_wrongAt 0 (WM_0 a c ((up (us (us (us (us u 14 (so)) 15 (al)) 16 (s)) 17 (t)) 0 (28) (F)))) rfl ⟨by omega, by decide⟩ rfl (Nat.le_of_ble_eq_true rfl) (st := []) (stk2 := fun z7 => [.int (zI z7)]) rfl (fun _ => rfl) dX11_men_46 (fun z7 u8 h9 => ?_)
                obtain ⟨so2, al2, e2, hso, hW⟩ := h9
                rw [e2]
                have hzb : -1 ≤ z7 ∧ z7 < u 0 21 := hW.elim (fun g => by omega) (fun g => ⟨by omega, g.1.2⟩)
                change Z x 0 0 (WM a c (up (us (us (us (us u 14 (so2)) 15 (al2)) 16 (s)) 17 (t)) 0 (28) (F))) _ _ _
                refine z_istore_n C [(3, .int (zI z7)), (0, .ref (a 0)), (1, .int (zI p)), (2, .int (zI x1))] dX11_men_49 rfl (by decide) rfl ?_
                refine z_iload_n C 0 dX11_men_50 rfl ?_
                refine z_if_ge C 64 dX11_men_51 (by decide) (by omega) (fun h10 => ?_) (fun h10 => ?_)
                · have hW2 := hW.resolve_left (fun q => absurd q.1 (by omega))
                  refine z_iconst C dX11_men_64 ?_
                  refine z_istore C [(4, .int (zI 1)), (3, .int (zI z7)), (0, .ref (a 0)), (1, .int (zI p)), (2, .int (zI x1))] dX11_men_65 (by decide) rfl ?_
                  refine z_iload_n C 1 dX11_men_67 rfl ?_
                  refine z_iconst C dX11_men_68 ?_
                  refine z_iadd C dX11_men_69 ?_
                  refine z_istore C [(5, .int (zI (z7 + 1))), (4, .int (zI 1)), (3, .int (zI z7)), (0, .ref (a 0)), (1, .int (zI p)), (2, .int (zI x1))] dX11_men_70 (by decide) rfl ?_
                  have L72_11 : ∀ (fu : Nat) (w1 : Int) (p2 : Int) (i2 : Int), (0 ≤ w1 ∧ w1 < u 0 21) → (Bad (plN u) (u 10) (u 9 2) (u 0 21) (plF u) so2 w1) → (w1 + 1 ≤ i2 ∧ i2 ≤ u 0 21) → (p2 = 7 ^ (i2 - (w1 + 1)).toNat) → u 0 21 - i2 < (fu : Int) → Z x 0 0 (WM a c (up (us (us (us (us u 14 (so2)) 15 (al2)) 16 (s)) 17 (t)) 0 (28) (F))) [(0, .ref (a 0)), (1, .int (zI p)), (2, .int (zI x1)), (3, .int (zI w1)), (4, .int (zI p2)), (5, .int (zI i2))] 72 [] := by
                    intro fu
                    induction fu with
                    | zero => intro w1 p2 i2 hw1 hbad hi2 hp2 hmeas; exfalso; omega
                    | succ fu ih72 =>
                      intro w1 p2 i2 hw1 hbad hi2 hp2 hmeas
                      refine z_iload C 5 dX11_men_72 rfl ?_
                      refine z_aload_n C 0 dX11_men_74 rfl ?_
                      refine z_get C hK (v := .int (zI (u 0 21))) inX11_men_X11 0 (WM_0 a c ((up (us (us (us (us u 14 (so2)) 15 (al2)) 16 (s)) 17 (t)) 0 (28) (F)))) rfl 21 (by decide) (List.mem_of_getElem? (i := 1) rfl) rfl dX11_men_75 ?_
                      refine z_icmp_ge C 94 dX11_men_78 (by decide) (by omega) (fun h12 => ?_) (fun h12 => ?_)
                      · skip
                        have hp3 : p2 = 7 ^ (u 0 21 - 1 - w1).toNat := by rw [hp2, show i2 - (w1 + 1) = u 0 21 - 1 - w1 by omega]
                        have hsb := skip_bd (a := x1) (e := (u 0 21 - 1 - w1).toNat) (N := (u 0 21).toNat) ha.1 (by rw [← hpe]; omega) (by omega)
                        rw [← hp3, ← hpe] at hsb
                        have hp2b : 1 ≤ p2 ∧ p2 ≤ 117649 := by rw [hp3]; exact p7_bd (by omega)
                        refine z_iload_n C 2 dX11_men_94 rfl ?_
                        refine z_iload C 4 dX11_men_95 rfl ?_
                        refine z_idiv C dX11_men_97 (by omega) ?_
                        refine z_as (b := x1 / p2) (Int.tdiv_eq_ediv_of_nonneg ha.1) ?_
                        refine z_iconst C dX11_men_98 ?_
                        refine z_iadd C dX11_men_99 ?_
                        refine z_iload C 4 dX11_men_100 rfl ?_
                        refine z_imul C dX11_men_102 ?_
                        refine z_istore_n C [(2, .int (zI (((x1 / p2) + 1) * p2))), (0, .ref (a 0)), (1, .int (zI p)), (3, .int (zI w1)), (4, .int (zI p2)), (5, .int (zI i2))] dX11_men_103 rfl (by decide) rfl ?_
                        refine z_goto C 39 dX11_men_104 (by decide) ?_
                        refine z_lv [(0, .ref (a 0)), (1, .int (zI p)), (2, .int (zI (((x1 / p2) + 1) * p2)))] [1, 2, 0] rfl ?_
                        exact ih39 (((x1 / p2) + 1) * p2) so2 al2 s t F (by omega) (by first | exact hF2 | exact hF) (by first | exact hB3 | exact tri_skip hw1 hso hbad (by rw [hp3]) (by omega) hB) (by omega)
                      · skip
                        have hpb2 := p7_bd (k := (i2 - (w1 + 1)).toNat) (by omega)
                        rw [← hp2] at hpb2
                        refine z_iload C 4 dX11_men_81 rfl ?_
                        refine z_bipush C dX11_men_83 (by decide) ?_
                        refine z_imul C dX11_men_85 ?_
                        refine z_istore C [(4, .int (zI (p2 * 7))), (0, .ref (a 0)), (1, .int (zI p)), (2, .int (zI x1)), (3, .int (zI w1)), (5, .int (zI i2))] dX11_men_86 (by decide) rfl ?_
                        refine z_iinc C 5 [(5, .int (zI (i2 + 1))), (4, .int (zI (p2 * 7))), (0, .ref (a 0)), (1, .int (zI p)), (2, .int (zI x1)), (3, .int (zI w1))] dX11_men_88 rfl (by decide) rfl ?_
                        refine z_goto C 72 dX11_men_91 (by decide) ?_
                        refine z_lv [(0, .ref (a 0)), (1, .int (zI p)), (2, .int (zI x1)), (3, .int (zI w1)), (4, .int (zI (p2 * 7))), (5, .int (zI (i2 + 1)))] [2, 3, 4, 5, 1, 0] rfl ?_
                        exact ih72 w1 (p2 * 7) (i2 + 1) (hw1) (hbad) (by omega) (by rw [hp2, p7_step (by omega), show i2 - (w1 + 1) + 1 = i2 + 1 - (w1 + 1) by omega]) (by omega)
                  refine z_lv [(0, .ref (a 0)), (1, .int (zI p)), (2, .int (zI x1)), (3, .int (zI z7)), (4, .int (zI 1)), (5, .int (zI (z7 + 1)))] [3, 4, 5, 2, 1, 0] rfl ?_
                  exact L72_11 (((u 0 21 - (z7 + 1) : Int)).toNat + 1) z7 1 (z7 + 1) (hW2.1) (hW2.2) (by omega) (by rw [Int.sub_self]; rfl) (by omega)
                · obtain ⟨hz1, E, X, hR, hal, hXl, hE0⟩ := hW.resolve_right (fun q => absurd q.1.1 (by omega))
                  refine z_aload_n C 1 dX11_men_54 rfl ?_
                  refine z_callV C hK hDD (c_X11_looks (zl x) (zG x) a c ((up (us (us (us (us u 14 (so2)) 15 (al2)) 16 (s)) 17 (t)) 0 (28) (F))) E X (hI) (show 1 ≤ u 0 21 by omega) (fun j h0 h1 => (hR.1 j h0 h1).trans ⟨fun q => q.2, fun q => ⟨h1, q⟩⟩) (so_bd hso) (hal) (hXl) (hE0) (show 1 ≤ F ∧ F ≤ 4 from hF)) gX11_men_X11_looks rfl zy_X11_looks 0 (WM_0 a c ((up (us (us (us (us u 14 (so2)) 15 (al2)) 16 (s)) 17 (t)) 0 (28) (F)))) rfl ⟨by omega, by decide⟩ rfl (Nat.le_of_ble_eq_true rfl) (st := []) (stk2 := fun _ => []) rfl (fun _ => rfl) dX11_men_55 (fun z13 u14 h15 => ?_)
                  obtain ⟨s2, t2, F2, e3, hB2⟩ := h15
                  rw [e3]
                  have hB3 := tri_next (show 1 ≤ u 0 21 ∧ u 0 21 ≤ 6 by omega) ha.1 hso hR hB hB2
                  have hF2 : 1 ≤ F2 ∧ F2 ≤ 4 := bst_1 (F := F) hB2 hF
                  change Z x 0 0 (WM a c (up (us (us (us (us u 14 (so2)) 15 (al2)) 16 (s2)) 17 (t2)) 0 (28) (F2))) _ _ _
                  refine z_iinc C 3 [(2, .int (zI (x1 + 1))), (3, .int (zI z7)), (0, .ref (a 0)), (1, .int (zI p))] dX11_men_58 rfl (by decide) rfl ?_
                  refine z_goto C 104 dX11_men_61 (by decide) ?_
                  refine z_goto C 39 dX11_men_104 (by decide) ?_
                  refine z_lv [(0, .ref (a 0)), (1, .int (zI p)), (2, .int (zI (x1 + 1)))] [2, 3, 0] rfl ?_
                  exact ih39 (x1 + 1) so2 al2 s2 t2 F2 (by omega) (by first | exact hF2 | exact hF) (by first | exact hB3 | exact tri_skip hw1 hso hbad (by rw [hp3]) (by omega) hB) (by omega)
          refine z_lv [(0, .ref (a 0)), (1, .int (zI p)), (2, .int (zI 0))] [1, 2, 0] rfl ?_
          exact L39_4 (((p - 0 : Int)).toNat + 1) 0 (((u 14))) (((u 15))) (((u 16))) (((u 17))) 4 (by omega) (by omega) (tri_0) (by omega)
        · skip
          have hpb := p7_bd (k := i.toNat) (by omega)
          rw [← hp] at hpb
          refine z_iload_n C 1 dX11_men_26 rfl ?_
          refine z_bipush C dX11_men_27 (by decide) ?_
          refine z_imul C dX11_men_29 ?_
          refine z_istore_n C [(1, .int (zI (p * 7))), (0, .ref (a 0)), (2, .int (zI i))] dX11_men_30 rfl (by decide) rfl ?_
          refine z_iinc C 2 [(2, .int (zI (i + 1))), (1, .int (zI (p * 7))), (0, .ref (a 0))] dX11_men_31 rfl (by decide) rfl ?_
          refine z_goto C 18 dX11_men_34 (by decide) ?_
          refine z_lv [(0, .ref (a 0)), (1, .int (zI (p * 7))), (2, .int (zI (i + 1)))] [2, 1, 0] rfl ?_
          exact ih18 (p * 7) (i + 1) (by omega) (by rw [hp]; exact p7_step hi.1) (by omega)
    refine z_lv [(0, .ref (a 0)), (1, .int (zI 1)), (2, .int (zI 0))] [2, 1, 0] rfl ?_
    exact L18_2 (((u 0 21 - 0 : Int)).toNat + 1) 1 0 (by omega) (rfl) (by omega)
  · skip
    refine z_iconst C dX11_men_7 ?_
    exact kret 0 u _ _ (⟨⟨u 14, u 15, u 16, u 17, u 0 28, mw_self0 u⟩, Or.inl ⟨by omega, rfl⟩⟩) dX11_men_8
