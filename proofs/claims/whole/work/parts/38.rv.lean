/-! ===== contracts: the reference's shaft ===== -/

theorem zy_X11_shaft : zY yX11_shaft 0 := ⟨by decide +kernel, by decide +kernel, by decide +kernel⟩
-- NoteBellsModel.shaft
theorem inX11_shaft_X11 : ∀ w ∈ wsX110, w ∈ wsX11_shaft := fun w h => List.mem_cons_of_mem _ (List.mem_append_right _ (h))
set_option maxHeartbeats 8000000 in
set_option maxRecDepth 100000 in
theorem c_X11_shaft (l : Launch) (D : va_G) (a : Nat → Nat) (c : Nat → ClassId) (u : zU)  (hI : IM u) : ZM l D (zTy c) (WM a c) yX11_shaft wsX11_shaft 7 [.ref (a 0)] u rI (fun z u' => ∃ (f : Nat) (D' : zU), Prs (KT (u 1) (u 0 1)) (NTk (u 1) (u 0 1)) (ST (u 1) (u 0 1)) f D0 0 0 z D' ∧ ((z < 0 ∧ FrR (u) u') ∨ (0 ≤ z ∧ RnD D' ∧ IM u' ∧ ShM (u) u' D'))) := by
  refine ZM.ofI (cc := cX11_shaft) (maxL := 3) [(0, .ref (a 0))] rfl (by decide +kernel) rfl (Nat.le_of_ble_eq_true rfl) (WM_addr a c) ?_
  intro x C hK _ _ hDD kret
  have htl := hI.tlen
  refine z_aload_n C 0 dX11_shaft_0 rfl ?_
  refine z_iconst C dX11_shaft_1 ?_
  refine z_put C hK (hDD _) inX11_shaft_X11 tyX11 tyX11_ok nmX11 0 (WM_0 a c u) rfl 2 (by decide) (List.mem_of_getElem? (i := 1) rfl) rfl rfl rfl (Nat.le_of_ble_eq_true rfl) (WM_0_p2 a c u 0) dX11_shaft_2 ?_
  refine z_aload_n C 0 dX11_shaft_5 rfl ?_
  refine z_iconst C dX11_shaft_6 ?_
  refine z_put C hK (hDD _) inX11_shaft_X11 tyX11 tyX11_ok nmX11 0 (WM_0 a c ((up u 0 (2) (0)))) rfl 6 (by decide) (List.mem_of_getElem? (i := 2) rfl) rfl rfl rfl (Nat.le_of_ble_eq_true rfl) (WM_0_p6 a c ((up u 0 (2) (0))) 0) dX11_shaft_7 ?_
  refine z_aload_n C 0 dX11_shaft_10 rfl ?_
  refine z_iconst C dX11_shaft_11 ?_
  refine z_put C hK (hDD _) inX11_shaft_X11 tyX11 tyX11_ok nmX11 0 (WM_0 a c ((up (up u 0 (2) (0)) 0 (6) (0)))) rfl 7 (by decide) (List.mem_of_getElem? (i := 3) rfl) rfl rfl rfl (Nat.le_of_ble_eq_true rfl) (WM_0_p7 a c ((up (up u 0 (2) (0)) 0 (6) (0))) 0) dX11_shaft_12 ?_
  refine z_aload_n C 0 dX11_shaft_15 rfl ?_
  refine z_iconst C dX11_shaft_16 ?_
  refine z_put C hK (hDD _) inX11_shaft_X11 tyX11 tyX11_ok nmX11 0 (WM_0 a c ((up (up (up u 0 (2) (0)) 0 (6) (0)) 0 (7) (0)))) rfl 11 (by decide) (List.mem_of_getElem? (i := 4) rfl) rfl rfl rfl (Nat.le_of_ble_eq_true rfl) (WM_0_p11 a c ((up (up (up u 0 (2) (0)) 0 (6) (0)) 0 (7) (0))) 0) dX11_shaft_17 ?_
  refine z_aload_n C 0 dX11_shaft_20 rfl ?_
  refine z_get C hK (v := .ref (a 4)) inX11_shaft_X11 0 (WM_0 a c ((up (up (up (up u 0 (2) (0)) 0 (6) (0)) 0 (7) (0)) 0 (11) (0)))) rfl 10 (by decide) (List.mem_of_getElem? (i := 5) rfl) rfl dX11_shaft_21 ?_
  refine z_iconst C dX11_shaft_24 ?_
  refine z_iconst C dX11_shaft_25 ?_
  refine z_iast C hK (hDD _) 0 (g := (up (up (up (up u 0 (2) (0)) 0 (6) (0)) 0 (7) (0)) 0 (11) (0)) 4) 4 (WM_4 a c ((up (up (up (up u 0 (2) (0)) 0 (6) (0)) 0 (7) (0)) 0 (11) (0)))) rfl (by decide) (by omega) (WM_4_set a c ((up (up (up (up u 0 (2) (0)) 0 (6) (0)) 0 (7) (0)) 0 (11) (0))) 0 0) dX11_shaft_26 ?_
  refine z_aload_n C 0 dX11_shaft_27 rfl ?_
  refine z_get C hK (v := .ref (a 4)) inX11_shaft_X11 0 (WM_0 a c ((up (up (up (up (up u 0 (2) (0)) 0 (6) (0)) 0 (7) (0)) 0 (11) (0)) 4 (0) (0)))) rfl 10 (by decide) (List.mem_of_getElem? (i := 5) rfl) rfl dX11_shaft_28 ?_
  refine z_iconst C dX11_shaft_31 ?_
  refine z_iconst C dX11_shaft_32 ?_
  refine z_iast C hK (hDD _) 0 (g := (up (up (up (up (up u 0 (2) (0)) 0 (6) (0)) 0 (7) (0)) 0 (11) (0)) 4 (0) (0)) 4) 4 (WM_4 a c ((up (up (up (up (up u 0 (2) (0)) 0 (6) (0)) 0 (7) (0)) 0 (11) (0)) 4 (0) (0)))) rfl (by decide) (by omega) (WM_4_set a c ((up (up (up (up (up u 0 (2) (0)) 0 (6) (0)) 0 (7) (0)) 0 (11) (0)) 4 (0) (0))) 1 0) dX11_shaft_33 ?_
  refine z_aload_n C 0 dX11_shaft_34 rfl ?_
  refine z_get C hK (v := .ref (a 4)) inX11_shaft_X11 0 (WM_0 a c ((up (up (up (up (up (up u 0 (2) (0)) 0 (6) (0)) 0 (7) (0)) 0 (11) (0)) 4 (0) (0)) 4 (1) (0)))) rfl 10 (by decide) (List.mem_of_getElem? (i := 5) rfl) rfl dX11_shaft_35 ?_
  refine z_iconst C dX11_shaft_38 ?_
  refine z_iconst C dX11_shaft_39 ?_
  refine z_iast C hK (hDD _) 0 (g := (up (up (up (up (up (up u 0 (2) (0)) 0 (6) (0)) 0 (7) (0)) 0 (11) (0)) 4 (0) (0)) 4 (1) (0)) 4) 4 (WM_4 a c ((up (up (up (up (up (up u 0 (2) (0)) 0 (6) (0)) 0 (7) (0)) 0 (11) (0)) 4 (0) (0)) 4 (1) (0)))) rfl (by decide) (by omega) (WM_4_set a c ((up (up (up (up (up (up u 0 (2) (0)) 0 (6) (0)) 0 (7) (0)) 0 (11) (0)) 4 (0) (0)) 4 (1) (0))) 2 1) dX11_shaft_40 ?_
  refine z_iconst C dX11_shaft_41 ?_
  refine z_istore_n C [(1, .int (zI 0)), (0, .ref (a 0))] dX11_shaft_42 rfl (by decide) rfl ?_
  refine z_aload_n C 1 dX11_shaft_43 rfl ?_
  refine z_callV C hK hDD (c_X11_reads (zl x) (zG x) a c ((up (up (up (up (up (up (up u 0 (2) (0)) 0 (6) (0)) 0 (7) (0)) 0 (11) (0)) 4 (0) (0)) 4 (1) (0)) 4 (2) (1)))  (hI) (⟨Int.le_refl 0, htl.1⟩)) gX11_shaft_X11_reads rfl zy_X11_reads 0 (WM_0 a c ((up (up (up (up (up (up (up u 0 (2) (0)) 0 (6) (0)) 0 (7) (0)) 0 (11) (0)) 4 (0) (0)) 4 (1) (0)) 4 (2) (1)))) rfl ⟨by omega, by decide⟩ rfl (Nat.le_of_ble_eq_true rfl) (st := []) (stk2 := fun _ => []) rfl (fun _ => rfl) dX11_shaft_44 (fun z1 u2 h3 => ?_)
  replace h3 : ∃ tok td at' : Int, u2 = rds (((up (up (up (up (up (up (up u 0 (2) (0)) 0 (6) (0)) 0 (7) (0)) 0 (11) (0)) 4 (0) (0)) 4 (1) (0)) 4 (2) (1)))) (skp ((u 1)) ((u 0 1)) ((0))) tok td at' ∧ RdP ((u 1)) ((u 0 1)) (skp ((u 1)) ((u 0 1)) ((0))) tok td at' := h3
  obtain ⟨hF1, hC1, hD1⟩ := first_of rfl h3
  have L47_4 : ∀ (fu : Nat) (v : zU) (j : Nat) (Dr : zU) (n : Int), (FrR u v) → (Cur v j) → (DM v Dr) → (RnD Dr) → (Liv (KT (u 1) (u 0 1)) (j : Int)) → (Pon (KT (u 1) (u 0 1)) (NTk (u 1) (u 0 1)) (ST (u 1) (u 0 1)) Dr (j : Int) n) → (0 ≤ n ∧ n ≤ (j : Int)) → 201 - (j : Int) < (fu : Int) → Z x 0 0 (WM a c v) [(0, .ref (a 0)), (1, .int (zI n))] 47 [] := by
    intro fu
    induction fu with
    | zero => intro v j Dr n hF hCv hDv hRn hLv hPn hn hmeas; exfalso; have h2 := Liv_200 htl hLv; omega
    | succ fu ih47 =>
      intro v j Dr n hF hCv hDv hRn hLv hPn hn hmeas
      have ev1 := hF.tx
      have ev2 := hF.tn
      have hIv := hF.im hI
      have hcv := hCv.2
      unfold RdP at hcv
      have hj2 := Liv_200 htl hLv
      have ekv : KT (u 1) (u 0 1) (j : Int) = kd (v 1) (v 0 1) (ps (v 1) (v 0 1) j) := by rw [ev1, ev2]; rfl
      refine z_aload_n C 0 dX11_shaft_47 rfl ?_
      refine z_get C hK (v := .int (zI (v 0 4))) inX11_shaft_X11 0 (WM_0 a c v) rfl 4 (by decide) (List.mem_of_getElem? (i := 6) rfl) rfl dX11_shaft_48 ?_
      refine z_if_eq C 79 dX11_shaft_51 (by decide) (by omega) (fun h5 => ?_) (fun h5 => ?_)
      · have hke : KT (u 1) (u 0 1) (j : Int) = 0 := by omega
        obtain ⟨f2, hP2⟩ := Pon_end hPn hke
        have hDv0 := hDv
        have hRn0 := hRn
        obtain ⟨d1, d2, d3, d4, d5, d6⟩ := hDv
        obtain ⟨r1, r2, r3, r4, r5, r6, r7⟩ := hRn
        have h5a : ∀ l : Int, 0 ≤ l → l < v 0 6 → (0 ≤ v 2 (3 * l) ∧ v 2 (3 * l) ≤ 60) ∧ (0 ≤ v 2 (3 * l + 1) ∧ v 2 (3 * l + 1) ≤ 9) ∧ 0 ≤ v 2 (3 * l + 2) ∧ v 2 (3 * l + 2) ≤ 1 := fun l h0 h1 => by
          have g := d5 l h0 h1
          have k := r6 l h0 (by omega)
          rw [← g.1, ← g.2.1, ← g.2.2]
          exact k
        have hrv : ∀ l : Int, 0 ≤ l → l < 8 → (0 ≤ v 5 l ∧ v 5 l ≤ 60) ∧ (0 ≤ v 6 l ∧ v 6 l ≤ 9) ∧ 0 ≤ v 7 l ∧ v 7 l ≤ 1 := fun l h0 h1 => ⟨hIv.pitch l h0 h1, hIv.wear l h0 h1, hIv.echo l h0 h1⟩
        refine z_aload_n C 0 dX11_shaft_79 rfl ?_
        refine z_aload_n C 0 dX11_shaft_80 rfl ?_
        refine z_get C hK (v := .int (zI (v 0 6))) inX11_shaft_X11 0 (WM_0 a c v) rfl 6 (by decide) (List.mem_of_getElem? (i := 2) rfl) rfl dX11_shaft_81 ?_
        refine z_put C hK (hDD _) inX11_shaft_X11 tyX11 tyX11_ok nmX11 0 (WM_0 a c v) rfl 12 (by decide) (List.mem_of_getElem? (i := 8) rfl) rfl rfl rfl (Nat.le_of_ble_eq_true rfl) (WM_0_p12 a c v (v 0 6)) dX11_shaft_84 ?_
        refine z_aload_n C 0 dX11_shaft_87 rfl ?_
        refine z_aload_n C 0 dX11_shaft_88 rfl ?_
        refine z_get C hK (v := .int (zI (v 0 7))) inX11_shaft_X11 0 (WM_0 a c ((up v 0 (12) (v 0 6)))) rfl 7 (by decide) (List.mem_of_getElem? (i := 3) rfl) rfl dX11_shaft_89 ?_
        refine z_put C hK (hDD _) inX11_shaft_X11 tyX11 tyX11_ok nmX11 0 (WM_0 a c ((up v 0 (12) (v 0 6)))) rfl 13 (by decide) (List.mem_of_getElem? (i := 9) rfl) rfl rfl rfl (Nat.le_of_ble_eq_true rfl) (WM_0_p13 a c ((up v 0 (12) (v 0 6))) (v 0 7)) dX11_shaft_92 ?_
        refine z_iconst C dX11_shaft_95 ?_
        refine z_istore_n C [(2, .int (zI 0)), (0, .ref (a 0)), (1, .int (zI n))] dX11_shaft_96 rfl (by decide) rfl ?_
        have L97_6 : ∀ (fu : Nat) (w : zU) (q : Int), (0 ≤ q ∧ q ≤ v 0 6) → (∀ (d : Nat) (k : Int), d ≠ 5 → d ≠ 6 → d ≠ 7 → w d k = (up (up v 0 12 (v 0 6)) 0 13 (v 0 7)) d k) → (∀ l : Int, 0 ≤ l → l < q → w 5 l = v 2 (3 * l) ∧ w 6 l = v 2 (3 * l + 1) ∧ w 7 l = v 2 (3 * l + 2)) → (∀ l : Int, 0 ≤ l → l < 8 → (0 ≤ w 5 l ∧ w 5 l ≤ 60) ∧ (0 ≤ w 6 l ∧ w 6 l ≤ 9) ∧ 0 ≤ w 7 l ∧ w 7 l ≤ 1) → v 0 6 - q < (fu : Int) → Z x 0 0 (WM a c w) [(0, .ref (a 0)), (1, .int (zI n)), (2, .int (zI q))] 97 [] := by
          intro fu
          induction fu with
          | zero => intro w q hq hO h5 hr hmeas; exfalso; omega
          | succ fu ih97 =>
            intro w q hq hO h5 hr hmeas
            have hw12 : w 0 12 = v 0 6 := hO 0 12 (by decide) (by decide) (by decide)
            have hw2 : ∀ k : Int, w 2 k = v 2 k := fun k => hO 2 k (by decide) (by decide) (by decide)
            refine z_iload_n C 2 dX11_shaft_97 rfl ?_
            refine z_aload_n C 0 dX11_shaft_98 rfl ?_
            refine z_get C hK (v := .int (zI (w 0 12))) inX11_shaft_X11 0 (WM_0 a c w) rfl 12 (by decide) (List.mem_of_getElem? (i := 8) rfl) rfl dX11_shaft_99 ?_
            refine z_icmp_ge C 157 dX11_shaft_102 (by decide) (by omega) (fun h7 => ?_) (fun h7 => ?_)
            · skip
              refine z_iconst C dX11_shaft_157 ?_
              refine z_istore_n C [(2, .int (zI 0)), (0, .ref (a 0)), (1, .int (zI n))] dX11_shaft_158 rfl (by decide) rfl ?_
              have L159_8 : ∀ (fu : Nat) (y : zU) (m : Int), (0 ≤ m ∧ m ≤ 3) → (∀ (d : Nat) (k : Int), d ≠ 8 → y d k = w d k) → (∀ k : Int, 0 ≤ k → k < m → y 8 k = if k < v 0 7 then v 3 k else 0) → 3 - m < (fu : Int) → Z x 0 0 (WM a c y) [(0, .ref (a 0)), (1, .int (zI n)), (2, .int (zI m))] 159 [] := by
                intro fu
                induction fu with
                | zero => intro y m hm hO2 h8 hmeas; exfalso; omega
                | succ fu ih159 =>
                  intro y m hm hO2 h8 hmeas
                  have hy13 : y 0 13 = v 0 7 := (hO2 0 13 (by decide)).trans (hO 0 13 (by decide) (by decide) (by decide))
                  have hy3 : y 3 m = v 3 m := (hO2 3 m (by decide)).trans (hO 3 m (by decide) (by decide) (by decide))
                  refine z_iload_n C 2 dX11_shaft_159 rfl ?_
                  refine z_iconst C dX11_shaft_160 ?_
                  refine z_icmp_ge C 194 dX11_shaft_161 (by decide) (by omega) (fun h9 => ?_) (fun h9 => ?_)
                  · skip
                    refine z_iconst C dX11_shaft_194 ?_
                    refine z_istore_n C [(2, .int (zI 0)), (0, .ref (a 0)), (1, .int (zI n))] dX11_shaft_195 rfl (by decide) rfl ?_
                    refine z_iload_n C 0 dX11_shaft_196 rfl ?_
                    refine z_iconst C dX11_shaft_197 ?_
                    refine z_icmp_ge C 219 dX11_shaft_198 (by decide) (by omega) (fun h10 => ?_) (fun h10 => ?_)
                    · exfalso; omega
                    · skip
                      refine z_aload_n C 1 dX11_shaft_201 rfl ?_
                      refine z_get C hK (v := .ref (a 9)) inX11_shaft_X11 0 (WM_0 a c y) rfl 18 (by decide) (List.mem_of_getElem? (i := 16) rfl) rfl dX11_shaft_202 ?_
                      refine z_iload_n C 0 dX11_shaft_205 rfl ?_
                      refine z_as (b := 0) (by decide) ?_
                      refine z_aload_n C 1 dX11_shaft_206 rfl ?_
                      refine z_get C hK (v := .ref (a 4)) inX11_shaft_X11 0 (WM_0 a c y) rfl 10 (by decide) (List.mem_of_getElem? (i := 5) rfl) rfl dX11_shaft_207 ?_
                      refine z_iload_n C 0 dX11_shaft_210 rfl ?_
                      refine z_as (b := 0) (by decide) ?_
                      refine z_iald C hK 0 (g := (y 4)) (i := 0) 4 (WM_4 a c y) rfl (by decide) (by omega) dX11_shaft_211 ?_
                      refine z_as (b := y 4 0) rfl ?_
                      refine z_iast C hK (hDD _) 0 (g := y 9) 9 (WM_9 a c y) rfl (by decide) (by omega) (WM_9_set a c y 0 (y 4 0)) dX11_shaft_212 ?_
                      refine z_iinc C 0 [(2, .int (zI (0 + 1))), (0, .ref (a 0)), (1, .int (zI n))] dX11_shaft_213 rfl (by decide) rfl ?_
                      refine z_goto C 196 dX11_shaft_216 (by decide) ?_
                      refine z_iload_n C 0 dX11_shaft_196 rfl ?_
                      refine z_iconst C dX11_shaft_197 ?_
                      refine z_icmp_ge C 219 dX11_shaft_198 (by decide) (by omega) (fun h11 => ?_) (fun h11 => ?_)
                      · exfalso; omega
                      · skip
                        refine z_aload_n C 1 dX11_shaft_201 rfl ?_
                        refine z_get C hK (v := .ref (a 9)) inX11_shaft_X11 0 (WM_0 a c ((up y 9 (0) (y 4 0)))) rfl 18 (by decide) (List.mem_of_getElem? (i := 16) rfl) rfl dX11_shaft_202 ?_
                        refine z_iload_n C 0 dX11_shaft_205 rfl ?_
                        refine z_as (b := 1) (by decide) ?_
                        refine z_aload_n C 1 dX11_shaft_206 rfl ?_
                        refine z_get C hK (v := .ref (a 4)) inX11_shaft_X11 0 (WM_0 a c ((up y 9 (0) (y 4 0)))) rfl 10 (by decide) (List.mem_of_getElem? (i := 5) rfl) rfl dX11_shaft_207 ?_
                        refine z_iload_n C 0 dX11_shaft_210 rfl ?_
                        refine z_as (b := 1) (by decide) ?_
                        refine z_iald C hK 0 (g := (y 4)) (i := 1) 4 (WM_4 a c ((up y 9 (0) (y 4 0)))) rfl (by decide) (by omega) dX11_shaft_211 ?_
                        refine z_as (b := y 4 1) rfl ?_
                        refine z_iast C hK (hDD _) 0 (g := (up y 9 (0) (y 4 0)) 9) 9 (WM_9 a c ((up y 9 (0) (y 4 0)))) rfl (by decide) (by omega) (WM_9_set a c ((up y 9 (0) (y 4 0))) 1 (y 4 1)) dX11_shaft_212 ?_
                        refine z_iinc C 0 [(2, .int (zI ((0 + 1) + 1))), (0, .ref (a 0)), (1, .int (zI n))] dX11_shaft_213 rfl (by decide) rfl ?_
                        refine z_goto C 196 dX11_shaft_216 (by decide) ?_
                        refine z_iload_n C 0 dX11_shaft_196 rfl ?_
                        refine z_iconst C dX11_shaft_197 ?_
                        refine z_icmp_ge C 219 dX11_shaft_198 (by decide) (by omega) (fun h12 => ?_) (fun h12 => ?_)
                        · exfalso; omega
                        · skip
                          refine z_aload_n C 1 dX11_shaft_201 rfl ?_
                          refine z_get C hK (v := .ref (a 9)) inX11_shaft_X11 0 (WM_0 a c ((up (up y 9 (0) (y 4 0)) 9 (1) (y 4 1)))) rfl 18 (by decide) (List.mem_of_getElem? (i := 16) rfl) rfl dX11_shaft_202 ?_
                          refine z_iload_n C 0 dX11_shaft_205 rfl ?_
                          refine z_as (b := 2) (by decide) ?_
                          refine z_aload_n C 1 dX11_shaft_206 rfl ?_
                          refine z_get C hK (v := .ref (a 4)) inX11_shaft_X11 0 (WM_0 a c ((up (up y 9 (0) (y 4 0)) 9 (1) (y 4 1)))) rfl 10 (by decide) (List.mem_of_getElem? (i := 5) rfl) rfl dX11_shaft_207 ?_
                          refine z_iload_n C 0 dX11_shaft_210 rfl ?_
                          refine z_as (b := 2) (by decide) ?_
                          refine z_iald C hK 0 (g := (y 4)) (i := 2) 4 (WM_4 a c ((up (up y 9 (0) (y 4 0)) 9 (1) (y 4 1)))) rfl (by decide) (by omega) dX11_shaft_211 ?_
                          refine z_as (b := y 4 2) rfl ?_
                          refine z_iast C hK (hDD _) 0 (g := (up (up y 9 (0) (y 4 0)) 9 (1) (y 4 1)) 9) 9 (WM_9 a c ((up (up y 9 (0) (y 4 0)) 9 (1) (y 4 1)))) rfl (by decide) (by omega) (WM_9_set a c ((up (up y 9 (0) (y 4 0)) 9 (1) (y 4 1))) 2 (y 4 2)) dX11_shaft_212 ?_
                          refine z_iinc C 0 [(2, .int (zI (((0 + 1) + 1) + 1))), (0, .ref (a 0)), (1, .int (zI n))] dX11_shaft_213 rfl (by decide) rfl ?_
                          refine z_goto C 196 dX11_shaft_216 (by decide) ?_
                          refine z_iload_n C 0 dX11_shaft_196 rfl ?_
                          refine z_iconst C dX11_shaft_197 ?_
                          refine z_icmp_ge C 219 dX11_shaft_198 (by decide) (by omega) (fun h13 => ?_) (fun h13 => ?_)
                          · skip
                            refine z_aload_n C 1 dX11_shaft_219 rfl ?_
                            refine z_iconst C dX11_shaft_220 ?_
                            refine z_put C hK (hDD _) inX11_shaft_X11 tyX11 tyX11_ok nmX11 0 (WM_0 a c ((up (up (up y 9 (0) (y 4 0)) 9 (1) (y 4 1)) 9 (2) (y 4 2)))) rfl 19 (by decide) (List.mem_of_getElem? (i := 17) rfl) rfl rfl rfl (Nat.le_of_ble_eq_true rfl) (WM_0_p19 a c ((up (up (up y 9 (0) (y 4 0)) 9 (1) (y 4 1)) 9 (2) (y 4 2))) 0) dX11_shaft_221 ?_
                            refine z_aload_n C 1 dX11_shaft_224 rfl ?_
                            refine z_bipush C dX11_shaft_225 (by decide) ?_
                            refine z_put C hK (hDD _) inX11_shaft_X11 tyX11 tyX11_ok nmX11 0 (WM_0 a c ((up (up (up (up y 9 (0) (y 4 0)) 9 (1) (y 4 1)) 9 (2) (y 4 2)) 0 (19) (0)))) rfl 20 (by decide) (List.mem_of_getElem? (i := 18) rfl) rfl rfl rfl (Nat.le_of_ble_eq_true rfl) (WM_0_p20 a c ((up (up (up (up y 9 (0) (y 4 0)) 9 (1) (y 4 1)) 9 (2) (y 4 2)) 0 (19) (0))) 8) dX11_shaft_227 ?_
                            refine z_aload_n C 1 dX11_shaft_230 rfl ?_
                            refine z_iconst C dX11_shaft_231 ?_
                            refine z_put C hK (hDD _) inX11_shaft_X11 tyX11 tyX11_ok nmX11 0 (WM_0 a c ((up (up (up (up (up y 9 (0) (y 4 0)) 9 (1) (y 4 1)) 9 (2) (y 4 2)) 0 (19) (0)) 0 (20) (8)))) rfl 21 (by decide) (List.mem_of_getElem? (i := 19) rfl) rfl rfl rfl (Nat.le_of_ble_eq_true rfl) (WM_0_p21 a c ((up (up (up (up (up y 9 (0) (y 4 0)) 9 (1) (y 4 1)) 9 (2) (y 4 2)) 0 (19) (0)) 0 (20) (8))) 0) dX11_shaft_232 ?_
                            refine z_aload_n C 1 dX11_shaft_235 rfl ?_
                            refine z_iconst C dX11_shaft_236 ?_
                            refine z_put C hK (hDD _) inX11_shaft_X11 tyX11 tyX11_ok nmX11 0 (WM_0 a c ((up (up (up (up (up (up y 9 (0) (y 4 0)) 9 (1) (y 4 1)) 9 (2) (y 4 2)) 0 (19) (0)) 0 (20) (8)) 0 (21) (0)))) rfl 31 (by decide) (List.mem_of_getElem? (i := 20) rfl) rfl rfl rfl (Nat.le_of_ble_eq_true rfl) (WM_0_p31 a c ((up (up (up (up (up (up y 9 (0) (y 4 0)) 9 (1) (y 4 1)) 9 (2) (y 4 2)) 0 (19) (0)) 0 (20) (8)) 0 (21) (0))) 0) dX11_shaft_237 ?_
                            refine z_aload_n C 1 dX11_shaft_240 rfl ?_
                            refine z_get C hK (v := .ref (a 20)) inX11_shaft_X11 0 (WM_0 a c ((up (up (up (up (up (up (up y 9 (0) (y 4 0)) 9 (1) (y 4 1)) 9 (2) (y 4 2)) 0 (19) (0)) 0 (20) (8)) 0 (21) (0)) 0 (31) (0)))) rfl 35 (by decide) (List.mem_of_getElem? (i := 21) rfl) rfl dX11_shaft_241 ?_
                            refine z_iconst C dX11_shaft_244 ?_
                            refine z_iconst C dX11_shaft_245 ?_
                            refine z_iast C hK (hDD _) 0 (g := (up (up (up (up (up (up (up y 9 (0) (y 4 0)) 9 (1) (y 4 1)) 9 (2) (y 4 2)) 0 (19) (0)) 0 (20) (8)) 0 (21) (0)) 0 (31) (0)) 20) 20 (WM_20 a c ((up (up (up (up (up (up (up y 9 (0) (y 4 0)) 9 (1) (y 4 1)) 9 (2) (y 4 2)) 0 (19) (0)) 0 (20) (8)) 0 (21) (0)) 0 (31) (0)))) rfl (by decide) (by omega) (WM_20_set a c ((up (up (up (up (up (up (up y 9 (0) (y 4 0)) 9 (1) (y 4 1)) 9 (2) (y 4 2)) 0 (19) (0)) 0 (20) (8)) 0 (21) (0)) 0 (31) (0))) 0 (-1)) dX11_shaft_246 ?_
                            refine z_aload_n C 1 dX11_shaft_247 rfl ?_
                            refine z_get C hK (v := .ref (a 20)) inX11_shaft_X11 0 (WM_0 a c ((up (up (up (up (up (up (up (up y 9 (0) (y 4 0)) 9 (1) (y 4 1)) 9 (2) (y 4 2)) 0 (19) (0)) 0 (20) (8)) 0 (21) (0)) 0 (31) (0)) 20 (0) (-1)))) rfl 35 (by decide) (List.mem_of_getElem? (i := 21) rfl) rfl dX11_shaft_248 ?_
                            refine z_bipush C dX11_shaft_251 (by decide) ?_
                            refine z_iconst C dX11_shaft_253 ?_
                            refine z_iast C hK (hDD _) 0 (g := (up (up (up (up (up (up (up (up y 9 (0) (y 4 0)) 9 (1) (y 4 1)) 9 (2) (y 4 2)) 0 (19) (0)) 0 (20) (8)) 0 (21) (0)) 0 (31) (0)) 20 (0) (-1)) 20) 20 (WM_20 a c ((up (up (up (up (up (up (up (up y 9 (0) (y 4 0)) 9 (1) (y 4 1)) 9 (2) (y 4 2)) 0 (19) (0)) 0 (20) (8)) 0 (21) (0)) 0 (31) (0)) 20 (0) (-1)))) rfl (by decide) (by omega) (WM_20_set a c ((up (up (up (up (up (up (up (up y 9 (0) (y 4 0)) 9 (1) (y 4 1)) 9 (2) (y 4 2)) 0 (19) (0)) 0 (20) (8)) 0 (21) (0)) 0 (31) (0)) 20 (0) (-1))) 36 (-1)) dX11_shaft_254 ?_
                            refine z_aload_n C 1 dX11_shaft_255 rfl ?_
                            refine z_iconst C dX11_shaft_256 ?_
                            refine z_put C hK (hDD _) inX11_shaft_X11 tyX11 tyX11_ok nmX11 0 (WM_0 a c ((up (up (up (up (up (up (up (up (up y 9 (0) (y 4 0)) 9 (1) (y 4 1)) 9 (2) (y 4 2)) 0 (19) (0)) 0 (20) (8)) 0 (21) (0)) 0 (31) (0)) 20 (0) (-1)) 20 (36) (-1)))) rfl 1 (by decide) (List.mem_of_getElem? (i := 22) rfl) rfl rfl rfl (Nat.le_of_ble_eq_true rfl) (WM_0_p1 a c ((up (up (up (up (up (up (up (up (up y 9 (0) (y 4 0)) 9 (1) (y 4 1)) 9 (2) (y 4 2)) 0 (19) (0)) 0 (20) (8)) 0 (21) (0)) 0 (31) (0)) 20 (0) (-1)) 20 (36) (-1))) 0) dX11_shaft_257 ?_
                            refine z_iload_n C 2 dX11_shaft_260 rfl ?_
                            exact kret n (shF y) _ _ (⟨f2, Dr, hP2, Or.inr ⟨hn.1, hRn0, sh_I hF hI hDv0 hRn0 hO hr hO2 (fun k k0 k1 => h8 k k0 (by omega)), sh_M hF hDv0 hO (fun l l0 l1 => h5 l l0 (by omega)) hO2 (fun k k0 k1 => h8 k k0 (by omega))⟩⟩) dX11_shaft_261
                          · exfalso; omega
                  · skip
                    refine z_aload_n C 0 dX11_shaft_164 rfl ?_
                    refine z_get C hK (v := .ref (a 8)) inX11_shaft_X11 0 (WM_0 a c y) rfl 17 (by decide) (List.mem_of_getElem? (i := 14) rfl) rfl dX11_shaft_165 ?_
                    refine z_iload_n C 2 dX11_shaft_168 rfl ?_
                    refine z_iload_n C 2 dX11_shaft_169 rfl ?_
                    refine z_aload_n C 0 dX11_shaft_170 rfl ?_
                    refine z_get C hK (v := .int (zI (y 0 13))) inX11_shaft_X11 0 (WM_0 a c y) rfl 13 (by decide) (List.mem_of_getElem? (i := 9) rfl) rfl dX11_shaft_171 ?_
                    refine z_icmp_ge C 186 dX11_shaft_174 (by decide) (by omega) (fun h14 => ?_) (fun h14 => ?_)
                    · skip
                      refine z_iconst C dX11_shaft_186 ?_
                      refine z_iast C hK (hDD _) 0 (g := y 8) 8 (WM_8 a c y) rfl (by decide) (by omega) (WM_8_set a c y m 0) dX11_shaft_187 ?_
                      refine z_iinc C 2 [(2, .int (zI (m + 1))), (0, .ref (a 0)), (1, .int (zI n))] dX11_shaft_188 rfl (by decide) rfl ?_
                      refine z_goto C 159 dX11_shaft_191 (by decide) ?_
                      refine z_lv [(0, .ref (a 0)), (1, .int (zI n)), (2, .int (zI (m + 1)))] [1, 2, 0] rfl ?_
                      exact ih159 ((up y 8 (m) (0))) (m + 1) (by omega) (fun d k hd => (up_ne _ (Or.inl hd)).trans (hO2 d k hd)) (by (first | exact st8 (R := v 3) hm.1 h8 (Or.inl ⟨by omega, hy3⟩) | exact st8 (R := v 3) hm.1 h8 (Or.inr ⟨by omega, rfl⟩))) (by omega)
                    · skip
                      refine z_aload_n C 0 dX11_shaft_177 rfl ?_
                      refine z_get C hK (v := .ref (a 3)) inX11_shaft_X11 0 (WM_0 a c y) rfl 9 (by decide) (List.mem_of_getElem? (i := 15) rfl) rfl dX11_shaft_178 ?_
                      refine z_iload_n C 2 dX11_shaft_181 rfl ?_
                      refine z_iald C hK 0 (g := (y 3)) (i := m) 3 (WM_3 a c y) rfl (by decide) (by omega) dX11_shaft_182 ?_
                      refine z_as (b := y 3 (m)) rfl ?_
                      refine z_goto C 187 dX11_shaft_183 (by decide) ?_
                      refine z_iast C hK (hDD _) 0 (g := y 8) 8 (WM_8 a c y) rfl (by decide) (by omega) (WM_8_set a c y m (y 3 (m))) dX11_shaft_187 ?_
                      refine z_iinc C 2 [(2, .int (zI (m + 1))), (0, .ref (a 0)), (1, .int (zI n))] dX11_shaft_188 rfl (by decide) rfl ?_
                      refine z_goto C 159 dX11_shaft_191 (by decide) ?_
                      refine z_lv [(0, .ref (a 0)), (1, .int (zI n)), (2, .int (zI (m + 1)))] [1, 2, 0] rfl ?_
                      exact ih159 ((up y 8 (m) (y 3 (m)))) (m + 1) (by omega) (fun d k hd => (up_ne _ (Or.inl hd)).trans (hO2 d k hd)) (by (first | exact st8 (R := v 3) hm.1 h8 (Or.inl ⟨by omega, hy3⟩) | exact st8 (R := v 3) hm.1 h8 (Or.inr ⟨by omega, rfl⟩))) (by omega)
              refine z_lv [(0, .ref (a 0)), (1, .int (zI n)), (2, .int (zI 0))] [1, 2, 0] rfl ?_
              exact L159_8 (((3 - 0 : Int)).toNat + 1) w 0 (by omega) (fun _ _ _ => rfl) (fun l h0 h1 => absurd h1 (by omega)) (by omega)
            · skip
              have hwl := h5a q (by omega) (by omega)
              refine z_aload_n C 0 dX11_shaft_105 rfl ?_
              refine z_get C hK (v := .ref (a 5)) inX11_shaft_X11 0 (WM_0 a c w) rfl 14 (by decide) (List.mem_of_getElem? (i := 10) rfl) rfl dX11_shaft_106 ?_
              refine z_iload_n C 2 dX11_shaft_109 rfl ?_
              refine z_aload_n C 0 dX11_shaft_110 rfl ?_
              refine z_get C hK (v := .ref (a 2)) inX11_shaft_X11 0 (WM_0 a c w) rfl 8 (by decide) (List.mem_of_getElem? (i := 11) rfl) rfl dX11_shaft_111 ?_
              refine z_iconst C dX11_shaft_114 ?_
              refine z_iload_n C 2 dX11_shaft_115 rfl ?_
              refine z_imul C dX11_shaft_116 ?_
              refine z_iald C hK 0 (g := (w 2)) (i := (3 * q)) 2 (WM_2 a c w) rfl (by decide) (by omega) dX11_shaft_117 ?_
              refine z_as (b := w 2 (3 * q)) rfl ?_
              refine z_iast C hK (hDD _) 0 (g := w 5) 5 (WM_5 a c w) rfl (by decide) (by omega) (WM_5_set a c w q (w 2 (3 * q))) dX11_shaft_118 ?_
              refine z_aload_n C 0 dX11_shaft_119 rfl ?_
              refine z_get C hK (v := .ref (a 6)) inX11_shaft_X11 0 (WM_0 a c ((up w 5 (q) (w 2 (3 * q))))) rfl 15 (by decide) (List.mem_of_getElem? (i := 12) rfl) rfl dX11_shaft_120 ?_
              refine z_iload_n C 2 dX11_shaft_123 rfl ?_
              refine z_aload_n C 0 dX11_shaft_124 rfl ?_
              refine z_get C hK (v := .ref (a 2)) inX11_shaft_X11 0 (WM_0 a c ((up w 5 (q) (w 2 (3 * q))))) rfl 8 (by decide) (List.mem_of_getElem? (i := 11) rfl) rfl dX11_shaft_125 ?_
              refine z_iconst C dX11_shaft_128 ?_
              refine z_iload_n C 2 dX11_shaft_129 rfl ?_
              refine z_imul C dX11_shaft_130 ?_
              refine z_iconst C dX11_shaft_131 ?_
              refine z_iadd C dX11_shaft_132 ?_
              refine z_iald C hK 0 (g := (w 2)) (i := ((3 * q) + 1)) 2 (WM_2 a c ((up w 5 (q) (w 2 (3 * q))))) rfl (by decide) (by omega) dX11_shaft_133 ?_
              refine z_as (b := w 2 ((3 * q) + 1)) rfl ?_
              refine z_iast C hK (hDD _) 0 (g := (up w 5 (q) (w 2 (3 * q))) 6) 6 (WM_6 a c ((up w 5 (q) (w 2 (3 * q))))) rfl (by decide) (by omega) (WM_6_set a c ((up w 5 (q) (w 2 (3 * q)))) q (w 2 ((3 * q) + 1))) dX11_shaft_134 ?_
              refine z_aload_n C 0 dX11_shaft_135 rfl ?_
              refine z_get C hK (v := .ref (a 7)) inX11_shaft_X11 0 (WM_0 a c ((up (up w 5 (q) (w 2 (3 * q))) 6 (q) (w 2 ((3 * q) + 1))))) rfl 16 (by decide) (List.mem_of_getElem? (i := 13) rfl) rfl dX11_shaft_136 ?_
              refine z_iload_n C 2 dX11_shaft_139 rfl ?_
              refine z_aload_n C 0 dX11_shaft_140 rfl ?_
              refine z_get C hK (v := .ref (a 2)) inX11_shaft_X11 0 (WM_0 a c ((up (up w 5 (q) (w 2 (3 * q))) 6 (q) (w 2 ((3 * q) + 1))))) rfl 8 (by decide) (List.mem_of_getElem? (i := 11) rfl) rfl dX11_shaft_141 ?_
              refine z_iconst C dX11_shaft_144 ?_
              refine z_iload_n C 2 dX11_shaft_145 rfl ?_
              refine z_imul C dX11_shaft_146 ?_
              refine z_iconst C dX11_shaft_147 ?_
              refine z_iadd C dX11_shaft_148 ?_
              refine z_iald C hK 0 (g := (w 2)) (i := ((3 * q) + 2)) 2 (WM_2 a c ((up (up w 5 (q) (w 2 (3 * q))) 6 (q) (w 2 ((3 * q) + 1))))) rfl (by decide) (by omega) dX11_shaft_149 ?_
              refine z_as (b := w 2 ((3 * q) + 2)) rfl ?_
              refine z_iast C hK (hDD _) 0 (g := (up (up w 5 (q) (w 2 (3 * q))) 6 (q) (w 2 ((3 * q) + 1))) 7) 7 (WM_7 a c ((up (up w 5 (q) (w 2 (3 * q))) 6 (q) (w 2 ((3 * q) + 1))))) rfl (by decide) (by omega) (WM_7_set a c ((up (up w 5 (q) (w 2 (3 * q))) 6 (q) (w 2 ((3 * q) + 1)))) q (w 2 ((3 * q) + 2))) dX11_shaft_150 ?_
              refine z_iinc C 2 [(2, .int (zI (q + 1))), (0, .ref (a 0)), (1, .int (zI n))] dX11_shaft_151 rfl (by decide) rfl ?_
              refine z_goto C 97 dX11_shaft_154 (by decide) ?_
              refine z_lv [(0, .ref (a 0)), (1, .int (zI n)), (2, .int (zI (q + 1)))] [1, 2, 0] rfl ?_
              exact ih97 ((up (up (up w 5 (q) (w 2 (3 * q))) 6 (q) (w 2 ((3 * q) + 1))) 7 (q) (w 2 ((3 * q) + 2)))) (q + 1) (by omega) (cpo hO) (cp3 (R := v 2) hq.1 h5 (hw2 _) (hw2 _) (hw2 _)) (cpr hr (by rw [hw2]; exact hwl.1) (by rw [hw2]; exact hwl.2.1) (by rw [hw2]; exact hwl.2.2)) (by omega)
        refine z_lv [(0, .ref (a 0)), (1, .int (zI n)), (2, .int (zI 0))] [1, 2, 0] rfl ?_
        exact L97_6 (((v 0 6 - 0 : Int)).toNat + 1) ((up (up v 0 (12) (v 0 6)) 0 (13) (v 0 7))) 0 (by omega) (fun _ _ _ _ _ => rfl) (fun l h0 h1 => absurd h1 (by omega)) (fun l h0 h1 => by exact hrv l h0 h1) (by omega)
      · have hkn : KT (u 1) (u 0 1) (j : Int) ≠ 0 := by omega
        refine z_aload_n C 0 dX11_shaft_54 rfl ?_
        refine z_callV C hK hDD (c_X11_readItem (zl x) (zG x) a c v Dr j (hIv) (hCv) (by omega) (hDv)) gX11_shaft_X11_readItem rfl zy_X11_readItem 0 (WM_0 a c v) rfl ⟨by omega, by decide⟩ rfl (Nat.le_of_ble_eq_true rfl) (st := []) (stk2 := fun z15 => [.int (zI z15)]) rfl (fun _ => rfl) dX11_shaft_55 (fun z15 u16 h17 => ?_)
        replace h17 : (z15 = 0 ∧ FrR (v) u16 ∧ ∃ jj : Nat, ItNo (KT ((v 1)) ((v 0 1))) (NTk ((v 1)) ((v 0 1))) Dr j jj ∧ Cur u16 jj) ∨ (z15 = 1 ∧ FrR (v) u16 ∧ ∃ (jj : Nat) (D1 : zU), ItOk (KT ((v 1)) ((v 0 1))) (NTk ((v 1)) ((v 0 1))) Dr j jj D1 ∧ Cur u16 jj ∧ DM u16 D1) := h17
        rw [ev1, ev2] at h17
        have hIt := h17
        refine z_if_ne C 69 dX11_shaft_58 (by decide) (by omega) (fun h18 => ?_) (fun h18 => ?_)
        · obtain ⟨_, hF2, j2, D2, hok, hC2, hD2⟩ := hIt.resolve_left (fun q => by have q1 := q.1; omega)
          obtain ⟨hL2, hij, hk3⟩ := Liv_ok hLv hok
          refine z_iinc C 1 [(1, .int (zI (n + 1))), (0, .ref (a 0))] dX11_shaft_69 rfl (by decide) rfl ?_
          refine z_aload_n C 1 dX11_shaft_72 rfl ?_
          refine z_callV C hK hDD (c_X11_reads (zl x) (zG x) a c u16  (hF2.im hIv) (at_bd (hF2.im hIv).tlen.1 hC2.2)) gX11_shaft_X11_reads rfl zy_X11_reads 0 (WM_0 a c u16) rfl ⟨by omega, by decide⟩ rfl (Nat.le_of_ble_eq_true rfl) (st := []) (stk2 := fun _ => []) rfl (fun _ => rfl) dX11_shaft_73 (fun z19 u20 h21 => ?_)
          replace h21 : ∃ tok td at' : Int, u20 = rds (u16) (skp ((u16 1)) ((u16 0 1)) ((u16 0 2))) tok td at' ∧ RdP ((u16 1)) ((u16 0 1)) (skp ((u16 1)) ((u16 0 1)) ((u16 0 2))) tok td at' := h21
          obtain ⟨hF3, hC3, hD3⟩ := next_of hC2 (by rw [hF2.tx, hF2.tn, ev1, ev2]; exact ne_13 hk3) h21
          refine z_goto C 47 dX11_shaft_76 (by decide) ?_
          refine z_lv [(0, .ref (a 0)), (1, .int (zI (n + 1)))] [1, 0] rfl ?_
          exact ih47 u20 (j2 + 1) D2 (n + 1) (FrR_tr hF (FrR_tr hF2 hF3)) (hC3) (hD3 _ hD2) (RnD_ok hok hRn) (hL2) (Pon_ok hPn hkn hok) (by omega) (by omega)
        · obtain ⟨_, hF2, j2, hno, hC2⟩ := hIt.resolve_right (fun q => by have q1 := q.1; omega)
          refine z_bipush C dX11_shaft_61 (by decide) ?_
          refine z_aload_n C 0 dX11_shaft_63 rfl ?_
          refine z_get C hK (v := .int (zI (u16 0 3))) inX11_shaft_X11 0 (WM_0 a c u16) rfl 3 (by decide) (List.mem_of_getElem? (i := 7) rfl) rfl dX11_shaft_64 ?_
          refine z_isub C dX11_shaft_67 ?_
          obtain ⟨f2, hP2⟩ := Pon_no hPn hkn hno Dr
          have eS : u16 0 3 = ST (u 1) (u 0 1) (j2 : Int) := by rw [hC2.1, hF2.tx, hF2.tn, ev1, ev2]; rfl
          have hS0 := ST_0 (tx := u 1) (j := (j2 : Int)) htl.1
          exact kret ((-10) - (u16 0 3)) u16 _ _ (⟨f2, Dr, by rw [eS]; exact hP2, Or.inl ⟨by omega, FrR_tr hF hF2⟩⟩) dX11_shaft_68
  refine z_lv [(0, .ref (a 0)), (1, .int (zI 0))] [1, 0] rfl ?_
  exact L47_4 (((201 - (0 : Int) : Int)).toNat + 1) u2 0 D0 0 (FrR_tr (FrR_uc (by decide) (FrR_uc (by decide) (FrR_uc (by decide) (FrR_u0 (by decide) (FrR_u0 (by decide) (FrR_u0 (by decide) (FrR_u0 (by decide) (FrR_rf u)))))))) hF1) (hC1) (hD1 _ (DM_0 u)) (RnD_0) (Liv_0) (Pon_0) (by decide) (by omega)
