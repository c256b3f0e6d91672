/-! ===== contracts: the class reads ===== -/

theorem zy_X5_read : zY yX5_read 0 := ⟨by decide +kernel, by decide +kernel, by decide +kernel⟩
theorem zy_X10_shaft : zY yX10_shaft 0 := ⟨by decide +kernel, by decide +kernel, by decide +kernel⟩
-- NoteBells$Reader.read
theorem inX5_read_X5 : ∀ w ∈ wsX50, w ∈ wsX5_read := fun w h => List.mem_cons_of_mem _ (List.mem_append_left _ (List.mem_append_left _ (List.mem_append_right _ (h))))
set_option maxHeartbeats 8000000 in
set_option maxRecDepth 100000 in
theorem c_X5_read (l : Launch) (D : va_G) (sa sv : Nat → Nat) (a : Nat → Nat) (c : Nat → ClassId) (u : zU)  (hI : IB u) : ZE l D sa sv (zTy c) (WB a c) yX5_read wsX5_read 9 [.ref (a 13)] u rI (fun z u' => ∃ (f : Nat) (D' : zU), Prs (KT (u 2) (u 1 1)) (NTk (u 2) (u 1 1)) (ST (u 2) (u 1 1)) f D0 0 0 z D' ∧ IB u' ∧ (∀ (d : Nat) (k : Int), ¬ (8 ≤ d ∧ d ≤ 16) → u' d k = (u) d k) ∧ (0 ≤ z → DC u' D') ∧ -300 ≤ z ∧ z ≤ 300) := by
  refine ZE.ofI (cc := cX5_read) (maxL := 2) [(0, .ref (a 13))] rfl (by decide +kernel) rfl (Nat.le_of_ble_eq_true rfl) (WB_addr a c) ?_
  intro x C hK _ _ hDD hE kret
  have htl := hI.tlen
  refine z_aload_n C 0 dX5_read_0 rfl ?_
  refine z_callVE C hK hE hDD (c_X5_splitText (zl x) (zG x) sa sv a c u  (hI)) gX5_read_X5_splitText rfl zy_X5_splitText 13 (WB_13 a c u) rfl ⟨by omega, by decide⟩ rfl (Nat.le_of_ble_eq_true rfl) (st := []) (stk2 := fun _ => []) rfl (fun _ => rfl) dX5_read_1 (fun z1 u2 h3 => ?_)
  obtain ⟨v1, hv1⟩ : ∃ v1 : zU, v1 = u2 := ⟨_, rfl⟩
  rw [← hv1] at h3
  rw [← hv1]
  obtain ⟨hF1, hT1⟩ := h3
  have hTok := Tok_of htl hT1
  have hFi : Frm v1 (up (up (up (up (up (up (up (up (up v1 8 4 0) 8 5 0) 8 6 0) 8 7 0) 8 8 1) 13 6 0) 13 7 0) 13 8 0) 13 5 0) := Frm_13 (Frm_13 (Frm_13 (Frm_13 (Frm_8 (Frm_8 (Frm_8 (Frm_8 (Frm_8 (Frm_rf v1)))))))))
  change Z x 0 0 (WB a c v1) _ _ _
  refine z_aload_n C 0 dX5_read_4 rfl ?_
  refine z_get C hK (v := .ref (a 8)) inX5_read_X5 13 (WB_13 a c v1) rfl 1 (by decide) (List.mem_of_getElem? (i := 1) rfl) rfl dX5_read_5 ?_
  refine z_callVN C hK hDD (c_X8_reset (zl x) (zG x) a c v1  ) ggX5_read_X8_reset (List.mem_of_getElem? (i := 33) rfl) (List.mem_of_getElem? (i := 88) rfl) (List.mem_of_getElem? (i := 87) rfl) (List.mem_of_getElem? (i := 89) rfl) rfl zy_X8_reset 8 (WB_8 a c v1) rfl ⟨by omega, by decide⟩ rfl (Nat.le_of_ble_eq_true rfl) (st := []) (stk2 := fun _ => []) rfl (fun _ => rfl) dX5_read_8 (fun z4 u5 h6 => ?_)
  rw [h6]
  change Z x 0 0 (WB a c (up (up (up (up (up v1 8 (4) (0)) 8 (5) (0)) 8 (6) (0)) 8 (7) (0)) 8 (8) (1))) _ _ _
  refine z_aload_n C 0 dX5_read_11 rfl ?_
  refine z_iconst C dX5_read_12 ?_
  refine z_put C hK (hDD _) inX5_read_X5 tyX5 tyX5_ok nmX5 13 (WB_13 a c ((up (up (up (up (up v1 8 (4) (0)) 8 (5) (0)) 8 (6) (0)) 8 (7) (0)) 8 (8) (1)))) rfl 6 (by decide) (List.mem_of_getElem? (i := 2) rfl) rfl (narrow_zI_bool (by omega)) (fits_zI_bool (by omega)) (Nat.le_of_ble_eq_true rfl) (WB_13_p6 a c ((up (up (up (up (up v1 8 (4) (0)) 8 (5) (0)) 8 (6) (0)) 8 (7) (0)) 8 (8) (1))) 0) dX5_read_13 ?_
  refine z_aload_n C 0 dX5_read_16 rfl ?_
  refine z_iconst C dX5_read_17 ?_
  refine z_put C hK (hDD _) inX5_read_X5 tyX5 tyX5_ok nmX5 13 (WB_13 a c ((up (up (up (up (up (up v1 8 (4) (0)) 8 (5) (0)) 8 (6) (0)) 8 (7) (0)) 8 (8) (1)) 13 (6) (0)))) rfl 7 (by decide) (List.mem_of_getElem? (i := 3) rfl) rfl (narrow_zI_bool (by omega)) (fits_zI_bool (by omega)) (Nat.le_of_ble_eq_true rfl) (WB_13_p7 a c ((up (up (up (up (up (up v1 8 (4) (0)) 8 (5) (0)) 8 (6) (0)) 8 (7) (0)) 8 (8) (1)) 13 (6) (0))) 0) dX5_read_18 ?_
  refine z_aload_n C 0 dX5_read_21 rfl ?_
  refine z_iconst C dX5_read_22 ?_
  refine z_put C hK (hDD _) inX5_read_X5 tyX5 tyX5_ok nmX5 13 (WB_13 a c ((up (up (up (up (up (up (up v1 8 (4) (0)) 8 (5) (0)) 8 (6) (0)) 8 (7) (0)) 8 (8) (1)) 13 (6) (0)) 13 (7) (0)))) rfl 8 (by decide) (List.mem_of_getElem? (i := 4) rfl) rfl (narrow_zI_bool (by omega)) (fits_zI_bool (by omega)) (Nat.le_of_ble_eq_true rfl) (WB_13_p8 a c ((up (up (up (up (up (up (up v1 8 (4) (0)) 8 (5) (0)) 8 (6) (0)) 8 (7) (0)) 8 (8) (1)) 13 (6) (0)) 13 (7) (0))) 0) dX5_read_23 ?_
  refine z_aload_n C 0 dX5_read_26 rfl ?_
  refine z_iconst C dX5_read_27 ?_
  refine z_put C hK (hDD _) inX5_read_X5 tyX5 tyX5_ok nmX5 13 (WB_13 a c ((up (up (up (up (up (up (up (up v1 8 (4) (0)) 8 (5) (0)) 8 (6) (0)) 8 (7) (0)) 8 (8) (1)) 13 (6) (0)) 13 (7) (0)) 13 (8) (0)))) rfl 5 (by decide) (List.mem_of_getElem? (i := 5) rfl) rfl rfl rfl (Nat.le_of_ble_eq_true rfl) (WB_13_p5 a c ((up (up (up (up (up (up (up (up v1 8 (4) (0)) 8 (5) (0)) 8 (6) (0)) 8 (7) (0)) 8 (8) (1)) 13 (6) (0)) 13 (7) (0)) 13 (8) (0))) 0) dX5_read_28 ?_
  refine z_iconst C dX5_read_31 ?_
  refine z_istore_n C [(1, .int (zI 0)), (0, .ref (a 13))] dX5_read_32 rfl (by decide) rfl ?_
  have L33_7 : ∀ (fu : Nat) (w : zU) (Dr : zU) (n : Int), (Frm v1 w) → (Liv (KT (u 2) (u 1 1)) (w 13 5)) → (DC w Dr) → (Pon (KT (u 2) (u 1 1)) (NTk (u 2) (u 1 1)) (ST (u 2) (u 1 1)) Dr (w 13 5) n) → (0 ≤ n ∧ n ≤ w 13 5) → 201 - w 13 5 < (fu : Int) → Z x 0 0 (WB a c w) [(0, .ref (a 13)), (1, .int (zI n))] 33 [] := by
    intro fu
    induction fu with
    | zero => intro w Dr n hFw hLv hDw hPn hn hmeas; exfalso; have h2 := Liv_200 htl hLv; omega
    | succ fu ih33 =>
      intro w Dr n hFw hLv hDw hPn hn hmeas
      have hTw := Frm_tok hFw hTok
      obtain ⟨r1, r2, r3, r4, r5⟩ := hTw _ hLv
      have hl0 := hLv.1
      refine z_aload_n C 0 dX5_read_33 rfl ?_
      refine z_get C hK (v := .ref (a 14)) inX5_read_X5 13 (WB_13 a c w) rfl 2 (by decide) (List.mem_of_getElem? (i := 6) rfl) rfl dX5_read_34 ?_
      refine z_aload_n C 0 dX5_read_37 rfl ?_
      refine z_get C hK (v := .int (zI (w 13 5))) inX5_read_X5 13 (WB_13 a c w) rfl 5 (by decide) (List.mem_of_getElem? (i := 5) rfl) rfl dX5_read_38 ?_
      refine z_iald C hK 0 (g := (w 14)) (i := (w 13 5)) 14 (WB_14 a c w) rfl (by decide) (by omega) dX5_read_41 ?_
      refine z_as (b := KT (u 2) (u 1 1) (w 13 5)) (r2) ?_
      refine z_if_eq C 82 dX5_read_42 (by decide) (by omega) (fun h8 => ?_) (fun h8 => ?_)
      · have hk0 : KT (u 2) (u 1 1) (w 13 5) = 0 := h8
        obtain ⟨f2, hP2⟩ := Pon_end hPn hk0
        refine z_iload_n C 1 dX5_read_82 rfl ?_
        exact kret n w _ _ (⟨f2, Dr, hP2, Frm_ib hFw (hF1.ib hI), fun d k q => (Frm_pt hFw d k (by omega)).trans (hF1 d k (by omega)), fun _ => hDw, by omega, by omega⟩) dX5_read_83
      · have hkn : KT (u 2) (u 1 1) (w 13 5) ≠ 0 := h8
        have h201 := Liv_200 htl (Liv_next hLv hkn)
        refine z_iload_n C 1 dX5_read_45 rfl ?_
        refine z_sipush C dX5_read_46 (by decide) ?_
        refine z_icmp_ge C 82 dX5_read_49 (by decide) (by omega) (fun h9 => ?_) (fun h9 => ?_)
        · exfalso; omega
        · skip
          refine z_aload_n C 0 dX5_read_52 rfl ?_
          refine z_callV C hK hDD (c_X5_readItem (zl x) (zG x) a c w ((KT (u 2) (u 1 1))) ((NTk (u 2) (u 1 1))) ((ST (u 2) (u 1 1))) Dr (hTw) (hLv) (hDw)) gX5_read_X5_readItem rfl zy_X5_readItem 13 (WB_13 a c w) rfl ⟨by omega, by decide⟩ rfl (Nat.le_of_ble_eq_true rfl) (st := []) (stk2 := fun z10 => [.int (zI z10)]) rfl (fun _ => rfl) dX5_read_53 (fun z10 u11 h12 => ?_)
          replace h12 : (z10 = 0 ∧ Frm (w) u11 ∧ ItNo ((KT (u 2) (u 1 1))) ((NTk (u 2) (u 1 1))) Dr ((w 13 5)) (u11 13 5)) ∨ (z10 = 1 ∧ Frm (w) u11 ∧ ∃ D1 : zU, ItOk ((KT (u 2) (u 1 1))) ((NTk (u 2) (u 1 1))) Dr ((w 13 5)) (u11 13 5) D1 ∧ DC u11 D1) := h12
          have hIt := h12
          refine z_if_ne C 72 dX5_read_56 (by decide) (by omega) (fun h13 => ?_) (fun h13 => ?_)
          · obtain ⟨_, hF2, D2, hok, hD2⟩ := hIt.resolve_left (fun q => by have q1 := q.1; omega)
            obtain ⟨hL2, hij, hk3⟩ := Liv_ok hLv hok
            have hD3 : DC (up u11 13 5 (u11 13 5 + 1)) D2 := hD2
            have hLj : Liv (KT (u 2) (u 1 1)) (u11 13 5) := ⟨by omega, fun q q0 q1 => hL2.2 q q0 (by omega)⟩
            refine z_iinc C 1 [(1, .int (zI (n + 1))), (0, .ref (a 13))] dX5_read_72 rfl (by decide) rfl ?_
            refine z_aload_n C 1 dX5_read_75 rfl ?_
            refine z_callV C hK hDD (c_X5_advance (zl x) (zG x) a c u11 ((KT (u 2) (u 1 1))) ((NTk (u 2) (u 1 1))) ((ST (u 2) (u 1 1))) (Frm_tok hF2 hTw) (hLj)) gX5_read_X5_advance rfl zy_X5_advance 13 (WB_13 a c u11) rfl ⟨by omega, by decide⟩ rfl (Nat.le_of_ble_eq_true rfl) (st := []) (stk2 := fun _ => []) rfl (fun _ => rfl) dX5_read_76 (fun z14 u15 h16 => ?_)
            replace h16 : u15 = up (u11) 13 5 (adv ((KT (u 2) (u 1 1))) ((u11 13 5))) := h16
            rw [adv_on (by rw [hk3]; decide)] at h16
            rw [h16]
            change Z x 0 0 (WB a c (up u11 13 (5) (u11 13 5 + 1))) _ _ _
            refine z_goto C 33 dX5_read_79 (by decide) ?_
            refine z_lv [(0, .ref (a 13)), (1, .int (zI (n + 1)))] [1, 0] rfl ?_
            exact ih33 ((up u11 13 (5) (u11 13 5 + 1))) D2 (n + 1) (Frm_13 (Frm_tr hFw hF2)) (hL2) (hD3) (Pon_ok hPn hkn hok) (by show 0 ≤ n + 1 ∧ n + 1 ≤ u11 13 5 + 1; omega) (by show 201 - (u11 13 5 + 1) < (fu : Int); omega)
          · obtain ⟨_, hF2, hno⟩ := hIt.resolve_right (fun q => by have q1 := q.1; omega)
            obtain ⟨f2, hP2⟩ := Pon_no hPn hkn hno Dr
            have hLn := Liv_no hLv hkn hno
            have hT3 := Frm_tok hF2 hTw
            obtain ⟨t1, t2, t3, t4, t5⟩ := hT3 _ hLn
            have hLn0 := hLn.1
            have hS0 := ST_0 (tx := u 2) (j := u11 13 5) htl.1
            have hS1 : ST (u 2) (u 1 1) (u11 13 5) ≤ u 1 1 := (ps_bd htl.1 _).2
            refine z_bipush C dX5_read_59 (by decide) ?_
            refine z_aload_n C 0 dX5_read_61 rfl ?_
            refine z_get C hK (v := .ref (a 15)) inX5_read_X5 13 (WB_13 a c u11) rfl 3 (by decide) (List.mem_of_getElem? (i := 7) rfl) rfl dX5_read_62 ?_
            refine z_aload_n C 0 dX5_read_65 rfl ?_
            refine z_get C hK (v := .int (zI (u11 13 5))) inX5_read_X5 13 (WB_13 a c u11) rfl 5 (by decide) (List.mem_of_getElem? (i := 5) rfl) rfl dX5_read_66 ?_
            refine z_iald C hK 0 (g := (u11 15)) (i := (u11 13 5)) 15 (WB_15 a c u11) rfl (by decide) (by omega) dX5_read_69 ?_
            refine z_as (b := u11 15 (u11 13 5)) rfl ?_
            refine z_isub C dX5_read_70 ?_
            exact kret ((-10) - (u11 15 (u11 13 5))) u11 _ _ (⟨f2, Dr, by rw [t3]; exact hP2, Frm_ib hF2 (Frm_ib hFw (hF1.ib hI)), fun d k q => (Frm_pt hF2 d k (by omega)).trans ((Frm_pt hFw d k (by omega)).trans (hF1 d k (by omega))), fun h => by rw [t3] at h; omega, by rw [t3]; omega, by rw [t3]; omega⟩) dX5_read_71
  refine z_lv [(0, .ref (a 13)), (1, .int (zI 0))] [1, 0] rfl ?_
  exact L33_7 (((201 - ((up (up (up (up (up (up (up (up (up v1 8 (4) (0)) 8 (5) (0)) 8 (6) (0)) 8 (7) (0)) 8 (8) (1)) 13 (6) (0)) 13 (7) (0)) 13 (8) (0)) 13 (5) (0))) 13 5 : Int)).toNat + 1) ((up (up (up (up (up (up (up (up (up v1 8 (4) (0)) 8 (5) (0)) 8 (6) (0)) 8 (7) (0)) 8 (8) (1)) 13 (6) (0)) 13 (7) (0)) 13 (8) (0)) 13 (5) (0))) D0 0 (hFi) (Liv_0) (DC_0 v1) (Pon_0) (⟨Int.le_refl 0, Int.le_refl 0⟩) (by exact lt_toN _)
-- NoteBells.shaft
theorem inX10_shaft_X10 : ∀ w ∈ wsX100, w ∈ wsX10_shaft := fun w h => List.mem_cons_of_mem _ (List.mem_append_left _ (List.mem_append_left _ (List.mem_append_left _ (List.mem_append_left _ (List.mem_append_right _ (h))))))
set_option maxHeartbeats 8000000 in
set_option maxRecDepth 100000 in
theorem c_X10_shaft (l : Launch) (D : va_G) (sa sv : Nat → Nat) (a : Nat → Nat) (c : Nat → ClassId) (u : zU)  (hI : IB u) : ZE l D sa sv (zTy c) (WB a c) yX10_shaft wsX10_shaft 10 [.ref (a 0)] u rI (fun z u' => ∃ (f : Nat) (D' : zU), Prs (KT (u 2) (u 1 1)) (NTk (u 2) (u 1 1)) (ST (u 2) (u 1 1)) f D0 0 0 z D' ∧ IB u' ∧ ((z < 0 ∧ ∀ (d : Nat) (k : Int), ¬ (8 ≤ d ∧ d ≤ 16) → u' d k = (u) d k) ∨ (0 ≤ z ∧ ShB (u) u' D'))) := by
  refine ZE.ofI (cc := cX10_shaft) (maxL := 3) [(0, .ref (a 0))] rfl (by decide +kernel) rfl (Nat.le_of_ble_eq_true rfl) (WB_addr a c) ?_
  intro x C hK _ _ hDD hE kret
  have htl := hI.tlen
  refine z_aload_n C 0 dX10_shaft_0 rfl ?_
  refine z_get C hK (v := .ref (a 13)) inX10_shaft_X10 0 (WB_0 a c u) rfl 3 (by decide) (List.mem_of_getElem? (i := 1) rfl) rfl dX10_shaft_1 ?_
  refine z_callVNE C hK hE hDD (c_X5_read (zl x) (zG x) sa sv a c u  (hI)) ggX10_shaft_X5_read (List.mem_of_getElem? (i := 12) rfl) (List.mem_of_getElem? (i := 8) rfl) (List.mem_of_getElem? (i := 7) rfl) (List.mem_of_getElem? (i := 9) rfl) rfl zy_X5_read 13 (WB_13 a c u) rfl ⟨by omega, by decide⟩ rfl (Nat.le_of_ble_eq_true rfl) (st := []) (stk2 := fun z1 => [.int (zI z1)]) rfl (fun _ => rfl) dX10_shaft_4 (fun z1 u2 h3 => ?_)
  obtain ⟨f2, D2, hP2, hI2, hF2, hD2, hzb⟩ := h3
  refine z_istore_n C [(1, .int (zI z1)), (0, .ref (a 0))] dX10_shaft_7 rfl (by decide) rfl ?_
  refine z_iload_n C 0 dX10_shaft_8 rfl ?_
  refine z_if_ge C 14 dX10_shaft_9 (by decide) (by omega) (fun h4 => ?_) (fun h4 => ?_)
  · skip
    refine z_aload_n C 1 dX10_shaft_14 rfl ?_
    refine z_get C hK (v := .ref (a 3)) inX10_shaft_X10 0 (WB_0 a c u2) rfl 1 (by decide) (List.mem_of_getElem? (i := 2) rfl) rfl dX10_shaft_15 ?_
    refine z_aload_n C 1 dX10_shaft_18 rfl ?_
    refine z_get C hK (v := .ref (a 8)) inX10_shaft_X10 0 (WB_0 a c u2) rfl 2 (by decide) (List.mem_of_getElem? (i := 3) rfl) rfl dX10_shaft_19 ?_
    refine z_callVN C hK hDD (c_X8_copyFrom (zl x) (zG x) a c u2  ) ggX10_shaft_X8_copyFrom (List.mem_of_getElem? (i := 13) rfl) (List.mem_of_getElem? (i := 97) rfl) (List.mem_of_getElem? (i := 141) rfl) (List.mem_of_getElem? (i := 142) rfl) rfl zy_X8_copyFrom 3 (WB_3 a c u2) rfl ⟨by omega, by decide⟩ rfl (Nat.le_of_ble_eq_true rfl) (st := []) (stk2 := fun _ => []) rfl (fun _ => rfl) dX10_shaft_22 (fun z5 u6 h7 => ?_)
    rw [h7]
    change Z x 0 0 (WB a c (cpT u2)) _ _ _
    refine z_aload_n C 1 dX10_shaft_25 rfl ?_
    refine z_get C hK (v := .ref (a 17)) inX10_shaft_X10 0 (WB_0 a c ((cpT u2))) rfl 4 (by decide) (List.mem_of_getElem? (i := 4) rfl) rfl dX10_shaft_26 ?_
    refine z_aload_n C 1 dX10_shaft_29 rfl ?_
    refine z_get C hK (v := .ref (a 3)) inX10_shaft_X10 0 (WB_0 a c ((cpT u2))) rfl 1 (by decide) (List.mem_of_getElem? (i := 2) rfl) rfl dX10_shaft_30 ?_
    refine z_callVN C hK hDD (c_X2_begin (zl x) (zG x) a c ((cpT u2))  ) ggX10_shaft_X2_begin (List.mem_of_getElem? (i := 14) rfl) (List.mem_of_getElem? (i := 153) rfl) (List.mem_of_getElem? (i := 152) rfl) (List.mem_of_getElem? (i := 154) rfl) rfl zy_X2_begin 17 (WB_17 a c ((cpT u2))) rfl ⟨by omega, by decide⟩ rfl (Nat.le_of_ble_eq_true rfl) (st := []) (stk2 := fun _ => []) rfl (fun _ => rfl) dX10_shaft_33 (fun z8 u9 h10 => ?_)
    rw [h10]
    change Z x 0 0 (WB a c (bgN (cpT u2))) _ _ _
    refine z_iconst C dX10_shaft_36 ?_
    refine z_istore_n C [(2, .int (zI 0)), (1, .int (zI z1)), (0, .ref (a 0))] dX10_shaft_37 rfl (by decide) rfl ?_
    refine z_iload_n C 0 dX10_shaft_38 rfl ?_
    refine z_iconst C dX10_shaft_39 ?_
    refine z_icmp_ge C 56 dX10_shaft_40 (by decide) (by omega) (fun h11 => ?_) (fun h11 => ?_)
    · exfalso; omega
    · skip
      refine z_aload_n C 2 dX10_shaft_43 rfl ?_
      refine z_get C hK (v := .ref (a 36)) inX10_shaft_X10 0 (WB_0 a c ((bgN (cpT u2)))) rfl 6 (by decide) (List.mem_of_getElem? (i := 5) rfl) rfl dX10_shaft_44 ?_
      refine z_iload_n C 0 dX10_shaft_47 rfl ?_
      refine z_as (b := 0) (by decide) ?_
      refine z_iconst C dX10_shaft_48 ?_
      refine z_zast C hK (hDD _) 1 (g := (bgN (cpT u2)) 36) 36 (WB_36 a c ((bgN (cpT u2)))) rfl (by decide) (by omega) (by omega) (WB_36_set a c ((bgN (cpT u2))) 0 0) dX10_shaft_49 ?_
      refine z_iinc C 0 [(2, .int (zI (0 + 1))), (1, .int (zI z1)), (0, .ref (a 0))] dX10_shaft_50 rfl (by decide) rfl ?_
      refine z_goto C 38 dX10_shaft_53 (by decide) ?_
      refine z_iload_n C 0 dX10_shaft_38 rfl ?_
      refine z_iconst C dX10_shaft_39 ?_
      refine z_icmp_ge C 56 dX10_shaft_40 (by decide) (by omega) (fun h12 => ?_) (fun h12 => ?_)
      · exfalso; omega
      · skip
        refine z_aload_n C 2 dX10_shaft_43 rfl ?_
        refine z_get C hK (v := .ref (a 36)) inX10_shaft_X10 0 (WB_0 a c ((up (bgN (cpT u2)) 36 (0) (0)))) rfl 6 (by decide) (List.mem_of_getElem? (i := 5) rfl) rfl dX10_shaft_44 ?_
        refine z_iload_n C 0 dX10_shaft_47 rfl ?_
        refine z_as (b := 1) (by decide) ?_
        refine z_iconst C dX10_shaft_48 ?_
        refine z_zast C hK (hDD _) 1 (g := (up (bgN (cpT u2)) 36 (0) (0)) 36) 36 (WB_36 a c ((up (bgN (cpT u2)) 36 (0) (0)))) rfl (by decide) (by omega) (by omega) (WB_36_set a c ((up (bgN (cpT u2)) 36 (0) (0))) 1 0) dX10_shaft_49 ?_
        refine z_iinc C 0 [(2, .int (zI ((0 + 1) + 1))), (1, .int (zI z1)), (0, .ref (a 0))] dX10_shaft_50 rfl (by decide) rfl ?_
        refine z_goto C 38 dX10_shaft_53 (by decide) ?_
        refine z_iload_n C 0 dX10_shaft_38 rfl ?_
        refine z_iconst C dX10_shaft_39 ?_
        refine z_icmp_ge C 56 dX10_shaft_40 (by decide) (by omega) (fun h13 => ?_) (fun h13 => ?_)
        · skip
          refine z_aload_n C 2 dX10_shaft_56 rfl ?_
          refine z_get C hK (v := .ref (a 1)) inX10_shaft_X10 0 (WB_0 a c ((up (up (bgN (cpT u2)) 36 (0) (0)) 36 (1) (0)))) rfl 0 (by decide) (List.mem_of_getElem? (i := 6) rfl) rfl dX10_shaft_57 ?_
          refine z_callVN C hK hDD (c_X7_drop (zl x) (zG x) a c ((up (up (bgN (cpT u2)) 36 (0) (0)) 36 (1) (0)))  ) ggX10_shaft_X7_drop (List.mem_of_getElem? (i := 11) rfl) (List.mem_of_getElem? (i := 165) rfl) (List.mem_of_getElem? (i := 164) rfl) (List.mem_of_getElem? (i := 166) rfl) rfl zy_X7_drop 1 (WB_1 a c ((up (up (bgN (cpT u2)) 36 (0) (0)) 36 (1) (0)))) rfl ⟨by omega, by decide⟩ rfl (Nat.le_of_ble_eq_true rfl) (st := []) (stk2 := fun z14 => [.int (zI z14)]) rfl (fun _ => rfl) dX10_shaft_60 (fun z14 u15 h16 => ?_)
          rw [h16.1]; replace h16 := h16.2
          change Z x 0 0 (WB a c (up (up (up (bgN (cpT u2)) 36 (0) (0)) 36 (1) (0)) 1 (1) (0))) _ _ _
          refine z_as (b := (u2 1 1)) h16 ?_
          refine z_pop C dX10_shaft_63 rfl ?_
          refine z_iload_n C 1 dX10_shaft_64 rfl ?_
          exact kret z1 (shC u2) _ _ (⟨f2, D2, hP2, sh_IB hI2 (hD2 (by omega)), Or.inr ⟨by omega, sh_B hF2 (hD2 (by omega))⟩⟩) dX10_shaft_65
        · exfalso; omega
  · skip
    refine z_iload_n C 0 dX10_shaft_12 rfl ?_
    exact kret z1 u2 _ _ (⟨f2, D2, hP2, hI2, Or.inl ⟨by omega, hF2⟩⟩) dX10_shaft_13
