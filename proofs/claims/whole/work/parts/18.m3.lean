/-! ===== contracts: the reference, hymns and images ===== -/

theorem zy_X11_place : zY yX11_place 2 := ⟨by decide +kernel, by decide +kernel, by decide +kernel⟩
theorem zy_X11_moved : zY yX11_moved 3 := ⟨by decide +kernel, by decide +kernel, by decide +kernel⟩
theorem zy_X11_costs : zY yX11_costs 4 := ⟨by decide +kernel, by decide +kernel, by decide +kernel⟩
theorem zy_X11_plays : zY yX11_plays 0 := ⟨by decide +kernel, by decide +kernel, by decide +kernel⟩
theorem zy_X11_now : zY yX11_now 0 := ⟨by decide +kernel, by decide +kernel, by decide +kernel⟩
theorem zy_X11_climbing : zY yX11_climbing 0 := ⟨by decide +kernel, by decide +kernel, by decide +kernel⟩
theorem zy_X11_by : zY yX11_by 2 := ⟨by decide +kernel, by decide +kernel, by decide +kernel⟩
theorem zy_X11_lay : zY yX11_lay 3 := ⟨by decide +kernel, by decide +kernel, by decide +kernel⟩
theorem zy_X11_gives : zY yX11_gives 3 := ⟨by decide +kernel, by decide +kernel, by decide +kernel⟩
theorem zy_X11_keep : zY yX11_keep 1 := ⟨by decide +kernel, by decide +kernel, by decide +kernel⟩
theorem zy_X11_back : zY yX11_back 1 := ⟨by decide +kernel, by decide +kernel, by decide +kernel⟩
-- NoteBellsModel.place
set_option maxHeartbeats 8000000 in
set_option maxRecDepth 100000 in
theorem c_X11_place (l : Launch) (D : va_G) {tys : List (ClassId × FieldType)} {S : Type} (WW : S → va_W) (hWW : ∀ u u' : S, (WW u).map (fun q => q.1) = (WW u').map (fun q => q.1)) (u : S) (w m : Int) (b_w : 0 ≤ w ∧ w < 512) (b_m : 0 ≤ m ∧ m < 3) : ZM l D tys WW yX11_place wsX11_place 1 [.int (zI w), .int (zI m)] u rI (fun z u' => u' = u ∧ z = pl w m) := by
  refine ZM.ofI (cc := cX11_place) (maxL := 2) [(0, .int (zI w)), (1, .int (zI m))] rfl (by decide +kernel) rfl (Nat.le_of_ble_eq_true rfl) hWW ?_
  intro x C hK _ _ hDD kret
  refine z_iload_n C 0 dX11_place_0 rfl ?_
  refine z_iconst C dX11_place_1 ?_
  refine z_iload_n C 1 dX11_place_2 rfl ?_
  refine z_imul C dX11_place_3 ?_
  refine z_ishr C ((zI w >>> (zI (3 * m) &&& 31)).toInt) dX11_place_4 (zI_of _) ?_
  refine z_bipush C dX11_place_5 (by decide) ?_
  refine z_iand C ((zI ((zI w >>> (zI (3 * m) &&& 31)).toInt) &&& zI 7).toInt) dX11_place_7 (zI_of _) ?_
  refine z_as (b := pl w m) (plm_of b_w b_m) ?_
  exact kret (pl w m) u _ _ (⟨rfl, rfl⟩) dX11_place_8
-- NoteBellsModel.moved
set_option maxHeartbeats 8000000 in
set_option maxRecDepth 100000 in
theorem c_X11_moved (l : Launch) (D : va_G) {tys : List (ClassId × FieldType)} {S : Type} (WW : S → va_W) (hWW : ∀ u u' : S, (WW u).map (fun q => q.1) = (WW u').map (fun q => q.1)) (u : S) (w m o : Int) (b_w : 0 ≤ w ∧ w < 512) (b_m : 0 ≤ m ∧ m < 3) (b_l : 0 ≤ o ∧ o < 8) : ZM l D tys WW yX11_moved wsX11_moved 2 [.int (zI w), .int (zI m), .int (zI o)] u rI (fun z u' => u' = u ∧ z = mv w (8 * m + o)) := by
  refine ZM.ofI (cc := cX11_moved) (maxL := 3) [(0, .int (zI w)), (1, .int (zI m)), (2, .int (zI o))] rfl (by decide +kernel) rfl (Nat.le_of_ble_eq_true rfl) hWW ?_
  intro x C hK _ _ hDD kret
  have hpl := pl_bd w m
  have hmv := mv_bd b_w (m := 8 * m + o) (by omega)
  refine z_iload_n C 0 dX11_moved_0 rfl ?_
  refine z_iload_n C 2 dX11_moved_1 rfl ?_
  refine z_iload_n C 0 dX11_moved_2 rfl ?_
  refine z_iload_n C 1 dX11_moved_3 rfl ?_
  refine z_callS C hK hDD (c_X11_place (zl x) (zG x) (WW) (hWW) u w m (by omega) (by omega)) gX11_moved_X11_place rfl rfl zy_X11_place ⟨by omega, by decide⟩ rfl (Nat.le_of_ble_eq_true rfl) (st := [.int (zI o), .int (zI w)]) (stk2 := fun z1 => [.int (zI z1), .int (zI o), .int (zI w)]) rfl (fun _ => rfl) dX11_moved_4 (fun z1 u2 h3 => ?_)
  rw [h3.1]; replace h3 := h3.2
  refine z_as (b := pl w m) h3 ?_
  refine z_isub C dX11_moved_7 ?_
  refine z_iconst C dX11_moved_8 ?_
  refine z_iload_n C 1 dX11_moved_9 rfl ?_
  refine z_imul C dX11_moved_10 ?_
  refine z_ishl C ((zI (o - (pl w m)) <<< (zI (3 * m) &&& 31)).toInt) dX11_moved_11 (zI_of _) ?_
  refine z_as (b := mv w (8 * m + o) - w) (mvm_of b_w b_m b_l) ?_
  refine z_iadd C dX11_moved_12 ?_
  refine z_as (b := mv w (8 * m + o)) (by omega) ?_
  exact kret (mv w (8 * m + o)) u _ _ (⟨rfl, rfl⟩) dX11_moved_13
-- NoteBellsModel.costs
theorem inX11_costs_X11 : ∀ w ∈ wsX110, w ∈ wsX11_costs := fun w h => List.mem_cons_of_mem _ (List.mem_append_right _ (h))
set_option maxHeartbeats 8000000 in
set_option maxRecDepth 100000 in
theorem c_X11_costs (l : Launch) (D : va_G) (a : Nat → Nat) (c : Nat → ClassId) (u : zU) (k w m o G : Int) (b_k : 0 ≤ k ∧ k < 8) (b_w : 0 ≤ w ∧ w < 512) (b_m : 0 ≤ m ∧ m < 3) (b_l : 0 ≤ o ∧ o < 8) (hG : u 19 (512 * k + 512 + mv w (8 * m + o)) = enc G) (hGb : G = 1000 ∨ (0 ≤ G ∧ G ≤ 56)) : ZM l D (zTy c) (WM a c) yX11_costs wsX11_costs 3 [.ref (a 0), .int (zI k), .int (zI w), .int (zI m), .int (zI o)] u rI (fun z u' => u' = u ∧ z = enc (dab o (pl w m) + G)) := by
  refine ZM.ofI (cc := cX11_costs) (maxL := 6) [(0, .ref (a 0)), (1, .int (zI k)), (2, .int (zI w)), (3, .int (zI m)), (4, .int (zI o))] rfl (by decide +kernel) rfl (Nat.le_of_ble_eq_true rfl) (WM_addr a c) ?_
  intro x C hK _ _ hDD kret
  have hmv := mv_bd b_w (m := 8 * m + o) (by omega)
  have hpl := pl_bd w m
  have hdb := dab_bd (a := o) (b := pl w m) (by omega) hpl
  have heb := enc_bd hGb
  refine z_aload_n C 0 dX11_costs_0 rfl ?_
  refine z_get C hK (v := .ref (a 19)) inX11_costs_X11 0 (WM_0 a c u) rfl 33 (by decide) (List.mem_of_getElem? (i := 1) rfl) rfl dX11_costs_1 ?_
  refine z_sipush C dX11_costs_4 (by decide) ?_
  refine z_iload_n C 1 dX11_costs_7 rfl ?_
  refine z_imul C dX11_costs_8 ?_
  refine z_sipush C dX11_costs_9 (by decide) ?_
  refine z_iadd C dX11_costs_12 ?_
  refine z_iload_n C 2 dX11_costs_13 rfl ?_
  refine z_iload_n C 3 dX11_costs_14 rfl ?_
  refine z_iload C 4 dX11_costs_15 rfl ?_
  refine z_callS C hK hDD (c_X11_moved (zl x) (zG x) ((WM a c)) (WM_addr a c) u w m o (by omega) (by omega) (by omega)) gX11_costs_X11_moved rfl rfl zy_X11_moved ⟨by omega, by decide⟩ rfl (Nat.le_of_ble_eq_true rfl) (st := [.int (zI ((512 * k) + 512)), .ref (a 19)]) (stk2 := fun z1 => [.int (zI z1), .int (zI ((512 * k) + 512)), .ref (a 19)]) rfl (fun _ => rfl) dX11_costs_17 (fun z1 u2 h3 => ?_)
  rw [h3.1]; replace h3 := h3.2
  refine z_as (b := mv w (8 * m + o)) h3 ?_
  refine z_iadd C dX11_costs_20 ?_
  refine z_iald C hK 0 (g := (u 19)) (i := (((512 * k) + 512) + (mv w (8 * m + o)))) 19 (WM_19 a c u) rfl (by decide) (by omega) dX11_costs_21 ?_
  refine z_as (b := u 19 (((512 * k) + 512) + (mv w (8 * m + o)))) rfl ?_
  refine z_as (b := enc G) (hG) ?_
  refine z_istore C [(5, .int (zI (enc G))), (0, .ref (a 0)), (1, .int (zI k)), (2, .int (zI w)), (3, .int (zI m)), (4, .int (zI o))] dX11_costs_22 (by decide) rfl ?_
  refine z_iload C 0 dX11_costs_24 rfl ?_
  refine z_bipush C dX11_costs_26 (by decide) ?_
  refine z_icmp_ne C 36 dX11_costs_28 (by decide) (by omega) (fun h4 => ?_) (fun h4 => ?_)
  · have hno := h4
    refine z_iload C 0 dX11_costs_36 rfl ?_
    refine z_iload_n C 3 dX11_costs_38 rfl ?_
    refine z_iload_n C 4 dX11_costs_39 rfl ?_
    refine z_callS C hK hDD (c_X11_place (zl x) (zG x) ((WM a c)) (WM_addr a c) u w m (by omega) (by omega)) gX11_costs_X11_place rfl rfl zy_X11_place ⟨by omega, by decide⟩ rfl (Nat.le_of_ble_eq_true rfl) (st := [.int (zI (enc G))]) (stk2 := fun z5 => [.int (zI z5), .int (zI (enc G))]) rfl (fun _ => rfl) dX11_costs_40 (fun z5 u6 h7 => ?_)
    rw [h7.1]; replace h7 := h7.2
    refine z_as (b := pl w m) h7 ?_
    refine z_iload C 5 dX11_costs_43 rfl ?_
    refine z_callS C hK hDD (c_X11_away (zl x) (zG x) ((WM a c)) (WM_addr a c) u (pl w m) o (by omega) (by omega)) gX11_costs_X11_away rfl rfl zy_X11_away ⟨by omega, by decide⟩ rfl (Nat.le_of_ble_eq_true rfl) (st := [.int (zI (enc G))]) (stk2 := fun z8 => [.int (zI z8), .int (zI (enc G))]) rfl (fun _ => rfl) dX11_costs_45 (fun z8 u9 h10 => ?_)
    rw [h10.1]; replace h10 := h10.2
    have KD := dab_m h10
    refine z_as (b := dab o (pl w m)) (dab_m h10) ?_
    refine z_iadd C dX11_costs_48 ?_
    exact kret ((enc G) + (dab o (pl w m))) u _ _ (⟨rfl, by first | exact cst_yes hGb hno hdb | exact cst_no hGb hno hdb⟩) dX11_costs_49
  · have hno := h4
    refine z_bipush C dX11_costs_31 (by decide) ?_
    refine z_goto C 49 dX11_costs_33 (by decide) ?_
    exact kret (-9) u _ _ (⟨rfl, by first | exact cst_yes hGb hno hdb | exact cst_no hGb hno hdb⟩) dX11_costs_49
-- NoteBellsModel.plays
theorem inX11_plays_X11 : ∀ w ∈ wsX110, w ∈ wsX11_plays := fun w h => List.mem_cons_of_mem _ (List.mem_append_right _ (h))
set_option maxHeartbeats 8000000 in
set_option maxRecDepth 100000 in
theorem c_X11_plays (l : Launch) (D : va_G) (a : Nat → Nat) (c : Nat → ClassId) (u : zU)  (hI : IM u) : ZM l D (zTy c) (WM a c) yX11_plays wsX11_plays 7 [.ref (a 0)] u rV (fun z u' => ∃ s : Int → Int, u' = us u 19 s ∧ PlS u s 0) := by
  refine ZM.ofV (cc := cX11_plays) (maxL := 7) [(0, .ref (a 0))] rfl (by decide +kernel) rfl (Nat.le_of_ble_eq_true rfl) (WM_addr a c) ?_
  intro x C hK _ _ hDD kret
  have hsu := hI.sung
  have hpp := hI.ppl
  refine z_iconst C dX11_plays_0 ?_
  refine z_istore_n C [(1, .int (zI 0)), (0, .ref (a 0))] dX11_plays_1 rfl (by decide) rfl ?_
  have L2_1 : ∀ (fu : Nat) (i : Int) (s : Int → Int), (0 ≤ i ∧ i ≤ 512) → (∀ v : Int, 0 ≤ v → v < i → s (512 * u 0 31 + v) = 0) → 512 - i < (fu : Int) → Z x 0 0 (WM a c (us u 19 (s))) [(0, .ref (a 0)), (1, .int (zI i))] 2 [] := by
    intro fu
    induction fu with
    | zero => intro i s hi hs hmeas; exfalso; omega
    | succ fu ih2 =>
      intro i s hi hs hmeas
      refine z_iload_n C 1 dX11_plays_2 rfl ?_
      refine z_sipush C dX11_plays_3 (by decide) ?_
      refine z_icmp_ge C 31 dX11_plays_6 (by decide) (by omega) (fun h2 => ?_) (fun h2 => ?_)
      · skip
        refine z_aload_n C 0 dX11_plays_31 rfl ?_
        refine z_get C hK (v := .int (zI (u 0 31))) inX11_plays_X11 0 (WM_0 a c ((us u 19 (s)))) rfl 31 (by decide) (List.mem_of_getElem? (i := 2) rfl) rfl dX11_plays_32 ?_
        refine z_iconst C dX11_plays_35 ?_
        refine z_isub C dX11_plays_36 ?_
        refine z_istore_n C [(1, .int (zI ((u 0 31) - 1))), (0, .ref (a 0))] dX11_plays_37 rfl (by decide) rfl ?_
        have L38_3 : ∀ (fu : Nat) (k : Int) (s : Int → Int), (-1 ≤ k ∧ k < u 0 31) → (PlS u s (k + 1)) → k + 1 < (fu : Int) → Z x 0 0 (WM a c (us u 19 (s))) [(0, .ref (a 0)), (1, .int (zI k))] 38 [] := by
          intro fu
          induction fu with
          | zero => intro k s hk hs2 hmeas; exfalso; omega
          | succ fu ih38 =>
            intro k s hk hs2 hmeas
            refine z_iload_n C 1 dX11_plays_38 rfl ?_
            refine z_if_lt C 179 dX11_plays_39 (by decide) (by omega) (fun h4 => ?_) (fun h4 => ?_)
            · skip
              exact kret 0 (us u 19 s) _ _ (⟨s, rfl, by rw [show k + 1 = 0 by omega] at hs2; exact hs2⟩) dX11_plays_179
            · skip
              have hny := hI.hymn k (by omega) (by omega)
              refine z_aload_n C 0 dX11_plays_42 rfl ?_
              refine z_aload_n C 0 dX11_plays_43 rfl ?_
              refine z_get C hK (v := .ref (a 18)) inX11_plays_X11 0 (WM_0 a c ((us u 19 (s)))) rfl 32 (by decide) (List.mem_of_getElem? (i := 3) rfl) rfl dX11_plays_44 ?_
              refine z_iload_n C 1 dX11_plays_47 rfl ?_
              refine z_iald C hK 0 (g := (u 18)) (i := k) 18 (WM_18 a c ((us u 19 (s)))) rfl (by decide) (by omega) dX11_plays_48 ?_
              refine z_as (b := u 18 (k)) rfl ?_
              refine z_callV C hK hDD (c_X11_comesOf (zl x) (zG x) a c ((us u 19 (s))) (u 18 (k)) (hI) (show -200 ≤ (u 18 (k)) ∧ (u 18 (k)) ≤ 200 by omega)) gX11_plays_X11_comesOf rfl zy_X11_comesOf 0 (WM_0 a c ((us u 19 (s)))) rfl ⟨by omega, by decide⟩ rfl (Nat.le_of_ble_eq_true rfl) (st := []) (stk2 := fun z5 => [.int (zI z5)]) rfl (fun _ => rfl) dX11_plays_49 (fun z5 u6 h7 => ?_)
              rw [h7.1]; replace h7 := h7.2
              refine z_as (b := ((like ((u 5)) ((u 9 1)) ((u 9 0)) ((u 0 12)) ((u 18 (k))) : Nat) : Int)) h7 ?_
              refine z_istore_n C [(2, .int (zI (((like ((u 5)) ((u 9 1)) ((u 9 0)) ((u 0 12)) ((u 18 (k))) : Nat) : Int)))), (0, .ref (a 0)), (1, .int (zI k))] dX11_plays_52 rfl (by decide) rfl ?_
              refine z_iconst C dX11_plays_53 ?_
              refine z_istore_n C [(3, .int (zI 0)), (2, .int (zI (((like ((u 5)) ((u 9 1)) ((u 9 0)) ((u 0 12)) ((u 18 (k))) : Nat) : Int)))), (0, .ref (a 0)), (1, .int (zI k))] dX11_plays_54 rfl (by decide) rfl ?_
              have L55_8 : ∀ (fu : Nat) (w : Int) (s2 : Int → Int), (0 ≤ w ∧ w ≤ 512) → (PlT u s2 k w) → 512 - w < (fu : Int) → Z x 0 0 (WM a c (us u 19 (s2))) [(0, .ref (a 0)), (1, .int (zI k)), (2, .int (zI (((like (u 5) (u 9 1) (u 9 0) (u 0 12) (u 18 k) : Nat) : Int)))), (3, .int (zI w))] 55 [] := by
                intro fu
                induction fu with
                | zero => intro w s2 hw hT hmeas; exfalso; omega
                | succ fu ih55 =>
                  intro w s2 hw hT hmeas
                  refine z_iload_n C 3 dX11_plays_55 rfl ?_
                  refine z_sipush C dX11_plays_56 (by decide) ?_
                  refine z_icmp_ge C 173 dX11_plays_59 (by decide) (by omega) (fun h9 => ?_) (fun h9 => ?_)
                  · skip
                    refine z_iinc C 1 [(1, .int (zI (k + (-1)))), (0, .ref (a 0)), (2, .int (zI (((like (u 5) (u 9 1) (u 9 0) (u 0 12) (u 18 k) : Nat) : Int)))), (3, .int (zI w))] dX11_plays_173 rfl (by decide) rfl ?_
                    refine z_goto C 38 dX11_plays_176 (by decide) ?_
                    refine z_lv [(0, .ref (a 0)), (1, .int (zI (k + (-1))))] [1, 0] rfl ?_
                    exact ih38 (k + (-1)) s2 (by omega) (PlS_end hT (by omega)) (by omega)
                  · skip
                    refine z_bipush C dX11_plays_62 (by decide) ?_
                    refine z_istore C [(4, .int (zI (-9))), (0, .ref (a 0)), (1, .int (zI k)), (2, .int (zI (((like (u 5) (u 9 1) (u 9 0) (u 0 12) (u 18 k) : Nat) : Int)))), (3, .int (zI w))] dX11_plays_64 (by decide) rfl ?_
                    refine z_iconst C dX11_plays_66 ?_
                    refine z_istore C [(5, .int (zI 0)), (4, .int (zI (-9))), (0, .ref (a 0)), (1, .int (zI k)), (2, .int (zI (((like (u 5) (u 9 1) (u 9 0) (u 0 12) (u 18 k) : Nat) : Int)))), (3, .int (zI w))] dX11_plays_67 (by decide) rfl ?_
                    have L69_10 : ∀ (fu : Nat) (m : Int) (b : Int), (0 ≤ m ∧ m ≤ 8 * u 0 13) → (b = enc (mvc (mhw u k) (hc (mhw u) (u 0 13) (u 0 31) (u 0 31 - 1 - k).toNat) w m.toNat)) → 8 * u 0 13 - m < (fu : Int) → Z x 0 0 (WM a c (us u 19 (s2))) [(0, .ref (a 0)), (1, .int (zI k)), (2, .int (zI (((like (u 5) (u 9 1) (u 9 0) (u 0 12) (u 18 k) : Nat) : Int)))), (3, .int (zI w)), (4, .int (zI b)), (5, .int (zI m))] 69 [] := by
                      intro fu
                      induction fu with
                      | zero => intro m b hm hb hmeas; exfalso; omega
                      | succ fu ih69 =>
                        intro m b hm hb hmeas
                        refine z_iload C 5 dX11_plays_69 rfl ?_
                        refine z_bipush C dX11_plays_71 (by decide) ?_
                        refine z_aload_n C 0 dX11_plays_73 rfl ?_
                        refine z_get C hK (v := .int (zI (u 0 13))) inX11_plays_X11 0 (WM_0 a c ((us u 19 (s2)))) rfl 13 (by decide) (List.mem_of_getElem? (i := 4) rfl) rfl dX11_plays_74 ?_
                        refine z_imul C dX11_plays_77 ?_
                        refine z_icmp_ge C 153 dX11_plays_78 (by decide) (by omega) (fun h11 => ?_) (fun h11 => ?_)
                        · skip
                          refine z_aload_n C 0 dX11_plays_153 rfl ?_
                          refine z_get C hK (v := .ref (a 19)) inX11_plays_X11 0 (WM_0 a c ((us u 19 (s2)))) rfl 33 (by decide) (List.mem_of_getElem? (i := 1) rfl) rfl dX11_plays_154 ?_
                          refine z_sipush C dX11_plays_157 (by decide) ?_
                          refine z_iload_n C 1 dX11_plays_160 rfl ?_
                          refine z_imul C dX11_plays_161 ?_
                          refine z_iload_n C 3 dX11_plays_162 rfl ?_
                          refine z_iadd C dX11_plays_163 ?_
                          refine z_iload C 4 dX11_plays_164 rfl ?_
                          refine z_iast C hK (hDD _) 0 (g := (us u 19 (s2)) 19) 19 (WM_19 a c ((us u 19 (s2)))) rfl (by decide) (by omega) (WM_19_set a c ((us u 19 (s2))) ((512 * k) + w) b) dX11_plays_166 ?_
                          refine z_iinc C 3 [(3, .int (zI (w + 1))), (0, .ref (a 0)), (1, .int (zI k)), (2, .int (zI (((like (u 5) (u 9 1) (u 9 0) (u 0 12) (u 18 k) : Nat) : Int)))), (4, .int (zI b)), (5, .int (zI m))] dX11_plays_167 rfl (by decide) rfl ?_
                          refine z_goto C 55 dX11_plays_170 (by decide) ?_
                          refine z_lv [(0, .ref (a 0)), (1, .int (zI k)), (2, .int (zI (((like (u 5) (u 9 1) (u 9 0) (u 0 12) (u 18 k) : Nat) : Int)))), (3, .int (zI (w + 1)))] [1, 2, 3, 0] rfl ?_
                          exact ih55 (w + 1) (fun j => if j = 512 * k + w then b else s2 j) (by omega) (PlT_put (by omega) hT (pl_val (by omega) hpp hb (by omega))) (by omega)
                        · skip
                          have hmv := mv_bd (w := w) (m := m) (by omega) (by omega)
                          have hG := pl_G hT (by omega) hmv
                          have hGb := hc_56 (A := mhw u) (pp := u 0 13) (n := u 0 31) (r := (u 0 31 - 1 - k).toNat) (by omega) (mv w m)
                          have hdb := dab_bd (a := m % 8) (b := pl w (m / 8)) (by omega) (pl_bd _ _)
                          have hmm : 8 * (m / 8) + m % 8 = m := by omega
                          have heb := mvc_bd (A := mhw u k) (G := hc (mhw u) (u 0 13) (u 0 31) (u 0 31 - 1 - k).toNat) w (fun w => (hc_bd (mhw u) (u 0 13) (u 0 31) (u 0 31 - 1 - k).toNat w).1) m.toNat
                          have hee := enc_e heb hb
                          have hcb := cst_bd (d := dab (m % 8) (pl w (m / 8))) (G := hc (mhw u) (u 0 13) (u 0 31) (u 0 31 - 1 - k).toNat (mv w m)) hdb hGb
                          refine z_iload_n C 2 dX11_plays_81 rfl ?_
                          refine z_iload C 5 dX11_plays_82 rfl ?_
                          refine z_bipush C dX11_plays_84 (by decide) ?_
                          refine z_irem C dX11_plays_86 (by omega) ?_
                          refine z_as (b := m % 8) (tmod8 (by omega)) ?_
                          refine z_ishr C (((like (u 5) (u 9 1) (u 9 0) (u 0 12) (u 18 k) >>> (m % 8).toNat : Nat) : Int)) dX11_plays_87 (zI_shrN (by have := like_lt (u 5) (u 9 1) (u 9 0) (u 0 12) (u 18 k); omega) (by omega)) ?_
                          refine z_iconst C dX11_plays_88 ?_
                          refine z_iand C ((if mhw u k (m % 8) = true then 1 else 0)) dX11_plays_89 (like_bitZ (by omega)) ?_
                          refine z_iconst C dX11_plays_90 ?_
                          refine z_icmp_ne C 113 dX11_plays_91 (by decide) (by split <;> omega) (fun h12 => ?_) (fun h12 => ?_)
                          · have hA := ite01_n1 h12
                            refine z_bipush C dX11_plays_113 (by decide) ?_
                            refine z_istore C [(6, .int (zI (-9))), (0, .ref (a 0)), (1, .int (zI k)), (2, .int (zI (((like (u 5) (u 9 1) (u 9 0) (u 0 12) (u 18 k) : Nat) : Int)))), (3, .int (zI w)), (4, .int (zI b)), (5, .int (zI m))] dX11_plays_115 (by decide) rfl ?_
                            refine z_iload C 0 dX11_plays_117 rfl ?_
                            refine z_bipush C dX11_plays_119 (by decide) ?_
                            refine z_icmp_eq C 143 dX11_plays_121 (by decide) (by omega) (fun h13 => ?_) (fun h13 => ?_)
                            · skip
                              refine z_iload C 5 dX11_plays_143 rfl ?_
                              refine z_istore C [(4, .int (zI b)), (6, .int (zI (-9))), (0, .ref (a 0)), (1, .int (zI k)), (2, .int (zI (((like (u 5) (u 9 1) (u 9 0) (u 0 12) (u 18 k) : Nat) : Int)))), (3, .int (zI w)), (5, .int (zI m))] dX11_plays_145 (by decide) rfl ?_
                              refine z_iinc C 6 [(5, .int (zI (m + 1))), (4, .int (zI b)), (6, .int (zI (-9))), (0, .ref (a 0)), (1, .int (zI k)), (2, .int (zI (((like (u 5) (u 9 1) (u 9 0) (u 0 12) (u 18 k) : Nat) : Int)))), (3, .int (zI w))] dX11_plays_147 rfl (by decide) rfl ?_
                              refine z_goto C 69 dX11_plays_150 (by decide) ?_
                              refine z_lv [(0, .ref (a 0)), (1, .int (zI k)), (2, .int (zI (((like (u 5) (u 9 1) (u 9 0) (u 0 12) (u 18 k) : Nat) : Int)))), (3, .int (zI w)), (4, .int (zI b)), (5, .int (zI (m + 1)))] [3, 4, 5, 6, 1, 0] rfl ?_
                              exact ih69 (m + 1) b (by omega) (by first | exact pls_yes hm.1 hb hA hGb heb hdb (by omega) | exact pls_no hm.1 hb hA (by omega)) (by omega)
                            · skip
                              refine z_iload C 5 dX11_plays_124 rfl ?_
                              refine z_bipush C dX11_plays_126 (by decide) ?_
                              refine z_icmp_eq C 138 dX11_plays_128 (by decide) (by omega) (fun h14 => ?_) (fun h14 => ?_)
                              · skip
                                refine z_iload C 0 dX11_plays_138 rfl ?_
                                refine z_goto C 145 dX11_plays_140 (by decide) ?_
                                refine z_istore C [(4, .int (zI (-9))), (6, .int (zI (-9))), (0, .ref (a 0)), (1, .int (zI k)), (2, .int (zI (((like (u 5) (u 9 1) (u 9 0) (u 0 12) (u 18 k) : Nat) : Int)))), (3, .int (zI w)), (5, .int (zI m))] dX11_plays_145 (by decide) rfl ?_
                                refine z_iinc C 6 [(5, .int (zI (m + 1))), (4, .int (zI (-9))), (6, .int (zI (-9))), (0, .ref (a 0)), (1, .int (zI k)), (2, .int (zI (((like (u 5) (u 9 1) (u 9 0) (u 0 12) (u 18 k) : Nat) : Int)))), (3, .int (zI w))] dX11_plays_147 rfl (by decide) rfl ?_
                                refine z_goto C 69 dX11_plays_150 (by decide) ?_
                                refine z_lv [(0, .ref (a 0)), (1, .int (zI k)), (2, .int (zI (((like (u 5) (u 9 1) (u 9 0) (u 0 12) (u 18 k) : Nat) : Int)))), (3, .int (zI w)), (4, .int (zI (-9))), (5, .int (zI (m + 1)))] [3, 4, 5, 6, 1, 0] rfl ?_
                                exact ih69 (m + 1) (-9) (by omega) (by first | exact pls_yes hm.1 hb hA hGb heb hdb (by omega) | exact pls_no hm.1 hb hA (by omega)) (by omega)
                              · skip
                                refine z_iload C 0 dX11_plays_131 rfl ?_
                                refine z_iload C 5 dX11_plays_133 rfl ?_
                                refine z_icmp_ge C 143 dX11_plays_135 (by decide) (by omega) (fun h15 => ?_) (fun h15 => ?_)
                                · skip
                                  refine z_iload C 5 dX11_plays_143 rfl ?_
                                  refine z_istore C [(4, .int (zI b)), (6, .int (zI (-9))), (0, .ref (a 0)), (1, .int (zI k)), (2, .int (zI (((like (u 5) (u 9 1) (u 9 0) (u 0 12) (u 18 k) : Nat) : Int)))), (3, .int (zI w)), (5, .int (zI m))] dX11_plays_145 (by decide) rfl ?_
                                  refine z_iinc C 6 [(5, .int (zI (m + 1))), (4, .int (zI b)), (6, .int (zI (-9))), (0, .ref (a 0)), (1, .int (zI k)), (2, .int (zI (((like (u 5) (u 9 1) (u 9 0) (u 0 12) (u 18 k) : Nat) : Int)))), (3, .int (zI w))] dX11_plays_147 rfl (by decide) rfl ?_
                                  refine z_goto C 69 dX11_plays_150 (by decide) ?_
                                  refine z_lv [(0, .ref (a 0)), (1, .int (zI k)), (2, .int (zI (((like (u 5) (u 9 1) (u 9 0) (u 0 12) (u 18 k) : Nat) : Int)))), (3, .int (zI w)), (4, .int (zI b)), (5, .int (zI (m + 1)))] [3, 4, 5, 6, 1, 0] rfl ?_
                                  exact ih69 (m + 1) b (by omega) (by first | exact pls_yes hm.1 hb hA hGb heb hdb (by omega) | exact pls_no hm.1 hb hA (by omega)) (by omega)
                                · skip
                                  refine z_iload C 0 dX11_plays_138 rfl ?_
                                  refine z_goto C 145 dX11_plays_140 (by decide) ?_
                                  refine z_istore C [(4, .int (zI (-9))), (6, .int (zI (-9))), (0, .ref (a 0)), (1, .int (zI k)), (2, .int (zI (((like (u 5) (u 9 1) (u 9 0) (u 0 12) (u 18 k) : Nat) : Int)))), (3, .int (zI w)), (5, .int (zI m))] dX11_plays_145 (by decide) rfl ?_
                                  refine z_iinc C 6 [(5, .int (zI (m + 1))), (4, .int (zI (-9))), (6, .int (zI (-9))), (0, .ref (a 0)), (1, .int (zI k)), (2, .int (zI (((like (u 5) (u 9 1) (u 9 0) (u 0 12) (u 18 k) : Nat) : Int)))), (3, .int (zI w))] dX11_plays_147 rfl (by decide) rfl ?_
                                  refine z_goto C 69 dX11_plays_150 (by decide) ?_
                                  refine z_lv [(0, .ref (a 0)), (1, .int (zI k)), (2, .int (zI (((like (u 5) (u 9 1) (u 9 0) (u 0 12) (u 18 k) : Nat) : Int)))), (3, .int (zI w)), (4, .int (zI (-9))), (5, .int (zI (m + 1)))] [3, 4, 5, 6, 1, 0] rfl ?_
                                  exact ih69 (m + 1) (-9) (by omega) (by first | exact pls_yes hm.1 hb hA hGb heb hdb (by omega) | exact pls_no hm.1 hb hA (by omega)) (by omega)
                          · have hA := ite01_1 h12
                            refine z_aload_n C 0 dX11_plays_94 rfl ?_
                            refine z_iload_n C 1 dX11_plays_95 rfl ?_
                            refine z_iload_n C 3 dX11_plays_96 rfl ?_
                            refine z_iload C 5 dX11_plays_97 rfl ?_
                            refine z_bipush C dX11_plays_99 (by decide) ?_
                            refine z_idiv C dX11_plays_101 (by omega) ?_
                            refine z_as (b := m / 8) (tdiv8 (by omega)) ?_
                            refine z_iload C 5 dX11_plays_102 rfl ?_
                            refine z_bipush C dX11_plays_104 (by decide) ?_
                            refine z_irem C dX11_plays_106 (by omega) ?_
                            refine z_as (b := m % 8) (tmod8 (by omega)) ?_
                            refine z_callV C hK hDD (c_X11_costs (zl x) (zG x) a c ((us u 19 (s2))) k w (m / 8) (m % 8) ((hc (mhw u) (u 0 13) (u 0 31) (u 0 31 - 1 - k).toNat (mv w m))) (show 0 ≤ k ∧ k < 8 by omega) (show 0 ≤ w ∧ w < 512 by omega) (show 0 ≤ (m / 8) ∧ (m / 8) < 3 by omega) (show 0 ≤ (m % 8) ∧ (m % 8) < 8 by omega) (by rw [hmm]; exact hG) (hGb)) gX11_plays_X11_costs rfl zy_X11_costs 0 (WM_0 a c ((us u 19 (s2)))) rfl ⟨by omega, by decide⟩ rfl (Nat.le_of_ble_eq_true rfl) (st := []) (stk2 := fun z16 => [.int (zI z16)]) rfl (fun _ => rfl) dX11_plays_107 (fun z16 u17 h18 => ?_)
                            rw [h18.1]; replace h18 := h18.2
                            refine z_as (b := enc (dab (m % 8) (pl w (m / 8)) + ((hc (mhw u) (u 0 13) (u 0 31) (u 0 31 - 1 - k).toNat (mv w m))))) h18 ?_
                            refine z_goto C 115 dX11_plays_110 (by decide) ?_
                            refine z_istore C [(6, .int (zI (enc (dab (m % 8) (pl w (m / 8)) + ((hc (mhw u) (u 0 13) (u 0 31) (u 0 31 - 1 - k).toNat (mv w m))))))), (0, .ref (a 0)), (1, .int (zI k)), (2, .int (zI (((like (u 5) (u 9 1) (u 9 0) (u 0 12) (u 18 k) : Nat) : Int)))), (3, .int (zI w)), (4, .int (zI b)), (5, .int (zI m))] dX11_plays_115 (by decide) rfl ?_
                            refine z_iload C 0 dX11_plays_117 rfl ?_
                            refine z_bipush C dX11_plays_119 (by decide) ?_
                            refine z_icmp_eq C 143 dX11_plays_121 (by decide) (by omega) (fun h19 => ?_) (fun h19 => ?_)
                            · skip
                              refine z_iload C 5 dX11_plays_143 rfl ?_
                              refine z_istore C [(4, .int (zI b)), (6, .int (zI (enc (dab (m % 8) (pl w (m / 8)) + ((hc (mhw u) (u 0 13) (u 0 31) (u 0 31 - 1 - k).toNat (mv w m))))))), (0, .ref (a 0)), (1, .int (zI k)), (2, .int (zI (((like (u 5) (u 9 1) (u 9 0) (u 0 12) (u 18 k) : Nat) : Int)))), (3, .int (zI w)), (5, .int (zI m))] dX11_plays_145 (by decide) rfl ?_
                              refine z_iinc C 6 [(5, .int (zI (m + 1))), (4, .int (zI b)), (6, .int (zI (enc (dab (m % 8) (pl w (m / 8)) + ((hc (mhw u) (u 0 13) (u 0 31) (u 0 31 - 1 - k).toNat (mv w m))))))), (0, .ref (a 0)), (1, .int (zI k)), (2, .int (zI (((like (u 5) (u 9 1) (u 9 0) (u 0 12) (u 18 k) : Nat) : Int)))), (3, .int (zI w))] dX11_plays_147 rfl (by decide) rfl ?_
                              refine z_goto C 69 dX11_plays_150 (by decide) ?_
                              refine z_lv [(0, .ref (a 0)), (1, .int (zI k)), (2, .int (zI (((like (u 5) (u 9 1) (u 9 0) (u 0 12) (u 18 k) : Nat) : Int)))), (3, .int (zI w)), (4, .int (zI b)), (5, .int (zI (m + 1)))] [3, 4, 5, 6, 1, 0] rfl ?_
                              exact ih69 (m + 1) b (by omega) (by first | exact pls_yes hm.1 hb hA hGb heb hdb (by omega) | exact pls_no hm.1 hb hA (by omega)) (by omega)
                            · skip
                              refine z_iload C 5 dX11_plays_124 rfl ?_
                              refine z_bipush C dX11_plays_126 (by decide) ?_
                              refine z_icmp_eq C 138 dX11_plays_128 (by decide) (by omega) (fun h20 => ?_) (fun h20 => ?_)
                              · skip
                                refine z_iload C 0 dX11_plays_138 rfl ?_
                                refine z_goto C 145 dX11_plays_140 (by decide) ?_
                                refine z_istore C [(4, .int (zI (enc (dab (m % 8) (pl w (m / 8)) + ((hc (mhw u) (u 0 13) (u 0 31) (u 0 31 - 1 - k).toNat (mv w m))))))), (6, .int (zI (enc (dab (m % 8) (pl w (m / 8)) + ((hc (mhw u) (u 0 13) (u 0 31) (u 0 31 - 1 - k).toNat (mv w m))))))), (0, .ref (a 0)), (1, .int (zI k)), (2, .int (zI (((like (u 5) (u 9 1) (u 9 0) (u 0 12) (u 18 k) : Nat) : Int)))), (3, .int (zI w)), (5, .int (zI m))] dX11_plays_145 (by decide) rfl ?_
                                refine z_iinc C 6 [(5, .int (zI (m + 1))), (4, .int (zI (enc (dab (m % 8) (pl w (m / 8)) + ((hc (mhw u) (u 0 13) (u 0 31) (u 0 31 - 1 - k).toNat (mv w m))))))), (6, .int (zI (enc (dab (m % 8) (pl w (m / 8)) + ((hc (mhw u) (u 0 13) (u 0 31) (u 0 31 - 1 - k).toNat (mv w m))))))), (0, .ref (a 0)), (1, .int (zI k)), (2, .int (zI (((like (u 5) (u 9 1) (u 9 0) (u 0 12) (u 18 k) : Nat) : Int)))), (3, .int (zI w))] dX11_plays_147 rfl (by decide) rfl ?_
                                refine z_goto C 69 dX11_plays_150 (by decide) ?_
                                refine z_lv [(0, .ref (a 0)), (1, .int (zI k)), (2, .int (zI (((like (u 5) (u 9 1) (u 9 0) (u 0 12) (u 18 k) : Nat) : Int)))), (3, .int (zI w)), (4, .int (zI (enc (dab (m % 8) (pl w (m / 8)) + ((hc (mhw u) (u 0 13) (u 0 31) (u 0 31 - 1 - k).toNat (mv w m))))))), (5, .int (zI (m + 1)))] [3, 4, 5, 6, 1, 0] rfl ?_
                                exact ih69 (m + 1) (enc (dab (m % 8) (pl w (m / 8)) + ((hc (mhw u) (u 0 13) (u 0 31) (u 0 31 - 1 - k).toNat (mv w m))))) (by omega) (by first | exact pls_yes hm.1 hb hA hGb heb hdb (by omega) | exact pls_no hm.1 hb hA (by omega)) (by omega)
                              · skip
                                refine z_iload C 0 dX11_plays_131 rfl ?_
                                refine z_iload C 5 dX11_plays_133 rfl ?_
                                refine z_icmp_ge C 143 dX11_plays_135 (by decide) (by omega) (fun h21 => ?_) (fun h21 => ?_)
                                · skip
                                  refine z_iload C 5 dX11_plays_143 rfl ?_
                                  refine z_istore C [(4, .int (zI b)), (6, .int (zI (enc (dab (m % 8) (pl w (m / 8)) + ((hc (mhw u) (u 0 13) (u 0 31) (u 0 31 - 1 - k).toNat (mv w m))))))), (0, .ref (a 0)), (1, .int (zI k)), (2, .int (zI (((like (u 5) (u 9 1) (u 9 0) (u 0 12) (u 18 k) : Nat) : Int)))), (3, .int (zI w)), (5, .int (zI m))] dX11_plays_145 (by decide) rfl ?_
                                  refine z_iinc C 6 [(5, .int (zI (m + 1))), (4, .int (zI b)), (6, .int (zI (enc (dab (m % 8) (pl w (m / 8)) + ((hc (mhw u) (u 0 13) (u 0 31) (u 0 31 - 1 - k).toNat (mv w m))))))), (0, .ref (a 0)), (1, .int (zI k)), (2, .int (zI (((like (u 5) (u 9 1) (u 9 0) (u 0 12) (u 18 k) : Nat) : Int)))), (3, .int (zI w))] dX11_plays_147 rfl (by decide) rfl ?_
                                  refine z_goto C 69 dX11_plays_150 (by decide) ?_
                                  refine z_lv [(0, .ref (a 0)), (1, .int (zI k)), (2, .int (zI (((like (u 5) (u 9 1) (u 9 0) (u 0 12) (u 18 k) : Nat) : Int)))), (3, .int (zI w)), (4, .int (zI b)), (5, .int (zI (m + 1)))] [3, 4, 5, 6, 1, 0] rfl ?_
                                  exact ih69 (m + 1) b (by omega) (by first | exact pls_yes hm.1 hb hA hGb heb hdb (by omega) | exact pls_no hm.1 hb hA (by omega)) (by omega)
                                · skip
                                  refine z_iload C 0 dX11_plays_138 rfl ?_
                                  refine z_goto C 145 dX11_plays_140 (by decide) ?_
                                  refine z_istore C [(4, .int (zI (enc (dab (m % 8) (pl w (m / 8)) + ((hc (mhw u) (u 0 13) (u 0 31) (u 0 31 - 1 - k).toNat (mv w m))))))), (6, .int (zI (enc (dab (m % 8) (pl w (m / 8)) + ((hc (mhw u) (u 0 13) (u 0 31) (u 0 31 - 1 - k).toNat (mv w m))))))), (0, .ref (a 0)), (1, .int (zI k)), (2, .int (zI (((like (u 5) (u 9 1) (u 9 0) (u 0 12) (u 18 k) : Nat) : Int)))), (3, .int (zI w)), (5, .int (zI m))] dX11_plays_145 (by decide) rfl ?_
                                  refine z_iinc C 6 [(5, .int (zI (m + 1))), (4, .int (zI (enc (dab (m % 8) (pl w (m / 8)) + ((hc (mhw u) (u 0 13) (u 0 31) (u 0 31 - 1 - k).toNat (mv w m))))))), (6, .int (zI (enc (dab (m % 8) (pl w (m / 8)) + ((hc (mhw u) (u 0 13) (u 0 31) (u 0 31 - 1 - k).toNat (mv w m))))))), (0, .ref (a 0)), (1, .int (zI k)), (2, .int (zI (((like (u 5) (u 9 1) (u 9 0) (u 0 12) (u 18 k) : Nat) : Int)))), (3, .int (zI w))] dX11_plays_147 rfl (by decide) rfl ?_
                                  refine z_goto C 69 dX11_plays_150 (by decide) ?_
                                  refine z_lv [(0, .ref (a 0)), (1, .int (zI k)), (2, .int (zI (((like (u 5) (u 9 1) (u 9 0) (u 0 12) (u 18 k) : Nat) : Int)))), (3, .int (zI w)), (4, .int (zI (enc (dab (m % 8) (pl w (m / 8)) + ((hc (mhw u) (u 0 13) (u 0 31) (u 0 31 - 1 - k).toNat (mv w m))))))), (5, .int (zI (m + 1)))] [3, 4, 5, 6, 1, 0] rfl ?_
                                  exact ih69 (m + 1) (enc (dab (m % 8) (pl w (m / 8)) + ((hc (mhw u) (u 0 13) (u 0 31) (u 0 31 - 1 - k).toNat (mv w m))))) (by omega) (by first | exact pls_yes hm.1 hb hA hGb heb hdb (by omega) | exact pls_no hm.1 hb hA (by omega)) (by omega)
                    refine z_lv [(0, .ref (a 0)), (1, .int (zI k)), (2, .int (zI (((like (u 5) (u 9 1) (u 9 0) (u 0 12) (u 18 k) : Nat) : Int)))), (3, .int (zI w)), (4, .int (zI (-9))), (5, .int (zI 0))] [2, 3, 4, 5, 1, 0] rfl ?_
                    exact L69_10 (((8 * u 0 13 - 0 : Int)).toNat + 1) 0 (-9) (by omega) (rfl) (by omega)
              refine z_lv [(0, .ref (a 0)), (1, .int (zI k)), (2, .int (zI (((like ((u 5)) ((u 9 1)) ((u 9 0)) ((u 0 12)) ((u 18 (k))) : Nat) : Int)))), (3, .int (zI 0))] [2, 3, 1, 0] rfl ?_
              exact L55_8 (((512 - 0 : Int)).toNat + 1) 0 s (by omega) (⟨hs2, fun v h0 h1 => absurd h1 (by omega)⟩) (by omega)
        refine z_lv [(0, .ref (a 0)), (1, .int (zI ((u 0 31) - 1)))] [1, 0] rfl ?_
        exact L38_3 (((((u 0 31) - 1) + 1 : Int)).toNat + 1) ((u 0 31) - 1) s (by omega) (PlS_0 (by omega) hs) (by omega)
      · skip
        refine z_aload_n C 0 dX11_plays_9 rfl ?_
        refine z_get C hK (v := .ref (a 19)) inX11_plays_X11 0 (WM_0 a c ((us u 19 (s)))) rfl 33 (by decide) (List.mem_of_getElem? (i := 1) rfl) rfl dX11_plays_10 ?_
        refine z_sipush C dX11_plays_13 (by decide) ?_
        refine z_aload_n C 0 dX11_plays_16 rfl ?_
        refine z_get C hK (v := .int (zI (u 0 31))) inX11_plays_X11 0 (WM_0 a c ((us u 19 (s)))) rfl 31 (by decide) (List.mem_of_getElem? (i := 2) rfl) rfl dX11_plays_17 ?_
        refine z_imul C dX11_plays_20 ?_
        refine z_iload_n C 1 dX11_plays_21 rfl ?_
        refine z_iadd C dX11_plays_22 ?_
        refine z_iconst C dX11_plays_23 ?_
        refine z_iast C hK (hDD _) 0 (g := (us u 19 (s)) 19) 19 (WM_19 a c ((us u 19 (s)))) rfl (by decide) (by omega) (WM_19_set a c ((us u 19 (s))) ((512 * (u 0 31)) + i) 0) dX11_plays_24 ?_
        refine z_iinc C 1 [(1, .int (zI (i + 1))), (0, .ref (a 0))] dX11_plays_25 rfl (by decide) rfl ?_
        refine z_goto C 2 dX11_plays_28 (by decide) ?_
        refine z_lv [(0, .ref (a 0)), (1, .int (zI (i + 1)))] [1, 0] rfl ?_
        exact ih2 (i + 1) (fun j => if j = 512 * u 0 31 + i then 0 else s j) (by omega) (z0_step hs) (by omega)
  refine z_lv [(0, .ref (a 0)), (1, .int (zI 0))] [1, 0] rfl ?_
  exact L2_1 (((512 - 0 : Int)).toNat + 1) 0 (u 19) (by omega) (fun v h0 h1 => absurd h1 (by omega)) (by omega)
-- NoteBellsModel.now
theorem inX11_now_X11 : ∀ w ∈ wsX110, w ∈ wsX11_now := fun w h => List.mem_cons_of_mem _ (List.mem_append_right _ (h))
set_option maxHeartbeats 8000000 in
set_option maxRecDepth 100000 in
theorem c_X11_now (l : Launch) (D : va_G) (a : Nat → Nat) (c : Nat → ClassId) (u : zU)  (hI : IM u) : ZM l D (zTy c) (WM a c) yX11_now wsX11_now 1 [.ref (a 0)] u rI (fun z u' => u' = u ∧ z = stw (u 8) (u 0 13)) := by
  refine ZM.ofI (cc := cX11_now) (maxL := 1) [(0, .ref (a 0))] rfl (by decide +kernel) rfl (Nat.le_of_ble_eq_true rfl) (WM_addr a c) ?_
  intro x C hK _ _ hDD kret
  have hs0 := hI.stands 0 (by omega) (by omega)
  have hs1 := hI.stands 1 (by omega) (by omega)
  have hs2 := hI.stands 2 (by omega) (by omega)
  refine z_aload_n C 0 dX11_now_0 rfl ?_
  refine z_get C hK (v := .ref (a 8)) inX11_now_X11 0 (WM_0 a c u) rfl 17 (by decide) (List.mem_of_getElem? (i := 1) rfl) rfl dX11_now_1 ?_
  refine z_iconst C dX11_now_4 ?_
  refine z_iald C hK 0 (g := (u 8)) (i := 0) 8 (WM_8 a c u) rfl (by decide) (by omega) dX11_now_5 ?_
  refine z_as (b := u 8 0) rfl ?_
  refine z_bipush C dX11_now_6 (by decide) ?_
  refine z_aload_n C 0 dX11_now_8 rfl ?_
  refine z_get C hK (v := .ref (a 8)) inX11_now_X11 0 (WM_0 a c u) rfl 17 (by decide) (List.mem_of_getElem? (i := 1) rfl) rfl dX11_now_9 ?_
  refine z_iconst C dX11_now_12 ?_
  refine z_iald C hK 0 (g := (u 8)) (i := 1) 8 (WM_8 a c u) rfl (by decide) (by omega) dX11_now_13 ?_
  refine z_as (b := u 8 1) rfl ?_
  refine z_imul C dX11_now_14 ?_
  refine z_iadd C dX11_now_15 ?_
  refine z_bipush C dX11_now_16 (by decide) ?_
  refine z_aload_n C 0 dX11_now_18 rfl ?_
  refine z_get C hK (v := .ref (a 8)) inX11_now_X11 0 (WM_0 a c u) rfl 17 (by decide) (List.mem_of_getElem? (i := 1) rfl) rfl dX11_now_19 ?_
  refine z_iconst C dX11_now_22 ?_
  refine z_iald C hK 0 (g := (u 8)) (i := 2) 8 (WM_8 a c u) rfl (by decide) (by omega) dX11_now_23 ?_
  refine z_as (b := u 8 2) rfl ?_
  refine z_imul C dX11_now_24 ?_
  refine z_iadd C dX11_now_25 ?_
  exact kret (((u 8 0) + (8 * (u 8 1))) + (64 * (u 8 2))) u _ _ (⟨rfl, stw_m hI.ppl hI.zero⟩) dX11_now_26
-- NoteBellsModel.climbing
theorem inX11_climbing_X11 : ∀ w ∈ wsX110, w ∈ wsX11_climbing := fun w h => List.mem_cons_of_mem _ (List.mem_append_right _ (h))
set_option maxHeartbeats 8000000 in
set_option maxRecDepth 100000 in
theorem c_X11_climbing (l : Launch) (D : va_G) (a : Nat → Nat) (c : Nat → ClassId) (u : zU)  (hI : IM u) : ZM l D (zTy c) (WM a c) yX11_climbing wsX11_climbing 8 [.ref (a 0)] u rI (fun z u' => (∃ s : Int → Int, u' = us u 19 s) ∧ z = clw (mhw u) (u 0 13) (u 0 31) (stw (u 8) (u 0 13))) := by
  refine ZM.ofI (cc := cX11_climbing) (maxL := 1) [(0, .ref (a 0))] rfl (by decide +kernel) rfl (Nat.le_of_ble_eq_true rfl) (WM_addr a c) ?_
  intro x C hK _ _ hDD kret
  have hsu := hI.sung
  have hsb := stw_bd (pp := u 0 13) hI.stands
  refine z_aload_n C 0 dX11_climbing_0 rfl ?_
  refine z_callV C hK hDD (c_X11_plays (zl x) (zG x) a c u  (hI)) gX11_climbing_X11_plays rfl zy_X11_plays 0 (WM_0 a c u) rfl ⟨by omega, by decide⟩ rfl (Nat.le_of_ble_eq_true rfl) (st := []) (stk2 := fun _ => []) rfl (fun _ => rfl) dX11_climbing_1 (fun z1 u2 h3 => ?_)
  obtain ⟨s, e1, hS⟩ := h3
  rw [e1]
  change Z x 0 0 (WM a c (us u 19 (s))) _ _ _
  refine z_aload_n C 0 dX11_climbing_4 rfl ?_
  refine z_get C hK (v := .ref (a 19)) inX11_climbing_X11 0 (WM_0 a c ((us u 19 (s)))) rfl 33 (by decide) (List.mem_of_getElem? (i := 1) rfl) rfl dX11_climbing_5 ?_
  refine z_aload_n C 0 dX11_climbing_8 rfl ?_
  refine z_callV C hK hDD (c_X11_now (zl x) (zG x) a c ((us u 19 (s)))  (hI)) gX11_climbing_X11_now rfl zy_X11_now 0 (WM_0 a c ((us u 19 (s)))) rfl ⟨by omega, by decide⟩ rfl (Nat.le_of_ble_eq_true rfl) (st := [.ref (a 19)]) (stk2 := fun z4 => [.int (zI z4), .ref (a 19)]) rfl (fun _ => rfl) dX11_climbing_9 (fun z4 u5 h6 => ?_)
  rw [h6.1]; replace h6 := h6.2
  refine z_as (b := stw ((u 8)) ((u 0 13))) h6 ?_
  refine z_iald C hK 0 (g := s) (i := (stw ((u 8)) ((u 0 13)))) 19 (WM_19 a c ((us u 19 (s)))) rfl (by decide) (by omega) dX11_climbing_12 ?_
  exact kret (s (stw ((u 8)) ((u 0 13)))) (us u 19 s) _ _ (⟨⟨s, rfl⟩, pl_clw hsu.1 hsb hS⟩) dX11_climbing_13
-- NoteBellsModel.by
theorem inX11_by_X11 : ∀ w ∈ wsX110, w ∈ wsX11_by := fun w h => List.mem_cons_of_mem _ (List.mem_append_right _ (h))
set_option maxHeartbeats 8000000 in
set_option maxRecDepth 100000 in
theorem c_X11_by (l : Launch) (D : va_G) (a : Nat → Nat) (c : Nat → ClassId) (u : zU) (i q : Int) (hI : IM u) (b_i : -2147483648 ≤ i ∧ i < 2147483648) (b_q : -2147483648 ≤ q ∧ q < 2147483648) : ZM l D (zTy c) (WM a c) yX11_by wsX11_by 8 [.ref (a 0), .int (zI i), .int (zI q)] u rI (fun z u' => (∃ s : Int → Int, u' = us u 19 s) ∧ ((¬ (0 ≤ i ∧ i < u 0 31 ∧ 0 ≤ q ∧ q ≤ 1) ∧ z = -1) ∨ ((0 ≤ i ∧ i < u 0 31 ∧ 0 ≤ q ∧ q ≤ 1) ∧ byw (mhw u) (u 0 13) (u 0 31) (stw (u 8) (u 0 13)) i = -9 ∧ z = -9) ∨ ((0 ≤ i ∧ i < u 0 31 ∧ 0 ≤ q ∧ q ≤ 1) ∧ byw (mhw u) (u 0 13) (u 0 31) (stw (u 8) (u 0 13)) i ≠ -9 ∧ q = 0 ∧ z = (byw (mhw u) (u 0 13) (u 0 31) (stw (u 8) (u 0 13)) i) / 8) ∨ ((0 ≤ i ∧ i < u 0 31 ∧ 0 ≤ q ∧ q ≤ 1) ∧ byw (mhw u) (u 0 13) (u 0 31) (stw (u 8) (u 0 13)) i ≠ -9 ∧ q = 1 ∧ z = (byw (mhw u) (u 0 13) (u 0 31) (stw (u 8) (u 0 13)) i) % 8))) := by
  refine ZM.ofI (cc := cX11_by) (maxL := 7) [(0, .ref (a 0)), (1, .int (zI i)), (2, .int (zI q))] rfl (by decide +kernel) rfl (Nat.le_of_ble_eq_true rfl) (WM_addr a c) ?_
  intro x C hK _ _ hDD kret
  have hsu := hI.sung
  have hpp := hI.ppl
  have hsb := stw_bd (pp := u 0 13) hI.stands
  refine z_iload_n C 1 dX11_by_0 rfl ?_
  refine z_i2l C dX11_by_1 (by omega) ?_
  refine z_lconst C (z := 0) dX11_by_2 (by decide) ?_
  refine z_aload_n C 0 dX11_by_3 rfl ?_
  refine z_get C hK (v := .int (zI (u 0 31))) inX11_by_X11 0 (WM_0 a c u) rfl 31 (by decide) (List.mem_of_getElem? (i := 1) rfl) rfl dX11_by_4 ?_
  refine z_iconst C dX11_by_7 ?_
  refine z_isub C dX11_by_8 ?_
  refine z_i2l C dX11_by_9 (by omega) ?_
  refine z_callS C hK hDD (c_X11_in (zl x) (zG x) ((WM a c)) (WM_addr a c) u i 0 ((u 0 31) - 1) (by omega) (by omega) (by omega)) gX11_by_X11_in rfl rfl zy_X11_in ⟨by omega, by decide⟩ rfl (Nat.le_of_ble_eq_true rfl) (st := []) (stk2 := fun z1 => [.int (zI z1)]) rfl (fun _ => rfl) dX11_by_10 (fun z1 u2 h3 => ?_)
  rw [h3.1]; replace h3 := h3.2
  refine z_if_eq C 26 dX11_by_13 (by decide) (by omega) (fun h4 => ?_) (fun h4 => ?_)
  · skip
    refine z_iconst C dX11_by_26 ?_
    exact kret (-1) u _ _ (⟨⟨u 19, (us_self u 19).symm⟩, Or.inl ⟨by omega, rfl⟩⟩) dX11_by_27
  · skip
    refine z_iload_n C 2 dX11_by_16 rfl ?_
    refine z_i2l C dX11_by_17 (by omega) ?_
    refine z_lconst C (z := 0) dX11_by_18 (by decide) ?_
    refine z_lconst C (z := 1) dX11_by_19 (by decide) ?_
    refine z_callS C hK hDD (c_X11_in (zl x) (zG x) ((WM a c)) (WM_addr a c) u q 0 1 (by omega) (by omega) (by omega)) gX11_by_X11_in rfl rfl zy_X11_in ⟨by omega, by decide⟩ rfl (Nat.le_of_ble_eq_true rfl) (st := []) (stk2 := fun z5 => [.int (zI z5)]) rfl (fun _ => rfl) dX11_by_20 (fun z5 u6 h7 => ?_)
    rw [h7.1]; replace h7 := h7.2
    refine z_if_ne C 28 dX11_by_23 (by decide) (by omega) (fun h8 => ?_) (fun h8 => ?_)
    · skip
      refine z_aload_n C 0 dX11_by_28 rfl ?_
      refine z_callV C hK hDD (c_X11_plays (zl x) (zG x) a c u  (hI)) gX11_by_X11_plays rfl zy_X11_plays 0 (WM_0 a c u) rfl ⟨by omega, by decide⟩ rfl (Nat.le_of_ble_eq_true rfl) (st := []) (stk2 := fun _ => []) rfl (fun _ => rfl) dX11_by_29 (fun z9 u10 h11 => ?_)
      obtain ⟨s, e1, hS⟩ := h11
      rw [e1]
      change Z x 0 0 (WM a c (us u 19 (s))) _ _ _
      refine z_aload_n C 0 dX11_by_32 rfl ?_
      refine z_callV C hK hDD (c_X11_now (zl x) (zG x) a c ((us u 19 (s)))  (hI)) gX11_by_X11_now rfl zy_X11_now 0 (WM_0 a c ((us u 19 (s)))) rfl ⟨by omega, by decide⟩ rfl (Nat.le_of_ble_eq_true rfl) (st := []) (stk2 := fun z12 => [.int (zI z12)]) rfl (fun _ => rfl) dX11_by_33 (fun z12 u13 h14 => ?_)
      rw [h14.1]; replace h14 := h14.2
      refine z_as (b := stw ((u 8)) ((u 0 13))) h14 ?_
      refine z_istore_n C [(3, .int (zI (stw ((u 8)) ((u 0 13))))), (0, .ref (a 0)), (1, .int (zI i)), (2, .int (zI q))] dX11_by_36 rfl (by decide) rfl ?_
      have hsb9 := pl_sbd hsu.1 hsb hS
      refine z_aload_n C 1 dX11_by_37 rfl ?_
      refine z_get C hK (v := .ref (a 19)) inX11_by_X11 0 (WM_0 a c ((us u 19 (s)))) rfl 33 (by decide) (List.mem_of_getElem? (i := 2) rfl) rfl dX11_by_38 ?_
      refine z_iload_n C 0 dX11_by_41 rfl ?_
      refine z_iald C hK 0 (g := s) (i := (stw ((u 8)) ((u 0 13)))) 19 (WM_19 a c ((us u 19 (s)))) rfl (by decide) (by omega) dX11_by_42 ?_
      refine z_bipush C dX11_by_43 (by decide) ?_
      refine z_icmp_ne C 51 dX11_by_45 (by decide) (by omega) (fun h15 => ?_) (fun h15 => ?_)
      · skip
        have hne := pl_ne hsu.1 hsb hS (by omega)
        refine z_iconst C dX11_by_51 ?_
        refine z_istore C [(4, .int (zI 0)), (3, .int (zI (stw ((u 8)) ((u 0 13))))), (0, .ref (a 0)), (1, .int (zI i)), (2, .int (zI q))] dX11_by_52 (by decide) rfl ?_
        refine z_iconst C dX11_by_54 ?_
        refine z_istore C [(5, .int (zI 0)), (4, .int (zI 0)), (3, .int (zI (stw ((u 8)) ((u 0 13))))), (0, .ref (a 0)), (1, .int (zI i)), (2, .int (zI q))] dX11_by_55 (by decide) rfl ?_
        have L57_16 : ∀ (fu : Nat) (k : Int) (m : Int), (0 ≤ k ∧ k ≤ i + 1) → (0 ≤ m ∧ m < 24) → (0 < k → m = (ebm (mhw u) (u 0 13) (u 0 31) (k - 1) (stp (mhw u) (u 0 13) (u 0 31) (stw (u 8) (u 0 13)) (k - 1).toNat))) → (k ≤ i → hc (mhw u) (u 0 13) (u 0 31) (u 0 31 - k).toNat (stp (mhw u) (u 0 13) (u 0 31) (stw (u 8) (u 0 13)) k.toNat) < 1000) → (¬ 1000 ≤ hc (mhw u) (u 0 13) (u 0 31) (u 0 31).toNat (stw (u 8) (u 0 13))) → i + 1 - k < (fu : Int) → Z x 0 0 (WM a c (us u 19 (s))) [(0, .ref (a 0)), (1, .int (zI i)), (2, .int (zI q)), (3, .int (zI ((stp (mhw u) (u 0 13) (u 0 31) (stw (u 8) (u 0 13)) k.toNat)))), (4, .int (zI m)), (5, .int (zI k))] 57 [] := by
          intro fu
          induction fu with
          | zero => intro k m hk hm hmk hlt hne hmeas; exfalso; omega
          | succ fu ih57 =>
            intro k m hk hm hmk hlt hne hmeas
            refine z_iload C 5 dX11_by_57 rfl ?_
            refine z_iload_n C 1 dX11_by_59 rfl ?_
            refine z_icmp_gt C 152 dX11_by_60 (by decide) (by omega) (fun h17 => ?_) (fun h17 => ?_)
            · skip
              have hbw : byw (mhw u) (u 0 13) (u 0 31) (stw (u 8) (u 0 13)) i = m := byw_at (by omega) (by omega) hne hmk
              refine z_iload_n C 2 dX11_by_152 rfl ?_
              refine z_if_ne C 164 dX11_by_153 (by decide) (by omega) (fun h18 => ?_) (fun h18 => ?_)
              · skip
                refine z_iload C 4 dX11_by_164 rfl ?_
                refine z_bipush C dX11_by_166 (by decide) ?_
                refine z_irem C dX11_by_168 (by omega) ?_
                refine z_as (b := m % 8) (tmod8 (by omega)) ?_
                exact kret (m % 8) (us u 19 s) _ _ (⟨⟨s, rfl⟩, by rw [hbw]; first | exact Or.inr (Or.inr (Or.inl ⟨by omega, by omega, by omega, rfl⟩)) | exact Or.inr (Or.inr (Or.inr ⟨by omega, by omega, by omega, rfl⟩))⟩) dX11_by_169
              · skip
                refine z_iload C 4 dX11_by_156 rfl ?_
                refine z_bipush C dX11_by_158 (by decide) ?_
                refine z_idiv C dX11_by_160 (by omega) ?_
                refine z_as (b := m / 8) (tdiv8 (by omega)) ?_
                refine z_goto C 169 dX11_by_161 (by decide) ?_
                exact kret (m / 8) (us u 19 s) _ _ (⟨⟨s, rfl⟩, by rw [hbw]; first | exact Or.inr (Or.inr (Or.inl ⟨by omega, by omega, by omega, rfl⟩)) | exact Or.inr (Or.inr (Or.inr ⟨by omega, by omega, by omega, rfl⟩))⟩) dX11_by_169
            · skip
              have hny := hI.hymn k (by omega) (by omega)
              refine z_aload_n C 0 dX11_by_63 rfl ?_
              refine z_aload_n C 0 dX11_by_64 rfl ?_
              refine z_get C hK (v := .ref (a 18)) inX11_by_X11 0 (WM_0 a c ((us u 19 (s)))) rfl 32 (by decide) (List.mem_of_getElem? (i := 3) rfl) rfl dX11_by_65 ?_
              refine z_iload C 5 dX11_by_68 rfl ?_
              refine z_iald C hK 0 (g := (u 18)) (i := k) 18 (WM_18 a c ((us u 19 (s)))) rfl (by decide) (by omega) dX11_by_70 ?_
              refine z_as (b := u 18 (k)) rfl ?_
              refine z_callV C hK hDD (c_X11_comesOf (zl x) (zG x) a c ((us u 19 (s))) (u 18 (k)) (hI) (show -200 ≤ (u 18 (k)) ∧ (u 18 (k)) ≤ 200 by omega)) gX11_by_X11_comesOf rfl zy_X11_comesOf 0 (WM_0 a c ((us u 19 (s)))) rfl ⟨by omega, by decide⟩ rfl (Nat.le_of_ble_eq_true rfl) (st := []) (stk2 := fun z19 => [.int (zI z19)]) rfl (fun _ => rfl) dX11_by_71 (fun z19 u20 h21 => ?_)
              rw [h21.1]; replace h21 := h21.2
              refine z_as (b := ((like ((u 5)) ((u 9 1)) ((u 9 0)) ((u 0 12)) ((u 18 (k))) : Nat) : Int)) h21 ?_
              refine z_istore C [(6, .int (zI (((like ((u 5)) ((u 9 1)) ((u 9 0)) ((u 0 12)) ((u 18 (k))) : Nat) : Int)))), (0, .ref (a 0)), (1, .int (zI i)), (2, .int (zI q)), (3, .int (zI ((stp (mhw u) (u 0 13) (u 0 31) (stw (u 8) (u 0 13)) k.toNat)))), (4, .int (zI m)), (5, .int (zI k))] dX11_by_74 (by decide) rfl ?_
              refine z_iconst C dX11_by_76 ?_
              refine z_istore C [(4, .int (zI 0)), (6, .int (zI (((like ((u 5)) ((u 9 1)) ((u 9 0)) ((u 0 12)) ((u 18 (k))) : Nat) : Int)))), (0, .ref (a 0)), (1, .int (zI i)), (2, .int (zI q)), (3, .int (zI ((stp (mhw u) (u 0 13) (u 0 31) (stw (u 8) (u 0 13)) k.toNat)))), (5, .int (zI k))] dX11_by_77 (by decide) rfl ?_
              have L79_22 : ∀ (fu : Nat) (m : Int), (0 ≤ m ∧ m ≤ (ebm (mhw u) (u 0 13) (u 0 31) k (stp (mhw u) (u 0 13) (u 0 31) (stw (u 8) (u 0 13)) k.toNat))) → (k ≤ i) → (ebm (mhw u) (u 0 13) (u 0 31) k (stp (mhw u) (u 0 13) (u 0 31) (stw (u 8) (u 0 13)) k.toNat)) + 1 - m < (fu : Int) → Z x 0 0 (WM a c (us u 19 (s))) [(0, .ref (a 0)), (1, .int (zI i)), (2, .int (zI q)), (3, .int (zI ((stp (mhw u) (u 0 13) (u 0 31) (stw (u 8) (u 0 13)) k.toNat)))), (4, .int (zI m)), (5, .int (zI k)), (6, .int (zI (((like (u 5) (u 9 1) (u 9 0) (u 0 12) (u 18 k) : Nat) : Int))))] 79 [] := by
                intro fu
                induction fu with
                | zero => intro m hm hk2 hmeas; exfalso; omega
                | succ fu ih79 =>
                  intro m hm hk2 hmeas
                  refine z_iload C 6 dX11_by_79 rfl ?_
                  have hwb := stp_bd (A := mhw u) (n := u 0 31) hpp hsb k.toNat
                  have hok := ebm_ok hpp (by omega) (hlt (by omega))
                  have heq := ebm_eq hpp (by omega) (hlt (by omega))
                  have hmv := mv_bd hwb (m := m) (by omega)
                  have hG := pl_G2 (k := k) hS (by omega) hmv
                  have hGb := hc_56 (A := mhw u) (pp := u 0 13) (n := u 0 31) (r := (u 0 31 - 1 - k).toNat) (by omega) (mv (stp (mhw u) (u 0 13) (u 0 31) (stw (u 8) (u 0 13)) k.toNat) m)
                  have hdb := dab_bd (a := m % 8) (b := pl (stp (mhw u) (u 0 13) (u 0 31) (stw (u 8) (u 0 13)) k.toNat) (m / 8)) (by omega) (pl_bd _ _)
                  have hmm : 8 * (m / 8) + m % 8 = m := by omega
                  have hT := pl_T (k := k) hS (by omega) hwb
                  refine z_iload C 4 dX11_by_81 rfl ?_
                  refine z_bipush C dX11_by_83 (by decide) ?_
                  refine z_irem C dX11_by_85 (by omega) ?_
                  refine z_as (b := m % 8) (tmod8 (by omega)) ?_
                  refine z_ishr C (((like (u 5) (u 9 1) (u 9 0) (u 0 12) (u 18 k) >>> (m % 8).toNat : Nat) : Int)) dX11_by_86 (zI_shrN (by have := like_lt (u 5) (u 9 1) (u 9 0) (u 0 12) (u 18 k); omega) (by omega)) ?_
                  refine z_iconst C dX11_by_87 ?_
                  refine z_iand C ((if mhw u k (m % 8) = true then 1 else 0)) dX11_by_88 (like_bitZ (by omega)) ?_
                  refine z_if_eq C 125 dX11_by_89 (by decide) (by split <;> omega) (fun h23 => ?_) (fun h23 => ?_)
                  · have hA := ite01_eq h23
                    have hno : ¬ (mhw u k (m % 8) = true ∧ dab (m % 8) (pl (stp (mhw u) (u 0 13) (u 0 31) (stw (u 8) (u 0 13)) k.toNat) (m / 8)) + hc (mhw u) (u 0 13) (u 0 31) (u 0 31 - 1 - k).toNat (mv (stp (mhw u) (u 0 13) (u 0 31) (stw (u 8) (u 0 13)) k.toNat) m) = hc (mhw u) (u 0 13) (u 0 31) (u 0 31 - k).toNat (stp (mhw u) (u 0 13) (u 0 31) (stw (u 8) (u 0 13)) k.toNat)) := fun q => absurd (hA.symm.trans q.1) (by decide)
                    refine z_iinc C 4 [(4, .int (zI (m + 1))), (0, .ref (a 0)), (1, .int (zI i)), (2, .int (zI q)), (3, .int (zI ((stp (mhw u) (u 0 13) (u 0 31) (stw (u 8) (u 0 13)) k.toNat)))), (5, .int (zI k)), (6, .int (zI (((like (u 5) (u 9 1) (u 9 0) (u 0 12) (u 18 k) : Nat) : Int))))] dX11_by_125 rfl (by decide) rfl ?_
                    refine z_goto C 79 dX11_by_128 (by decide) ?_
                    refine z_lv [(0, .ref (a 0)), (1, .int (zI i)), (2, .int (zI q)), (3, .int (zI ((stp (mhw u) (u 0 13) (u 0 31) (stw (u 8) (u 0 13)) k.toNat)))), (4, .int (zI (m + 1))), (5, .int (zI k)), (6, .int (zI (((like (u 5) (u 9 1) (u 9 0) (u 0 12) (u 18 k) : Nat) : Int))))] [1, 2, 3, 4, 0, 5, 6] rfl ?_
                    exact ih79 (m + 1) (by have q1 := eb_ne hno heq; omega) (by omega) (by omega)
                  · have hA := ite01_ne h23
                    refine z_aload_n C 0 dX11_by_92 rfl ?_
                    refine z_iload C 5 dX11_by_93 rfl ?_
                    refine z_iload_n C 3 dX11_by_95 rfl ?_
                    refine z_iload C 4 dX11_by_96 rfl ?_
                    refine z_bipush C dX11_by_98 (by decide) ?_
                    refine z_idiv C dX11_by_100 (by omega) ?_
                    refine z_as (b := m / 8) (tdiv8 (by omega)) ?_
                    refine z_iload C 4 dX11_by_101 rfl ?_
                    refine z_bipush C dX11_by_103 (by decide) ?_
                    refine z_irem C dX11_by_105 (by omega) ?_
                    refine z_as (b := m % 8) (tmod8 (by omega)) ?_
                    refine z_callV C hK hDD (c_X11_costs (zl x) (zG x) a c ((us u 19 (s))) k ((stp (mhw u) (u 0 13) (u 0 31) (stw (u 8) (u 0 13)) k.toNat)) (m / 8) (m % 8) ((hc (mhw u) (u 0 13) (u 0 31) (u 0 31 - 1 - k).toNat (mv (stp (mhw u) (u 0 13) (u 0 31) (stw (u 8) (u 0 13)) k.toNat) m))) (show 0 ≤ k ∧ k < 8 by omega) (show 0 ≤ ((stp (mhw u) (u 0 13) (u 0 31) (stw (u 8) (u 0 13)) k.toNat)) ∧ ((stp (mhw u) (u 0 13) (u 0 31) (stw (u 8) (u 0 13)) k.toNat)) < 512 by omega) (show 0 ≤ (m / 8) ∧ (m / 8) < 3 by omega) (show 0 ≤ (m % 8) ∧ (m % 8) < 8 by omega) (by rw [hmm]; exact hG) (hGb)) gX11_by_X11_costs rfl zy_X11_costs 0 (WM_0 a c ((us u 19 (s)))) rfl ⟨by omega, by decide⟩ rfl (Nat.le_of_ble_eq_true rfl) (st := []) (stk2 := fun z24 => [.int (zI z24)]) rfl (fun _ => rfl) dX11_by_106 (fun z24 u25 h26 => ?_)
                    rw [h26.1]; replace h26 := h26.2
                    refine z_as (b := enc (dab (m % 8) (pl ((stp (mhw u) (u 0 13) (u 0 31) (stw (u 8) (u 0 13)) k.toNat)) (m / 8)) + ((hc (mhw u) (u 0 13) (u 0 31) (u 0 31 - 1 - k).toNat (mv (stp (mhw u) (u 0 13) (u 0 31) (stw (u 8) (u 0 13)) k.toNat) m))))) h26 ?_
                    have hcb := cst_bd (d := dab (m % 8) (pl (stp (mhw u) (u 0 13) (u 0 31) (stw (u 8) (u 0 13)) k.toNat) (m / 8))) (G := hc (mhw u) (u 0 13) (u 0 31) (u 0 31 - 1 - k).toNat (mv (stp (mhw u) (u 0 13) (u 0 31) (stw (u 8) (u 0 13)) k.toNat) m)) hdb hGb
                    have heb2 := enc_bd (hc_56 (A := mhw u) (pp := u 0 13) (n := u 0 31) (r := (u 0 31 - k).toNat) (by omega) (stp (mhw u) (u 0 13) (u 0 31) (stw (u 8) (u 0 13)) k.toNat))
                    refine z_aload_n C 0 dX11_by_109 rfl ?_
                    refine z_get C hK (v := .ref (a 19)) inX11_by_X11 0 (WM_0 a c ((us u 19 (s)))) rfl 33 (by decide) (List.mem_of_getElem? (i := 2) rfl) rfl dX11_by_110 ?_
                    refine z_sipush C dX11_by_113 (by decide) ?_
                    refine z_iload C 5 dX11_by_116 rfl ?_
                    refine z_imul C dX11_by_118 ?_
                    refine z_iload_n C 3 dX11_by_119 rfl ?_
                    refine z_iadd C dX11_by_120 ?_
                    refine z_iald C hK 0 (g := s) (i := ((512 * k) + ((stp (mhw u) (u 0 13) (u 0 31) (stw (u 8) (u 0 13)) k.toNat)))) 19 (WM_19 a c ((us u 19 (s)))) rfl (by decide) (by omega) dX11_by_121 ?_
                    refine z_as (b := enc (hc (mhw u) (u 0 13) (u 0 31) (u 0 31 - k).toNat (stp (mhw u) (u 0 13) (u 0 31) (stw (u 8) (u 0 13)) k.toNat))) (hT) ?_
                    refine z_icmp_eq C 131 dX11_by_122 (by decide) (by omega) (fun h27 => ?_) (fun h27 => ?_)
                    · have hyes := enc_inj hdb hGb (hlt (by omega)) (hc_bd _ _ _ _ _).1 h27
                      have hme : m = (ebm (mhw u) (u 0 13) (u 0 31) k (stp (mhw u) (u 0 13) (u 0 31) (stw (u 8) (u 0 13)) k.toNat)) := eb_min hm hA hyes
                      have hst : mv (stp (mhw u) (u 0 13) (u 0 31) (stw (u 8) (u 0 13)) k.toNat) m = (stp (mhw u) (u 0 13) (u 0 31) (stw (u 8) (u 0 13)) (k + 1).toNat) := stp_m (by omega) hme
                      refine z_iload_n C 3 dX11_by_131 rfl ?_
                      refine z_iload C 4 dX11_by_132 rfl ?_
                      refine z_bipush C dX11_by_134 (by decide) ?_
                      refine z_idiv C dX11_by_136 (by omega) ?_
                      refine z_as (b := m / 8) (tdiv8 (by omega)) ?_
                      refine z_iload C 4 dX11_by_137 rfl ?_
                      refine z_bipush C dX11_by_139 (by decide) ?_
                      refine z_irem C dX11_by_141 (by omega) ?_
                      refine z_as (b := m % 8) (tmod8 (by omega)) ?_
                      refine z_callS C hK hDD (c_X11_moved (zl x) (zG x) ((WM a c)) (WM_addr a c) ((us u 19 (s))) ((stp (mhw u) (u 0 13) (u 0 31) (stw (u 8) (u 0 13)) k.toNat)) (m / 8) (m % 8) (by omega) (by omega) (by omega)) gX11_by_X11_moved rfl rfl zy_X11_moved ⟨by omega, by decide⟩ rfl (Nat.le_of_ble_eq_true rfl) (st := []) (stk2 := fun z28 => [.int (zI z28)]) rfl (fun _ => rfl) dX11_by_142 (fun z28 u29 h30 => ?_)
                      rw [h30.1]; replace h30 := h30.2
                      refine z_as (b := mv ((stp (mhw u) (u 0 13) (u 0 31) (stw (u 8) (u 0 13)) k.toNat)) (8 * (m / 8) + (m % 8))) h30 ?_
                      refine z_as (b := (stp (mhw u) (u 0 13) (u 0 31) (stw (u 8) (u 0 13)) (k + 1).toNat)) (by rw [hmm]; exact hst) ?_
                      refine z_istore_n C [(3, .int (zI ((stp (mhw u) (u 0 13) (u 0 31) (stw (u 8) (u 0 13)) (k + 1).toNat)))), (0, .ref (a 0)), (1, .int (zI i)), (2, .int (zI q)), (4, .int (zI m)), (5, .int (zI k)), (6, .int (zI (((like (u 5) (u 9 1) (u 9 0) (u 0 12) (u 18 k) : Nat) : Int))))] dX11_by_145 rfl (by decide) rfl ?_
                      refine z_iinc C 5 [(5, .int (zI (k + 1))), (3, .int (zI ((stp (mhw u) (u 0 13) (u 0 31) (stw (u 8) (u 0 13)) (k + 1).toNat)))), (0, .ref (a 0)), (1, .int (zI i)), (2, .int (zI q)), (4, .int (zI m)), (6, .int (zI (((like (u 5) (u 9 1) (u 9 0) (u 0 12) (u 18 k) : Nat) : Int))))] dX11_by_146 rfl (by decide) rfl ?_
                      refine z_goto C 57 dX11_by_149 (by decide) ?_
                      refine z_lv [(0, .ref (a 0)), (1, .int (zI i)), (2, .int (zI q)), (3, .int (zI ((stp (mhw u) (u 0 13) (u 0 31) (stw (u 8) (u 0 13)) (k + 1).toNat)))), (4, .int (zI m)), (5, .int (zI (k + 1)))] [2, 3, 4, 1, 5, 0] rfl ?_
                      exact ih57 (k + 1) m (by omega) (by omega) (fun _ => by rw [show k + 1 - 1 = k by omega]; exact hme) (fun h => by rw [← hst, show (u 0 31 - (k + 1)).toNat = (u 0 31 - 1 - k).toNat by omega, hme]; exact hok.2.2) (hne) (by omega)
                    · have hno : ¬ (mhw u k (m % 8) = true ∧ dab (m % 8) (pl (stp (mhw u) (u 0 13) (u 0 31) (stw (u 8) (u 0 13)) k.toNat) (m / 8)) + hc (mhw u) (u 0 13) (u 0 31) (u 0 31 - 1 - k).toNat (mv (stp (mhw u) (u 0 13) (u 0 31) (stw (u 8) (u 0 13)) k.toNat) m) = hc (mhw u) (u 0 13) (u 0 31) (u 0 31 - k).toNat (stp (mhw u) (u 0 13) (u 0 31) (stw (u 8) (u 0 13)) k.toNat)) := fun q => h27 (congrArg enc q.2)
                      refine z_iinc C 4 [(4, .int (zI (m + 1))), (0, .ref (a 0)), (1, .int (zI i)), (2, .int (zI q)), (3, .int (zI ((stp (mhw u) (u 0 13) (u 0 31) (stw (u 8) (u 0 13)) k.toNat)))), (5, .int (zI k)), (6, .int (zI (((like (u 5) (u 9 1) (u 9 0) (u 0 12) (u 18 k) : Nat) : Int))))] dX11_by_125 rfl (by decide) rfl ?_
                      refine z_goto C 79 dX11_by_128 (by decide) ?_
                      refine z_lv [(0, .ref (a 0)), (1, .int (zI i)), (2, .int (zI q)), (3, .int (zI ((stp (mhw u) (u 0 13) (u 0 31) (stw (u 8) (u 0 13)) k.toNat)))), (4, .int (zI (m + 1))), (5, .int (zI k)), (6, .int (zI (((like (u 5) (u 9 1) (u 9 0) (u 0 12) (u 18 k) : Nat) : Int))))] [1, 2, 3, 4, 0, 5, 6] rfl ?_
                      exact ih79 (m + 1) (by have q1 := eb_ne hno heq; omega) (by omega) (by omega)
              refine z_lv [(0, .ref (a 0)), (1, .int (zI i)), (2, .int (zI q)), (3, .int (zI ((stp (mhw u) (u 0 13) (u 0 31) (stw (u 8) (u 0 13)) k.toNat)))), (4, .int (zI 0)), (5, .int (zI k)), (6, .int (zI (((like ((u 5)) ((u 9 1)) ((u 9 0)) ((u 0 12)) ((u 18 (k))) : Nat) : Int))))] [2, 3, 4, 5, 0, 6, 1] rfl ?_
              have hok := ebm_ok hpp (by omega) (hlt (by omega))
              exact L79_22 ((((ebm (mhw u) (u 0 13) (u 0 31) k (stp (mhw u) (u 0 13) (u 0 31) (stw (u 8) (u 0 13)) k.toNat)) + 1 - 0 : Int)).toNat + 1) 0 (by omega) (by omega) (by omega)
        refine z_lv [(0, .ref (a 0)), (1, .int (zI i)), (2, .int (zI q)), (3, .int (zI (stw ((u 8)) ((u 0 13))))), (4, .int (zI 0)), (5, .int (zI 0))] [3, 4, 5, 2, 1, 0] rfl ?_
        exact L57_16 (((i + 1 - 0 : Int)).toNat + 1) 0 0 (by omega) (by omega) (fun h => absurd h (by omega)) (fun _ => by rw [show u 0 31 - 0 = u 0 31 by omega]; show hc _ _ _ _ (stw (u 8) (u 0 13)) < 1000; omega) (hne) (by omega)
      · skip
        refine z_bipush C dX11_by_48 (by decide) ?_
        exact kret (-9) (us u 19 s) _ _ (⟨⟨s, rfl⟩, Or.inr (Or.inl ⟨by omega, byw_no (pl_ge hsu.1 hsb hS (by omega)), rfl⟩)⟩) dX11_by_50
    · skip
      refine z_iconst C dX11_by_26 ?_
      exact kret (-1) u _ _ (⟨⟨u 19, (us_self u 19).symm⟩, Or.inl ⟨by omega, rfl⟩⟩) dX11_by_27
-- NoteBellsModel.lay
theorem inX11_lay_X11 : ∀ w ∈ wsX110, w ∈ wsX11_lay := fun w h => List.mem_cons_of_mem _ (List.mem_append_right _ (h))
set_option maxHeartbeats 8000000 in
set_option maxRecDepth 100000 in
theorem c_X11_lay_5 (l : Launch) (D : va_G) (a : Nat → Nat) (c : Nat → ClassId) (u : zU) (n t : Int) (b_n : 0 ≤ n ∧ n ≤ 8) (b_t : 0 ≤ t ∧ t + n ≤ 72) : ZM l D (zTy c) (WM a c) yX11_lay wsX11_lay 2 [.ref (a 0), .ref (a 5), .int (zI n), .int (zI t)] u rI (fun z u' => z = t + n ∧ u' = us u 20 (ly (u 5) n t (u 20))) := by
  refine ZM.ofI (cc := cX11_lay) (maxL := 5) [(0, .ref (a 0)), (1, .ref (a 5)), (2, .int (zI n)), (3, .int (zI t))] rfl (by decide +kernel) rfl (Nat.le_of_ble_eq_true rfl) (WM_addr a c) ?_
  intro x C hK _ _ hDD kret
  refine z_iconst C dX11_lay_0 ?_
  refine z_istore C [(4, .int (zI 0)), (0, .ref (a 0)), (1, .ref (a 5)), (2, .int (zI n)), (3, .int (zI t))] dX11_lay_1 (by decide) rfl ?_
  have L3_1 : ∀ (fu : Nat) (i : Int) (K : Int → Int), (0 ≤ i ∧ i ≤ n) → (K = ly (u 5) i t (u 20)) → n - i < (fu : Int) → Z x 0 0 (WM a c (us u 20 (K))) [(0, .ref (a 0)), (1, .ref (a 5)), (2, .int (zI n)), (3, .int (zI t)), (4, .int (zI i))] 3 [] := by
    intro fu
    induction fu with
    | zero => intro i K hi hK2 hmeas; exfalso; omega
    | succ fu ih3 =>
      intro i K hi hK2 hmeas
      refine z_iload C 4 dX11_lay_3 rfl ?_
      refine z_iload_n C 2 dX11_lay_5 rfl ?_
      refine z_icmp_ge C 28 dX11_lay_6 (by decide) (by omega) (fun h2 => ?_) (fun h2 => ?_)
      · skip
        refine z_iload_n C 3 dX11_lay_28 rfl ?_
        refine z_iload_n C 2 dX11_lay_29 rfl ?_
        refine z_iadd C dX11_lay_30 ?_
        exact kret (t + n) (us u 20 K) _ _ (⟨rfl, by rw [hK2, show i = n by omega]⟩) dX11_lay_31
      · skip
        refine z_aload_n C 0 dX11_lay_9 rfl ?_
        refine z_get C hK (v := .ref (a 20)) inX11_lay_X11 0 (WM_0 a c ((us u 20 (K)))) rfl 35 (by decide) (List.mem_of_getElem? (i := 1) rfl) rfl dX11_lay_10 ?_
        refine z_iload_n C 3 dX11_lay_13 rfl ?_
        refine z_iload C 4 dX11_lay_14 rfl ?_
        refine z_iadd C dX11_lay_16 ?_
        refine z_aload_n C 1 dX11_lay_17 rfl ?_
        refine z_iload C 4 dX11_lay_18 rfl ?_
        refine z_iald C hK 0 (g := (u 5)) (i := i) 5 (WM_5 a c ((us u 20 (K)))) rfl (by decide) (by omega) dX11_lay_20 ?_
        refine z_as (b := u 5 (i)) rfl ?_
        refine z_iast C hK (hDD _) 0 (g := (us u 20 (K)) 20) 20 (WM_20 a c ((us u 20 (K)))) rfl (by decide) (by omega) (WM_20_set a c ((us u 20 (K))) (t + i) (u 5 (i))) dX11_lay_21 ?_
        refine z_iinc C 4 [(4, .int (zI (i + 1))), (0, .ref (a 0)), (1, .ref (a 5)), (2, .int (zI n)), (3, .int (zI t))] dX11_lay_22 rfl (by decide) rfl ?_
        refine z_goto C 3 dX11_lay_25 (by decide) ?_
        refine z_lv [(0, .ref (a 0)), (1, .ref (a 5)), (2, .int (zI n)), (3, .int (zI t)), (4, .int (zI (i + 1)))] [1, 2, 3, 4, 0] rfl ?_
        exact ih3 (i + 1) (fun j => if j = t + i then u 5 i else K j) (by omega) (ly_step hi.1 hK2) (by omega)
  refine z_lv [(0, .ref (a 0)), (1, .ref (a 5)), (2, .int (zI n)), (3, .int (zI t)), (4, .int (zI 0))] [1, 2, 3, 4, 0] rfl ?_
  exact L3_1 (((n - 0 : Int)).toNat + 1) 0 (u 20) (by omega) (Eq.symm (ly_0 _ _ _)) (by omega)
-- NoteBellsModel.gives
theorem inX11_gives_X11 : ∀ w ∈ wsX110, w ∈ wsX11_gives := fun w h => List.mem_cons_of_mem _ (List.mem_append_right _ (h))
set_option maxHeartbeats 8000000 in
set_option maxRecDepth 100000 in
theorem c_X11_gives_5 (l : Launch) (D : va_G) (a : Nat → Nat) (c : Nat → ClassId) (u : zU) (t n : Int) (b_n : 0 ≤ n ∧ n ≤ 8) (b_t : 0 ≤ t ∧ t + n ≤ 72) : ZM l D (zTy c) (WM a c) yX11_gives wsX11_gives 2 [.ref (a 0), .int (zI t), .ref (a 5), .int (zI n)] u rI (fun z u' => u' = (us u 5 ((gv (u 20) n t (u 5)))) ∧ z = t + n) := by
  refine ZM.ofI (cc := cX11_gives) (maxL := 5) [(0, .ref (a 0)), (1, .int (zI t)), (2, .ref (a 5)), (3, .int (zI n))] rfl (by decide +kernel) rfl (Nat.le_of_ble_eq_true rfl) (WM_addr a c) ?_
  intro x C hK _ _ hDD kret
  refine z_iconst C dX11_gives_0 ?_
  refine z_istore C [(4, .int (zI 0)), (0, .ref (a 0)), (1, .int (zI t)), (2, .ref (a 5)), (3, .int (zI n))] dX11_gives_1 (by decide) rfl ?_
  have L3_1 : ∀ (fu : Nat) (i : Int) (K : Int → Int), (0 ≤ i ∧ i ≤ n) → (K = gv (u 20) i t (u 5)) → n - i < (fu : Int) → Z x 0 0 (WM a c (us u 5 (K))) [(0, .ref (a 0)), (1, .int (zI t)), (2, .ref (a 5)), (3, .int (zI n)), (4, .int (zI i))] 3 [] := by
    intro fu
    induction fu with
    | zero => intro i K hi hK2 hmeas; exfalso; omega
    | succ fu ih3 =>
      intro i K hi hK2 hmeas
      refine z_iload C 4 dX11_gives_3 rfl ?_
      refine z_iload_n C 3 dX11_gives_5 rfl ?_
      refine z_icmp_ge C 28 dX11_gives_6 (by decide) (by omega) (fun h2 => ?_) (fun h2 => ?_)
      · skip
        refine z_iload_n C 1 dX11_gives_28 rfl ?_
        refine z_iload_n C 3 dX11_gives_29 rfl ?_
        refine z_iadd C dX11_gives_30 ?_
        exact kret (t + n) (us u 5 K) _ _ (⟨by rw [hK2, show i = n by omega], rfl⟩) dX11_gives_31
      · skip
        refine z_aload_n C 2 dX11_gives_9 rfl ?_
        refine z_iload C 4 dX11_gives_10 rfl ?_
        refine z_aload_n C 0 dX11_gives_12 rfl ?_
        refine z_get C hK (v := .ref (a 20)) inX11_gives_X11 0 (WM_0 a c ((us u 5 (K)))) rfl 35 (by decide) (List.mem_of_getElem? (i := 1) rfl) rfl dX11_gives_13 ?_
        refine z_iload_n C 1 dX11_gives_16 rfl ?_
        refine z_iload C 4 dX11_gives_17 rfl ?_
        refine z_iadd C dX11_gives_19 ?_
        refine z_iald C hK 0 (g := (u 20)) (i := (t + i)) 20 (WM_20 a c ((us u 5 (K)))) rfl (by decide) (by omega) dX11_gives_20 ?_
        refine z_as (b := u 20 (t + i)) rfl ?_
        refine z_iast C hK (hDD _) 0 (g := (us u 5 (K)) 5) 5 (WM_5 a c ((us u 5 (K)))) rfl (by decide) (by omega) (WM_5_set a c ((us u 5 (K))) i (u 20 (t + i))) dX11_gives_21 ?_
        refine z_iinc C 4 [(4, .int (zI (i + 1))), (0, .ref (a 0)), (1, .int (zI t)), (2, .ref (a 5)), (3, .int (zI n))] dX11_gives_22 rfl (by decide) rfl ?_
        refine z_goto C 3 dX11_gives_25 (by decide) ?_
        refine z_lv [(0, .ref (a 0)), (1, .int (zI t)), (2, .ref (a 5)), (3, .int (zI n)), (4, .int (zI (i + 1)))] [1, 2, 3, 4, 0] rfl ?_
        exact ih3 (i + 1) (fun j => if j = i then u 20 (t + i) else K j) (by omega) (gv_step hi.1 hK2) (by omega)
  refine z_lv [(0, .ref (a 0)), (1, .int (zI t)), (2, .ref (a 5)), (3, .int (zI n)), (4, .int (zI 0))] [1, 2, 3, 4, 0] rfl ?_
  exact L3_1 (((n - 0 : Int)).toNat + 1) 0 (u 5) (by omega) (Eq.symm (gv_0 _ _ _)) (by omega)
-- NoteBellsModel.lay
set_option maxHeartbeats 8000000 in
set_option maxRecDepth 100000 in
theorem c_X11_lay_8 (l : Launch) (D : va_G) (a : Nat → Nat) (c : Nat → ClassId) (u : zU) (n t : Int) (b_n : 0 ≤ n ∧ n ≤ 3) (b_t : 0 ≤ t ∧ t + n ≤ 72) : ZM l D (zTy c) (WM a c) yX11_lay wsX11_lay 2 [.ref (a 0), .ref (a 8), .int (zI n), .int (zI t)] u rI (fun z u' => z = t + n ∧ u' = us u 20 (ly (u 8) n t (u 20))) := by
  refine ZM.ofI (cc := cX11_lay) (maxL := 5) [(0, .ref (a 0)), (1, .ref (a 8)), (2, .int (zI n)), (3, .int (zI t))] rfl (by decide +kernel) rfl (Nat.le_of_ble_eq_true rfl) (WM_addr a c) ?_
  intro x C hK _ _ hDD kret
  refine z_iconst C dX11_lay_0 ?_
  refine z_istore C [(4, .int (zI 0)), (0, .ref (a 0)), (1, .ref (a 8)), (2, .int (zI n)), (3, .int (zI t))] dX11_lay_1 (by decide) rfl ?_
  have L3_1 : ∀ (fu : Nat) (i : Int) (K : Int → Int), (0 ≤ i ∧ i ≤ n) → (K = ly (u 8) i t (u 20)) → n - i < (fu : Int) → Z x 0 0 (WM a c (us u 20 (K))) [(0, .ref (a 0)), (1, .ref (a 8)), (2, .int (zI n)), (3, .int (zI t)), (4, .int (zI i))] 3 [] := by
    intro fu
    induction fu with
    | zero => intro i K hi hK2 hmeas; exfalso; omega
    | succ fu ih3 =>
      intro i K hi hK2 hmeas
      refine z_iload C 4 dX11_lay_3 rfl ?_
      refine z_iload_n C 2 dX11_lay_5 rfl ?_
      refine z_icmp_ge C 28 dX11_lay_6 (by decide) (by omega) (fun h2 => ?_) (fun h2 => ?_)
      · skip
        refine z_iload_n C 3 dX11_lay_28 rfl ?_
        refine z_iload_n C 2 dX11_lay_29 rfl ?_
        refine z_iadd C dX11_lay_30 ?_
        exact kret (t + n) (us u 20 K) _ _ (⟨rfl, by rw [hK2, show i = n by omega]⟩) dX11_lay_31
      · skip
        refine z_aload_n C 0 dX11_lay_9 rfl ?_
        refine z_get C hK (v := .ref (a 20)) inX11_lay_X11 0 (WM_0 a c ((us u 20 (K)))) rfl 35 (by decide) (List.mem_of_getElem? (i := 1) rfl) rfl dX11_lay_10 ?_
        refine z_iload_n C 3 dX11_lay_13 rfl ?_
        refine z_iload C 4 dX11_lay_14 rfl ?_
        refine z_iadd C dX11_lay_16 ?_
        refine z_aload_n C 1 dX11_lay_17 rfl ?_
        refine z_iload C 4 dX11_lay_18 rfl ?_
        refine z_iald C hK 0 (g := (u 8)) (i := i) 8 (WM_8 a c ((us u 20 (K)))) rfl (by decide) (by omega) dX11_lay_20 ?_
        refine z_as (b := u 8 (i)) rfl ?_
        refine z_iast C hK (hDD _) 0 (g := (us u 20 (K)) 20) 20 (WM_20 a c ((us u 20 (K)))) rfl (by decide) (by omega) (WM_20_set a c ((us u 20 (K))) (t + i) (u 8 (i))) dX11_lay_21 ?_
        refine z_iinc C 4 [(4, .int (zI (i + 1))), (0, .ref (a 0)), (1, .ref (a 8)), (2, .int (zI n)), (3, .int (zI t))] dX11_lay_22 rfl (by decide) rfl ?_
        refine z_goto C 3 dX11_lay_25 (by decide) ?_
        refine z_lv [(0, .ref (a 0)), (1, .ref (a 8)), (2, .int (zI n)), (3, .int (zI t)), (4, .int (zI (i + 1)))] [1, 2, 3, 4, 0] rfl ?_
        exact ih3 (i + 1) (fun j => if j = t + i then u 8 i else K j) (by omega) (ly_step hi.1 hK2) (by omega)
  refine z_lv [(0, .ref (a 0)), (1, .ref (a 8)), (2, .int (zI n)), (3, .int (zI t)), (4, .int (zI 0))] [1, 2, 3, 4, 0] rfl ?_
  exact L3_1 (((n - 0 : Int)).toNat + 1) 0 (u 20) (by omega) (Eq.symm (ly_0 _ _ _)) (by omega)
-- NoteBellsModel.gives
set_option maxHeartbeats 8000000 in
set_option maxRecDepth 100000 in
theorem c_X11_gives_8 (l : Launch) (D : va_G) (a : Nat → Nat) (c : Nat → ClassId) (u : zU) (t n : Int) (b_n : 0 ≤ n ∧ n ≤ 3) (b_t : 0 ≤ t ∧ t + n ≤ 72) : ZM l D (zTy c) (WM a c) yX11_gives wsX11_gives 2 [.ref (a 0), .int (zI t), .ref (a 8), .int (zI n)] u rI (fun z u' => u' = (us u 8 ((gv (u 20) n t (u 8)))) ∧ z = t + n) := by
  refine ZM.ofI (cc := cX11_gives) (maxL := 5) [(0, .ref (a 0)), (1, .int (zI t)), (2, .ref (a 8)), (3, .int (zI n))] rfl (by decide +kernel) rfl (Nat.le_of_ble_eq_true rfl) (WM_addr a c) ?_
  intro x C hK _ _ hDD kret
  refine z_iconst C dX11_gives_0 ?_
  refine z_istore C [(4, .int (zI 0)), (0, .ref (a 0)), (1, .int (zI t)), (2, .ref (a 8)), (3, .int (zI n))] dX11_gives_1 (by decide) rfl ?_
  have L3_1 : ∀ (fu : Nat) (i : Int) (K : Int → Int), (0 ≤ i ∧ i ≤ n) → (K = gv (u 20) i t (u 8)) → n - i < (fu : Int) → Z x 0 0 (WM a c (us u 8 (K))) [(0, .ref (a 0)), (1, .int (zI t)), (2, .ref (a 8)), (3, .int (zI n)), (4, .int (zI i))] 3 [] := by
    intro fu
    induction fu with
    | zero => intro i K hi hK2 hmeas; exfalso; omega
    | succ fu ih3 =>
      intro i K hi hK2 hmeas
      refine z_iload C 4 dX11_gives_3 rfl ?_
      refine z_iload_n C 3 dX11_gives_5 rfl ?_
      refine z_icmp_ge C 28 dX11_gives_6 (by decide) (by omega) (fun h2 => ?_) (fun h2 => ?_)
      · skip
        refine z_iload_n C 1 dX11_gives_28 rfl ?_
        refine z_iload_n C 3 dX11_gives_29 rfl ?_
        refine z_iadd C dX11_gives_30 ?_
        exact kret (t + n) (us u 8 K) _ _ (⟨by rw [hK2, show i = n by omega], rfl⟩) dX11_gives_31
      · skip
        refine z_aload_n C 2 dX11_gives_9 rfl ?_
        refine z_iload C 4 dX11_gives_10 rfl ?_
        refine z_aload_n C 0 dX11_gives_12 rfl ?_
        refine z_get C hK (v := .ref (a 20)) inX11_gives_X11 0 (WM_0 a c ((us u 8 (K)))) rfl 35 (by decide) (List.mem_of_getElem? (i := 1) rfl) rfl dX11_gives_13 ?_
        refine z_iload_n C 1 dX11_gives_16 rfl ?_
        refine z_iload C 4 dX11_gives_17 rfl ?_
        refine z_iadd C dX11_gives_19 ?_
        refine z_iald C hK 0 (g := (u 20)) (i := (t + i)) 20 (WM_20 a c ((us u 8 (K)))) rfl (by decide) (by omega) dX11_gives_20 ?_
        refine z_as (b := u 20 (t + i)) rfl ?_
        refine z_iast C hK (hDD _) 0 (g := (us u 8 (K)) 8) 8 (WM_8 a c ((us u 8 (K)))) rfl (by decide) (by omega) (WM_8_set a c ((us u 8 (K))) i (u 20 (t + i))) dX11_gives_21 ?_
        refine z_iinc C 4 [(4, .int (zI (i + 1))), (0, .ref (a 0)), (1, .int (zI t)), (2, .ref (a 8)), (3, .int (zI n))] dX11_gives_22 rfl (by decide) rfl ?_
        refine z_goto C 3 dX11_gives_25 (by decide) ?_
        refine z_lv [(0, .ref (a 0)), (1, .int (zI t)), (2, .ref (a 8)), (3, .int (zI n)), (4, .int (zI (i + 1)))] [1, 2, 3, 4, 0] rfl ?_
        exact ih3 (i + 1) (fun j => if j = i then u 20 (t + i) else K j) (by omega) (gv_step hi.1 hK2) (by omega)
  refine z_lv [(0, .ref (a 0)), (1, .int (zI t)), (2, .ref (a 8)), (3, .int (zI n)), (4, .int (zI 0))] [1, 2, 3, 4, 0] rfl ?_
  exact L3_1 (((n - 0 : Int)).toNat + 1) 0 (u 8) (by omega) (Eq.symm (gv_0 _ _ _)) (by omega)
-- NoteBellsModel.lay
set_option maxHeartbeats 8000000 in
set_option maxRecDepth 100000 in
theorem c_X11_lay_10 (l : Launch) (D : va_G) (a : Nat → Nat) (c : Nat → ClassId) (u : zU) (n t : Int) (b_n : 0 ≤ n ∧ n ≤ 6) (b_t : 0 ≤ t ∧ t + n ≤ 72) : ZM l D (zTy c) (WM a c) yX11_lay wsX11_lay 2 [.ref (a 0), .ref (a 10), .int (zI n), .int (zI t)] u rI (fun z u' => z = t + n ∧ u' = us u 20 (ly (u 10) n t (u 20))) := by
  refine ZM.ofI (cc := cX11_lay) (maxL := 5) [(0, .ref (a 0)), (1, .ref (a 10)), (2, .int (zI n)), (3, .int (zI t))] rfl (by decide +kernel) rfl (Nat.le_of_ble_eq_true rfl) (WM_addr a c) ?_
  intro x C hK _ _ hDD kret
  refine z_iconst C dX11_lay_0 ?_
  refine z_istore C [(4, .int (zI 0)), (0, .ref (a 0)), (1, .ref (a 10)), (2, .int (zI n)), (3, .int (zI t))] dX11_lay_1 (by decide) rfl ?_
  have L3_1 : ∀ (fu : Nat) (i : Int) (K : Int → Int), (0 ≤ i ∧ i ≤ n) → (K = ly (u 10) i t (u 20)) → n - i < (fu : Int) → Z x 0 0 (WM a c (us u 20 (K))) [(0, .ref (a 0)), (1, .ref (a 10)), (2, .int (zI n)), (3, .int (zI t)), (4, .int (zI i))] 3 [] := by
    intro fu
    induction fu with
    | zero => intro i K hi hK2 hmeas; exfalso; omega
    | succ fu ih3 =>
      intro i K hi hK2 hmeas
      refine z_iload C 4 dX11_lay_3 rfl ?_
      refine z_iload_n C 2 dX11_lay_5 rfl ?_
      refine z_icmp_ge C 28 dX11_lay_6 (by decide) (by omega) (fun h2 => ?_) (fun h2 => ?_)
      · skip
        refine z_iload_n C 3 dX11_lay_28 rfl ?_
        refine z_iload_n C 2 dX11_lay_29 rfl ?_
        refine z_iadd C dX11_lay_30 ?_
        exact kret (t + n) (us u 20 K) _ _ (⟨rfl, by rw [hK2, show i = n by omega]⟩) dX11_lay_31
      · skip
        refine z_aload_n C 0 dX11_lay_9 rfl ?_
        refine z_get C hK (v := .ref (a 20)) inX11_lay_X11 0 (WM_0 a c ((us u 20 (K)))) rfl 35 (by decide) (List.mem_of_getElem? (i := 1) rfl) rfl dX11_lay_10 ?_
        refine z_iload_n C 3 dX11_lay_13 rfl ?_
        refine z_iload C 4 dX11_lay_14 rfl ?_
        refine z_iadd C dX11_lay_16 ?_
        refine z_aload_n C 1 dX11_lay_17 rfl ?_
        refine z_iload C 4 dX11_lay_18 rfl ?_
        refine z_iald C hK 0 (g := (u 10)) (i := i) 10 (WM_10 a c ((us u 20 (K)))) rfl (by decide) (by omega) dX11_lay_20 ?_
        refine z_as (b := u 10 (i)) rfl ?_
        refine z_iast C hK (hDD _) 0 (g := (us u 20 (K)) 20) 20 (WM_20 a c ((us u 20 (K)))) rfl (by decide) (by omega) (WM_20_set a c ((us u 20 (K))) (t + i) (u 10 (i))) dX11_lay_21 ?_
        refine z_iinc C 4 [(4, .int (zI (i + 1))), (0, .ref (a 0)), (1, .ref (a 10)), (2, .int (zI n)), (3, .int (zI t))] dX11_lay_22 rfl (by decide) rfl ?_
        refine z_goto C 3 dX11_lay_25 (by decide) ?_
        refine z_lv [(0, .ref (a 0)), (1, .ref (a 10)), (2, .int (zI n)), (3, .int (zI t)), (4, .int (zI (i + 1)))] [1, 2, 3, 4, 0] rfl ?_
        exact ih3 (i + 1) (fun j => if j = t + i then u 10 i else K j) (by omega) (ly_step hi.1 hK2) (by omega)
  refine z_lv [(0, .ref (a 0)), (1, .ref (a 10)), (2, .int (zI n)), (3, .int (zI t)), (4, .int (zI 0))] [1, 2, 3, 4, 0] rfl ?_
  exact L3_1 (((n - 0 : Int)).toNat + 1) 0 (u 20) (by omega) (Eq.symm (ly_0 _ _ _)) (by omega)
-- NoteBellsModel.gives
set_option maxHeartbeats 8000000 in
set_option maxRecDepth 100000 in
theorem c_X11_gives_10 (l : Launch) (D : va_G) (a : Nat → Nat) (c : Nat → ClassId) (u : zU) (t n : Int) (b_n : 0 ≤ n ∧ n ≤ 6) (b_t : 0 ≤ t ∧ t + n ≤ 72) : ZM l D (zTy c) (WM a c) yX11_gives wsX11_gives 2 [.ref (a 0), .int (zI t), .ref (a 10), .int (zI n)] u rI (fun z u' => u' = (us u 10 ((gv (u 20) n t (u 10)))) ∧ z = t + n) := by
  refine ZM.ofI (cc := cX11_gives) (maxL := 5) [(0, .ref (a 0)), (1, .int (zI t)), (2, .ref (a 10)), (3, .int (zI n))] rfl (by decide +kernel) rfl (Nat.le_of_ble_eq_true rfl) (WM_addr a c) ?_
  intro x C hK _ _ hDD kret
  refine z_iconst C dX11_gives_0 ?_
  refine z_istore C [(4, .int (zI 0)), (0, .ref (a 0)), (1, .int (zI t)), (2, .ref (a 10)), (3, .int (zI n))] dX11_gives_1 (by decide) rfl ?_
  have L3_1 : ∀ (fu : Nat) (i : Int) (K : Int → Int), (0 ≤ i ∧ i ≤ n) → (K = gv (u 20) i t (u 10)) → n - i < (fu : Int) → Z x 0 0 (WM a c (us u 10 (K))) [(0, .ref (a 0)), (1, .int (zI t)), (2, .ref (a 10)), (3, .int (zI n)), (4, .int (zI i))] 3 [] := by
    intro fu
    induction fu with
    | zero => intro i K hi hK2 hmeas; exfalso; omega
    | succ fu ih3 =>
      intro i K hi hK2 hmeas
      refine z_iload C 4 dX11_gives_3 rfl ?_
      refine z_iload_n C 3 dX11_gives_5 rfl ?_
      refine z_icmp_ge C 28 dX11_gives_6 (by decide) (by omega) (fun h2 => ?_) (fun h2 => ?_)
      · skip
        refine z_iload_n C 1 dX11_gives_28 rfl ?_
        refine z_iload_n C 3 dX11_gives_29 rfl ?_
        refine z_iadd C dX11_gives_30 ?_
        exact kret (t + n) (us u 10 K) _ _ (⟨by rw [hK2, show i = n by omega], rfl⟩) dX11_gives_31
      · skip
        refine z_aload_n C 2 dX11_gives_9 rfl ?_
        refine z_iload C 4 dX11_gives_10 rfl ?_
        refine z_aload_n C 0 dX11_gives_12 rfl ?_
        refine z_get C hK (v := .ref (a 20)) inX11_gives_X11 0 (WM_0 a c ((us u 10 (K)))) rfl 35 (by decide) (List.mem_of_getElem? (i := 1) rfl) rfl dX11_gives_13 ?_
        refine z_iload_n C 1 dX11_gives_16 rfl ?_
        refine z_iload C 4 dX11_gives_17 rfl ?_
        refine z_iadd C dX11_gives_19 ?_
        refine z_iald C hK 0 (g := (u 20)) (i := (t + i)) 20 (WM_20 a c ((us u 10 (K)))) rfl (by decide) (by omega) dX11_gives_20 ?_
        refine z_as (b := u 20 (t + i)) rfl ?_
        refine z_iast C hK (hDD _) 0 (g := (us u 10 (K)) 10) 10 (WM_10 a c ((us u 10 (K)))) rfl (by decide) (by omega) (WM_10_set a c ((us u 10 (K))) i (u 20 (t + i))) dX11_gives_21 ?_
        refine z_iinc C 4 [(4, .int (zI (i + 1))), (0, .ref (a 0)), (1, .int (zI t)), (2, .ref (a 10)), (3, .int (zI n))] dX11_gives_22 rfl (by decide) rfl ?_
        refine z_goto C 3 dX11_gives_25 (by decide) ?_
        refine z_lv [(0, .ref (a 0)), (1, .int (zI t)), (2, .ref (a 10)), (3, .int (zI n)), (4, .int (zI (i + 1)))] [1, 2, 3, 4, 0] rfl ?_
        exact ih3 (i + 1) (fun j => if j = i then u 20 (t + i) else K j) (by omega) (gv_step hi.1 hK2) (by omega)
  refine z_lv [(0, .ref (a 0)), (1, .int (zI t)), (2, .ref (a 10)), (3, .int (zI n)), (4, .int (zI 0))] [1, 2, 3, 4, 0] rfl ?_
  exact L3_1 (((n - 0 : Int)).toNat + 1) 0 (u 10) (by omega) (Eq.symm (gv_0 _ _ _)) (by omega)
-- NoteBellsModel.lay
set_option maxHeartbeats 8000000 in
set_option maxRecDepth 100000 in
theorem c_X11_lay_11 (l : Launch) (D : va_G) (a : Nat → Nat) (c : Nat → ClassId) (u : zU) (n t : Int) (b_n : 0 ≤ n ∧ n ≤ 6) (b_t : 0 ≤ t ∧ t + n ≤ 72) : ZM l D (zTy c) (WM a c) yX11_lay wsX11_lay 2 [.ref (a 0), .ref (a 11), .int (zI n), .int (zI t)] u rI (fun z u' => z = t + n ∧ u' = us u 20 (ly (u 11) n t (u 20))) := by
  refine ZM.ofI (cc := cX11_lay) (maxL := 5) [(0, .ref (a 0)), (1, .ref (a 11)), (2, .int (zI n)), (3, .int (zI t))] rfl (by decide +kernel) rfl (Nat.le_of_ble_eq_true rfl) (WM_addr a c) ?_
  intro x C hK _ _ hDD kret
  refine z_iconst C dX11_lay_0 ?_
  refine z_istore C [(4, .int (zI 0)), (0, .ref (a 0)), (1, .ref (a 11)), (2, .int (zI n)), (3, .int (zI t))] dX11_lay_1 (by decide) rfl ?_
  have L3_1 : ∀ (fu : Nat) (i : Int) (K : Int → Int), (0 ≤ i ∧ i ≤ n) → (K = ly (u 11) i t (u 20)) → n - i < (fu : Int) → Z x 0 0 (WM a c (us u 20 (K))) [(0, .ref (a 0)), (1, .ref (a 11)), (2, .int (zI n)), (3, .int (zI t)), (4, .int (zI i))] 3 [] := by
    intro fu
    induction fu with
    | zero => intro i K hi hK2 hmeas; exfalso; omega
    | succ fu ih3 =>
      intro i K hi hK2 hmeas
      refine z_iload C 4 dX11_lay_3 rfl ?_
      refine z_iload_n C 2 dX11_lay_5 rfl ?_
      refine z_icmp_ge C 28 dX11_lay_6 (by decide) (by omega) (fun h2 => ?_) (fun h2 => ?_)
      · skip
        refine z_iload_n C 3 dX11_lay_28 rfl ?_
        refine z_iload_n C 2 dX11_lay_29 rfl ?_
        refine z_iadd C dX11_lay_30 ?_
        exact kret (t + n) (us u 20 K) _ _ (⟨rfl, by rw [hK2, show i = n by omega]⟩) dX11_lay_31
      · skip
        refine z_aload_n C 0 dX11_lay_9 rfl ?_
        refine z_get C hK (v := .ref (a 20)) inX11_lay_X11 0 (WM_0 a c ((us u 20 (K)))) rfl 35 (by decide) (List.mem_of_getElem? (i := 1) rfl) rfl dX11_lay_10 ?_
        refine z_iload_n C 3 dX11_lay_13 rfl ?_
        refine z_iload C 4 dX11_lay_14 rfl ?_
        refine z_iadd C dX11_lay_16 ?_
        refine z_aload_n C 1 dX11_lay_17 rfl ?_
        refine z_iload C 4 dX11_lay_18 rfl ?_
        refine z_iald C hK 0 (g := (u 11)) (i := i) 11 (WM_11 a c ((us u 20 (K)))) rfl (by decide) (by omega) dX11_lay_20 ?_
        refine z_as (b := u 11 (i)) rfl ?_
        refine z_iast C hK (hDD _) 0 (g := (us u 20 (K)) 20) 20 (WM_20 a c ((us u 20 (K)))) rfl (by decide) (by omega) (WM_20_set a c ((us u 20 (K))) (t + i) (u 11 (i))) dX11_lay_21 ?_
        refine z_iinc C 4 [(4, .int (zI (i + 1))), (0, .ref (a 0)), (1, .ref (a 11)), (2, .int (zI n)), (3, .int (zI t))] dX11_lay_22 rfl (by decide) rfl ?_
        refine z_goto C 3 dX11_lay_25 (by decide) ?_
        refine z_lv [(0, .ref (a 0)), (1, .ref (a 11)), (2, .int (zI n)), (3, .int (zI t)), (4, .int (zI (i + 1)))] [1, 2, 3, 4, 0] rfl ?_
        exact ih3 (i + 1) (fun j => if j = t + i then u 11 i else K j) (by omega) (ly_step hi.1 hK2) (by omega)
  refine z_lv [(0, .ref (a 0)), (1, .ref (a 11)), (2, .int (zI n)), (3, .int (zI t)), (4, .int (zI 0))] [1, 2, 3, 4, 0] rfl ?_
  exact L3_1 (((n - 0 : Int)).toNat + 1) 0 (u 20) (by omega) (Eq.symm (ly_0 _ _ _)) (by omega)
-- NoteBellsModel.gives
set_option maxHeartbeats 8000000 in
set_option maxRecDepth 100000 in
theorem c_X11_gives_11 (l : Launch) (D : va_G) (a : Nat → Nat) (c : Nat → ClassId) (u : zU) (t n : Int) (b_n : 0 ≤ n ∧ n ≤ 6) (b_t : 0 ≤ t ∧ t + n ≤ 72) : ZM l D (zTy c) (WM a c) yX11_gives wsX11_gives 2 [.ref (a 0), .int (zI t), .ref (a 11), .int (zI n)] u rI (fun z u' => u' = (us u 11 ((gv (u 20) n t (u 11)))) ∧ z = t + n) := by
  refine ZM.ofI (cc := cX11_gives) (maxL := 5) [(0, .ref (a 0)), (1, .int (zI t)), (2, .ref (a 11)), (3, .int (zI n))] rfl (by decide +kernel) rfl (Nat.le_of_ble_eq_true rfl) (WM_addr a c) ?_
  intro x C hK _ _ hDD kret
  refine z_iconst C dX11_gives_0 ?_
  refine z_istore C [(4, .int (zI 0)), (0, .ref (a 0)), (1, .int (zI t)), (2, .ref (a 11)), (3, .int (zI n))] dX11_gives_1 (by decide) rfl ?_
  have L3_1 : ∀ (fu : Nat) (i : Int) (K : Int → Int), (0 ≤ i ∧ i ≤ n) → (K = gv (u 20) i t (u 11)) → n - i < (fu : Int) → Z x 0 0 (WM a c (us u 11 (K))) [(0, .ref (a 0)), (1, .int (zI t)), (2, .ref (a 11)), (3, .int (zI n)), (4, .int (zI i))] 3 [] := by
    intro fu
    induction fu with
    | zero => intro i K hi hK2 hmeas; exfalso; omega
    | succ fu ih3 =>
      intro i K hi hK2 hmeas
      refine z_iload C 4 dX11_gives_3 rfl ?_
      refine z_iload_n C 3 dX11_gives_5 rfl ?_
      refine z_icmp_ge C 28 dX11_gives_6 (by decide) (by omega) (fun h2 => ?_) (fun h2 => ?_)
      · skip
        refine z_iload_n C 1 dX11_gives_28 rfl ?_
        refine z_iload_n C 3 dX11_gives_29 rfl ?_
        refine z_iadd C dX11_gives_30 ?_
        exact kret (t + n) (us u 11 K) _ _ (⟨by rw [hK2, show i = n by omega], rfl⟩) dX11_gives_31
      · skip
        refine z_aload_n C 2 dX11_gives_9 rfl ?_
        refine z_iload C 4 dX11_gives_10 rfl ?_
        refine z_aload_n C 0 dX11_gives_12 rfl ?_
        refine z_get C hK (v := .ref (a 20)) inX11_gives_X11 0 (WM_0 a c ((us u 11 (K)))) rfl 35 (by decide) (List.mem_of_getElem? (i := 1) rfl) rfl dX11_gives_13 ?_
        refine z_iload_n C 1 dX11_gives_16 rfl ?_
        refine z_iload C 4 dX11_gives_17 rfl ?_
        refine z_iadd C dX11_gives_19 ?_
        refine z_iald C hK 0 (g := (u 20)) (i := (t + i)) 20 (WM_20 a c ((us u 11 (K)))) rfl (by decide) (by omega) dX11_gives_20 ?_
        refine z_as (b := u 20 (t + i)) rfl ?_
        refine z_iast C hK (hDD _) 0 (g := (us u 11 (K)) 11) 11 (WM_11 a c ((us u 11 (K)))) rfl (by decide) (by omega) (WM_11_set a c ((us u 11 (K))) i (u 20 (t + i))) dX11_gives_21 ?_
        refine z_iinc C 4 [(4, .int (zI (i + 1))), (0, .ref (a 0)), (1, .int (zI t)), (2, .ref (a 11)), (3, .int (zI n))] dX11_gives_22 rfl (by decide) rfl ?_
        refine z_goto C 3 dX11_gives_25 (by decide) ?_
        refine z_lv [(0, .ref (a 0)), (1, .int (zI t)), (2, .ref (a 11)), (3, .int (zI n)), (4, .int (zI (i + 1)))] [1, 2, 3, 4, 0] rfl ?_
        exact ih3 (i + 1) (fun j => if j = i then u 20 (t + i) else K j) (by omega) (gv_step hi.1 hK2) (by omega)
  refine z_lv [(0, .ref (a 0)), (1, .int (zI t)), (2, .ref (a 11)), (3, .int (zI n)), (4, .int (zI 0))] [1, 2, 3, 4, 0] rfl ?_
  exact L3_1 (((n - 0 : Int)).toNat + 1) 0 (u 11) (by omega) (Eq.symm (gv_0 _ _ _)) (by omega)
-- NoteBellsModel.lay
set_option maxHeartbeats 8000000 in
set_option maxRecDepth 100000 in
theorem c_X11_lay_18 (l : Launch) (D : va_G) (a : Nat → Nat) (c : Nat → ClassId) (u : zU) (n t : Int) (b_n : 0 ≤ n ∧ n ≤ 8) (b_t : 0 ≤ t ∧ t + n ≤ 72) : ZM l D (zTy c) (WM a c) yX11_lay wsX11_lay 2 [.ref (a 0), .ref (a 18), .int (zI n), .int (zI t)] u rI (fun z u' => z = t + n ∧ u' = us u 20 (ly (u 18) n t (u 20))) := by
  refine ZM.ofI (cc := cX11_lay) (maxL := 5) [(0, .ref (a 0)), (1, .ref (a 18)), (2, .int (zI n)), (3, .int (zI t))] rfl (by decide +kernel) rfl (Nat.le_of_ble_eq_true rfl) (WM_addr a c) ?_
  intro x C hK _ _ hDD kret
  refine z_iconst C dX11_lay_0 ?_
  refine z_istore C [(4, .int (zI 0)), (0, .ref (a 0)), (1, .ref (a 18)), (2, .int (zI n)), (3, .int (zI t))] dX11_lay_1 (by decide) rfl ?_
  have L3_1 : ∀ (fu : Nat) (i : Int) (K : Int → Int), (0 ≤ i ∧ i ≤ n) → (K = ly (u 18) i t (u 20)) → n - i < (fu : Int) → Z x 0 0 (WM a c (us u 20 (K))) [(0, .ref (a 0)), (1, .ref (a 18)), (2, .int (zI n)), (3, .int (zI t)), (4, .int (zI i))] 3 [] := by
    intro fu
    induction fu with
    | zero => intro i K hi hK2 hmeas; exfalso; omega
    | succ fu ih3 =>
      intro i K hi hK2 hmeas
      refine z_iload C 4 dX11_lay_3 rfl ?_
      refine z_iload_n C 2 dX11_lay_5 rfl ?_
      refine z_icmp_ge C 28 dX11_lay_6 (by decide) (by omega) (fun h2 => ?_) (fun h2 => ?_)
      · skip
        refine z_iload_n C 3 dX11_lay_28 rfl ?_
        refine z_iload_n C 2 dX11_lay_29 rfl ?_
        refine z_iadd C dX11_lay_30 ?_
        exact kret (t + n) (us u 20 K) _ _ (⟨rfl, by rw [hK2, show i = n by omega]⟩) dX11_lay_31
      · skip
        refine z_aload_n C 0 dX11_lay_9 rfl ?_
        refine z_get C hK (v := .ref (a 20)) inX11_lay_X11 0 (WM_0 a c ((us u 20 (K)))) rfl 35 (by decide) (List.mem_of_getElem? (i := 1) rfl) rfl dX11_lay_10 ?_
        refine z_iload_n C 3 dX11_lay_13 rfl ?_
        refine z_iload C 4 dX11_lay_14 rfl ?_
        refine z_iadd C dX11_lay_16 ?_
        refine z_aload_n C 1 dX11_lay_17 rfl ?_
        refine z_iload C 4 dX11_lay_18 rfl ?_
        refine z_iald C hK 0 (g := (u 18)) (i := i) 18 (WM_18 a c ((us u 20 (K)))) rfl (by decide) (by omega) dX11_lay_20 ?_
        refine z_as (b := u 18 (i)) rfl ?_
        refine z_iast C hK (hDD _) 0 (g := (us u 20 (K)) 20) 20 (WM_20 a c ((us u 20 (K)))) rfl (by decide) (by omega) (WM_20_set a c ((us u 20 (K))) (t + i) (u 18 (i))) dX11_lay_21 ?_
        refine z_iinc C 4 [(4, .int (zI (i + 1))), (0, .ref (a 0)), (1, .ref (a 18)), (2, .int (zI n)), (3, .int (zI t))] dX11_lay_22 rfl (by decide) rfl ?_
        refine z_goto C 3 dX11_lay_25 (by decide) ?_
        refine z_lv [(0, .ref (a 0)), (1, .ref (a 18)), (2, .int (zI n)), (3, .int (zI t)), (4, .int (zI (i + 1)))] [1, 2, 3, 4, 0] rfl ?_
        exact ih3 (i + 1) (fun j => if j = t + i then u 18 i else K j) (by omega) (ly_step hi.1 hK2) (by omega)
  refine z_lv [(0, .ref (a 0)), (1, .ref (a 18)), (2, .int (zI n)), (3, .int (zI t)), (4, .int (zI 0))] [1, 2, 3, 4, 0] rfl ?_
  exact L3_1 (((n - 0 : Int)).toNat + 1) 0 (u 20) (by omega) (Eq.symm (ly_0 _ _ _)) (by omega)
-- NoteBellsModel.gives
set_option maxHeartbeats 8000000 in
set_option maxRecDepth 100000 in
theorem c_X11_gives_18 (l : Launch) (D : va_G) (a : Nat → Nat) (c : Nat → ClassId) (u : zU) (t n : Int) (b_n : 0 ≤ n ∧ n ≤ 8) (b_t : 0 ≤ t ∧ t + n ≤ 72) : ZM l D (zTy c) (WM a c) yX11_gives wsX11_gives 2 [.ref (a 0), .int (zI t), .ref (a 18), .int (zI n)] u rI (fun z u' => u' = (us u 18 ((gv (u 20) n t (u 18)))) ∧ z = t + n) := by
  refine ZM.ofI (cc := cX11_gives) (maxL := 5) [(0, .ref (a 0)), (1, .int (zI t)), (2, .ref (a 18)), (3, .int (zI n))] rfl (by decide +kernel) rfl (Nat.le_of_ble_eq_true rfl) (WM_addr a c) ?_
  intro x C hK _ _ hDD kret
  refine z_iconst C dX11_gives_0 ?_
  refine z_istore C [(4, .int (zI 0)), (0, .ref (a 0)), (1, .int (zI t)), (2, .ref (a 18)), (3, .int (zI n))] dX11_gives_1 (by decide) rfl ?_
  have L3_1 : ∀ (fu : Nat) (i : Int) (K : Int → Int), (0 ≤ i ∧ i ≤ n) → (K = gv (u 20) i t (u 18)) → n - i < (fu : Int) → Z x 0 0 (WM a c (us u 18 (K))) [(0, .ref (a 0)), (1, .int (zI t)), (2, .ref (a 18)), (3, .int (zI n)), (4, .int (zI i))] 3 [] := by
    intro fu
    induction fu with
    | zero => intro i K hi hK2 hmeas; exfalso; omega
    | succ fu ih3 =>
      intro i K hi hK2 hmeas
      refine z_iload C 4 dX11_gives_3 rfl ?_
      refine z_iload_n C 3 dX11_gives_5 rfl ?_
      refine z_icmp_ge C 28 dX11_gives_6 (by decide) (by omega) (fun h2 => ?_) (fun h2 => ?_)
      · skip
        refine z_iload_n C 1 dX11_gives_28 rfl ?_
        refine z_iload_n C 3 dX11_gives_29 rfl ?_
        refine z_iadd C dX11_gives_30 ?_
        exact kret (t + n) (us u 18 K) _ _ (⟨by rw [hK2, show i = n by omega], rfl⟩) dX11_gives_31
      · skip
        refine z_aload_n C 2 dX11_gives_9 rfl ?_
        refine z_iload C 4 dX11_gives_10 rfl ?_
        refine z_aload_n C 0 dX11_gives_12 rfl ?_
        refine z_get C hK (v := .ref (a 20)) inX11_gives_X11 0 (WM_0 a c ((us u 18 (K)))) rfl 35 (by decide) (List.mem_of_getElem? (i := 1) rfl) rfl dX11_gives_13 ?_
        refine z_iload_n C 1 dX11_gives_16 rfl ?_
        refine z_iload C 4 dX11_gives_17 rfl ?_
        refine z_iadd C dX11_gives_19 ?_
        refine z_iald C hK 0 (g := (u 20)) (i := (t + i)) 20 (WM_20 a c ((us u 18 (K)))) rfl (by decide) (by omega) dX11_gives_20 ?_
        refine z_as (b := u 20 (t + i)) rfl ?_
        refine z_iast C hK (hDD _) 0 (g := (us u 18 (K)) 18) 18 (WM_18 a c ((us u 18 (K)))) rfl (by decide) (by omega) (WM_18_set a c ((us u 18 (K))) i (u 20 (t + i))) dX11_gives_21 ?_
        refine z_iinc C 4 [(4, .int (zI (i + 1))), (0, .ref (a 0)), (1, .int (zI t)), (2, .ref (a 18)), (3, .int (zI n))] dX11_gives_22 rfl (by decide) rfl ?_
        refine z_goto C 3 dX11_gives_25 (by decide) ?_
        refine z_lv [(0, .ref (a 0)), (1, .int (zI t)), (2, .ref (a 18)), (3, .int (zI n)), (4, .int (zI (i + 1)))] [1, 2, 3, 4, 0] rfl ?_
        exact ih3 (i + 1) (fun j => if j = i then u 20 (t + i) else K j) (by omega) (gv_step hi.1 hK2) (by omega)
  refine z_lv [(0, .ref (a 0)), (1, .int (zI t)), (2, .ref (a 18)), (3, .int (zI n)), (4, .int (zI 0))] [1, 2, 3, 4, 0] rfl ?_
  exact L3_1 (((n - 0 : Int)).toNat + 1) 0 (u 18) (by omega) (Eq.symm (gv_0 _ _ _)) (by omega)
-- NoteBellsModel.keep
theorem inX11_keep_X11 : ∀ w ∈ wsX110, w ∈ wsX11_keep := fun w h => List.mem_cons_of_mem _ (List.mem_append_right _ (h))
set_option maxHeartbeats 8000000 in
set_option maxRecDepth 100000 in
theorem c_X11_keep (l : Launch) (D : va_G) (a : Nat → Nat) (c : Nat → ClassId) (u : zU) (k : Int) (b_k : -2147483648 ≤ k ∧ k < 2147483648) : ZM l D (zTy c) (WM a c) yX11_keep wsX11_keep 4 [.ref (a 0), .int (zI k)] u rI (fun z u' => (¬ (0 ≤ k ∧ k ≤ 1) ∧ z = -1 ∧ u' = u) ∨ (0 ≤ k ∧ k ≤ 1 ∧ z = u 0 19 ∧ u' = us u 20 (kpt u (36 * k) (u 20)))) := by
  refine ZM.ofI (cc := cX11_keep) (maxL := 3) [(0, .ref (a 0)), (1, .int (zI k))] rfl (by decide +kernel) rfl (Nat.le_of_ble_eq_true rfl) (WM_addr a c) ?_
  intro x C hK _ _ hDD kret
  refine z_iload_n C 1 dX11_keep_0 rfl ?_
  refine z_i2l C dX11_keep_1 (by omega) ?_
  refine z_lconst C (z := 0) dX11_keep_2 (by decide) ?_
  refine z_lconst C (z := 1) dX11_keep_3 (by decide) ?_
  refine z_callS C hK hDD (c_X11_in (zl x) (zG x) ((WM a c)) (WM_addr a c) u k 0 1 (by omega) (by omega) (by omega)) gX11_keep_X11_in rfl rfl zy_X11_in ⟨by omega, by decide⟩ rfl (Nat.le_of_ble_eq_true rfl) (st := []) (stk2 := fun z1 => [.int (zI z1)]) rfl (fun _ => rfl) dX11_keep_4 (fun z1 u2 h3 => ?_)
  rw [h3.1]; replace h3 := h3.2
  refine z_if_ne C 12 dX11_keep_7 (by decide) (by omega) (fun h4 => ?_) (fun h4 => ?_)
  · skip
    refine z_ws (ws' := (WM a c (us u 20 ((u 20))))) (congrArg (WM a c) (us_self u 20).symm) ?_
    refine z_bipush C dX11_keep_12 (by decide) ?_
    refine z_iload_n C 1 dX11_keep_14 rfl ?_
    refine z_imul C dX11_keep_15 ?_
    refine z_istore_n C [(2, .int (zI (36 * k))), (0, .ref (a 0)), (1, .int (zI k))] dX11_keep_16 rfl (by decide) rfl ?_
    refine z_aload_n C 1 dX11_keep_17 rfl ?_
    refine z_get C hK (v := .ref (a 20)) inX11_keep_X11 0 (WM_0 a c ((us u 20 ((u 20))))) rfl 35 (by decide) (List.mem_of_getElem? (i := 1) rfl) rfl dX11_keep_18 ?_
    refine z_iload_n C 0 dX11_keep_21 rfl ?_
    refine z_aload_n C 1 dX11_keep_22 rfl ?_
    refine z_get C hK (v := .int (zI (u 0 19))) inX11_keep_X11 0 (WM_0 a c ((us u 20 ((u 20))))) rfl 19 (by decide) (List.mem_of_getElem? (i := 2) rfl) rfl dX11_keep_23 ?_
    refine z_iast C hK (hDD _) 0 (g := (us u 20 ((u 20))) 20) 20 (WM_20 a c ((us u 20 ((u 20))))) rfl (by decide) (by omega) (WM_20_set a c ((us u 20 ((u 20)))) (36 * k) (u 0 19)) dX11_keep_26 ?_
    refine z_aload_n C 1 dX11_keep_27 rfl ?_
    refine z_get C hK (v := .ref (a 20)) inX11_keep_X11 0 (WM_0 a c ((up (us u 20 ((u 20))) 20 (36 * k) (u 0 19)))) rfl 35 (by decide) (List.mem_of_getElem? (i := 1) rfl) rfl dX11_keep_28 ?_
    refine z_iload_n C 0 dX11_keep_31 rfl ?_
    refine z_iconst C dX11_keep_32 ?_
    refine z_iadd C dX11_keep_33 ?_
    refine z_aload_n C 1 dX11_keep_34 rfl ?_
    refine z_get C hK (v := .ref (a 9)) inX11_keep_X11 0 (WM_0 a c ((up (us u 20 ((u 20))) 20 (36 * k) (u 0 19)))) rfl 18 (by decide) (List.mem_of_getElem? (i := 3) rfl) rfl dX11_keep_35 ?_
    refine z_iconst C dX11_keep_38 ?_
    refine z_iald C hK 0 (g := (u 9)) (i := 1) 9 (WM_9 a c ((up (us u 20 ((u 20))) 20 (36 * k) (u 0 19)))) rfl (by decide) (by omega) dX11_keep_39 ?_
    refine z_as (b := u 9 1) rfl ?_
    refine z_iast C hK (hDD _) 0 (g := (up (us u 20 ((u 20))) 20 (36 * k) (u 0 19)) 20) 20 (WM_20 a c ((up (us u 20 ((u 20))) 20 (36 * k) (u 0 19)))) rfl (by decide) (by omega) (WM_20_set a c ((up (us u 20 ((u 20))) 20 (36 * k) (u 0 19))) ((36 * k) + 1) (u 9 1)) dX11_keep_40 ?_
    refine z_aload_n C 1 dX11_keep_41 rfl ?_
    refine z_get C hK (v := .ref (a 20)) inX11_keep_X11 0 (WM_0 a c ((up (up (us u 20 ((u 20))) 20 (36 * k) (u 0 19)) 20 ((36 * k) + 1) (u 9 1)))) rfl 35 (by decide) (List.mem_of_getElem? (i := 1) rfl) rfl dX11_keep_42 ?_
    refine z_iload_n C 0 dX11_keep_45 rfl ?_
    refine z_iconst C dX11_keep_46 ?_
    refine z_iadd C dX11_keep_47 ?_
    refine z_aload_n C 1 dX11_keep_48 rfl ?_
    refine z_get C hK (v := .int (zI (u 0 20))) inX11_keep_X11 0 (WM_0 a c ((up (up (us u 20 ((u 20))) 20 (36 * k) (u 0 19)) 20 ((36 * k) + 1) (u 9 1)))) rfl 20 (by decide) (List.mem_of_getElem? (i := 4) rfl) rfl dX11_keep_49 ?_
    refine z_iast C hK (hDD _) 0 (g := (up (up (us u 20 ((u 20))) 20 (36 * k) (u 0 19)) 20 ((36 * k) + 1) (u 9 1)) 20) 20 (WM_20 a c ((up (up (us u 20 ((u 20))) 20 (36 * k) (u 0 19)) 20 ((36 * k) + 1) (u 9 1)))) rfl (by decide) (by omega) (WM_20_set a c ((up (up (us u 20 ((u 20))) 20 (36 * k) (u 0 19)) 20 ((36 * k) + 1) (u 9 1))) ((36 * k) + 2) (u 0 20)) dX11_keep_52 ?_
    refine z_aload_n C 1 dX11_keep_53 rfl ?_
    refine z_get C hK (v := .ref (a 20)) inX11_keep_X11 0 (WM_0 a c ((up (up (up (us u 20 ((u 20))) 20 (36 * k) (u 0 19)) 20 ((36 * k) + 1) (u 9 1)) 20 ((36 * k) + 2) (u 0 20)))) rfl 35 (by decide) (List.mem_of_getElem? (i := 1) rfl) rfl dX11_keep_54 ?_
    refine z_iload_n C 0 dX11_keep_57 rfl ?_
    refine z_iconst C dX11_keep_58 ?_
    refine z_iadd C dX11_keep_59 ?_
    refine z_aload_n C 1 dX11_keep_60 rfl ?_
    refine z_get C hK (v := .int (zI (u 0 21))) inX11_keep_X11 0 (WM_0 a c ((up (up (up (us u 20 ((u 20))) 20 (36 * k) (u 0 19)) 20 ((36 * k) + 1) (u 9 1)) 20 ((36 * k) + 2) (u 0 20)))) rfl 21 (by decide) (List.mem_of_getElem? (i := 5) rfl) rfl dX11_keep_61 ?_
    refine z_iast C hK (hDD _) 0 (g := (up (up (up (us u 20 ((u 20))) 20 (36 * k) (u 0 19)) 20 ((36 * k) + 1) (u 9 1)) 20 ((36 * k) + 2) (u 0 20)) 20) 20 (WM_20 a c ((up (up (up (us u 20 ((u 20))) 20 (36 * k) (u 0 19)) 20 ((36 * k) + 1) (u 9 1)) 20 ((36 * k) + 2) (u 0 20)))) rfl (by decide) (by omega) (WM_20_set a c ((up (up (up (us u 20 ((u 20))) 20 (36 * k) (u 0 19)) 20 ((36 * k) + 1) (u 9 1)) 20 ((36 * k) + 2) (u 0 20))) ((36 * k) + 3) (u 0 21)) dX11_keep_64 ?_
    refine z_aload_n C 1 dX11_keep_65 rfl ?_
    refine z_get C hK (v := .ref (a 20)) inX11_keep_X11 0 (WM_0 a c ((up (up (up (up (us u 20 ((u 20))) 20 (36 * k) (u 0 19)) 20 ((36 * k) + 1) (u 9 1)) 20 ((36 * k) + 2) (u 0 20)) 20 ((36 * k) + 3) (u 0 21)))) rfl 35 (by decide) (List.mem_of_getElem? (i := 1) rfl) rfl dX11_keep_66 ?_
    refine z_iload_n C 0 dX11_keep_69 rfl ?_
    refine z_iconst C dX11_keep_70 ?_
    refine z_iadd C dX11_keep_71 ?_
    refine z_aload_n C 1 dX11_keep_72 rfl ?_
    refine z_get C hK (v := .int (zI (u 0 31))) inX11_keep_X11 0 (WM_0 a c ((up (up (up (up (us u 20 ((u 20))) 20 (36 * k) (u 0 19)) 20 ((36 * k) + 1) (u 9 1)) 20 ((36 * k) + 2) (u 0 20)) 20 ((36 * k) + 3) (u 0 21)))) rfl 31 (by decide) (List.mem_of_getElem? (i := 6) rfl) rfl dX11_keep_73 ?_
    refine z_iast C hK (hDD _) 0 (g := (up (up (up (up (us u 20 ((u 20))) 20 (36 * k) (u 0 19)) 20 ((36 * k) + 1) (u 9 1)) 20 ((36 * k) + 2) (u 0 20)) 20 ((36 * k) + 3) (u 0 21)) 20) 20 (WM_20 a c ((up (up (up (up (us u 20 ((u 20))) 20 (36 * k) (u 0 19)) 20 ((36 * k) + 1) (u 9 1)) 20 ((36 * k) + 2) (u 0 20)) 20 ((36 * k) + 3) (u 0 21)))) rfl (by decide) (by omega) (WM_20_set a c ((up (up (up (up (us u 20 ((u 20))) 20 (36 * k) (u 0 19)) 20 ((36 * k) + 1) (u 9 1)) 20 ((36 * k) + 2) (u 0 20)) 20 ((36 * k) + 3) (u 0 21))) ((36 * k) + 4) (u 0 31)) dX11_keep_76 ?_
    refine z_ws (ws' := (WM a c (us u 20 ((kp5 u (36 * k) (u 20)))))) (congrArg (WM a c) (by simp only [up_us]; rfl)) ?_
    refine z_aload_n C 1 dX11_keep_77 rfl ?_
    refine z_aload_n C 1 dX11_keep_78 rfl ?_
    refine z_get C hK (v := .ref (a 5)) inX11_keep_X11 0 (WM_0 a c ((us u 20 ((kp5 u (36 * k) (u 20)))))) rfl 14 (by decide) (List.mem_of_getElem? (i := 7) rfl) rfl dX11_keep_79 ?_
    refine z_bipush C dX11_keep_82 (by decide) ?_
    refine z_iload_n C 0 dX11_keep_84 rfl ?_
    refine z_iconst C dX11_keep_85 ?_
    refine z_iadd C dX11_keep_86 ?_
    refine z_callV C hK hDD (c_X11_lay_5 (zl x) (zG x) a c ((us u 20 ((kp5 u (36 * k) (u 20))))) 8 ((36 * k) + 5) (show 0 ≤ 8 ∧ 8 ≤ 8 by omega) (show 0 ≤ ((36 * k) + 5) ∧ ((36 * k) + 5) + 8 ≤ 72 by omega)) gX11_keep_X11_lay rfl zy_X11_lay 0 (WM_0 a c ((us u 20 ((kp5 u (36 * k) (u 20)))))) rfl ⟨by omega, by decide⟩ rfl (Nat.le_of_ble_eq_true rfl) (st := []) (stk2 := fun z5 => [.int (zI z5)]) rfl (fun _ => rfl) dX11_keep_87 (fun z5 u6 h7 => ?_)
    obtain ⟨hz87, e87⟩ := h7
    rw [e87, us_us]
    change Z x 0 0 (WM a c (us u 20 ((ly (u 5) 8 (36 * k + 5) ((kp5 u (36 * k) (u 20))))))) _ _ _
    refine z_as (b := 36 * k + 5 + 8) (hz87) ?_
    refine z_istore_n C [(2, .int (zI (36 * k + 5 + 8))), (0, .ref (a 0)), (1, .int (zI k))] dX11_keep_90 rfl (by decide) rfl ?_
    refine z_aload_n C 1 dX11_keep_91 rfl ?_
    refine z_aload_n C 1 dX11_keep_92 rfl ?_
    refine z_get C hK (v := .ref (a 8)) inX11_keep_X11 0 (WM_0 a c ((us u 20 ((ly (u 5) 8 (36 * k + 5) ((kp5 u (36 * k) (u 20)))))))) rfl 17 (by decide) (List.mem_of_getElem? (i := 8) rfl) rfl dX11_keep_93 ?_
    refine z_iconst C dX11_keep_96 ?_
    refine z_iload_n C 0 dX11_keep_97 rfl ?_
    refine z_callV C hK hDD (c_X11_lay_8 (zl x) (zG x) a c ((us u 20 ((ly (u 5) 8 (36 * k + 5) ((kp5 u (36 * k) (u 20))))))) 3 (36 * k + 5 + 8) (show 0 ≤ 3 ∧ 3 ≤ 3 by omega) (show 0 ≤ (36 * k + 5 + 8) ∧ (36 * k + 5 + 8) + 3 ≤ 72 by omega)) gX11_keep_X11_lay rfl zy_X11_lay 0 (WM_0 a c ((us u 20 ((ly (u 5) 8 (36 * k + 5) ((kp5 u (36 * k) (u 20)))))))) rfl ⟨by omega, by decide⟩ rfl (Nat.le_of_ble_eq_true rfl) (st := []) (stk2 := fun z8 => [.int (zI z8)]) rfl (fun _ => rfl) dX11_keep_98 (fun z8 u9 h10 => ?_)
    obtain ⟨hz98, e98⟩ := h10
    rw [e98, us_us]
    change Z x 0 0 (WM a c (us u 20 ((ly (u 8) 3 (36 * k + 5 + 8) ((ly (u 5) 8 (36 * k + 5) ((kp5 u (36 * k) (u 20))))))))) _ _ _
    refine z_as (b := 36 * k + 5 + 8 + 3) (hz98) ?_
    refine z_istore_n C [(2, .int (zI (36 * k + 5 + 8 + 3))), (0, .ref (a 0)), (1, .int (zI k))] dX11_keep_101 rfl (by decide) rfl ?_
    refine z_aload_n C 1 dX11_keep_102 rfl ?_
    refine z_aload_n C 1 dX11_keep_103 rfl ?_
    refine z_get C hK (v := .ref (a 10)) inX11_keep_X11 0 (WM_0 a c ((us u 20 ((ly (u 8) 3 (36 * k + 5 + 8) ((ly (u 5) 8 (36 * k + 5) ((kp5 u (36 * k) (u 20)))))))))) rfl 22 (by decide) (List.mem_of_getElem? (i := 9) rfl) rfl dX11_keep_104 ?_
    refine z_bipush C dX11_keep_107 (by decide) ?_
    refine z_iload_n C 0 dX11_keep_109 rfl ?_
    refine z_callV C hK hDD (c_X11_lay_10 (zl x) (zG x) a c ((us u 20 ((ly (u 8) 3 (36 * k + 5 + 8) ((ly (u 5) 8 (36 * k + 5) ((kp5 u (36 * k) (u 20))))))))) 6 (36 * k + 5 + 8 + 3) (show 0 ≤ 6 ∧ 6 ≤ 6 by omega) (show 0 ≤ (36 * k + 5 + 8 + 3) ∧ (36 * k + 5 + 8 + 3) + 6 ≤ 72 by omega)) gX11_keep_X11_lay rfl zy_X11_lay 0 (WM_0 a c ((us u 20 ((ly (u 8) 3 (36 * k + 5 + 8) ((ly (u 5) 8 (36 * k + 5) ((kp5 u (36 * k) (u 20)))))))))) rfl ⟨by omega, by decide⟩ rfl (Nat.le_of_ble_eq_true rfl) (st := []) (stk2 := fun z11 => [.int (zI z11)]) rfl (fun _ => rfl) dX11_keep_110 (fun z11 u12 h13 => ?_)
    obtain ⟨hz110, e110⟩ := h13
    rw [e110, us_us]
    change Z x 0 0 (WM a c (us u 20 ((ly (u 10) 6 (36 * k + 5 + 8 + 3) ((ly (u 8) 3 (36 * k + 5 + 8) ((ly (u 5) 8 (36 * k + 5) ((kp5 u (36 * k) (u 20))))))))))) _ _ _
    refine z_as (b := 36 * k + 5 + 8 + 3 + 6) (hz110) ?_
    refine z_istore_n C [(2, .int (zI (36 * k + 5 + 8 + 3 + 6))), (0, .ref (a 0)), (1, .int (zI k))] dX11_keep_113 rfl (by decide) rfl ?_
    refine z_aload_n C 1 dX11_keep_114 rfl ?_
    refine z_aload_n C 1 dX11_keep_115 rfl ?_
    refine z_get C hK (v := .ref (a 11)) inX11_keep_X11 0 (WM_0 a c ((us u 20 ((ly (u 10) 6 (36 * k + 5 + 8 + 3) ((ly (u 8) 3 (36 * k + 5 + 8) ((ly (u 5) 8 (36 * k + 5) ((kp5 u (36 * k) (u 20)))))))))))) rfl 23 (by decide) (List.mem_of_getElem? (i := 10) rfl) rfl dX11_keep_116 ?_
    refine z_bipush C dX11_keep_119 (by decide) ?_
    refine z_iload_n C 0 dX11_keep_121 rfl ?_
    refine z_callV C hK hDD (c_X11_lay_11 (zl x) (zG x) a c ((us u 20 ((ly (u 10) 6 (36 * k + 5 + 8 + 3) ((ly (u 8) 3 (36 * k + 5 + 8) ((ly (u 5) 8 (36 * k + 5) ((kp5 u (36 * k) (u 20))))))))))) 6 (36 * k + 5 + 8 + 3 + 6) (show 0 ≤ 6 ∧ 6 ≤ 6 by omega) (show 0 ≤ (36 * k + 5 + 8 + 3 + 6) ∧ (36 * k + 5 + 8 + 3 + 6) + 6 ≤ 72 by omega)) gX11_keep_X11_lay rfl zy_X11_lay 0 (WM_0 a c ((us u 20 ((ly (u 10) 6 (36 * k + 5 + 8 + 3) ((ly (u 8) 3 (36 * k + 5 + 8) ((ly (u 5) 8 (36 * k + 5) ((kp5 u (36 * k) (u 20)))))))))))) rfl ⟨by omega, by decide⟩ rfl (Nat.le_of_ble_eq_true rfl) (st := []) (stk2 := fun z14 => [.int (zI z14)]) rfl (fun _ => rfl) dX11_keep_122 (fun z14 u15 h16 => ?_)
    obtain ⟨hz122, e122⟩ := h16
    rw [e122, us_us]
    change Z x 0 0 (WM a c (us u 20 ((ly (u 11) 6 (36 * k + 5 + 8 + 3 + 6) ((ly (u 10) 6 (36 * k + 5 + 8 + 3) ((ly (u 8) 3 (36 * k + 5 + 8) ((ly (u 5) 8 (36 * k + 5) ((kp5 u (36 * k) (u 20))))))))))))) _ _ _
    refine z_as (b := 36 * k + 5 + 8 + 3 + 6 + 6) (hz122) ?_
    refine z_istore_n C [(2, .int (zI (36 * k + 5 + 8 + 3 + 6 + 6))), (0, .ref (a 0)), (1, .int (zI k))] dX11_keep_125 rfl (by decide) rfl ?_
    refine z_aload_n C 1 dX11_keep_126 rfl ?_
    refine z_aload_n C 1 dX11_keep_127 rfl ?_
    refine z_get C hK (v := .ref (a 18)) inX11_keep_X11 0 (WM_0 a c ((us u 20 ((ly (u 11) 6 (36 * k + 5 + 8 + 3 + 6) ((ly (u 10) 6 (36 * k + 5 + 8 + 3) ((ly (u 8) 3 (36 * k + 5 + 8) ((ly (u 5) 8 (36 * k + 5) ((kp5 u (36 * k) (u 20)))))))))))))) rfl 32 (by decide) (List.mem_of_getElem? (i := 11) rfl) rfl dX11_keep_128 ?_
    refine z_bipush C dX11_keep_131 (by decide) ?_
    refine z_iload_n C 0 dX11_keep_133 rfl ?_
    refine z_callV C hK hDD (c_X11_lay_18 (zl x) (zG x) a c ((us u 20 ((ly (u 11) 6 (36 * k + 5 + 8 + 3 + 6) ((ly (u 10) 6 (36 * k + 5 + 8 + 3) ((ly (u 8) 3 (36 * k + 5 + 8) ((ly (u 5) 8 (36 * k + 5) ((kp5 u (36 * k) (u 20))))))))))))) 8 (36 * k + 5 + 8 + 3 + 6 + 6) (show 0 ≤ 8 ∧ 8 ≤ 8 by omega) (show 0 ≤ (36 * k + 5 + 8 + 3 + 6 + 6) ∧ (36 * k + 5 + 8 + 3 + 6 + 6) + 8 ≤ 72 by omega)) gX11_keep_X11_lay rfl zy_X11_lay 0 (WM_0 a c ((us u 20 ((ly (u 11) 6 (36 * k + 5 + 8 + 3 + 6) ((ly (u 10) 6 (36 * k + 5 + 8 + 3) ((ly (u 8) 3 (36 * k + 5 + 8) ((ly (u 5) 8 (36 * k + 5) ((kp5 u (36 * k) (u 20)))))))))))))) rfl ⟨by omega, by decide⟩ rfl (Nat.le_of_ble_eq_true rfl) (st := []) (stk2 := fun z17 => [.int (zI z17)]) rfl (fun _ => rfl) dX11_keep_134 (fun z17 u18 h19 => ?_)
    obtain ⟨hz134, e134⟩ := h19
    rw [e134, us_us]
    change Z x 0 0 (WM a c (us u 20 ((ly (u 18) 8 (36 * k + 5 + 8 + 3 + 6 + 6) ((ly (u 11) 6 (36 * k + 5 + 8 + 3 + 6) ((ly (u 10) 6 (36 * k + 5 + 8 + 3) ((ly (u 8) 3 (36 * k + 5 + 8) ((ly (u 5) 8 (36 * k + 5) ((kp5 u (36 * k) (u 20))))))))))))))) _ _ _
    refine z_as (b := 36 * k + 5 + 8 + 3 + 6 + 6 + 8) (hz134) ?_
    refine z_pop C dX11_keep_137 rfl ?_
    refine z_aload_n C 1 dX11_keep_138 rfl ?_
    refine z_get C hK (v := .int (zI (u 0 19))) inX11_keep_X11 0 (WM_0 a c ((us u 20 ((ly (u 18) 8 (36 * k + 5 + 8 + 3 + 6 + 6) ((ly (u 11) 6 (36 * k + 5 + 8 + 3 + 6) ((ly (u 10) 6 (36 * k + 5 + 8 + 3) ((ly (u 8) 3 (36 * k + 5 + 8) ((ly (u 5) 8 (36 * k + 5) ((kp5 u (36 * k) (u 20)))))))))))))))) rfl 19 (by decide) (List.mem_of_getElem? (i := 2) rfl) rfl dX11_keep_139 ?_
    exact kret (u 0 19) ((us u 20 ((ly (u 18) 8 (36 * k + 5 + 8 + 3 + 6 + 6) ((ly (u 11) 6 (36 * k + 5 + 8 + 3 + 6) ((ly (u 10) 6 (36 * k + 5 + 8 + 3) ((ly (u 8) 3 (36 * k + 5 + 8) ((ly (u 5) 8 (36 * k + 5) ((kp5 u (36 * k) (u 20))))))))))))))) _ _ (Or.inr ⟨by omega, by omega, rfl, rfl⟩) dX11_keep_142
  · skip
    refine z_iconst C dX11_keep_10 ?_
    exact kret (-1) u _ _ (Or.inl ⟨by omega, rfl, rfl⟩) dX11_keep_11
-- NoteBellsModel.back
theorem inX11_back_X11 : ∀ w ∈ wsX110, w ∈ wsX11_back := fun w h => List.mem_cons_of_mem _ (List.mem_append_right _ (h))
set_option maxHeartbeats 8000000 in
set_option maxRecDepth 100000 in
theorem c_X11_back (l : Launch) (D : va_G) (a : Nat → Nat) (c : Nat → ClassId) (u : zU) (k : Int) (hI : IM u) (b_k : -2147483648 ≤ k ∧ k < 2147483648) : ZM l D (zTy c) (WM a c) yX11_back wsX11_back 4 [.ref (a 0), .int (zI k)] u rI (fun z u' => (¬ (0 ≤ k ∧ k ≤ 1) ∧ z = -1 ∧ u' = u) ∨ (0 ≤ k ∧ k ≤ 1 ∧ u 20 (36 * k) < 0 ∧ z = -2 ∧ u' = u) ∨ (0 ≤ k ∧ k ≤ 1 ∧ 0 ≤ u 20 (36 * k) ∧ z = u 20 (36 * k) ∧ u' = bck u (36 * k))) := by
  refine ZM.ofI (cc := cX11_back) (maxL := 3) [(0, .ref (a 0)), (1, .int (zI k))] rfl (by decide +kernel) rfl (Nat.le_of_ble_eq_true rfl) (WM_addr a c) ?_
  intro x C hK _ _ hDD kret
  refine z_iload_n C 1 dX11_back_0 rfl ?_
  refine z_i2l C dX11_back_1 (by omega) ?_
  refine z_lconst C (z := 0) dX11_back_2 (by decide) ?_
  refine z_lconst C (z := 1) dX11_back_3 (by decide) ?_
  refine z_callS C hK hDD (c_X11_in (zl x) (zG x) ((WM a c)) (WM_addr a c) u k 0 1 (by omega) (by omega) (by omega)) gX11_back_X11_in rfl rfl zy_X11_in ⟨by omega, by decide⟩ rfl (Nat.le_of_ble_eq_true rfl) (st := []) (stk2 := fun z1 => [.int (zI z1)]) rfl (fun _ => rfl) dX11_back_4 (fun z1 u2 h3 => ?_)
  rw [h3.1]; replace h3 := h3.2
  refine z_if_ne C 12 dX11_back_7 (by decide) (by omega) (fun h4 => ?_) (fun h4 => ?_)
  · skip
    refine z_bipush C dX11_back_12 (by decide) ?_
    refine z_iload_n C 1 dX11_back_14 rfl ?_
    refine z_imul C dX11_back_15 ?_
    refine z_istore_n C [(2, .int (zI (36 * k))), (0, .ref (a 0)), (1, .int (zI k))] dX11_back_16 rfl (by decide) rfl ?_
    have hkb := kb_bd (k := k) hI (by omega)
    refine z_aload_n C 1 dX11_back_17 rfl ?_
    refine z_get C hK (v := .ref (a 20)) inX11_back_X11 0 (WM_0 a c u) rfl 35 (by decide) (List.mem_of_getElem? (i := 1) rfl) rfl dX11_back_18 ?_
    refine z_iload_n C 0 dX11_back_21 rfl ?_
    refine z_iald C hK 0 (g := (u 20)) (i := (36 * k)) 20 (WM_20 a c u) rfl (by decide) (by omega) dX11_back_22 ?_
    refine z_as (b := u 20 (36 * k)) rfl ?_
    refine z_if_ge C 29 dX11_back_23 (by decide) (by omega) (fun h5 => ?_) (fun h5 => ?_)
    · skip
      refine z_aload_n C 1 dX11_back_29 rfl ?_
      refine z_aload_n C 1 dX11_back_30 rfl ?_
      refine z_get C hK (v := .ref (a 20)) inX11_back_X11 0 (WM_0 a c u) rfl 35 (by decide) (List.mem_of_getElem? (i := 1) rfl) rfl dX11_back_31 ?_
      refine z_iload_n C 0 dX11_back_34 rfl ?_
      refine z_iald C hK 0 (g := (u 20)) (i := (36 * k)) 20 (WM_20 a c u) rfl (by decide) (by omega) dX11_back_35 ?_
      refine z_as (b := u 20 (36 * k)) rfl ?_
      refine z_put C hK (hDD _) inX11_back_X11 tyX11 tyX11_ok nmX11 0 (WM_0 a c u) rfl 19 (by decide) (List.mem_of_getElem? (i := 2) rfl) rfl rfl rfl (Nat.le_of_ble_eq_true rfl) (WM_0_p19 a c u (u 20 (36 * k))) dX11_back_36 ?_
      refine z_aload_n C 1 dX11_back_39 rfl ?_
      refine z_get C hK (v := .ref (a 9)) inX11_back_X11 0 (WM_0 a c ((up u 0 (19) (u 20 (36 * k))))) rfl 18 (by decide) (List.mem_of_getElem? (i := 3) rfl) rfl dX11_back_40 ?_
      refine z_iconst C dX11_back_43 ?_
      refine z_aload_n C 1 dX11_back_44 rfl ?_
      refine z_get C hK (v := .ref (a 20)) inX11_back_X11 0 (WM_0 a c ((up u 0 (19) (u 20 (36 * k))))) rfl 35 (by decide) (List.mem_of_getElem? (i := 1) rfl) rfl dX11_back_45 ?_
      refine z_iload_n C 0 dX11_back_48 rfl ?_
      refine z_iconst C dX11_back_49 ?_
      refine z_iadd C dX11_back_50 ?_
      refine z_iald C hK 0 (g := (u 20)) (i := ((36 * k) + 1)) 20 (WM_20 a c ((up u 0 (19) (u 20 (36 * k))))) rfl (by decide) (by omega) dX11_back_51 ?_
      refine z_as (b := u 20 ((36 * k) + 1)) rfl ?_
      refine z_iast C hK (hDD _) 0 (g := (up u 0 (19) (u 20 (36 * k))) 9) 9 (WM_9 a c ((up u 0 (19) (u 20 (36 * k))))) rfl (by decide) (by omega) (WM_9_set a c ((up u 0 (19) (u 20 (36 * k)))) 1 (u 20 ((36 * k) + 1))) dX11_back_52 ?_
      refine z_aload_n C 1 dX11_back_53 rfl ?_
      refine z_aload_n C 1 dX11_back_54 rfl ?_
      refine z_get C hK (v := .ref (a 20)) inX11_back_X11 0 (WM_0 a c ((up (up u 0 (19) (u 20 (36 * k))) 9 (1) (u 20 ((36 * k) + 1))))) rfl 35 (by decide) (List.mem_of_getElem? (i := 1) rfl) rfl dX11_back_55 ?_
      refine z_iload_n C 0 dX11_back_58 rfl ?_
      refine z_iconst C dX11_back_59 ?_
      refine z_iadd C dX11_back_60 ?_
      refine z_iald C hK 0 (g := (u 20)) (i := ((36 * k) + 2)) 20 (WM_20 a c ((up (up u 0 (19) (u 20 (36 * k))) 9 (1) (u 20 ((36 * k) + 1))))) rfl (by decide) (by omega) dX11_back_61 ?_
      refine z_as (b := u 20 ((36 * k) + 2)) rfl ?_
      refine z_put C hK (hDD _) inX11_back_X11 tyX11 tyX11_ok nmX11 0 (WM_0 a c ((up (up u 0 (19) (u 20 (36 * k))) 9 (1) (u 20 ((36 * k) + 1))))) rfl 20 (by decide) (List.mem_of_getElem? (i := 4) rfl) rfl rfl rfl (Nat.le_of_ble_eq_true rfl) (WM_0_p20 a c ((up (up u 0 (19) (u 20 (36 * k))) 9 (1) (u 20 ((36 * k) + 1)))) (u 20 ((36 * k) + 2))) dX11_back_62 ?_
      refine z_aload_n C 1 dX11_back_65 rfl ?_
      refine z_aload_n C 1 dX11_back_66 rfl ?_
      refine z_get C hK (v := .ref (a 20)) inX11_back_X11 0 (WM_0 a c ((up (up (up u 0 (19) (u 20 (36 * k))) 9 (1) (u 20 ((36 * k) + 1))) 0 (20) (u 20 ((36 * k) + 2))))) rfl 35 (by decide) (List.mem_of_getElem? (i := 1) rfl) rfl dX11_back_67 ?_
      refine z_iload_n C 0 dX11_back_70 rfl ?_
      refine z_iconst C dX11_back_71 ?_
      refine z_iadd C dX11_back_72 ?_
      refine z_iald C hK 0 (g := (u 20)) (i := ((36 * k) + 3)) 20 (WM_20 a c ((up (up (up u 0 (19) (u 20 (36 * k))) 9 (1) (u 20 ((36 * k) + 1))) 0 (20) (u 20 ((36 * k) + 2))))) rfl (by decide) (by omega) dX11_back_73 ?_
      refine z_as (b := u 20 ((36 * k) + 3)) rfl ?_
      refine z_put C hK (hDD _) inX11_back_X11 tyX11 tyX11_ok nmX11 0 (WM_0 a c ((up (up (up u 0 (19) (u 20 (36 * k))) 9 (1) (u 20 ((36 * k) + 1))) 0 (20) (u 20 ((36 * k) + 2))))) rfl 21 (by decide) (List.mem_of_getElem? (i := 5) rfl) rfl rfl rfl (Nat.le_of_ble_eq_true rfl) (WM_0_p21 a c ((up (up (up u 0 (19) (u 20 (36 * k))) 9 (1) (u 20 ((36 * k) + 1))) 0 (20) (u 20 ((36 * k) + 2)))) (u 20 ((36 * k) + 3))) dX11_back_74 ?_
      refine z_aload_n C 1 dX11_back_77 rfl ?_
      refine z_aload_n C 1 dX11_back_78 rfl ?_
      refine z_get C hK (v := .ref (a 20)) inX11_back_X11 0 (WM_0 a c ((up (up (up (up u 0 (19) (u 20 (36 * k))) 9 (1) (u 20 ((36 * k) + 1))) 0 (20) (u 20 ((36 * k) + 2))) 0 (21) (u 20 ((36 * k) + 3))))) rfl 35 (by decide) (List.mem_of_getElem? (i := 1) rfl) rfl dX11_back_79 ?_
      refine z_iload_n C 0 dX11_back_82 rfl ?_
      refine z_iconst C dX11_back_83 ?_
      refine z_iadd C dX11_back_84 ?_
      refine z_iald C hK 0 (g := (u 20)) (i := ((36 * k) + 4)) 20 (WM_20 a c ((up (up (up (up u 0 (19) (u 20 (36 * k))) 9 (1) (u 20 ((36 * k) + 1))) 0 (20) (u 20 ((36 * k) + 2))) 0 (21) (u 20 ((36 * k) + 3))))) rfl (by decide) (by omega) dX11_back_85 ?_
      refine z_as (b := u 20 ((36 * k) + 4)) rfl ?_
      refine z_put C hK (hDD _) inX11_back_X11 tyX11 tyX11_ok nmX11 0 (WM_0 a c ((up (up (up (up u 0 (19) (u 20 (36 * k))) 9 (1) (u 20 ((36 * k) + 1))) 0 (20) (u 20 ((36 * k) + 2))) 0 (21) (u 20 ((36 * k) + 3))))) rfl 31 (by decide) (List.mem_of_getElem? (i := 6) rfl) rfl rfl rfl (Nat.le_of_ble_eq_true rfl) (WM_0_p31 a c ((up (up (up (up u 0 (19) (u 20 (36 * k))) 9 (1) (u 20 ((36 * k) + 1))) 0 (20) (u 20 ((36 * k) + 2))) 0 (21) (u 20 ((36 * k) + 3)))) (u 20 ((36 * k) + 4))) dX11_back_86 ?_
      refine z_aload_n C 1 dX11_back_89 rfl ?_
      refine z_iload_n C 0 dX11_back_90 rfl ?_
      refine z_iconst C dX11_back_91 ?_
      refine z_iadd C dX11_back_92 ?_
      refine z_aload_n C 1 dX11_back_93 rfl ?_
      refine z_get C hK (v := .ref (a 5)) inX11_back_X11 0 (WM_0 a c ((up (up (up (up (up u 0 (19) (u 20 (36 * k))) 9 (1) (u 20 ((36 * k) + 1))) 0 (20) (u 20 ((36 * k) + 2))) 0 (21) (u 20 ((36 * k) + 3))) 0 (31) (u 20 ((36 * k) + 4))))) rfl 14 (by decide) (List.mem_of_getElem? (i := 7) rfl) rfl dX11_back_94 ?_
      refine z_bipush C dX11_back_97 (by decide) ?_
      refine z_callV C hK hDD (c_X11_gives_5 (zl x) (zG x) a c ((up (up (up (up (up u 0 (19) (u 20 (36 * k))) 9 (1) (u 20 ((36 * k) + 1))) 0 (20) (u 20 ((36 * k) + 2))) 0 (21) (u 20 ((36 * k) + 3))) 0 (31) (u 20 ((36 * k) + 4)))) ((36 * k) + 5) 8 (show 0 ≤ 8 ∧ 8 ≤ 8 by omega) (show 0 ≤ ((36 * k) + 5) ∧ ((36 * k) + 5) + 8 ≤ 72 by omega)) gX11_back_X11_gives rfl zy_X11_gives 0 (WM_0 a c ((up (up (up (up (up u 0 (19) (u 20 (36 * k))) 9 (1) (u 20 ((36 * k) + 1))) 0 (20) (u 20 ((36 * k) + 2))) 0 (21) (u 20 ((36 * k) + 3))) 0 (31) (u 20 ((36 * k) + 4))))) rfl ⟨by omega, by decide⟩ rfl (Nat.le_of_ble_eq_true rfl) (st := []) (stk2 := fun z6 => [.int (zI z6)]) rfl (fun _ => rfl) dX11_back_99 (fun z6 u7 h8 => ?_)
      rw [h8.1]; replace h8 := h8.2
      change Z x 0 0 (WM a c (us (up (up (up (up (up u 0 (19) (u 20 (36 * k))) 9 (1) (u 20 ((36 * k) + 1))) 0 (20) (u 20 ((36 * k) + 2))) 0 (21) (u 20 ((36 * k) + 3))) 0 (31) (u 20 ((36 * k) + 4))) 5 ((gv ((u 20)) 8 ((36 * k) + 5) ((u 5)))))) _ _ _
      refine z_as (b := ((36 * k) + 5) + 8) h8 ?_
      refine z_istore_n C [(2, .int (zI (((36 * k) + 5) + 8))), (0, .ref (a 0)), (1, .int (zI k))] dX11_back_102 rfl (by decide) rfl ?_
      refine z_aload_n C 1 dX11_back_103 rfl ?_
      refine z_iload_n C 0 dX11_back_104 rfl ?_
      refine z_aload_n C 1 dX11_back_105 rfl ?_
      refine z_get C hK (v := .ref (a 8)) inX11_back_X11 0 (WM_0 a c ((us (up (up (up (up (up u 0 (19) (u 20 (36 * k))) 9 (1) (u 20 ((36 * k) + 1))) 0 (20) (u 20 ((36 * k) + 2))) 0 (21) (u 20 ((36 * k) + 3))) 0 (31) (u 20 ((36 * k) + 4))) 5 ((gv ((u 20)) 8 ((36 * k) + 5) ((u 5))))))) rfl 17 (by decide) (List.mem_of_getElem? (i := 8) rfl) rfl dX11_back_106 ?_
      refine z_iconst C dX11_back_109 ?_
      refine z_callV C hK hDD (c_X11_gives_8 (zl x) (zG x) a c ((us (up (up (up (up (up u 0 (19) (u 20 (36 * k))) 9 (1) (u 20 ((36 * k) + 1))) 0 (20) (u 20 ((36 * k) + 2))) 0 (21) (u 20 ((36 * k) + 3))) 0 (31) (u 20 ((36 * k) + 4))) 5 ((gv ((u 20)) 8 ((36 * k) + 5) ((u 5)))))) (((36 * k) + 5) + 8) 3 (show 0 ≤ 3 ∧ 3 ≤ 3 by omega) (show 0 ≤ (((36 * k) + 5) + 8) ∧ (((36 * k) + 5) + 8) + 3 ≤ 72 by omega)) gX11_back_X11_gives rfl zy_X11_gives 0 (WM_0 a c ((us (up (up (up (up (up u 0 (19) (u 20 (36 * k))) 9 (1) (u 20 ((36 * k) + 1))) 0 (20) (u 20 ((36 * k) + 2))) 0 (21) (u 20 ((36 * k) + 3))) 0 (31) (u 20 ((36 * k) + 4))) 5 ((gv ((u 20)) 8 ((36 * k) + 5) ((u 5))))))) rfl ⟨by omega, by decide⟩ rfl (Nat.le_of_ble_eq_true rfl) (st := []) (stk2 := fun z9 => [.int (zI z9)]) rfl (fun _ => rfl) dX11_back_110 (fun z9 u10 h11 => ?_)
      rw [h11.1]; replace h11 := h11.2
      change Z x 0 0 (WM a c (us (us (up (up (up (up (up u 0 (19) (u 20 (36 * k))) 9 (1) (u 20 ((36 * k) + 1))) 0 (20) (u 20 ((36 * k) + 2))) 0 (21) (u 20 ((36 * k) + 3))) 0 (31) (u 20 ((36 * k) + 4))) 5 ((gv ((u 20)) 8 ((36 * k) + 5) ((u 5))))) 8 ((gv ((u 20)) 3 (((36 * k) + 5) + 8) ((u 8)))))) _ _ _
      refine z_as (b := (((36 * k) + 5) + 8) + 3) h11 ?_
      refine z_istore_n C [(2, .int (zI ((((36 * k) + 5) + 8) + 3))), (0, .ref (a 0)), (1, .int (zI k))] dX11_back_113 rfl (by decide) rfl ?_
      refine z_aload_n C 1 dX11_back_114 rfl ?_
      refine z_iload_n C 0 dX11_back_115 rfl ?_
      refine z_aload_n C 1 dX11_back_116 rfl ?_
      refine z_get C hK (v := .ref (a 10)) inX11_back_X11 0 (WM_0 a c ((us (us (up (up (up (up (up u 0 (19) (u 20 (36 * k))) 9 (1) (u 20 ((36 * k) + 1))) 0 (20) (u 20 ((36 * k) + 2))) 0 (21) (u 20 ((36 * k) + 3))) 0 (31) (u 20 ((36 * k) + 4))) 5 ((gv ((u 20)) 8 ((36 * k) + 5) ((u 5))))) 8 ((gv ((u 20)) 3 (((36 * k) + 5) + 8) ((u 8))))))) rfl 22 (by decide) (List.mem_of_getElem? (i := 9) rfl) rfl dX11_back_117 ?_
      refine z_bipush C dX11_back_120 (by decide) ?_
      refine z_callV C hK hDD (c_X11_gives_10 (zl x) (zG x) a c ((us (us (up (up (up (up (up u 0 (19) (u 20 (36 * k))) 9 (1) (u 20 ((36 * k) + 1))) 0 (20) (u 20 ((36 * k) + 2))) 0 (21) (u 20 ((36 * k) + 3))) 0 (31) (u 20 ((36 * k) + 4))) 5 ((gv ((u 20)) 8 ((36 * k) + 5) ((u 5))))) 8 ((gv ((u 20)) 3 (((36 * k) + 5) + 8) ((u 8)))))) ((((36 * k) + 5) + 8) + 3) 6 (show 0 ≤ 6 ∧ 6 ≤ 6 by omega) (show 0 ≤ ((((36 * k) + 5) + 8) + 3) ∧ ((((36 * k) + 5) + 8) + 3) + 6 ≤ 72 by omega)) gX11_back_X11_gives rfl zy_X11_gives 0 (WM_0 a c ((us (us (up (up (up (up (up u 0 (19) (u 20 (36 * k))) 9 (1) (u 20 ((36 * k) + 1))) 0 (20) (u 20 ((36 * k) + 2))) 0 (21) (u 20 ((36 * k) + 3))) 0 (31) (u 20 ((36 * k) + 4))) 5 ((gv ((u 20)) 8 ((36 * k) + 5) ((u 5))))) 8 ((gv ((u 20)) 3 (((36 * k) + 5) + 8) ((u 8))))))) rfl ⟨by omega, by decide⟩ rfl (Nat.le_of_ble_eq_true rfl) (st := []) (stk2 := fun z12 => [.int (zI z12)]) rfl (fun _ => rfl) dX11_back_122 (fun z12 u13 h14 => ?_)
      rw [h14.1]; replace h14 := h14.2
      change Z x 0 0 (WM a c (us (us (us (up (up (up (up (up u 0 (19) (u 20 (36 * k))) 9 (1) (u 20 ((36 * k) + 1))) 0 (20) (u 20 ((36 * k) + 2))) 0 (21) (u 20 ((36 * k) + 3))) 0 (31) (u 20 ((36 * k) + 4))) 5 ((gv ((u 20)) 8 ((36 * k) + 5) ((u 5))))) 8 ((gv ((u 20)) 3 (((36 * k) + 5) + 8) ((u 8))))) 10 ((gv ((u 20)) 6 ((((36 * k) + 5) + 8) + 3) ((u 10)))))) _ _ _
      refine z_as (b := ((((36 * k) + 5) + 8) + 3) + 6) h14 ?_
      refine z_istore_n C [(2, .int (zI (((((36 * k) + 5) + 8) + 3) + 6))), (0, .ref (a 0)), (1, .int (zI k))] dX11_back_125 rfl (by decide) rfl ?_
      refine z_aload_n C 1 dX11_back_126 rfl ?_
      refine z_iload_n C 0 dX11_back_127 rfl ?_
      refine z_aload_n C 1 dX11_back_128 rfl ?_
      refine z_get C hK (v := .ref (a 11)) inX11_back_X11 0 (WM_0 a c ((us (us (us (up (up (up (up (up u 0 (19) (u 20 (36 * k))) 9 (1) (u 20 ((36 * k) + 1))) 0 (20) (u 20 ((36 * k) + 2))) 0 (21) (u 20 ((36 * k) + 3))) 0 (31) (u 20 ((36 * k) + 4))) 5 ((gv ((u 20)) 8 ((36 * k) + 5) ((u 5))))) 8 ((gv ((u 20)) 3 (((36 * k) + 5) + 8) ((u 8))))) 10 ((gv ((u 20)) 6 ((((36 * k) + 5) + 8) + 3) ((u 10))))))) rfl 23 (by decide) (List.mem_of_getElem? (i := 10) rfl) rfl dX11_back_129 ?_
      refine z_bipush C dX11_back_132 (by decide) ?_
      refine z_callV C hK hDD (c_X11_gives_11 (zl x) (zG x) a c ((us (us (us (up (up (up (up (up u 0 (19) (u 20 (36 * k))) 9 (1) (u 20 ((36 * k) + 1))) 0 (20) (u 20 ((36 * k) + 2))) 0 (21) (u 20 ((36 * k) + 3))) 0 (31) (u 20 ((36 * k) + 4))) 5 ((gv ((u 20)) 8 ((36 * k) + 5) ((u 5))))) 8 ((gv ((u 20)) 3 (((36 * k) + 5) + 8) ((u 8))))) 10 ((gv ((u 20)) 6 ((((36 * k) + 5) + 8) + 3) ((u 10)))))) (((((36 * k) + 5) + 8) + 3) + 6) 6 (show 0 ≤ 6 ∧ 6 ≤ 6 by omega) (show 0 ≤ (((((36 * k) + 5) + 8) + 3) + 6) ∧ (((((36 * k) + 5) + 8) + 3) + 6) + 6 ≤ 72 by omega)) gX11_back_X11_gives rfl zy_X11_gives 0 (WM_0 a c ((us (us (us (up (up (up (up (up u 0 (19) (u 20 (36 * k))) 9 (1) (u 20 ((36 * k) + 1))) 0 (20) (u 20 ((36 * k) + 2))) 0 (21) (u 20 ((36 * k) + 3))) 0 (31) (u 20 ((36 * k) + 4))) 5 ((gv ((u 20)) 8 ((36 * k) + 5) ((u 5))))) 8 ((gv ((u 20)) 3 (((36 * k) + 5) + 8) ((u 8))))) 10 ((gv ((u 20)) 6 ((((36 * k) + 5) + 8) + 3) ((u 10))))))) rfl ⟨by omega, by decide⟩ rfl (Nat.le_of_ble_eq_true rfl) (st := []) (stk2 := fun z15 => [.int (zI z15)]) rfl (fun _ => rfl) dX11_back_134 (fun z15 u16 h17 => ?_)
      rw [h17.1]; replace h17 := h17.2
      change Z x 0 0 (WM a c (us (us (us (us (up (up (up (up (up u 0 (19) (u 20 (36 * k))) 9 (1) (u 20 ((36 * k) + 1))) 0 (20) (u 20 ((36 * k) + 2))) 0 (21) (u 20 ((36 * k) + 3))) 0 (31) (u 20 ((36 * k) + 4))) 5 ((gv ((u 20)) 8 ((36 * k) + 5) ((u 5))))) 8 ((gv ((u 20)) 3 (((36 * k) + 5) + 8) ((u 8))))) 10 ((gv ((u 20)) 6 ((((36 * k) + 5) + 8) + 3) ((u 10))))) 11 ((gv ((u 20)) 6 (((((36 * k) + 5) + 8) + 3) + 6) ((u 11)))))) _ _ _
      refine z_as (b := (((((36 * k) + 5) + 8) + 3) + 6) + 6) h17 ?_
      refine z_istore_n C [(2, .int (zI ((((((36 * k) + 5) + 8) + 3) + 6) + 6))), (0, .ref (a 0)), (1, .int (zI k))] dX11_back_137 rfl (by decide) rfl ?_
      refine z_aload_n C 1 dX11_back_138 rfl ?_
      refine z_iload_n C 0 dX11_back_139 rfl ?_
      refine z_aload_n C 1 dX11_back_140 rfl ?_
      refine z_get C hK (v := .ref (a 18)) inX11_back_X11 0 (WM_0 a c ((us (us (us (us (up (up (up (up (up u 0 (19) (u 20 (36 * k))) 9 (1) (u 20 ((36 * k) + 1))) 0 (20) (u 20 ((36 * k) + 2))) 0 (21) (u 20 ((36 * k) + 3))) 0 (31) (u 20 ((36 * k) + 4))) 5 ((gv ((u 20)) 8 ((36 * k) + 5) ((u 5))))) 8 ((gv ((u 20)) 3 (((36 * k) + 5) + 8) ((u 8))))) 10 ((gv ((u 20)) 6 ((((36 * k) + 5) + 8) + 3) ((u 10))))) 11 ((gv ((u 20)) 6 (((((36 * k) + 5) + 8) + 3) + 6) ((u 11))))))) rfl 32 (by decide) (List.mem_of_getElem? (i := 11) rfl) rfl dX11_back_141 ?_
      refine z_bipush C dX11_back_144 (by decide) ?_
      refine z_callV C hK hDD (c_X11_gives_18 (zl x) (zG x) a c ((us (us (us (us (up (up (up (up (up u 0 (19) (u 20 (36 * k))) 9 (1) (u 20 ((36 * k) + 1))) 0 (20) (u 20 ((36 * k) + 2))) 0 (21) (u 20 ((36 * k) + 3))) 0 (31) (u 20 ((36 * k) + 4))) 5 ((gv ((u 20)) 8 ((36 * k) + 5) ((u 5))))) 8 ((gv ((u 20)) 3 (((36 * k) + 5) + 8) ((u 8))))) 10 ((gv ((u 20)) 6 ((((36 * k) + 5) + 8) + 3) ((u 10))))) 11 ((gv ((u 20)) 6 (((((36 * k) + 5) + 8) + 3) + 6) ((u 11)))))) ((((((36 * k) + 5) + 8) + 3) + 6) + 6) 8 (show 0 ≤ 8 ∧ 8 ≤ 8 by omega) (show 0 ≤ ((((((36 * k) + 5) + 8) + 3) + 6) + 6) ∧ ((((((36 * k) + 5) + 8) + 3) + 6) + 6) + 8 ≤ 72 by omega)) gX11_back_X11_gives rfl zy_X11_gives 0 (WM_0 a c ((us (us (us (us (up (up (up (up (up u 0 (19) (u 20 (36 * k))) 9 (1) (u 20 ((36 * k) + 1))) 0 (20) (u 20 ((36 * k) + 2))) 0 (21) (u 20 ((36 * k) + 3))) 0 (31) (u 20 ((36 * k) + 4))) 5 ((gv ((u 20)) 8 ((36 * k) + 5) ((u 5))))) 8 ((gv ((u 20)) 3 (((36 * k) + 5) + 8) ((u 8))))) 10 ((gv ((u 20)) 6 ((((36 * k) + 5) + 8) + 3) ((u 10))))) 11 ((gv ((u 20)) 6 (((((36 * k) + 5) + 8) + 3) + 6) ((u 11))))))) rfl ⟨by omega, by decide⟩ rfl (Nat.le_of_ble_eq_true rfl) (st := []) (stk2 := fun z18 => [.int (zI z18)]) rfl (fun _ => rfl) dX11_back_146 (fun z18 u19 h20 => ?_)
      rw [h20.1]; replace h20 := h20.2
      change Z x 0 0 (WM a c (us (us (us (us (us (up (up (up (up (up u 0 (19) (u 20 (36 * k))) 9 (1) (u 20 ((36 * k) + 1))) 0 (20) (u 20 ((36 * k) + 2))) 0 (21) (u 20 ((36 * k) + 3))) 0 (31) (u 20 ((36 * k) + 4))) 5 ((gv ((u 20)) 8 ((36 * k) + 5) ((u 5))))) 8 ((gv ((u 20)) 3 (((36 * k) + 5) + 8) ((u 8))))) 10 ((gv ((u 20)) 6 ((((36 * k) + 5) + 8) + 3) ((u 10))))) 11 ((gv ((u 20)) 6 (((((36 * k) + 5) + 8) + 3) + 6) ((u 11))))) 18 ((gv ((u 20)) 8 ((((((36 * k) + 5) + 8) + 3) + 6) + 6) ((u 18)))))) _ _ _
      refine z_as (b := ((((((36 * k) + 5) + 8) + 3) + 6) + 6) + 8) h20 ?_
      refine z_pop C dX11_back_149 rfl ?_
      refine z_aload_n C 1 dX11_back_150 rfl ?_
      refine z_get C hK (v := .int (zI (u 20 (36 * k)))) inX11_back_X11 0 (WM_0 a c ((us (us (us (us (us (up (up (up (up (up u 0 (19) (u 20 (36 * k))) 9 (1) (u 20 ((36 * k) + 1))) 0 (20) (u 20 ((36 * k) + 2))) 0 (21) (u 20 ((36 * k) + 3))) 0 (31) (u 20 ((36 * k) + 4))) 5 ((gv ((u 20)) 8 ((36 * k) + 5) ((u 5))))) 8 ((gv ((u 20)) 3 (((36 * k) + 5) + 8) ((u 8))))) 10 ((gv ((u 20)) 6 ((((36 * k) + 5) + 8) + 3) ((u 10))))) 11 ((gv ((u 20)) 6 (((((36 * k) + 5) + 8) + 3) + 6) ((u 11))))) 18 ((gv ((u 20)) 8 ((((((36 * k) + 5) + 8) + 3) + 6) + 6) ((u 18))))))) rfl 19 (by decide) (List.mem_of_getElem? (i := 2) rfl) rfl dX11_back_151 ?_
      exact kret (u 20 (36 * k)) ((us (us (us (us (us (up (up (up (up (up u 0 (19) (u 20 (36 * k))) 9 (1) (u 20 ((36 * k) + 1))) 0 (20) (u 20 ((36 * k) + 2))) 0 (21) (u 20 ((36 * k) + 3))) 0 (31) (u 20 ((36 * k) + 4))) 5 ((gv ((u 20)) 8 ((36 * k) + 5) ((u 5))))) 8 ((gv ((u 20)) 3 (((36 * k) + 5) + 8) ((u 8))))) 10 ((gv ((u 20)) 6 ((((36 * k) + 5) + 8) + 3) ((u 10))))) 11 ((gv ((u 20)) 6 (((((36 * k) + 5) + 8) + 3) + 6) ((u 11))))) 18 ((gv ((u 20)) 8 ((((((36 * k) + 5) + 8) + 3) + 6) + 6) ((u 18)))))) _ _ (Or.inr (Or.inr ⟨by omega, by omega, by omega, rfl, rfl⟩)) dX11_back_154
    · skip
      refine z_bipush C dX11_back_26 (by decide) ?_
      exact kret (-2) u _ _ (Or.inr (Or.inl ⟨by omega, by omega, by omega, rfl, rfl⟩)) dX11_back_28
  · skip
    refine z_iconst C dX11_back_10 ?_
    exact kret (-1) u _ _ (Or.inl ⟨by omega, rfl, rfl⟩) dX11_back_11
