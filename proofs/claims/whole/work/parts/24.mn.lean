/-! ===== contracts: the reference, men ===== -/
theorem gs_B {s2 t3 : Int → Int} {i : Int} (h : B01 t3) (hs : ∀ j : Int, 0 ≤ j → j < i → s2 j = t3 j) (hi : i = 20000) : B01 s2 := fun j h0 h1 => by rw [hs j h0 (by omega)]; exact h j h0 h1
theorem gs_A {mi : Int → Int} {pc n k i : Int} {E : Int → Bool} {X : Int → Nat → Bool} {s2 t3 : Int → Int} {r : Nat} {S : Prop} (h : Alv mi pc n E X t3 k r ↔ S) (hs : ∀ j : Int, 0 ≤ j → j < i → s2 j = t3 j) (hi : i = 20000) : Alv mi pc n E X s2 k r ↔ S := (Alv_congr (fun j h0 h1 => hs j h0 (by omega))).trans h
theorem gs_echo {mi : Int → Int} {pc n k b : Int} {E : Int → Bool} {X : Int → Nat → Bool} {s : Int → Int} {S : Prop} (hE0 : E 0 = false) (hs : (k = 0 ∧ b = -1) ∨ (0 < k ∧ (0 ≤ b ∧ b < k) ∧ B01 s ∧ (Alv mi pc n E X s b (n - k).toNat ↔ S))) (he : E k = true) (hk : k < n) : (k + 1 = 0 ∧ b = -1) ∨ (0 < k + 1 ∧ (0 ≤ b ∧ b < k + 1) ∧ B01 s ∧ (Alv mi pc n E X s b (n - (k + 1)).toNat ↔ S)) := by
  rcases hs with ⟨h, _⟩ | ⟨h0, h1, h2, h3⟩
  · rw [h, hE0] at he; cases he
  · refine Or.inr ⟨by omega, by omega, h2, ?_⟩
    rw [← h3, show (n - k).toNat = (n - (k + 1)).toNat + 1 by omega]
    exact (Alv_echo (by rw [show n - 1 - (((n - (k + 1)).toNat : Nat) : Int) = k by omega]; exact he)).symm
theorem gs_B0 {k b n : Int} {s : Int → Int} {P : Prop} (hs : (k = 0 ∧ b = -1) ∨ (0 < k ∧ (0 ≤ b ∧ b < k) ∧ B01 s ∧ P)) (hk : k ≥ n ∧ 1 ≤ n) : B01 s := hs.elim (fun q => absurd q.1 (by omega)) (fun q => q.2.2.1)
theorem gs_B1 {k b : Int} {s : Int → Int} {P : Prop} (hs : (k = 0 ∧ b = -1) ∨ (0 < k ∧ (0 ≤ b ∧ b < k) ∧ B01 s ∧ P)) (hb : 0 ≤ b) : B01 s := hs.elim (fun q => absurd q.2 (by omega)) (fun q => q.2.2.1)
theorem gs_A1 {k b : Int} {s : Int → Int} {P : Prop} (hs : (k = 0 ∧ b = -1) ∨ (0 < k ∧ (0 ≤ b ∧ b < k) ∧ B01 s ∧ P)) (hb : 0 ≤ b) : P := hs.elim (fun q => absurd q.2 (by omega)) (fun q => q.2.2.2)
theorem gs_A0 {mi : Int → Int} {pc n k b : Int} {E : Int → Bool} {X : Int → Nat → Bool} {s : Int → Int} {S : Prop} (hs : (k = 0 ∧ b = -1) ∨ (0 < k ∧ (0 ≤ b ∧ b < k) ∧ B01 s ∧ (Alv mi pc n E X s b (n - k).toNat ↔ S))) (hk : n ≤ k ∧ k ≤ n) (hn : 1 ≤ n) : Alv mi pc n E X s b 0 ↔ S := by
  have h := hs.elim (fun q => absurd q.1 (by omega)) (fun q => q.2.2.2)
  rw [show (n - k).toNat = 0 by omega] at h
  exact h
theorem B01_z {t2 : Int → Int} {i : Int} (h : ∀ j : Int, 0 ≤ j → j < i → t2 j = 0) (hi : i = 20000) : B01 t2 := fun j h0 h1 => Or.inl (h j h0 (by omega))
theorem goes_b2 {mi : Int → Int} {pc n lim k : Int} {E : Int → Bool} {X : Int → Nat → Bool} {t2 t3 : Int → Int} (hk : k = 0) (hn : 1 ≤ n) (hE : E 0 = false) (hz : ∀ j : Int, 0 ≤ j → j < 20000 → t2 j = 0) (h : Alv mi pc n E X t3 k (n - (k + 1)).toNat ↔ Alv mi pc n E X t2 k (n - (k + 1)).toNat ∨ ∃ q : Nat, q < 8 ∧ X k q = true ∧ CanK mi pc n E X (n - (k + 1)).toNat (6 * (q : Int) + k) (if 1 < lim then 48 else 49) (if 2 < lim then 48 else 49)) : Alv mi pc n E X t3 k (n - (k + 1)).toNat ↔ St mi pc n E X lim := by
  subst hk
  exact goes_b hn hE hz h (by omega)
theorem lk_self (u : zU) : u = up (us (us u 16 (u 16)) 17 (u 17)) 0 28 (u 0 28) := by
  rw [us_self u 16, us_self u 17, up_self]

theorem zy_X11_state : zY yX11_state 3 := ⟨by decide +kernel, by decide +kernel, by decide +kernel⟩
theorem zy_X11_moves : zY yX11_moves 6 := ⟨by decide +kernel, by decide +kernel, by decide +kernel⟩
theorem zy_X11_begins : zY yX11_begins 2 := ⟨by decide +kernel, by decide +kernel, by decide +kernel⟩
theorem zy_X11_goesOn : zY yX11_goesOn 2 := ⟨by decide +kernel, by decide +kernel, by decide +kernel⟩
theorem zy_X11_goes : zY yX11_goes 1 := ⟨by decide +kernel, by decide +kernel, by decide +kernel⟩
theorem zy_X11_looks : zY yX11_looks 0 := ⟨by decide +kernel, by decide +kernel, by decide +kernel⟩
-- NoteBellsModel.state
set_option maxHeartbeats 8000000 in
set_option maxRecDepth 100000 in
theorem c_X11_state (l : Launch) (D : va_G) {tys : List (ClassId × FieldType)} {S : Type} (WW : S → va_W) (hWW : ∀ u u' : S, (WW u).map (fun q => q.1) = (WW u').map (fun q => q.1)) (u : S) (q c1 c2 : Int) (b_q : 0 ≤ q ∧ q < 8) (b_1 : 0 ≤ c1 ∧ c1 < 50) (b_2 : 0 ≤ c2 ∧ c2 < 50) : ZM l D tys WW yX11_state wsX11_state 1 [.int (zI q), .int (zI c1), .int (zI c2)] u rI (fun z u' => u' = u ∧ z = stt q c1 c2) := by
  refine ZM.ofI (cc := cX11_state) (maxL := 3) [(0, .int (zI q)), (1, .int (zI c1)), (2, .int (zI c2))] rfl (by decide +kernel) rfl (Nat.le_of_ble_eq_true rfl) hWW ?_
  intro x C hK _ _ hDD kret
  refine z_sipush C dX11_state_0 (by decide) ?_
  refine z_iload_n C 0 dX11_state_3 rfl ?_
  refine z_imul C dX11_state_4 ?_
  refine z_bipush C dX11_state_5 (by decide) ?_
  refine z_iload_n C 1 dX11_state_7 rfl ?_
  refine z_iload_n C 2 dX11_state_8 rfl ?_
  refine z_icmp_ge C 16 dX11_state_9 (by decide) (by omega) (fun h1 => ?_) (fun h1 => ?_)
  · skip
    refine z_iload_n C 2 dX11_state_16 rfl ?_
    refine z_imul C dX11_state_17 ?_
    refine z_iadd C dX11_state_18 ?_
    refine z_iload_n C 1 dX11_state_19 rfl ?_
    refine z_iload_n C 2 dX11_state_20 rfl ?_
    refine z_icmp_ge C 28 dX11_state_21 (by decide) (by omega) (fun h2 => ?_) (fun h2 => ?_)
    · skip
      refine z_iload_n C 1 dX11_state_28 rfl ?_
      refine z_iadd C dX11_state_29 ?_
      exact kret (((2500 * q) + (50 * c2)) + c1) u _ _ (⟨rfl, by first | (exfalso; omega) | (unfold stt; rw [if_pos (by omega), if_pos (by omega)]) | (unfold stt; rw [if_neg (by omega), if_neg (by omega)])⟩) dX11_state_30
    · skip
      refine z_iload_n C 2 dX11_state_24 rfl ?_
      refine z_goto C 29 dX11_state_25 (by decide) ?_
      refine z_iadd C dX11_state_29 ?_
      exact kret (((2500 * q) + (50 * c2)) + c2) u _ _ (⟨rfl, by first | (exfalso; omega) | (unfold stt; rw [if_pos (by omega), if_pos (by omega)]) | (unfold stt; rw [if_neg (by omega), if_neg (by omega)])⟩) dX11_state_30
  · skip
    refine z_iload_n C 1 dX11_state_12 rfl ?_
    refine z_goto C 17 dX11_state_13 (by decide) ?_
    refine z_imul C dX11_state_17 ?_
    refine z_iadd C dX11_state_18 ?_
    refine z_iload_n C 1 dX11_state_19 rfl ?_
    refine z_iload_n C 2 dX11_state_20 rfl ?_
    refine z_icmp_ge C 28 dX11_state_21 (by decide) (by omega) (fun h3 => ?_) (fun h3 => ?_)
    · skip
      refine z_iload_n C 1 dX11_state_28 rfl ?_
      refine z_iadd C dX11_state_29 ?_
      exact kret (((2500 * q) + (50 * c1)) + c1) u _ _ (⟨rfl, by first | (exfalso; omega) | (unfold stt; rw [if_pos (by omega), if_pos (by omega)]) | (unfold stt; rw [if_neg (by omega), if_neg (by omega)])⟩) dX11_state_30
    · skip
      refine z_iload_n C 2 dX11_state_24 rfl ?_
      refine z_goto C 29 dX11_state_25 (by decide) ?_
      refine z_iadd C dX11_state_29 ?_
      exact kret (((2500 * q) + (50 * c1)) + c2) u _ _ (⟨rfl, by first | (exfalso; omega) | (unfold stt; rw [if_pos (by omega), if_pos (by omega)]) | (unfold stt; rw [if_neg (by omega), if_neg (by omega)])⟩) dX11_state_30
-- NoteBellsModel.moves
theorem inX11_moves_X11 : ∀ w ∈ wsX110, w ∈ wsX11_moves := fun w h => List.mem_cons_of_mem _ (List.mem_append_right _ (h))
set_option maxHeartbeats 8000000 in
set_option maxRecDepth 100000 in
theorem c_X11_moves (l : Launch) (D : va_G) (a : Nat → Nat) (c : Nat → ClassId) (u : zU) (b k o c1 c2 q : Int) (E : Int → Bool) (X : Int → Nat → Bool) (r : Nat) (hI : IM u) (b_b : 0 ≤ b ∧ b < 6) (b_k : 0 ≤ k ∧ k < 6) (b_o : 0 ≤ o ∧ o < 8) (b_1 : 0 ≤ c1 ∧ c1 < 50) (b_2 : 0 ≤ c2 ∧ c2 < 50) (b_q : 0 ≤ q ∧ q < 8) (hB1 : B01 (u 17)) : ZM l D (zTy c) (WM a c) yX11_moves wsX11_moves 3 [.ref (a 0), .int (zI b), .int (zI k), .int (zI o), .int (zI c1), .int (zI c2), .int (zI q)] u rV (fun z u' => ∃ t : Int → Int, u' = us (u) 17 t ∧ B01 t ∧ (Alv (u 10) (u 9 2) (u 0 21) E X t k r ↔ Alv (u 10) (u 9 2) (u 0 21) E X (u 17) k r ∨ Mvs (u 10) (u 9 2) (u 0 21) E X r k (6 * o + b) c1 c2 q)) := by
  refine ZM.ofV (cc := cX11_moves) (maxL := 8) [(0, .ref (a 0)), (1, .int (zI b)), (2, .int (zI k)), (3, .int (zI o)), (4, .int (zI c1)), (5, .int (zI c2)), (6, .int (zI q))] rfl (by decide +kernel) rfl (Nat.le_of_ble_eq_true rfl) (WM_addr a c) ?_
  intro x C hK _ _ hDD kret
  refine z_bipush C dX11_moves_0 (by decide) ?_
  refine z_iload_n C 3 dX11_moves_2 rfl ?_
  refine z_imul C dX11_moves_3 ?_
  refine z_iload_n C 1 dX11_moves_4 rfl ?_
  refine z_iadd C dX11_moves_5 ?_
  refine z_istore C [(7, .int (zI ((6 * o) + b))), (0, .ref (a 0)), (1, .int (zI b)), (2, .int (zI k)), (3, .int (zI o)), (4, .int (zI c1)), (5, .int (zI c2)), (6, .int (zI q))] dX11_moves_6 (by decide) rfl ?_
  refine z_aload_n C 1 dX11_moves_8 rfl ?_
  refine z_iload_n C 2 dX11_moves_9 rfl ?_
  refine z_iload_n C 3 dX11_moves_10 rfl ?_
  refine z_iload_n C 4 dX11_moves_11 rfl ?_
  refine z_iload C 7 dX11_moves_12 rfl ?_
  refine z_callV C hK hDD (c_X11_mayGo (zl x) (zG x) a c u b k o q (hI) (by omega) (by omega) (by omega) (by omega)) gX11_moves_X11_mayGo rfl zy_X11_mayGo 0 (WM_0 a c u) rfl ⟨by omega, by decide⟩ rfl (Nat.le_of_ble_eq_true rfl) (st := []) (stk2 := fun z1 => [.int (zI z1)]) rfl (fun _ => rfl) dX11_moves_14 (fun z1 u2 h3 => ?_)
  rw [h3.1]; replace h3 := h3.2
  have KM := h3
  refine z_if_eq C 35 dX11_moves_17 (by decide) (by omega) (fun h4 => ?_) (fun h4 => ?_)
  · have hk0n : ¬ okc (u 10) (u 9 2) (6 * o + b) k q := fun h => KM.elim (fun g => absurd g.1 (by omega)) (fun g => g.2 ((okc_me b_o b_b).1 h))
    have L35_5 : ∀ (t1 : Int → Int), (B01 t1) → (Alv (u 10) (u 9 2) (u 0 21) E X t1 k r ↔ Alv (u 10) (u 9 2) (u 0 21) E X (u 17) k r ∨ (okc (u 10) (u 9 2) (6 * o + b) k q ∧ CanK (u 10) (u 9 2) (u 0 21) E X r (6 * q + k) c1 c2)) → Z x 0 0 (WM a c (us u 17 (t1))) [(0, .ref (a 0)), (1, .int (zI b)), (2, .int (zI k)), (3, .int (zI o)), (4, .int (zI c1)), (5, .int (zI c2)), (6, .int (zI q)), (7, .int (zI (6 * o + b)))] 35 [] := by
      intro t1 hB2 h1
      refine z_iload C 4 dX11_moves_35 rfl ?_
      refine z_bipush C dX11_moves_37 (by decide) ?_
      refine z_icmp_eq C 69 dX11_moves_39 (by decide) (by omega) (fun h6 => ?_) (fun h6 => ?_)
      · have hk1 : okc (u 10) (u 9 2) c1 k q := Or.inl h6
        refine z_aload_n C 0 dX11_moves_69 rfl ?_
        refine z_get C hK (v := .ref (a 17)) inX11_moves_X11 0 (WM_0 a c ((us u 17 (t1)))) rfl 30 (by decide) (List.mem_of_getElem? (i := 1) rfl) rfl dX11_moves_70 ?_
        refine z_iload C 6 dX11_moves_73 rfl ?_
        refine z_iload C 7 dX11_moves_75 rfl ?_
        refine z_iload C 5 dX11_moves_77 rfl ?_
        refine z_callS C hK hDD (c_X11_state (zl x) (zG x) ((WM a c)) (WM_addr a c) ((us u 17 (t1))) q (6 * o + b) c2 (by omega) (by omega) (by omega)) gX11_moves_X11_state rfl rfl zy_X11_state ⟨by omega, by decide⟩ rfl (Nat.le_of_ble_eq_true rfl) (st := [.ref (a 17)]) (stk2 := fun z7 => [.int (zI z7), .ref (a 17)]) rfl (fun _ => rfl) dX11_moves_79 (fun z7 u8 h9 => ?_)
        rw [h9.1]; replace h9 := h9.2
        refine z_as (b := stt q (6 * o + b) c2) h9 ?_
        refine z_iconst C dX11_moves_82 ?_
        refine z_zast C hK (hDD _) 1 (g := (us u 17 (t1)) 17) 17 (WM_17 a c ((us u 17 (t1)))) rfl (by decide) (by omega) (by have := stt_bd b_q (x := 6 * o + b) (y := c2) (by omega) (by omega); omega) (WM_17_set a c ((us u 17 (t1))) (stt q (6 * o + b) c2) 1) dX11_moves_83 ?_
        have L84_10 : ∀ (t2 : Int → Int), (B01 t2) → (Alv (u 10) (u 9 2) (u 0 21) E X t2 k r ↔ Alv (u 10) (u 9 2) (u 0 21) E X t1 k r ∨ (okc (u 10) (u 9 2) c1 k q ∧ CanK (u 10) (u 9 2) (u 0 21) E X r (6 * q + k) (6 * o + b) c2)) → Z x 0 0 (WM a c (us u 17 (t2))) [(0, .ref (a 0)), (1, .int (zI b)), (2, .int (zI k)), (3, .int (zI o)), (4, .int (zI c1)), (5, .int (zI c2)), (6, .int (zI q)), (7, .int (zI (6 * o + b)))] 84 [] := by
          intro t2 hB3 h2
          refine z_iload C 5 dX11_moves_84 rfl ?_
          refine z_bipush C dX11_moves_86 (by decide) ?_
          refine z_icmp_eq C 118 dX11_moves_88 (by decide) (by omega) (fun h11 => ?_) (fun h11 => ?_)
          · have hk2 : okc (u 10) (u 9 2) c2 k q := Or.inl h11
            refine z_aload_n C 0 dX11_moves_118 rfl ?_
            refine z_get C hK (v := .ref (a 17)) inX11_moves_X11 0 (WM_0 a c ((us u 17 (t2)))) rfl 30 (by decide) (List.mem_of_getElem? (i := 1) rfl) rfl dX11_moves_119 ?_
            refine z_iload C 6 dX11_moves_122 rfl ?_
            refine z_iload C 4 dX11_moves_124 rfl ?_
            refine z_iload C 7 dX11_moves_126 rfl ?_
            refine z_callS C hK hDD (c_X11_state (zl x) (zG x) ((WM a c)) (WM_addr a c) ((us u 17 (t2))) q c1 (6 * o + b) (by omega) (by omega) (by omega)) gX11_moves_X11_state rfl rfl zy_X11_state ⟨by omega, by decide⟩ rfl (Nat.le_of_ble_eq_true rfl) (st := [.ref (a 17)]) (stk2 := fun z12 => [.int (zI z12), .ref (a 17)]) rfl (fun _ => rfl) dX11_moves_128 (fun z12 u13 h14 => ?_)
            rw [h14.1]; replace h14 := h14.2
            refine z_as (b := stt q c1 (6 * o + b)) h14 ?_
            refine z_iconst C dX11_moves_131 ?_
            refine z_zast C hK (hDD _) 1 (g := (us u 17 (t2)) 17) 17 (WM_17 a c ((us u 17 (t2)))) rfl (by decide) (by omega) (by have := stt_bd b_q (x := c1) (y := 6 * o + b) (by omega) (by omega); omega) (WM_17_set a c ((us u 17 (t2))) (stt q c1 (6 * o + b)) 1) dX11_moves_132 ?_
            exact kret 0 (us u 17 (fun j => if j = stt q c1 (6 * o + b) then 1 else t2 j)) _ _ (by first | exact ⟨_, rfl, hB3, mv_all h1 h2 (or_no hk2n)⟩ | exact ⟨_, rfl, B01_put hB3, mv_all h1 h2 (or_yes hk2 (Alv_put b_q (by omega) (by omega)))⟩) dX11_moves_133
          · skip
            refine z_iload C 5 dX11_moves_91 rfl ?_
            refine z_bipush C dX11_moves_93 (by decide) ?_
            refine z_icmp_ge C 133 dX11_moves_95 (by decide) (by omega) (fun h15 => ?_) (fun h15 => ?_)
            · have hk2n : ¬ okc (u 10) (u 9 2) c2 k q := okc_no (by omega) h15
              exact kret 0 (us u 17 t2) _ _ (by first | exact ⟨_, rfl, hB3, mv_all h1 h2 (or_no hk2n)⟩ | exact ⟨_, rfl, B01_put hB3, mv_all h1 h2 (or_yes hk2 (Alv_put b_q (by omega) (by omega)))⟩) dX11_moves_133
            · skip
              refine z_aload_n C 0 dX11_moves_98 rfl ?_
              refine z_iload C 5 dX11_moves_99 rfl ?_
              refine z_bipush C dX11_moves_101 (by decide) ?_
              refine z_irem C dX11_moves_103 (by omega) ?_
              refine z_as (b := c2 % 6) (Int.tmod_eq_emod_of_nonneg (by omega)) ?_
              refine z_iload_n C 2 dX11_moves_104 rfl ?_
              refine z_iload C 5 dX11_moves_105 rfl ?_
              refine z_bipush C dX11_moves_107 (by decide) ?_
              refine z_idiv C dX11_moves_109 (by omega) ?_
              refine z_as (b := c2 / 6) (Int.tdiv_eq_ediv_of_nonneg (by omega)) ?_
              refine z_iload C 6 dX11_moves_110 rfl ?_
              refine z_callV C hK hDD (c_X11_mayGo (zl x) (zG x) a c ((us u 17 (t2))) (c2 % 6) k (c2 / 6) q (hI) (show 0 ≤ (c2 % 6) ∧ (c2 % 6) < 6 by omega) (show 0 ≤ k ∧ k < 6 by omega) (show 0 ≤ (c2 / 6) ∧ (c2 / 6) < 8 by omega) (show 0 ≤ q ∧ q < 8 by omega)) gX11_moves_X11_mayGo rfl zy_X11_mayGo 0 (WM_0 a c ((us u 17 (t2)))) rfl ⟨by omega, by decide⟩ rfl (Nat.le_of_ble_eq_true rfl) (st := []) (stk2 := fun z16 => [.int (zI z16)]) rfl (fun _ => rfl) dX11_moves_112 (fun z16 u17 h18 => ?_)
              rw [h18.1]; replace h18 := h18.2
              replace h18 : ((z16 = 1 ∧ (c2 / 6) - q ≤ (u 9 2) * ((u 10) k - (u 10) (c2 % 6)) ∧ q - (c2 / 6) ≤ (u 9 2) * ((u 10) k - (u 10) (c2 % 6))) ∨ (z16 = 0 ∧ ¬ ((c2 / 6) - q ≤ (u 9 2) * ((u 10) k - (u 10) (c2 % 6)) ∧ q - (c2 / 6) ≤ (u 9 2) * ((u 10) k - (u 10) (c2 % 6))))) := h18
              have KM2 := h18
              refine z_if_eq C 133 dX11_moves_115 (by decide) (by omega) (fun h19 => ?_) (fun h19 => ?_)
              · have hk2n : ¬ okc (u 10) (u 9 2) c2 k q := fun h => KM2.elim (fun g => absurd g.1 (by omega)) (fun g => g.2 ((okc_lt (by omega)).1 h))
                exact kret 0 (us u 17 t2) _ _ (by first | exact ⟨_, rfl, hB3, mv_all h1 h2 (or_no hk2n)⟩ | exact ⟨_, rfl, B01_put hB3, mv_all h1 h2 (or_yes hk2 (Alv_put b_q (by omega) (by omega)))⟩) dX11_moves_133
              · have hk2 : okc (u 10) (u 9 2) c2 k q := (okc_lt (by omega)).2 (KM2.elim (fun g => g.2) (fun g => absurd g.1 (by omega)))
                refine z_aload_n C 0 dX11_moves_118 rfl ?_
                refine z_get C hK (v := .ref (a 17)) inX11_moves_X11 0 (WM_0 a c ((us u 17 (t2)))) rfl 30 (by decide) (List.mem_of_getElem? (i := 1) rfl) rfl dX11_moves_119 ?_
                refine z_iload C 6 dX11_moves_122 rfl ?_
                refine z_iload C 4 dX11_moves_124 rfl ?_
                refine z_iload C 7 dX11_moves_126 rfl ?_
                refine z_callS C hK hDD (c_X11_state (zl x) (zG x) ((WM a c)) (WM_addr a c) ((us u 17 (t2))) q c1 (6 * o + b) (by omega) (by omega) (by omega)) gX11_moves_X11_state rfl rfl zy_X11_state ⟨by omega, by decide⟩ rfl (Nat.le_of_ble_eq_true rfl) (st := [.ref (a 17)]) (stk2 := fun z20 => [.int (zI z20), .ref (a 17)]) rfl (fun _ => rfl) dX11_moves_128 (fun z20 u21 h22 => ?_)
                rw [h22.1]; replace h22 := h22.2
                refine z_as (b := stt q c1 (6 * o + b)) h22 ?_
                refine z_iconst C dX11_moves_131 ?_
                refine z_zast C hK (hDD _) 1 (g := (us u 17 (t2)) 17) 17 (WM_17 a c ((us u 17 (t2)))) rfl (by decide) (by omega) (by have := stt_bd b_q (x := c1) (y := 6 * o + b) (by omega) (by omega); omega) (WM_17_set a c ((us u 17 (t2))) (stt q c1 (6 * o + b)) 1) dX11_moves_132 ?_
                exact kret 0 (us u 17 (fun j => if j = stt q c1 (6 * o + b) then 1 else t2 j)) _ _ (by first | exact ⟨_, rfl, hB3, mv_all h1 h2 (or_no hk2n)⟩ | exact ⟨_, rfl, B01_put hB3, mv_all h1 h2 (or_yes hk2 (Alv_put b_q (by omega) (by omega)))⟩) dX11_moves_133
        exact L84_10 ((fun j => if j = stt q (6 * o + b) c2 then 1 else t1 j)) (by first | exact hB2 | exact B01_put hB2) (by first | exact or_yes hk1 (Alv_put b_q (by omega) (by omega)) | exact or_no hk1n)
      · skip
        refine z_iload C 4 dX11_moves_42 rfl ?_
        refine z_bipush C dX11_moves_44 (by decide) ?_
        refine z_icmp_ge C 84 dX11_moves_46 (by decide) (by omega) (fun h23 => ?_) (fun h23 => ?_)
        · have hk1n : ¬ okc (u 10) (u 9 2) c1 k q := okc_no (by omega) h23
          have L84_24 : ∀ (t2 : Int → Int), (B01 t2) → (Alv (u 10) (u 9 2) (u 0 21) E X t2 k r ↔ Alv (u 10) (u 9 2) (u 0 21) E X t1 k r ∨ (okc (u 10) (u 9 2) c1 k q ∧ CanK (u 10) (u 9 2) (u 0 21) E X r (6 * q + k) (6 * o + b) c2)) → Z x 0 0 (WM a c (us u 17 (t2))) [(0, .ref (a 0)), (1, .int (zI b)), (2, .int (zI k)), (3, .int (zI o)), (4, .int (zI c1)), (5, .int (zI c2)), (6, .int (zI q)), (7, .int (zI (6 * o + b)))] 84 [] := by
            intro t2 hB3 h2
            refine z_iload C 5 dX11_moves_84 rfl ?_
            refine z_bipush C dX11_moves_86 (by decide) ?_
            refine z_icmp_eq C 118 dX11_moves_88 (by decide) (by omega) (fun h25 => ?_) (fun h25 => ?_)
            · have hk2 : okc (u 10) (u 9 2) c2 k q := Or.inl h25
              refine z_aload_n C 0 dX11_moves_118 rfl ?_
              refine z_get C hK (v := .ref (a 17)) inX11_moves_X11 0 (WM_0 a c ((us u 17 (t2)))) rfl 30 (by decide) (List.mem_of_getElem? (i := 1) rfl) rfl dX11_moves_119 ?_
              refine z_iload C 6 dX11_moves_122 rfl ?_
              refine z_iload C 4 dX11_moves_124 rfl ?_
              refine z_iload C 7 dX11_moves_126 rfl ?_
              refine z_callS C hK hDD (c_X11_state (zl x) (zG x) ((WM a c)) (WM_addr a c) ((us u 17 (t2))) q c1 (6 * o + b) (by omega) (by omega) (by omega)) gX11_moves_X11_state rfl rfl zy_X11_state ⟨by omega, by decide⟩ rfl (Nat.le_of_ble_eq_true rfl) (st := [.ref (a 17)]) (stk2 := fun z26 => [.int (zI z26), .ref (a 17)]) rfl (fun _ => rfl) dX11_moves_128 (fun z26 u27 h28 => ?_)
              rw [h28.1]; replace h28 := h28.2
              refine z_as (b := stt q c1 (6 * o + b)) h28 ?_
              refine z_iconst C dX11_moves_131 ?_
              refine z_zast C hK (hDD _) 1 (g := (us u 17 (t2)) 17) 17 (WM_17 a c ((us u 17 (t2)))) rfl (by decide) (by omega) (by have := stt_bd b_q (x := c1) (y := 6 * o + b) (by omega) (by omega); omega) (WM_17_set a c ((us u 17 (t2))) (stt q c1 (6 * o + b)) 1) dX11_moves_132 ?_
              exact kret 0 (us u 17 (fun j => if j = stt q c1 (6 * o + b) then 1 else t2 j)) _ _ (by first | exact ⟨_, rfl, hB3, mv_all h1 h2 (or_no hk2n)⟩ | exact ⟨_, rfl, B01_put hB3, mv_all h1 h2 (or_yes hk2 (Alv_put b_q (by omega) (by omega)))⟩) dX11_moves_133
            · skip
              refine z_iload C 5 dX11_moves_91 rfl ?_
              refine z_bipush C dX11_moves_93 (by decide) ?_
              refine z_icmp_ge C 133 dX11_moves_95 (by decide) (by omega) (fun h29 => ?_) (fun h29 => ?_)
              · have hk2n : ¬ okc (u 10) (u 9 2) c2 k q := okc_no (by omega) h29
                exact kret 0 (us u 17 t2) _ _ (by first | exact ⟨_, rfl, hB3, mv_all h1 h2 (or_no hk2n)⟩ | exact ⟨_, rfl, B01_put hB3, mv_all h1 h2 (or_yes hk2 (Alv_put b_q (by omega) (by omega)))⟩) dX11_moves_133
              · skip
                refine z_aload_n C 0 dX11_moves_98 rfl ?_
                refine z_iload C 5 dX11_moves_99 rfl ?_
                refine z_bipush C dX11_moves_101 (by decide) ?_
                refine z_irem C dX11_moves_103 (by omega) ?_
                refine z_as (b := c2 % 6) (Int.tmod_eq_emod_of_nonneg (by omega)) ?_
                refine z_iload_n C 2 dX11_moves_104 rfl ?_
                refine z_iload C 5 dX11_moves_105 rfl ?_
                refine z_bipush C dX11_moves_107 (by decide) ?_
                refine z_idiv C dX11_moves_109 (by omega) ?_
                refine z_as (b := c2 / 6) (Int.tdiv_eq_ediv_of_nonneg (by omega)) ?_
                refine z_iload C 6 dX11_moves_110 rfl ?_
                refine z_callV C hK hDD (c_X11_mayGo (zl x) (zG x) a c ((us u 17 (t2))) (c2 % 6) k (c2 / 6) q (hI) (show 0 ≤ (c2 % 6) ∧ (c2 % 6) < 6 by omega) (show 0 ≤ k ∧ k < 6 by omega) (show 0 ≤ (c2 / 6) ∧ (c2 / 6) < 8 by omega) (show 0 ≤ q ∧ q < 8 by omega)) gX11_moves_X11_mayGo rfl zy_X11_mayGo 0 (WM_0 a c ((us u 17 (t2)))) rfl ⟨by omega, by decide⟩ rfl (Nat.le_of_ble_eq_true rfl) (st := []) (stk2 := fun z30 => [.int (zI z30)]) rfl (fun _ => rfl) dX11_moves_112 (fun z30 u31 h32 => ?_)
                rw [h32.1]; replace h32 := h32.2
                replace h32 : ((z30 = 1 ∧ (c2 / 6) - q ≤ (u 9 2) * ((u 10) k - (u 10) (c2 % 6)) ∧ q - (c2 / 6) ≤ (u 9 2) * ((u 10) k - (u 10) (c2 % 6))) ∨ (z30 = 0 ∧ ¬ ((c2 / 6) - q ≤ (u 9 2) * ((u 10) k - (u 10) (c2 % 6)) ∧ q - (c2 / 6) ≤ (u 9 2) * ((u 10) k - (u 10) (c2 % 6))))) := h32
                have KM2 := h32
                refine z_if_eq C 133 dX11_moves_115 (by decide) (by omega) (fun h33 => ?_) (fun h33 => ?_)
                · have hk2n : ¬ okc (u 10) (u 9 2) c2 k q := fun h => KM2.elim (fun g => absurd g.1 (by omega)) (fun g => g.2 ((okc_lt (by omega)).1 h))
                  exact kret 0 (us u 17 t2) _ _ (by first | exact ⟨_, rfl, hB3, mv_all h1 h2 (or_no hk2n)⟩ | exact ⟨_, rfl, B01_put hB3, mv_all h1 h2 (or_yes hk2 (Alv_put b_q (by omega) (by omega)))⟩) dX11_moves_133
                · have hk2 : okc (u 10) (u 9 2) c2 k q := (okc_lt (by omega)).2 (KM2.elim (fun g => g.2) (fun g => absurd g.1 (by omega)))
                  refine z_aload_n C 0 dX11_moves_118 rfl ?_
                  refine z_get C hK (v := .ref (a 17)) inX11_moves_X11 0 (WM_0 a c ((us u 17 (t2)))) rfl 30 (by decide) (List.mem_of_getElem? (i := 1) rfl) rfl dX11_moves_119 ?_
                  refine z_iload C 6 dX11_moves_122 rfl ?_
                  refine z_iload C 4 dX11_moves_124 rfl ?_
                  refine z_iload C 7 dX11_moves_126 rfl ?_
                  refine z_callS C hK hDD (c_X11_state (zl x) (zG x) ((WM a c)) (WM_addr a c) ((us u 17 (t2))) q c1 (6 * o + b) (by omega) (by omega) (by omega)) gX11_moves_X11_state rfl rfl zy_X11_state ⟨by omega, by decide⟩ rfl (Nat.le_of_ble_eq_true rfl) (st := [.ref (a 17)]) (stk2 := fun z34 => [.int (zI z34), .ref (a 17)]) rfl (fun _ => rfl) dX11_moves_128 (fun z34 u35 h36 => ?_)
                  rw [h36.1]; replace h36 := h36.2
                  refine z_as (b := stt q c1 (6 * o + b)) h36 ?_
                  refine z_iconst C dX11_moves_131 ?_
                  refine z_zast C hK (hDD _) 1 (g := (us u 17 (t2)) 17) 17 (WM_17 a c ((us u 17 (t2)))) rfl (by decide) (by omega) (by have := stt_bd b_q (x := c1) (y := 6 * o + b) (by omega) (by omega); omega) (WM_17_set a c ((us u 17 (t2))) (stt q c1 (6 * o + b)) 1) dX11_moves_132 ?_
                  exact kret 0 (us u 17 (fun j => if j = stt q c1 (6 * o + b) then 1 else t2 j)) _ _ (by first | exact ⟨_, rfl, hB3, mv_all h1 h2 (or_no hk2n)⟩ | exact ⟨_, rfl, B01_put hB3, mv_all h1 h2 (or_yes hk2 (Alv_put b_q (by omega) (by omega)))⟩) dX11_moves_133
          exact L84_24 t1 (by first | exact hB2 | exact B01_put hB2) (by first | exact or_yes hk1 (Alv_put b_q (by omega) (by omega)) | exact or_no hk1n)
        · skip
          refine z_aload_n C 0 dX11_moves_49 rfl ?_
          refine z_iload C 4 dX11_moves_50 rfl ?_
          refine z_bipush C dX11_moves_52 (by decide) ?_
          refine z_irem C dX11_moves_54 (by omega) ?_
          refine z_as (b := c1 % 6) (Int.tmod_eq_emod_of_nonneg (by omega)) ?_
          refine z_iload_n C 2 dX11_moves_55 rfl ?_
          refine z_iload C 4 dX11_moves_56 rfl ?_
          refine z_bipush C dX11_moves_58 (by decide) ?_
          refine z_idiv C dX11_moves_60 (by omega) ?_
          refine z_as (b := c1 / 6) (Int.tdiv_eq_ediv_of_nonneg (by omega)) ?_
          refine z_iload C 6 dX11_moves_61 rfl ?_
          refine z_callV C hK hDD (c_X11_mayGo (zl x) (zG x) a c ((us u 17 (t1))) (c1 % 6) k (c1 / 6) q (hI) (show 0 ≤ (c1 % 6) ∧ (c1 % 6) < 6 by omega) (show 0 ≤ k ∧ k < 6 by omega) (show 0 ≤ (c1 / 6) ∧ (c1 / 6) < 8 by omega) (show 0 ≤ q ∧ q < 8 by omega)) gX11_moves_X11_mayGo rfl zy_X11_mayGo 0 (WM_0 a c ((us u 17 (t1)))) rfl ⟨by omega, by decide⟩ rfl (Nat.le_of_ble_eq_true rfl) (st := []) (stk2 := fun z37 => [.int (zI z37)]) rfl (fun _ => rfl) dX11_moves_63 (fun z37 u38 h39 => ?_)
          rw [h39.1]; replace h39 := h39.2
          replace h39 : ((z37 = 1 ∧ (c1 / 6) - q ≤ (u 9 2) * ((u 10) k - (u 10) (c1 % 6)) ∧ q - (c1 / 6) ≤ (u 9 2) * ((u 10) k - (u 10) (c1 % 6))) ∨ (z37 = 0 ∧ ¬ ((c1 / 6) - q ≤ (u 9 2) * ((u 10) k - (u 10) (c1 % 6)) ∧ q - (c1 / 6) ≤ (u 9 2) * ((u 10) k - (u 10) (c1 % 6))))) := h39
          have KM1 := h39
          refine z_if_eq C 84 dX11_moves_66 (by decide) (by omega) (fun h40 => ?_) (fun h40 => ?_)
          · have hk1n : ¬ okc (u 10) (u 9 2) c1 k q := fun h => KM1.elim (fun g => absurd g.1 (by omega)) (fun g => g.2 ((okc_lt (by omega)).1 h))
            have L84_41 : ∀ (t2 : Int → Int), (B01 t2) → (Alv (u 10) (u 9 2) (u 0 21) E X t2 k r ↔ Alv (u 10) (u 9 2) (u 0 21) E X t1 k r ∨ (okc (u 10) (u 9 2) c1 k q ∧ CanK (u 10) (u 9 2) (u 0 21) E X r (6 * q + k) (6 * o + b) c2)) → Z x 0 0 (WM a c (us u 17 (t2))) [(0, .ref (a 0)), (1, .int (zI b)), (2, .int (zI k)), (3, .int (zI o)), (4, .int (zI c1)), (5, .int (zI c2)), (6, .int (zI q)), (7, .int (zI (6 * o + b)))] 84 [] := by
              intro t2 hB3 h2
              refine z_iload C 5 dX11_moves_84 rfl ?_
              refine z_bipush C dX11_moves_86 (by decide) ?_
              refine z_icmp_eq C 118 dX11_moves_88 (by decide) (by omega) (fun h42 => ?_) (fun h42 => ?_)
              · have hk2 : okc (u 10) (u 9 2) c2 k q := Or.inl h42
                refine z_aload_n C 0 dX11_moves_118 rfl ?_
                refine z_get C hK (v := .ref (a 17)) inX11_moves_X11 0 (WM_0 a c ((us u 17 (t2)))) rfl 30 (by decide) (List.mem_of_getElem? (i := 1) rfl) rfl dX11_moves_119 ?_
                refine z_iload C 6 dX11_moves_122 rfl ?_
                refine z_iload C 4 dX11_moves_124 rfl ?_
                refine z_iload C 7 dX11_moves_126 rfl ?_
                refine z_callS C hK hDD (c_X11_state (zl x) (zG x) ((WM a c)) (WM_addr a c) ((us u 17 (t2))) q c1 (6 * o + b) (by omega) (by omega) (by omega)) gX11_moves_X11_state rfl rfl zy_X11_state ⟨by omega, by decide⟩ rfl (Nat.le_of_ble_eq_true rfl) (st := [.ref (a 17)]) (stk2 := fun z43 => [.int (zI z43), .ref (a 17)]) rfl (fun _ => rfl) dX11_moves_128 (fun z43 u44 h45 => ?_)
                rw [h45.1]; replace h45 := h45.2
                refine z_as (b := stt q c1 (6 * o + b)) h45 ?_
                refine z_iconst C dX11_moves_131 ?_
                refine z_zast C hK (hDD _) 1 (g := (us u 17 (t2)) 17) 17 (WM_17 a c ((us u 17 (t2)))) rfl (by decide) (by omega) (by have := stt_bd b_q (x := c1) (y := 6 * o + b) (by omega) (by omega); omega) (WM_17_set a c ((us u 17 (t2))) (stt q c1 (6 * o + b)) 1) dX11_moves_132 ?_
                exact kret 0 (us u 17 (fun j => if j = stt q c1 (6 * o + b) then 1 else t2 j)) _ _ (by first | exact ⟨_, rfl, hB3, mv_all h1 h2 (or_no hk2n)⟩ | exact ⟨_, rfl, B01_put hB3, mv_all h1 h2 (or_yes hk2 (Alv_put b_q (by omega) (by omega)))⟩) dX11_moves_133
              · skip
                refine z_iload C 5 dX11_moves_91 rfl ?_
                refine z_bipush C dX11_moves_93 (by decide) ?_
                refine z_icmp_ge C 133 dX11_moves_95 (by decide) (by omega) (fun h46 => ?_) (fun h46 => ?_)
                · have hk2n : ¬ okc (u 10) (u 9 2) c2 k q := okc_no (by omega) h46
                  exact kret 0 (us u 17 t2) _ _ (by first | exact ⟨_, rfl, hB3, mv_all h1 h2 (or_no hk2n)⟩ | exact ⟨_, rfl, B01_put hB3, mv_all h1 h2 (or_yes hk2 (Alv_put b_q (by omega) (by omega)))⟩) dX11_moves_133
                · skip
                  refine z_aload_n C 0 dX11_moves_98 rfl ?_
                  refine z_iload C 5 dX11_moves_99 rfl ?_
                  refine z_bipush C dX11_moves_101 (by decide) ?_
                  refine z_irem C dX11_moves_103 (by omega) ?_
                  refine z_as (b := c2 % 6) (Int.tmod_eq_emod_of_nonneg (by omega)) ?_
                  refine z_iload_n C 2 dX11_moves_104 rfl ?_
                  refine z_iload C 5 dX11_moves_105 rfl ?_
                  refine z_bipush C dX11_moves_107 (by decide) ?_
                  refine z_idiv C dX11_moves_109 (by omega) ?_
                  refine z_as (b := c2 / 6) (Int.tdiv_eq_ediv_of_nonneg (by omega)) ?_
                  refine z_iload C 6 dX11_moves_110 rfl ?_
                  refine z_callV C hK hDD (c_X11_mayGo (zl x) (zG x) a c ((us u 17 (t2))) (c2 % 6) k (c2 / 6) q (hI) (show 0 ≤ (c2 % 6) ∧ (c2 % 6) < 6 by omega) (show 0 ≤ k ∧ k < 6 by omega) (show 0 ≤ (c2 / 6) ∧ (c2 / 6) < 8 by omega) (show 0 ≤ q ∧ q < 8 by omega)) gX11_moves_X11_mayGo rfl zy_X11_mayGo 0 (WM_0 a c ((us u 17 (t2)))) rfl ⟨by omega, by decide⟩ rfl (Nat.le_of_ble_eq_true rfl) (st := []) (stk2 := fun z47 => [.int (zI z47)]) rfl (fun _ => rfl) dX11_moves_112 (fun z47 u48 h49 => ?_)
                  rw [h49.1]; replace h49 := h49.2
                  replace h49 : ((z47 = 1 ∧ (c2 / 6) - q ≤ (u 9 2) * ((u 10) k - (u 10) (c2 % 6)) ∧ q - (c2 / 6) ≤ (u 9 2) * ((u 10) k - (u 10) (c2 % 6))) ∨ (z47 = 0 ∧ ¬ ((c2 / 6) - q ≤ (u 9 2) * ((u 10) k - (u 10) (c2 % 6)) ∧ q - (c2 / 6) ≤ (u 9 2) * ((u 10) k - (u 10) (c2 % 6))))) := h49
                  have KM2 := h49
                  refine z_if_eq C 133 dX11_moves_115 (by decide) (by omega) (fun h50 => ?_) (fun h50 => ?_)
                  · have hk2n : ¬ okc (u 10) (u 9 2) c2 k q := fun h => KM2.elim (fun g => absurd g.1 (by omega)) (fun g => g.2 ((okc_lt (by omega)).1 h))
                    exact kret 0 (us u 17 t2) _ _ (by first | exact ⟨_, rfl, hB3, mv_all h1 h2 (or_no hk2n)⟩ | exact ⟨_, rfl, B01_put hB3, mv_all h1 h2 (or_yes hk2 (Alv_put b_q (by omega) (by omega)))⟩) dX11_moves_133
                  · have hk2 : okc (u 10) (u 9 2) c2 k q := (okc_lt (by omega)).2 (KM2.elim (fun g => g.2) (fun g => absurd g.1 (by omega)))
                    refine z_aload_n C 0 dX11_moves_118 rfl ?_
                    refine z_get C hK (v := .ref (a 17)) inX11_moves_X11 0 (WM_0 a c ((us u 17 (t2)))) rfl 30 (by decide) (List.mem_of_getElem? (i := 1) rfl) rfl dX11_moves_119 ?_
                    refine z_iload C 6 dX11_moves_122 rfl ?_
                    refine z_iload C 4 dX11_moves_124 rfl ?_
                    refine z_iload C 7 dX11_moves_126 rfl ?_
                    refine z_callS C hK hDD (c_X11_state (zl x) (zG x) ((WM a c)) (WM_addr a c) ((us u 17 (t2))) q c1 (6 * o + b) (by omega) (by omega) (by omega)) gX11_moves_X11_state rfl rfl zy_X11_state ⟨by omega, by decide⟩ rfl (Nat.le_of_ble_eq_true rfl) (st := [.ref (a 17)]) (stk2 := fun z51 => [.int (zI z51), .ref (a 17)]) rfl (fun _ => rfl) dX11_moves_128 (fun z51 u52 h53 => ?_)
                    rw [h53.1]; replace h53 := h53.2
                    refine z_as (b := stt q c1 (6 * o + b)) h53 ?_
                    refine z_iconst C dX11_moves_131 ?_
                    refine z_zast C hK (hDD _) 1 (g := (us u 17 (t2)) 17) 17 (WM_17 a c ((us u 17 (t2)))) rfl (by decide) (by omega) (by have := stt_bd b_q (x := c1) (y := 6 * o + b) (by omega) (by omega); omega) (WM_17_set a c ((us u 17 (t2))) (stt q c1 (6 * o + b)) 1) dX11_moves_132 ?_
                    exact kret 0 (us u 17 (fun j => if j = stt q c1 (6 * o + b) then 1 else t2 j)) _ _ (by first | exact ⟨_, rfl, hB3, mv_all h1 h2 (or_no hk2n)⟩ | exact ⟨_, rfl, B01_put hB3, mv_all h1 h2 (or_yes hk2 (Alv_put b_q (by omega) (by omega)))⟩) dX11_moves_133
            exact L84_41 t1 (by first | exact hB2 | exact B01_put hB2) (by first | exact or_yes hk1 (Alv_put b_q (by omega) (by omega)) | exact or_no hk1n)
          · have hk1 : okc (u 10) (u 9 2) c1 k q := (okc_lt (by omega)).2 (KM1.elim (fun g => g.2) (fun g => absurd g.1 (by omega)))
            refine z_aload_n C 0 dX11_moves_69 rfl ?_
            refine z_get C hK (v := .ref (a 17)) inX11_moves_X11 0 (WM_0 a c ((us u 17 (t1)))) rfl 30 (by decide) (List.mem_of_getElem? (i := 1) rfl) rfl dX11_moves_70 ?_
            refine z_iload C 6 dX11_moves_73 rfl ?_
            refine z_iload C 7 dX11_moves_75 rfl ?_
            refine z_iload C 5 dX11_moves_77 rfl ?_
            refine z_callS C hK hDD (c_X11_state (zl x) (zG x) ((WM a c)) (WM_addr a c) ((us u 17 (t1))) q (6 * o + b) c2 (by omega) (by omega) (by omega)) gX11_moves_X11_state rfl rfl zy_X11_state ⟨by omega, by decide⟩ rfl (Nat.le_of_ble_eq_true rfl) (st := [.ref (a 17)]) (stk2 := fun z54 => [.int (zI z54), .ref (a 17)]) rfl (fun _ => rfl) dX11_moves_79 (fun z54 u55 h56 => ?_)
            rw [h56.1]; replace h56 := h56.2
            refine z_as (b := stt q (6 * o + b) c2) h56 ?_
            refine z_iconst C dX11_moves_82 ?_
            refine z_zast C hK (hDD _) 1 (g := (us u 17 (t1)) 17) 17 (WM_17 a c ((us u 17 (t1)))) rfl (by decide) (by omega) (by have := stt_bd b_q (x := 6 * o + b) (y := c2) (by omega) (by omega); omega) (WM_17_set a c ((us u 17 (t1))) (stt q (6 * o + b) c2) 1) dX11_moves_83 ?_
            have L84_57 : ∀ (t2 : Int → Int), (B01 t2) → (Alv (u 10) (u 9 2) (u 0 21) E X t2 k r ↔ Alv (u 10) (u 9 2) (u 0 21) E X t1 k r ∨ (okc (u 10) (u 9 2) c1 k q ∧ CanK (u 10) (u 9 2) (u 0 21) E X r (6 * q + k) (6 * o + b) c2)) → Z x 0 0 (WM a c (us u 17 (t2))) [(0, .ref (a 0)), (1, .int (zI b)), (2, .int (zI k)), (3, .int (zI o)), (4, .int (zI c1)), (5, .int (zI c2)), (6, .int (zI q)), (7, .int (zI (6 * o + b)))] 84 [] := by
              intro t2 hB3 h2
              refine z_iload C 5 dX11_moves_84 rfl ?_
              refine z_bipush C dX11_moves_86 (by decide) ?_
              refine z_icmp_eq C 118 dX11_moves_88 (by decide) (by omega) (fun h58 => ?_) (fun h58 => ?_)
              · have hk2 : okc (u 10) (u 9 2) c2 k q := Or.inl h58
                refine z_aload_n C 0 dX11_moves_118 rfl ?_
                refine z_get C hK (v := .ref (a 17)) inX11_moves_X11 0 (WM_0 a c ((us u 17 (t2)))) rfl 30 (by decide) (List.mem_of_getElem? (i := 1) rfl) rfl dX11_moves_119 ?_
                refine z_iload C 6 dX11_moves_122 rfl ?_
                refine z_iload C 4 dX11_moves_124 rfl ?_
                refine z_iload C 7 dX11_moves_126 rfl ?_
                refine z_callS C hK hDD (c_X11_state (zl x) (zG x) ((WM a c)) (WM_addr a c) ((us u 17 (t2))) q c1 (6 * o + b) (by omega) (by omega) (by omega)) gX11_moves_X11_state rfl rfl zy_X11_state ⟨by omega, by decide⟩ rfl (Nat.le_of_ble_eq_true rfl) (st := [.ref (a 17)]) (stk2 := fun z59 => [.int (zI z59), .ref (a 17)]) rfl (fun _ => rfl) dX11_moves_128 (fun z59 u60 h61 => ?_)
                rw [h61.1]; replace h61 := h61.2
                refine z_as (b := stt q c1 (6 * o + b)) h61 ?_
                refine z_iconst C dX11_moves_131 ?_
                refine z_zast C hK (hDD _) 1 (g := (us u 17 (t2)) 17) 17 (WM_17 a c ((us u 17 (t2)))) rfl (by decide) (by omega) (by have := stt_bd b_q (x := c1) (y := 6 * o + b) (by omega) (by omega); omega) (WM_17_set a c ((us u 17 (t2))) (stt q c1 (6 * o + b)) 1) dX11_moves_132 ?_
                exact kret 0 (us u 17 (fun j => if j = stt q c1 (6 * o + b) then 1 else t2 j)) _ _ (by first | exact ⟨_, rfl, hB3, mv_all h1 h2 (or_no hk2n)⟩ | exact ⟨_, rfl, B01_put hB3, mv_all h1 h2 (or_yes hk2 (Alv_put b_q (by omega) (by omega)))⟩) dX11_moves_133
              · skip
                refine z_iload C 5 dX11_moves_91 rfl ?_
                refine z_bipush C dX11_moves_93 (by decide) ?_
                refine z_icmp_ge C 133 dX11_moves_95 (by decide) (by omega) (fun h62 => ?_) (fun h62 => ?_)
                · have hk2n : ¬ okc (u 10) (u 9 2) c2 k q := okc_no (by omega) h62
                  exact kret 0 (us u 17 t2) _ _ (by first | exact ⟨_, rfl, hB3, mv_all h1 h2 (or_no hk2n)⟩ | exact ⟨_, rfl, B01_put hB3, mv_all h1 h2 (or_yes hk2 (Alv_put b_q (by omega) (by omega)))⟩) dX11_moves_133
                · skip
                  refine z_aload_n C 0 dX11_moves_98 rfl ?_
                  refine z_iload C 5 dX11_moves_99 rfl ?_
                  refine z_bipush C dX11_moves_101 (by decide) ?_
                  refine z_irem C dX11_moves_103 (by omega) ?_
                  refine z_as (b := c2 % 6) (Int.tmod_eq_emod_of_nonneg (by omega)) ?_
                  refine z_iload_n C 2 dX11_moves_104 rfl ?_
                  refine z_iload C 5 dX11_moves_105 rfl ?_
                  refine z_bipush C dX11_moves_107 (by decide) ?_
                  refine z_idiv C dX11_moves_109 (by omega) ?_
                  refine z_as (b := c2 / 6) (Int.tdiv_eq_ediv_of_nonneg (by omega)) ?_
                  refine z_iload C 6 dX11_moves_110 rfl ?_
                  refine z_callV C hK hDD (c_X11_mayGo (zl x) (zG x) a c ((us u 17 (t2))) (c2 % 6) k (c2 / 6) q (hI) (show 0 ≤ (c2 % 6) ∧ (c2 % 6) < 6 by omega) (show 0 ≤ k ∧ k < 6 by omega) (show 0 ≤ (c2 / 6) ∧ (c2 / 6) < 8 by omega) (show 0 ≤ q ∧ q < 8 by omega)) gX11_moves_X11_mayGo rfl zy_X11_mayGo 0 (WM_0 a c ((us u 17 (t2)))) rfl ⟨by omega, by decide⟩ rfl (Nat.le_of_ble_eq_true rfl) (st := []) (stk2 := fun z63 => [.int (zI z63)]) rfl (fun _ => rfl) dX11_moves_112 (fun z63 u64 h65 => ?_)
                  rw [h65.1]; replace h65 := h65.2
                  replace h65 : ((z63 = 1 ∧ (c2 / 6) - q ≤ (u 9 2) * ((u 10) k - (u 10) (c2 % 6)) ∧ q - (c2 / 6) ≤ (u 9 2) * ((u 10) k - (u 10) (c2 % 6))) ∨ (z63 = 0 ∧ ¬ ((c2 / 6) - q ≤ (u 9 2) * ((u 10) k - (u 10) (c2 % 6)) ∧ q - (c2 / 6) ≤ (u 9 2) * ((u 10) k - (u 10) (c2 % 6))))) := h65
                  have KM2 := h65
                  refine z_if_eq C 133 dX11_moves_115 (by decide) (by omega) (fun h66 => ?_) (fun h66 => ?_)
                  · have hk2n : ¬ okc (u 10) (u 9 2) c2 k q := fun h => KM2.elim (fun g => absurd g.1 (by omega)) (fun g => g.2 ((okc_lt (by omega)).1 h))
                    exact kret 0 (us u 17 t2) _ _ (by first | exact ⟨_, rfl, hB3, mv_all h1 h2 (or_no hk2n)⟩ | exact ⟨_, rfl, B01_put hB3, mv_all h1 h2 (or_yes hk2 (Alv_put b_q (by omega) (by omega)))⟩) dX11_moves_133
                  · have hk2 : okc (u 10) (u 9 2) c2 k q := (okc_lt (by omega)).2 (KM2.elim (fun g => g.2) (fun g => absurd g.1 (by omega)))
                    refine z_aload_n C 0 dX11_moves_118 rfl ?_
                    refine z_get C hK (v := .ref (a 17)) inX11_moves_X11 0 (WM_0 a c ((us u 17 (t2)))) rfl 30 (by decide) (List.mem_of_getElem? (i := 1) rfl) rfl dX11_moves_119 ?_
                    refine z_iload C 6 dX11_moves_122 rfl ?_
                    refine z_iload C 4 dX11_moves_124 rfl ?_
                    refine z_iload C 7 dX11_moves_126 rfl ?_
                    refine z_callS C hK hDD (c_X11_state (zl x) (zG x) ((WM a c)) (WM_addr a c) ((us u 17 (t2))) q c1 (6 * o + b) (by omega) (by omega) (by omega)) gX11_moves_X11_state rfl rfl zy_X11_state ⟨by omega, by decide⟩ rfl (Nat.le_of_ble_eq_true rfl) (st := [.ref (a 17)]) (stk2 := fun z67 => [.int (zI z67), .ref (a 17)]) rfl (fun _ => rfl) dX11_moves_128 (fun z67 u68 h69 => ?_)
                    rw [h69.1]; replace h69 := h69.2
                    refine z_as (b := stt q c1 (6 * o + b)) h69 ?_
                    refine z_iconst C dX11_moves_131 ?_
                    refine z_zast C hK (hDD _) 1 (g := (us u 17 (t2)) 17) 17 (WM_17 a c ((us u 17 (t2)))) rfl (by decide) (by omega) (by have := stt_bd b_q (x := c1) (y := 6 * o + b) (by omega) (by omega); omega) (WM_17_set a c ((us u 17 (t2))) (stt q c1 (6 * o + b)) 1) dX11_moves_132 ?_
                    exact kret 0 (us u 17 (fun j => if j = stt q c1 (6 * o + b) then 1 else t2 j)) _ _ (by first | exact ⟨_, rfl, hB3, mv_all h1 h2 (or_no hk2n)⟩ | exact ⟨_, rfl, B01_put hB3, mv_all h1 h2 (or_yes hk2 (Alv_put b_q (by omega) (by omega)))⟩) dX11_moves_133
            exact L84_57 ((fun j => if j = stt q (6 * o + b) c2 then 1 else t1 j)) (by first | exact hB2 | exact B01_put hB2) (by first | exact or_yes hk1 (Alv_put b_q (by omega) (by omega)) | exact or_no hk1n)
    refine z_lv [(0, .ref (a 0)), (1, .int (zI b)), (2, .int (zI k)), (3, .int (zI o)), (4, .int (zI c1)), (5, .int (zI c2)), (6, .int (zI q)), (7, .int (zI ((6 * o) + b)))] [1, 2, 3, 4, 5, 6, 7, 0] rfl ?_
    exact L35_5 ((u 17)) (by first | exact hB1 | exact B01_put hB1) (by first | exact or_yes hk0 (Alv_put b_q (by omega) (by omega)) | exact or_no hk0n)
  · have hk0 : okc (u 10) (u 9 2) (6 * o + b) k q := (okc_me b_o b_b).2 (KM.elim (fun g => g.2) (fun g => absurd g.1 (by omega)))
    refine z_aload_n C 1 dX11_moves_20 rfl ?_
    refine z_get C hK (v := .ref (a 17)) inX11_moves_X11 0 (WM_0 a c u) rfl 30 (by decide) (List.mem_of_getElem? (i := 1) rfl) rfl dX11_moves_21 ?_
    refine z_iload C 7 dX11_moves_24 rfl ?_
    refine z_iload C 5 dX11_moves_26 rfl ?_
    refine z_iload C 6 dX11_moves_28 rfl ?_
    refine z_callS C hK hDD (c_X11_state (zl x) (zG x) ((WM a c)) (WM_addr a c) u q c1 c2 (by omega) (by omega) (by omega)) gX11_moves_X11_state rfl rfl zy_X11_state ⟨by omega, by decide⟩ rfl (Nat.le_of_ble_eq_true rfl) (st := [.ref (a 17)]) (stk2 := fun z70 => [.int (zI z70), .ref (a 17)]) rfl (fun _ => rfl) dX11_moves_30 (fun z70 u71 h72 => ?_)
    rw [h72.1]; replace h72 := h72.2
    refine z_as (b := stt q c1 c2) h72 ?_
    refine z_iconst C dX11_moves_33 ?_
    refine z_zast C hK (hDD _) 1 (g := u 17) 17 (WM_17 a c u) rfl (by decide) (by omega) (by have := stt_bd b_q (x := c1) (y := c2) (by omega) (by omega); omega) (WM_17_set a c u (stt q c1 c2) 1) dX11_moves_34 ?_
    have L35_73 : ∀ (t1 : Int → Int), (B01 t1) → (Alv (u 10) (u 9 2) (u 0 21) E X t1 k r ↔ Alv (u 10) (u 9 2) (u 0 21) E X (u 17) k r ∨ (okc (u 10) (u 9 2) (6 * o + b) k q ∧ CanK (u 10) (u 9 2) (u 0 21) E X r (6 * q + k) c1 c2)) → Z x 0 0 (WM a c (us u 17 (t1))) [(0, .ref (a 0)), (1, .int (zI b)), (2, .int (zI k)), (3, .int (zI o)), (4, .int (zI c1)), (5, .int (zI c2)), (6, .int (zI q)), (7, .int (zI (6 * o + b)))] 35 [] := by
      intro t1 hB2 h1
      refine z_iload C 4 dX11_moves_35 rfl ?_
      refine z_bipush C dX11_moves_37 (by decide) ?_
      refine z_icmp_eq C 69 dX11_moves_39 (by decide) (by omega) (fun h74 => ?_) (fun h74 => ?_)
      · have hk1 : okc (u 10) (u 9 2) c1 k q := Or.inl h74
        refine z_aload_n C 0 dX11_moves_69 rfl ?_
        refine z_get C hK (v := .ref (a 17)) inX11_moves_X11 0 (WM_0 a c ((us u 17 (t1)))) rfl 30 (by decide) (List.mem_of_getElem? (i := 1) rfl) rfl dX11_moves_70 ?_
        refine z_iload C 6 dX11_moves_73 rfl ?_
        refine z_iload C 7 dX11_moves_75 rfl ?_
        refine z_iload C 5 dX11_moves_77 rfl ?_
        refine z_callS C hK hDD (c_X11_state (zl x) (zG x) ((WM a c)) (WM_addr a c) ((us u 17 (t1))) q (6 * o + b) c2 (by omega) (by omega) (by omega)) gX11_moves_X11_state rfl rfl zy_X11_state ⟨by omega, by decide⟩ rfl (Nat.le_of_ble_eq_true rfl) (st := [.ref (a 17)]) (stk2 := fun z75 => [.int (zI z75), .ref (a 17)]) rfl (fun _ => rfl) dX11_moves_79 (fun z75 u76 h77 => ?_)
        rw [h77.1]; replace h77 := h77.2
        refine z_as (b := stt q (6 * o + b) c2) h77 ?_
        refine z_iconst C dX11_moves_82 ?_
        refine z_zast C hK (hDD _) 1 (g := (us u 17 (t1)) 17) 17 (WM_17 a c ((us u 17 (t1)))) rfl (by decide) (by omega) (by have := stt_bd b_q (x := 6 * o + b) (y := c2) (by omega) (by omega); omega) (WM_17_set a c ((us u 17 (t1))) (stt q (6 * o + b) c2) 1) dX11_moves_83 ?_
        have L84_78 : ∀ (t2 : Int → Int), (B01 t2) → (Alv (u 10) (u 9 2) (u 0 21) E X t2 k r ↔ Alv (u 10) (u 9 2) (u 0 21) E X t1 k r ∨ (okc (u 10) (u 9 2) c1 k q ∧ CanK (u 10) (u 9 2) (u 0 21) E X r (6 * q + k) (6 * o + b) c2)) → Z x 0 0 (WM a c (us u 17 (t2))) [(0, .ref (a 0)), (1, .int (zI b)), (2, .int (zI k)), (3, .int (zI o)), (4, .int (zI c1)), (5, .int (zI c2)), (6, .int (zI q)), (7, .int (zI (6 * o + b)))] 84 [] := by
          intro t2 hB3 h2
          refine z_iload C 5 dX11_moves_84 rfl ?_
          refine z_bipush C dX11_moves_86 (by decide) ?_
          refine z_icmp_eq C 118 dX11_moves_88 (by decide) (by omega) (fun h79 => ?_) (fun h79 => ?_)
          · have hk2 : okc (u 10) (u 9 2) c2 k q := Or.inl h79
            refine z_aload_n C 0 dX11_moves_118 rfl ?_
            refine z_get C hK (v := .ref (a 17)) inX11_moves_X11 0 (WM_0 a c ((us u 17 (t2)))) rfl 30 (by decide) (List.mem_of_getElem? (i := 1) rfl) rfl dX11_moves_119 ?_
            refine z_iload C 6 dX11_moves_122 rfl ?_
            refine z_iload C 4 dX11_moves_124 rfl ?_
            refine z_iload C 7 dX11_moves_126 rfl ?_
            refine z_callS C hK hDD (c_X11_state (zl x) (zG x) ((WM a c)) (WM_addr a c) ((us u 17 (t2))) q c1 (6 * o + b) (by omega) (by omega) (by omega)) gX11_moves_X11_state rfl rfl zy_X11_state ⟨by omega, by decide⟩ rfl (Nat.le_of_ble_eq_true rfl) (st := [.ref (a 17)]) (stk2 := fun z80 => [.int (zI z80), .ref (a 17)]) rfl (fun _ => rfl) dX11_moves_128 (fun z80 u81 h82 => ?_)
            rw [h82.1]; replace h82 := h82.2
            refine z_as (b := stt q c1 (6 * o + b)) h82 ?_
            refine z_iconst C dX11_moves_131 ?_
            refine z_zast C hK (hDD _) 1 (g := (us u 17 (t2)) 17) 17 (WM_17 a c ((us u 17 (t2)))) rfl (by decide) (by omega) (by have := stt_bd b_q (x := c1) (y := 6 * o + b) (by omega) (by omega); omega) (WM_17_set a c ((us u 17 (t2))) (stt q c1 (6 * o + b)) 1) dX11_moves_132 ?_
            exact kret 0 (us u 17 (fun j => if j = stt q c1 (6 * o + b) then 1 else t2 j)) _ _ (by first | exact ⟨_, rfl, hB3, mv_all h1 h2 (or_no hk2n)⟩ | exact ⟨_, rfl, B01_put hB3, mv_all h1 h2 (or_yes hk2 (Alv_put b_q (by omega) (by omega)))⟩) dX11_moves_133
          · skip
            refine z_iload C 5 dX11_moves_91 rfl ?_
            refine z_bipush C dX11_moves_93 (by decide) ?_
            refine z_icmp_ge C 133 dX11_moves_95 (by decide) (by omega) (fun h83 => ?_) (fun h83 => ?_)
            · have hk2n : ¬ okc (u 10) (u 9 2) c2 k q := okc_no (by omega) h83
              exact kret 0 (us u 17 t2) _ _ (by first | exact ⟨_, rfl, hB3, mv_all h1 h2 (or_no hk2n)⟩ | exact ⟨_, rfl, B01_put hB3, mv_all h1 h2 (or_yes hk2 (Alv_put b_q (by omega) (by omega)))⟩) dX11_moves_133
            · skip
              refine z_aload_n C 0 dX11_moves_98 rfl ?_
              refine z_iload C 5 dX11_moves_99 rfl ?_
              refine z_bipush C dX11_moves_101 (by decide) ?_
              refine z_irem C dX11_moves_103 (by omega) ?_
              refine z_as (b := c2 % 6) (Int.tmod_eq_emod_of_nonneg (by omega)) ?_
              refine z_iload_n C 2 dX11_moves_104 rfl ?_
              refine z_iload C 5 dX11_moves_105 rfl ?_
              refine z_bipush C dX11_moves_107 (by decide) ?_
              refine z_idiv C dX11_moves_109 (by omega) ?_
              refine z_as (b := c2 / 6) (Int.tdiv_eq_ediv_of_nonneg (by omega)) ?_
              refine z_iload C 6 dX11_moves_110 rfl ?_
              refine z_callV C hK hDD (c_X11_mayGo (zl x) (zG x) a c ((us u 17 (t2))) (c2 % 6) k (c2 / 6) q (hI) (show 0 ≤ (c2 % 6) ∧ (c2 % 6) < 6 by omega) (show 0 ≤ k ∧ k < 6 by omega) (show 0 ≤ (c2 / 6) ∧ (c2 / 6) < 8 by omega) (show 0 ≤ q ∧ q < 8 by omega)) gX11_moves_X11_mayGo rfl zy_X11_mayGo 0 (WM_0 a c ((us u 17 (t2)))) rfl ⟨by omega, by decide⟩ rfl (Nat.le_of_ble_eq_true rfl) (st := []) (stk2 := fun z84 => [.int (zI z84)]) rfl (fun _ => rfl) dX11_moves_112 (fun z84 u85 h86 => ?_)
              rw [h86.1]; replace h86 := h86.2
              replace h86 : ((z84 = 1 ∧ (c2 / 6) - q ≤ (u 9 2) * ((u 10) k - (u 10) (c2 % 6)) ∧ q - (c2 / 6) ≤ (u 9 2) * ((u 10) k - (u 10) (c2 % 6))) ∨ (z84 = 0 ∧ ¬ ((c2 / 6) - q ≤ (u 9 2) * ((u 10) k - (u 10) (c2 % 6)) ∧ q - (c2 / 6) ≤ (u 9 2) * ((u 10) k - (u 10) (c2 % 6))))) := h86
              have KM2 := h86
              refine z_if_eq C 133 dX11_moves_115 (by decide) (by omega) (fun h87 => ?_) (fun h87 => ?_)
              · have hk2n : ¬ okc (u 10) (u 9 2) c2 k q := fun h => KM2.elim (fun g => absurd g.1 (by omega)) (fun g => g.2 ((okc_lt (by omega)).1 h))
                exact kret 0 (us u 17 t2) _ _ (by first | exact ⟨_, rfl, hB3, mv_all h1 h2 (or_no hk2n)⟩ | exact ⟨_, rfl, B01_put hB3, mv_all h1 h2 (or_yes hk2 (Alv_put b_q (by omega) (by omega)))⟩) dX11_moves_133
              · have hk2 : okc (u 10) (u 9 2) c2 k q := (okc_lt (by omega)).2 (KM2.elim (fun g => g.2) (fun g => absurd g.1 (by omega)))
                refine z_aload_n C 0 dX11_moves_118 rfl ?_
                refine z_get C hK (v := .ref (a 17)) inX11_moves_X11 0 (WM_0 a c ((us u 17 (t2)))) rfl 30 (by decide) (List.mem_of_getElem? (i := 1) rfl) rfl dX11_moves_119 ?_
                refine z_iload C 6 dX11_moves_122 rfl ?_
                refine z_iload C 4 dX11_moves_124 rfl ?_
                refine z_iload C 7 dX11_moves_126 rfl ?_
                refine z_callS C hK hDD (c_X11_state (zl x) (zG x) ((WM a c)) (WM_addr a c) ((us u 17 (t2))) q c1 (6 * o + b) (by omega) (by omega) (by omega)) gX11_moves_X11_state rfl rfl zy_X11_state ⟨by omega, by decide⟩ rfl (Nat.le_of_ble_eq_true rfl) (st := [.ref (a 17)]) (stk2 := fun z88 => [.int (zI z88), .ref (a 17)]) rfl (fun _ => rfl) dX11_moves_128 (fun z88 u89 h90 => ?_)
                rw [h90.1]; replace h90 := h90.2
                refine z_as (b := stt q c1 (6 * o + b)) h90 ?_
                refine z_iconst C dX11_moves_131 ?_
                refine z_zast C hK (hDD _) 1 (g := (us u 17 (t2)) 17) 17 (WM_17 a c ((us u 17 (t2)))) rfl (by decide) (by omega) (by have := stt_bd b_q (x := c1) (y := 6 * o + b) (by omega) (by omega); omega) (WM_17_set a c ((us u 17 (t2))) (stt q c1 (6 * o + b)) 1) dX11_moves_132 ?_
                exact kret 0 (us u 17 (fun j => if j = stt q c1 (6 * o + b) then 1 else t2 j)) _ _ (by first | exact ⟨_, rfl, hB3, mv_all h1 h2 (or_no hk2n)⟩ | exact ⟨_, rfl, B01_put hB3, mv_all h1 h2 (or_yes hk2 (Alv_put b_q (by omega) (by omega)))⟩) dX11_moves_133
        exact L84_78 ((fun j => if j = stt q (6 * o + b) c2 then 1 else t1 j)) (by first | exact hB2 | exact B01_put hB2) (by first | exact or_yes hk1 (Alv_put b_q (by omega) (by omega)) | exact or_no hk1n)
      · skip
        refine z_iload C 4 dX11_moves_42 rfl ?_
        refine z_bipush C dX11_moves_44 (by decide) ?_
        refine z_icmp_ge C 84 dX11_moves_46 (by decide) (by omega) (fun h91 => ?_) (fun h91 => ?_)
        · have hk1n : ¬ okc (u 10) (u 9 2) c1 k q := okc_no (by omega) h91
          have L84_92 : ∀ (t2 : Int → Int), (B01 t2) → (Alv (u 10) (u 9 2) (u 0 21) E X t2 k r ↔ Alv (u 10) (u 9 2) (u 0 21) E X t1 k r ∨ (okc (u 10) (u 9 2) c1 k q ∧ CanK (u 10) (u 9 2) (u 0 21) E X r (6 * q + k) (6 * o + b) c2)) → Z x 0 0 (WM a c (us u 17 (t2))) [(0, .ref (a 0)), (1, .int (zI b)), (2, .int (zI k)), (3, .int (zI o)), (4, .int (zI c1)), (5, .int (zI c2)), (6, .int (zI q)), (7, .int (zI (6 * o + b)))] 84 [] := by
            intro t2 hB3 h2
            refine z_iload C 5 dX11_moves_84 rfl ?_
            refine z_bipush C dX11_moves_86 (by decide) ?_
            refine z_icmp_eq C 118 dX11_moves_88 (by decide) (by omega) (fun h93 => ?_) (fun h93 => ?_)
            · have hk2 : okc (u 10) (u 9 2) c2 k q := Or.inl h93
              refine z_aload_n C 0 dX11_moves_118 rfl ?_
              refine z_get C hK (v := .ref (a 17)) inX11_moves_X11 0 (WM_0 a c ((us u 17 (t2)))) rfl 30 (by decide) (List.mem_of_getElem? (i := 1) rfl) rfl dX11_moves_119 ?_
              refine z_iload C 6 dX11_moves_122 rfl ?_
              refine z_iload C 4 dX11_moves_124 rfl ?_
              refine z_iload C 7 dX11_moves_126 rfl ?_
              refine z_callS C hK hDD (c_X11_state (zl x) (zG x) ((WM a c)) (WM_addr a c) ((us u 17 (t2))) q c1 (6 * o + b) (by omega) (by omega) (by omega)) gX11_moves_X11_state rfl rfl zy_X11_state ⟨by omega, by decide⟩ rfl (Nat.le_of_ble_eq_true rfl) (st := [.ref (a 17)]) (stk2 := fun z94 => [.int (zI z94), .ref (a 17)]) rfl (fun _ => rfl) dX11_moves_128 (fun z94 u95 h96 => ?_)
              rw [h96.1]; replace h96 := h96.2
              refine z_as (b := stt q c1 (6 * o + b)) h96 ?_
              refine z_iconst C dX11_moves_131 ?_
              refine z_zast C hK (hDD _) 1 (g := (us u 17 (t2)) 17) 17 (WM_17 a c ((us u 17 (t2)))) rfl (by decide) (by omega) (by have := stt_bd b_q (x := c1) (y := 6 * o + b) (by omega) (by omega); omega) (WM_17_set a c ((us u 17 (t2))) (stt q c1 (6 * o + b)) 1) dX11_moves_132 ?_
              exact kret 0 (us u 17 (fun j => if j = stt q c1 (6 * o + b) then 1 else t2 j)) _ _ (by first | exact ⟨_, rfl, hB3, mv_all h1 h2 (or_no hk2n)⟩ | exact ⟨_, rfl, B01_put hB3, mv_all h1 h2 (or_yes hk2 (Alv_put b_q (by omega) (by omega)))⟩) dX11_moves_133
            · skip
              refine z_iload C 5 dX11_moves_91 rfl ?_
              refine z_bipush C dX11_moves_93 (by decide) ?_
              refine z_icmp_ge C 133 dX11_moves_95 (by decide) (by omega) (fun h97 => ?_) (fun h97 => ?_)
              · have hk2n : ¬ okc (u 10) (u 9 2) c2 k q := okc_no (by omega) h97
                exact kret 0 (us u 17 t2) _ _ (by first | exact ⟨_, rfl, hB3, mv_all h1 h2 (or_no hk2n)⟩ | exact ⟨_, rfl, B01_put hB3, mv_all h1 h2 (or_yes hk2 (Alv_put b_q (by omega) (by omega)))⟩) dX11_moves_133
              · skip
                refine z_aload_n C 0 dX11_moves_98 rfl ?_
                refine z_iload C 5 dX11_moves_99 rfl ?_
                refine z_bipush C dX11_moves_101 (by decide) ?_
                refine z_irem C dX11_moves_103 (by omega) ?_
                refine z_as (b := c2 % 6) (Int.tmod_eq_emod_of_nonneg (by omega)) ?_
                refine z_iload_n C 2 dX11_moves_104 rfl ?_
                refine z_iload C 5 dX11_moves_105 rfl ?_
                refine z_bipush C dX11_moves_107 (by decide) ?_
                refine z_idiv C dX11_moves_109 (by omega) ?_
                refine z_as (b := c2 / 6) (Int.tdiv_eq_ediv_of_nonneg (by omega)) ?_
                refine z_iload C 6 dX11_moves_110 rfl ?_
                refine z_callV C hK hDD (c_X11_mayGo (zl x) (zG x) a c ((us u 17 (t2))) (c2 % 6) k (c2 / 6) q (hI) (show 0 ≤ (c2 % 6) ∧ (c2 % 6) < 6 by omega) (show 0 ≤ k ∧ k < 6 by omega) (show 0 ≤ (c2 / 6) ∧ (c2 / 6) < 8 by omega) (show 0 ≤ q ∧ q < 8 by omega)) gX11_moves_X11_mayGo rfl zy_X11_mayGo 0 (WM_0 a c ((us u 17 (t2)))) rfl ⟨by omega, by decide⟩ rfl (Nat.le_of_ble_eq_true rfl) (st := []) (stk2 := fun z98 => [.int (zI z98)]) rfl (fun _ => rfl) dX11_moves_112 (fun z98 u99 h100 => ?_)
                rw [h100.1]; replace h100 := h100.2
                replace h100 : ((z98 = 1 ∧ (c2 / 6) - q ≤ (u 9 2) * ((u 10) k - (u 10) (c2 % 6)) ∧ q - (c2 / 6) ≤ (u 9 2) * ((u 10) k - (u 10) (c2 % 6))) ∨ (z98 = 0 ∧ ¬ ((c2 / 6) - q ≤ (u 9 2) * ((u 10) k - (u 10) (c2 % 6)) ∧ q - (c2 / 6) ≤ (u 9 2) * ((u 10) k - (u 10) (c2 % 6))))) := h100
                have KM2 := h100
                refine z_if_eq C 133 dX11_moves_115 (by decide) (by omega) (fun h101 => ?_) (fun h101 => ?_)
                · have hk2n : ¬ okc (u 10) (u 9 2) c2 k q := fun h => KM2.elim (fun g => absurd g.1 (by omega)) (fun g => g.2 ((okc_lt (by omega)).1 h))
                  exact kret 0 (us u 17 t2) _ _ (by first | exact ⟨_, rfl, hB3, mv_all h1 h2 (or_no hk2n)⟩ | exact ⟨_, rfl, B01_put hB3, mv_all h1 h2 (or_yes hk2 (Alv_put b_q (by omega) (by omega)))⟩) dX11_moves_133
                · have hk2 : okc (u 10) (u 9 2) c2 k q := (okc_lt (by omega)).2 (KM2.elim (fun g => g.2) (fun g => absurd g.1 (by omega)))
                  refine z_aload_n C 0 dX11_moves_118 rfl ?_
                  refine z_get C hK (v := .ref (a 17)) inX11_moves_X11 0 (WM_0 a c ((us u 17 (t2)))) rfl 30 (by decide) (List.mem_of_getElem? (i := 1) rfl) rfl dX11_moves_119 ?_
                  refine z_iload C 6 dX11_moves_122 rfl ?_
                  refine z_iload C 4 dX11_moves_124 rfl ?_
                  refine z_iload C 7 dX11_moves_126 rfl ?_
                  refine z_callS C hK hDD (c_X11_state (zl x) (zG x) ((WM a c)) (WM_addr a c) ((us u 17 (t2))) q c1 (6 * o + b) (by omega) (by omega) (by omega)) gX11_moves_X11_state rfl rfl zy_X11_state ⟨by omega, by decide⟩ rfl (Nat.le_of_ble_eq_true rfl) (st := [.ref (a 17)]) (stk2 := fun z102 => [.int (zI z102), .ref (a 17)]) rfl (fun _ => rfl) dX11_moves_128 (fun z102 u103 h104 => ?_)
                  rw [h104.1]; replace h104 := h104.2
                  refine z_as (b := stt q c1 (6 * o + b)) h104 ?_
                  refine z_iconst C dX11_moves_131 ?_
                  refine z_zast C hK (hDD _) 1 (g := (us u 17 (t2)) 17) 17 (WM_17 a c ((us u 17 (t2)))) rfl (by decide) (by omega) (by have := stt_bd b_q (x := c1) (y := 6 * o + b) (by omega) (by omega); omega) (WM_17_set a c ((us u 17 (t2))) (stt q c1 (6 * o + b)) 1) dX11_moves_132 ?_
                  exact kret 0 (us u 17 (fun j => if j = stt q c1 (6 * o + b) then 1 else t2 j)) _ _ (by first | exact ⟨_, rfl, hB3, mv_all h1 h2 (or_no hk2n)⟩ | exact ⟨_, rfl, B01_put hB3, mv_all h1 h2 (or_yes hk2 (Alv_put b_q (by omega) (by omega)))⟩) dX11_moves_133
          exact L84_92 t1 (by first | exact hB2 | exact B01_put hB2) (by first | exact or_yes hk1 (Alv_put b_q (by omega) (by omega)) | exact or_no hk1n)
        · skip
          refine z_aload_n C 0 dX11_moves_49 rfl ?_
          refine z_iload C 4 dX11_moves_50 rfl ?_
          refine z_bipush C dX11_moves_52 (by decide) ?_
          refine z_irem C dX11_moves_54 (by omega) ?_
          refine z_as (b := c1 % 6) (Int.tmod_eq_emod_of_nonneg (by omega)) ?_
          refine z_iload_n C 2 dX11_moves_55 rfl ?_
          refine z_iload C 4 dX11_moves_56 rfl ?_
          refine z_bipush C dX11_moves_58 (by decide) ?_
          refine z_idiv C dX11_moves_60 (by omega) ?_
          refine z_as (b := c1 / 6) (Int.tdiv_eq_ediv_of_nonneg (by omega)) ?_
          refine z_iload C 6 dX11_moves_61 rfl ?_
          refine z_callV C hK hDD (c_X11_mayGo (zl x) (zG x) a c ((us u 17 (t1))) (c1 % 6) k (c1 / 6) q (hI) (show 0 ≤ (c1 % 6) ∧ (c1 % 6) < 6 by omega) (show 0 ≤ k ∧ k < 6 by omega) (show 0 ≤ (c1 / 6) ∧ (c1 / 6) < 8 by omega) (show 0 ≤ q ∧ q < 8 by omega)) gX11_moves_X11_mayGo rfl zy_X11_mayGo 0 (WM_0 a c ((us u 17 (t1)))) rfl ⟨by omega, by decide⟩ rfl (Nat.le_of_ble_eq_true rfl) (st := []) (stk2 := fun z105 => [.int (zI z105)]) rfl (fun _ => rfl) dX11_moves_63 (fun z105 u106 h107 => ?_)
          rw [h107.1]; replace h107 := h107.2
          replace h107 : ((z105 = 1 ∧ (c1 / 6) - q ≤ (u 9 2) * ((u 10) k - (u 10) (c1 % 6)) ∧ q - (c1 / 6) ≤ (u 9 2) * ((u 10) k - (u 10) (c1 % 6))) ∨ (z105 = 0 ∧ ¬ ((c1 / 6) - q ≤ (u 9 2) * ((u 10) k - (u 10) (c1 % 6)) ∧ q - (c1 / 6) ≤ (u 9 2) * ((u 10) k - (u 10) (c1 % 6))))) := h107
          have KM1 := h107
          refine z_if_eq C 84 dX11_moves_66 (by decide) (by omega) (fun h108 => ?_) (fun h108 => ?_)
          · have hk1n : ¬ okc (u 10) (u 9 2) c1 k q := fun h => KM1.elim (fun g => absurd g.1 (by omega)) (fun g => g.2 ((okc_lt (by omega)).1 h))
            have L84_109 : ∀ (t2 : Int → Int), (B01 t2) → (Alv (u 10) (u 9 2) (u 0 21) E X t2 k r ↔ Alv (u 10) (u 9 2) (u 0 21) E X t1 k r ∨ (okc (u 10) (u 9 2) c1 k q ∧ CanK (u 10) (u 9 2) (u 0 21) E X r (6 * q + k) (6 * o + b) c2)) → Z x 0 0 (WM a c (us u 17 (t2))) [(0, .ref (a 0)), (1, .int (zI b)), (2, .int (zI k)), (3, .int (zI o)), (4, .int (zI c1)), (5, .int (zI c2)), (6, .int (zI q)), (7, .int (zI (6 * o + b)))] 84 [] := by
              intro t2 hB3 h2
              refine z_iload C 5 dX11_moves_84 rfl ?_
              refine z_bipush C dX11_moves_86 (by decide) ?_
              refine z_icmp_eq C 118 dX11_moves_88 (by decide) (by omega) (fun h110 => ?_) (fun h110 => ?_)
              · have hk2 : okc (u 10) (u 9 2) c2 k q := Or.inl h110
                refine z_aload_n C 0 dX11_moves_118 rfl ?_
                refine z_get C hK (v := .ref (a 17)) inX11_moves_X11 0 (WM_0 a c ((us u 17 (t2)))) rfl 30 (by decide) (List.mem_of_getElem? (i := 1) rfl) rfl dX11_moves_119 ?_
                refine z_iload C 6 dX11_moves_122 rfl ?_
                refine z_iload C 4 dX11_moves_124 rfl ?_
                refine z_iload C 7 dX11_moves_126 rfl ?_
                refine z_callS C hK hDD (c_X11_state (zl x) (zG x) ((WM a c)) (WM_addr a c) ((us u 17 (t2))) q c1 (6 * o + b) (by omega) (by omega) (by omega)) gX11_moves_X11_state rfl rfl zy_X11_state ⟨by omega, by decide⟩ rfl (Nat.le_of_ble_eq_true rfl) (st := [.ref (a 17)]) (stk2 := fun z111 => [.int (zI z111), .ref (a 17)]) rfl (fun _ => rfl) dX11_moves_128 (fun z111 u112 h113 => ?_)
                rw [h113.1]; replace h113 := h113.2
                refine z_as (b := stt q c1 (6 * o + b)) h113 ?_
                refine z_iconst C dX11_moves_131 ?_
                refine z_zast C hK (hDD _) 1 (g := (us u 17 (t2)) 17) 17 (WM_17 a c ((us u 17 (t2)))) rfl (by decide) (by omega) (by have := stt_bd b_q (x := c1) (y := 6 * o + b) (by omega) (by omega); omega) (WM_17_set a c ((us u 17 (t2))) (stt q c1 (6 * o + b)) 1) dX11_moves_132 ?_
                exact kret 0 (us u 17 (fun j => if j = stt q c1 (6 * o + b) then 1 else t2 j)) _ _ (by first | exact ⟨_, rfl, hB3, mv_all h1 h2 (or_no hk2n)⟩ | exact ⟨_, rfl, B01_put hB3, mv_all h1 h2 (or_yes hk2 (Alv_put b_q (by omega) (by omega)))⟩) dX11_moves_133
              · skip
                refine z_iload C 5 dX11_moves_91 rfl ?_
                refine z_bipush C dX11_moves_93 (by decide) ?_
                refine z_icmp_ge C 133 dX11_moves_95 (by decide) (by omega) (fun h114 => ?_) (fun h114 => ?_)
                · have hk2n : ¬ okc (u 10) (u 9 2) c2 k q := okc_no (by omega) h114
                  exact kret 0 (us u 17 t2) _ _ (by first | exact ⟨_, rfl, hB3, mv_all h1 h2 (or_no hk2n)⟩ | exact ⟨_, rfl, B01_put hB3, mv_all h1 h2 (or_yes hk2 (Alv_put b_q (by omega) (by omega)))⟩) dX11_moves_133
                · skip
                  refine z_aload_n C 0 dX11_moves_98 rfl ?_
                  refine z_iload C 5 dX11_moves_99 rfl ?_
                  refine z_bipush C dX11_moves_101 (by decide) ?_
                  refine z_irem C dX11_moves_103 (by omega) ?_
                  refine z_as (b := c2 % 6) (Int.tmod_eq_emod_of_nonneg (by omega)) ?_
                  refine z_iload_n C 2 dX11_moves_104 rfl ?_
                  refine z_iload C 5 dX11_moves_105 rfl ?_
                  refine z_bipush C dX11_moves_107 (by decide) ?_
                  refine z_idiv C dX11_moves_109 (by omega) ?_
                  refine z_as (b := c2 / 6) (Int.tdiv_eq_ediv_of_nonneg (by omega)) ?_
                  refine z_iload C 6 dX11_moves_110 rfl ?_
                  refine z_callV C hK hDD (c_X11_mayGo (zl x) (zG x) a c ((us u 17 (t2))) (c2 % 6) k (c2 / 6) q (hI) (show 0 ≤ (c2 % 6) ∧ (c2 % 6) < 6 by omega) (show 0 ≤ k ∧ k < 6 by omega) (show 0 ≤ (c2 / 6) ∧ (c2 / 6) < 8 by omega) (show 0 ≤ q ∧ q < 8 by omega)) gX11_moves_X11_mayGo rfl zy_X11_mayGo 0 (WM_0 a c ((us u 17 (t2)))) rfl ⟨by omega, by decide⟩ rfl (Nat.le_of_ble_eq_true rfl) (st := []) (stk2 := fun z115 => [.int (zI z115)]) rfl (fun _ => rfl) dX11_moves_112 (fun z115 u116 h117 => ?_)
                  rw [h117.1]; replace h117 := h117.2
                  replace h117 : ((z115 = 1 ∧ (c2 / 6) - q ≤ (u 9 2) * ((u 10) k - (u 10) (c2 % 6)) ∧ q - (c2 / 6) ≤ (u 9 2) * ((u 10) k - (u 10) (c2 % 6))) ∨ (z115 = 0 ∧ ¬ ((c2 / 6) - q ≤ (u 9 2) * ((u 10) k - (u 10) (c2 % 6)) ∧ q - (c2 / 6) ≤ (u 9 2) * ((u 10) k - (u 10) (c2 % 6))))) := h117
                  have KM2 := h117
                  refine z_if_eq C 133 dX11_moves_115 (by decide) (by omega) (fun h118 => ?_) (fun h118 => ?_)
                  · have hk2n : ¬ okc (u 10) (u 9 2) c2 k q := fun h => KM2.elim (fun g => absurd g.1 (by omega)) (fun g => g.2 ((okc_lt (by omega)).1 h))
                    exact kret 0 (us u 17 t2) _ _ (by first | exact ⟨_, rfl, hB3, mv_all h1 h2 (or_no hk2n)⟩ | exact ⟨_, rfl, B01_put hB3, mv_all h1 h2 (or_yes hk2 (Alv_put b_q (by omega) (by omega)))⟩) dX11_moves_133
                  · have hk2 : okc (u 10) (u 9 2) c2 k q := (okc_lt (by omega)).2 (KM2.elim (fun g => g.2) (fun g => absurd g.1 (by omega)))
                    refine z_aload_n C 0 dX11_moves_118 rfl ?_
                    refine z_get C hK (v := .ref (a 17)) inX11_moves_X11 0 (WM_0 a c ((us u 17 (t2)))) rfl 30 (by decide) (List.mem_of_getElem? (i := 1) rfl) rfl dX11_moves_119 ?_
                    refine z_iload C 6 dX11_moves_122 rfl ?_
                    refine z_iload C 4 dX11_moves_124 rfl ?_
                    refine z_iload C 7 dX11_moves_126 rfl ?_
                    refine z_callS C hK hDD (c_X11_state (zl x) (zG x) ((WM a c)) (WM_addr a c) ((us u 17 (t2))) q c1 (6 * o + b) (by omega) (by omega) (by omega)) gX11_moves_X11_state rfl rfl zy_X11_state ⟨by omega, by decide⟩ rfl (Nat.le_of_ble_eq_true rfl) (st := [.ref (a 17)]) (stk2 := fun z119 => [.int (zI z119), .ref (a 17)]) rfl (fun _ => rfl) dX11_moves_128 (fun z119 u120 h121 => ?_)
                    rw [h121.1]; replace h121 := h121.2
                    refine z_as (b := stt q c1 (6 * o + b)) h121 ?_
                    refine z_iconst C dX11_moves_131 ?_
                    refine z_zast C hK (hDD _) 1 (g := (us u 17 (t2)) 17) 17 (WM_17 a c ((us u 17 (t2)))) rfl (by decide) (by omega) (by have := stt_bd b_q (x := c1) (y := 6 * o + b) (by omega) (by omega); omega) (WM_17_set a c ((us u 17 (t2))) (stt q c1 (6 * o + b)) 1) dX11_moves_132 ?_
                    exact kret 0 (us u 17 (fun j => if j = stt q c1 (6 * o + b) then 1 else t2 j)) _ _ (by first | exact ⟨_, rfl, hB3, mv_all h1 h2 (or_no hk2n)⟩ | exact ⟨_, rfl, B01_put hB3, mv_all h1 h2 (or_yes hk2 (Alv_put b_q (by omega) (by omega)))⟩) dX11_moves_133
            exact L84_109 t1 (by first | exact hB2 | exact B01_put hB2) (by first | exact or_yes hk1 (Alv_put b_q (by omega) (by omega)) | exact or_no hk1n)
          · have hk1 : okc (u 10) (u 9 2) c1 k q := (okc_lt (by omega)).2 (KM1.elim (fun g => g.2) (fun g => absurd g.1 (by omega)))
            refine z_aload_n C 0 dX11_moves_69 rfl ?_
            refine z_get C hK (v := .ref (a 17)) inX11_moves_X11 0 (WM_0 a c ((us u 17 (t1)))) rfl 30 (by decide) (List.mem_of_getElem? (i := 1) rfl) rfl dX11_moves_70 ?_
            refine z_iload C 6 dX11_moves_73 rfl ?_
            refine z_iload C 7 dX11_moves_75 rfl ?_
            refine z_iload C 5 dX11_moves_77 rfl ?_
            refine z_callS C hK hDD (c_X11_state (zl x) (zG x) ((WM a c)) (WM_addr a c) ((us u 17 (t1))) q (6 * o + b) c2 (by omega) (by omega) (by omega)) gX11_moves_X11_state rfl rfl zy_X11_state ⟨by omega, by decide⟩ rfl (Nat.le_of_ble_eq_true rfl) (st := [.ref (a 17)]) (stk2 := fun z122 => [.int (zI z122), .ref (a 17)]) rfl (fun _ => rfl) dX11_moves_79 (fun z122 u123 h124 => ?_)
            rw [h124.1]; replace h124 := h124.2
            refine z_as (b := stt q (6 * o + b) c2) h124 ?_
            refine z_iconst C dX11_moves_82 ?_
            refine z_zast C hK (hDD _) 1 (g := (us u 17 (t1)) 17) 17 (WM_17 a c ((us u 17 (t1)))) rfl (by decide) (by omega) (by have := stt_bd b_q (x := 6 * o + b) (y := c2) (by omega) (by omega); omega) (WM_17_set a c ((us u 17 (t1))) (stt q (6 * o + b) c2) 1) dX11_moves_83 ?_
            have L84_125 : ∀ (t2 : Int → Int), (B01 t2) → (Alv (u 10) (u 9 2) (u 0 21) E X t2 k r ↔ Alv (u 10) (u 9 2) (u 0 21) E X t1 k r ∨ (okc (u 10) (u 9 2) c1 k q ∧ CanK (u 10) (u 9 2) (u 0 21) E X r (6 * q + k) (6 * o + b) c2)) → Z x 0 0 (WM a c (us u 17 (t2))) [(0, .ref (a 0)), (1, .int (zI b)), (2, .int (zI k)), (3, .int (zI o)), (4, .int (zI c1)), (5, .int (zI c2)), (6, .int (zI q)), (7, .int (zI (6 * o + b)))] 84 [] := by
              intro t2 hB3 h2
              refine z_iload C 5 dX11_moves_84 rfl ?_
              refine z_bipush C dX11_moves_86 (by decide) ?_
              refine z_icmp_eq C 118 dX11_moves_88 (by decide) (by omega) (fun h126 => ?_) (fun h126 => ?_)
              · have hk2 : okc (u 10) (u 9 2) c2 k q := Or.inl h126
                refine z_aload_n C 0 dX11_moves_118 rfl ?_
                refine z_get C hK (v := .ref (a 17)) inX11_moves_X11 0 (WM_0 a c ((us u 17 (t2)))) rfl 30 (by decide) (List.mem_of_getElem? (i := 1) rfl) rfl dX11_moves_119 ?_
                refine z_iload C 6 dX11_moves_122 rfl ?_
                refine z_iload C 4 dX11_moves_124 rfl ?_
                refine z_iload C 7 dX11_moves_126 rfl ?_
                refine z_callS C hK hDD (c_X11_state (zl x) (zG x) ((WM a c)) (WM_addr a c) ((us u 17 (t2))) q c1 (6 * o + b) (by omega) (by omega) (by omega)) gX11_moves_X11_state rfl rfl zy_X11_state ⟨by omega, by decide⟩ rfl (Nat.le_of_ble_eq_true rfl) (st := [.ref (a 17)]) (stk2 := fun z127 => [.int (zI z127), .ref (a 17)]) rfl (fun _ => rfl) dX11_moves_128 (fun z127 u128 h129 => ?_)
                rw [h129.1]; replace h129 := h129.2
                refine z_as (b := stt q c1 (6 * o + b)) h129 ?_
                refine z_iconst C dX11_moves_131 ?_
                refine z_zast C hK (hDD _) 1 (g := (us u 17 (t2)) 17) 17 (WM_17 a c ((us u 17 (t2)))) rfl (by decide) (by omega) (by have := stt_bd b_q (x := c1) (y := 6 * o + b) (by omega) (by omega); omega) (WM_17_set a c ((us u 17 (t2))) (stt q c1 (6 * o + b)) 1) dX11_moves_132 ?_
                exact kret 0 (us u 17 (fun j => if j = stt q c1 (6 * o + b) then 1 else t2 j)) _ _ (by first | exact ⟨_, rfl, hB3, mv_all h1 h2 (or_no hk2n)⟩ | exact ⟨_, rfl, B01_put hB3, mv_all h1 h2 (or_yes hk2 (Alv_put b_q (by omega) (by omega)))⟩) dX11_moves_133
              · skip
                refine z_iload C 5 dX11_moves_91 rfl ?_
                refine z_bipush C dX11_moves_93 (by decide) ?_
                refine z_icmp_ge C 133 dX11_moves_95 (by decide) (by omega) (fun h130 => ?_) (fun h130 => ?_)
                · have hk2n : ¬ okc (u 10) (u 9 2) c2 k q := okc_no (by omega) h130
                  exact kret 0 (us u 17 t2) _ _ (by first | exact ⟨_, rfl, hB3, mv_all h1 h2 (or_no hk2n)⟩ | exact ⟨_, rfl, B01_put hB3, mv_all h1 h2 (or_yes hk2 (Alv_put b_q (by omega) (by omega)))⟩) dX11_moves_133
                · skip
                  refine z_aload_n C 0 dX11_moves_98 rfl ?_
                  refine z_iload C 5 dX11_moves_99 rfl ?_
                  refine z_bipush C dX11_moves_101 (by decide) ?_
                  refine z_irem C dX11_moves_103 (by omega) ?_
                  refine z_as (b := c2 % 6) (Int.tmod_eq_emod_of_nonneg (by omega)) ?_
                  refine z_iload_n C 2 dX11_moves_104 rfl ?_
                  refine z_iload C 5 dX11_moves_105 rfl ?_
                  refine z_bipush C dX11_moves_107 (by decide) ?_
                  refine z_idiv C dX11_moves_109 (by omega) ?_
                  refine z_as (b := c2 / 6) (Int.tdiv_eq_ediv_of_nonneg (by omega)) ?_
                  refine z_iload C 6 dX11_moves_110 rfl ?_
                  refine z_callV C hK hDD (c_X11_mayGo (zl x) (zG x) a c ((us u 17 (t2))) (c2 % 6) k (c2 / 6) q (hI) (show 0 ≤ (c2 % 6) ∧ (c2 % 6) < 6 by omega) (show 0 ≤ k ∧ k < 6 by omega) (show 0 ≤ (c2 / 6) ∧ (c2 / 6) < 8 by omega) (show 0 ≤ q ∧ q < 8 by omega)) gX11_moves_X11_mayGo rfl zy_X11_mayGo 0 (WM_0 a c ((us u 17 (t2)))) rfl ⟨by omega, by decide⟩ rfl (Nat.le_of_ble_eq_true rfl) (st := []) (stk2 := fun z131 => [.int (zI z131)]) rfl (fun _ => rfl) dX11_moves_112 (fun z131 u132 h133 => ?_)
                  rw [h133.1]; replace h133 := h133.2
                  replace h133 : ((z131 = 1 ∧ (c2 / 6) - q ≤ (u 9 2) * ((u 10) k - (u 10) (c2 % 6)) ∧ q - (c2 / 6) ≤ (u 9 2) * ((u 10) k - (u 10) (c2 % 6))) ∨ (z131 = 0 ∧ ¬ ((c2 / 6) - q ≤ (u 9 2) * ((u 10) k - (u 10) (c2 % 6)) ∧ q - (c2 / 6) ≤ (u 9 2) * ((u 10) k - (u 10) (c2 % 6))))) := h133
                  have KM2 := h133
                  refine z_if_eq C 133 dX11_moves_115 (by decide) (by omega) (fun h134 => ?_) (fun h134 => ?_)
                  · have hk2n : ¬ okc (u 10) (u 9 2) c2 k q := fun h => KM2.elim (fun g => absurd g.1 (by omega)) (fun g => g.2 ((okc_lt (by omega)).1 h))
                    exact kret 0 (us u 17 t2) _ _ (by first | exact ⟨_, rfl, hB3, mv_all h1 h2 (or_no hk2n)⟩ | exact ⟨_, rfl, B01_put hB3, mv_all h1 h2 (or_yes hk2 (Alv_put b_q (by omega) (by omega)))⟩) dX11_moves_133
                  · have hk2 : okc (u 10) (u 9 2) c2 k q := (okc_lt (by omega)).2 (KM2.elim (fun g => g.2) (fun g => absurd g.1 (by omega)))
                    refine z_aload_n C 0 dX11_moves_118 rfl ?_
                    refine z_get C hK (v := .ref (a 17)) inX11_moves_X11 0 (WM_0 a c ((us u 17 (t2)))) rfl 30 (by decide) (List.mem_of_getElem? (i := 1) rfl) rfl dX11_moves_119 ?_
                    refine z_iload C 6 dX11_moves_122 rfl ?_
                    refine z_iload C 4 dX11_moves_124 rfl ?_
                    refine z_iload C 7 dX11_moves_126 rfl ?_
                    refine z_callS C hK hDD (c_X11_state (zl x) (zG x) ((WM a c)) (WM_addr a c) ((us u 17 (t2))) q c1 (6 * o + b) (by omega) (by omega) (by omega)) gX11_moves_X11_state rfl rfl zy_X11_state ⟨by omega, by decide⟩ rfl (Nat.le_of_ble_eq_true rfl) (st := [.ref (a 17)]) (stk2 := fun z135 => [.int (zI z135), .ref (a 17)]) rfl (fun _ => rfl) dX11_moves_128 (fun z135 u136 h137 => ?_)
                    rw [h137.1]; replace h137 := h137.2
                    refine z_as (b := stt q c1 (6 * o + b)) h137 ?_
                    refine z_iconst C dX11_moves_131 ?_
                    refine z_zast C hK (hDD _) 1 (g := (us u 17 (t2)) 17) 17 (WM_17 a c ((us u 17 (t2)))) rfl (by decide) (by omega) (by have := stt_bd b_q (x := c1) (y := 6 * o + b) (by omega) (by omega); omega) (WM_17_set a c ((us u 17 (t2))) (stt q c1 (6 * o + b)) 1) dX11_moves_132 ?_
                    exact kret 0 (us u 17 (fun j => if j = stt q c1 (6 * o + b) then 1 else t2 j)) _ _ (by first | exact ⟨_, rfl, hB3, mv_all h1 h2 (or_no hk2n)⟩ | exact ⟨_, rfl, B01_put hB3, mv_all h1 h2 (or_yes hk2 (Alv_put b_q (by omega) (by omega)))⟩) dX11_moves_133
            exact L84_125 ((fun j => if j = stt q (6 * o + b) c2 then 1 else t1 j)) (by first | exact hB2 | exact B01_put hB2) (by first | exact or_yes hk1 (Alv_put b_q (by omega) (by omega)) | exact or_no hk1n)
    refine z_lv [(0, .ref (a 0)), (1, .int (zI b)), (2, .int (zI k)), (3, .int (zI o)), (4, .int (zI c1)), (5, .int (zI c2)), (6, .int (zI q)), (7, .int (zI ((6 * o) + b)))] [1, 2, 3, 4, 5, 6, 7, 0] rfl ?_
    exact L35_73 ((fun j => if j = stt q c1 c2 then 1 else (u 17) j)) (by first | exact hB1 | exact B01_put hB1) (by first | exact or_yes hk0 (Alv_put b_q (by omega) (by omega)) | exact or_no hk0n)
-- NoteBellsModel.begins
theorem inX11_begins_X11 : ∀ w ∈ wsX110, w ∈ wsX11_begins := fun w h => List.mem_cons_of_mem _ (List.mem_append_right _ (h))
set_option maxHeartbeats 8000000 in
set_option maxRecDepth 100000 in
theorem c_X11_begins (l : Launch) (D : va_G) (a : Nat → Nat) (c : Nat → ClassId) (u : zU) (k m : Int) (E : Int → Bool) (X : Int → Nat → Bool) (r : Nat) (hI : IM u) (b_k : 0 ≤ k ∧ k < 6) (b_m : 1 ≤ m ∧ m ≤ 3) (hB1 : B01 (u 17)) (hXk : u 15 k = ((bn (X k) 8 : Nat) : Int)) (hXl : ∀ q : Nat, X k q = true → (q : Int) < u 0 12) : ZM l D (zTy c) (WM a c) yX11_begins wsX11_begins 3 [.ref (a 0), .int (zI k), .int (zI m)] u rV (fun z u' => ∃ t : Int → Int, u' = us (u) 17 t ∧ B01 t ∧ (Alv (u 10) (u 9 2) (u 0 21) E X t k r ↔ Alv (u 10) (u 9 2) (u 0 21) E X (u 17) k r ∨ ∃ q : Nat, q < 8 ∧ X k q = true ∧ CanK (u 10) (u 9 2) (u 0 21) E X r (6 * (q : Int) + k) (if 1 < m then 48 else 49) (if 2 < m then 48 else 49))) := by
  refine ZM.ofV (cc := cX11_begins) (maxL := 4) [(0, .ref (a 0)), (1, .int (zI k)), (2, .int (zI m))] rfl (by decide +kernel) rfl (Nat.le_of_ble_eq_true rfl) (WM_addr a c) ?_
  intro x C hK _ _ hDD kret
  have hlv := hI.lev
  refine z_iconst C dX11_begins_0 ?_
  refine z_istore_n C [(3, .int (zI 0)), (0, .ref (a 0)), (1, .int (zI k)), (2, .int (zI m))] dX11_begins_1 rfl (by decide) rfl ?_
  have L2_1 : ∀ (fu : Nat) (i : Int) (t1 : Int → Int), (0 ≤ i ∧ i ≤ u 0 12) → (B01 t1) → (Alv (u 10) (u 9 2) (u 0 21) E X t1 k r ↔ Alv (u 10) (u 9 2) (u 0 21) E X (u 17) k r ∨ ∃ q : Nat, q < 8 ∧ (q : Int) < i ∧ X k q = true ∧ CanK (u 10) (u 9 2) (u 0 21) E X r (6 * (q : Int) + k) (if 1 < m then 48 else 49) (if 2 < m then 48 else 49)) → u 0 12 - i < (fu : Int) → Z x 0 0 (WM a c (us u 17 (t1))) [(0, .ref (a 0)), (1, .int (zI k)), (2, .int (zI m)), (3, .int (zI i))] 2 [] := by
    intro fu
    induction fu with
    | zero => intro i t1 hi hB2 h1 hmeas; exfalso; omega
    | succ fu ih2 =>
      intro i t1 hi hB2 h1 hmeas
      refine z_iload_n C 3 dX11_begins_2 rfl ?_
      refine z_aload_n C 0 dX11_begins_3 rfl ?_
      refine z_get C hK (v := .int (zI (u 0 12))) inX11_begins_X11 0 (WM_0 a c ((us u 17 (t1)))) rfl 12 (by decide) (List.mem_of_getElem? (i := 1) rfl) rfl dX11_begins_4 ?_
      refine z_icmp_ge C 64 dX11_begins_7 (by decide) (by omega) (fun h2 => ?_) (fun h2 => ?_)
      · skip
        exact kret 0 (us u 17 t1) _ _ (⟨t1, rfl, hB2, bit_end (fun q hq => by have := hXl q hq; omega) h1⟩) dX11_begins_64
      · skip
        refine z_aload_n C 0 dX11_begins_10 rfl ?_
        refine z_get C hK (v := .ref (a 15)) inX11_begins_X11 0 (WM_0 a c ((us u 17 (t1)))) rfl 27 (by decide) (List.mem_of_getElem? (i := 2) rfl) rfl dX11_begins_11 ?_
        refine z_iload_n C 1 dX11_begins_14 rfl ?_
        refine z_iald C hK 0 (g := (u 15)) (i := k) 15 (WM_15 a c ((us u 17 (t1)))) rfl (by decide) (by omega) dX11_begins_15 ?_
        refine z_as (b := u 15 (k)) rfl ?_
        refine z_as (b := ((bn (X k) 8 : Nat) : Int)) (hXk) ?_
        refine z_iload_n C 3 dX11_begins_16 rfl ?_
        refine z_ishr C (((bn (X k) 8 >>> i.toNat : Nat) : Int)) dX11_begins_17 (zI_shrN (by have := bn_8 (X k) (n := 8) (by omega); omega) (by omega)) ?_
        refine z_iconst C dX11_begins_18 ?_
        refine z_iand C ((if X k i.toNat = true then 1 else 0)) dX11_begins_19 (bn_bitZ (by omega)) ?_
        refine z_iconst C dX11_begins_20 ?_
        refine z_icmp_ne C 58 dX11_begins_21 (by decide) (by split <;> omega) (fun h3 => ?_) (fun h3 => ?_)
        · have hA := ite01_n1 h3
          refine z_iinc C 3 [(3, .int (zI (i + 1))), (0, .ref (a 0)), (1, .int (zI k)), (2, .int (zI m))] dX11_begins_58 rfl (by decide) rfl ?_
          refine z_goto C 2 dX11_begins_61 (by decide) ?_
          refine z_lv [(0, .ref (a 0)), (1, .int (zI k)), (2, .int (zI m)), (3, .int (zI (i + 1)))] [1, 2, 3, 0] rfl ?_
          exact ih2 (i + 1) t1 (by omega) (by first | exact hB2 | exact B01_put hB2) (by first | exact bit_no hi.1 hA h1 | exact bit_yes (by omega) hA h1 (by rw [Int.toNat_of_nonneg hi.1]; exact Alv_put (by omega) (by split <;> omega) (by split <;> omega))) (by omega)
        · have hA := ite01_1 h3
          refine z_aload_n C 0 dX11_begins_24 rfl ?_
          refine z_get C hK (v := .ref (a 17)) inX11_begins_X11 0 (WM_0 a c ((us u 17 (t1)))) rfl 30 (by decide) (List.mem_of_getElem? (i := 3) rfl) rfl dX11_begins_25 ?_
          refine z_iload_n C 3 dX11_begins_28 rfl ?_
          refine z_iload_n C 2 dX11_begins_29 rfl ?_
          refine z_iconst C dX11_begins_30 ?_
          refine z_icmp_le C 39 dX11_begins_31 (by decide) (by omega) (fun h4 => ?_) (fun h4 => ?_)
          · skip
            refine z_bipush C dX11_begins_39 (by decide) ?_
            refine z_as (b := (if 1 < m then 48 else 49)) (by first | rw [if_pos (by omega)] | rw [if_neg (by omega)]) ?_
            refine z_iload_n C 2 dX11_begins_41 rfl ?_
            refine z_iconst C dX11_begins_42 ?_
            refine z_icmp_le C 51 dX11_begins_43 (by decide) (by omega) (fun h5 => ?_) (fun h5 => ?_)
            · skip
              refine z_bipush C dX11_begins_51 (by decide) ?_
              refine z_as (b := (if 2 < m then 48 else 49)) (by first | rw [if_pos (by omega)] | rw [if_neg (by omega)]) ?_
              refine z_callS C hK hDD (c_X11_state (zl x) (zG x) ((WM a c)) (WM_addr a c) ((us u 17 (t1))) i ((if 1 < m then 48 else 49)) ((if 2 < m then 48 else 49)) (by omega) (by split <;> omega) (by split <;> omega)) gX11_begins_X11_state rfl rfl zy_X11_state ⟨by omega, by decide⟩ rfl (Nat.le_of_ble_eq_true rfl) (st := [.ref (a 17)]) (stk2 := fun z6 => [.int (zI z6), .ref (a 17)]) rfl (fun _ => rfl) dX11_begins_53 (fun z6 u7 h8 => ?_)
              rw [h8.1]; replace h8 := h8.2
              refine z_as (b := stt i ((if 1 < m then 48 else 49)) ((if 2 < m then 48 else 49))) h8 ?_
              refine z_iconst C dX11_begins_56 ?_
              refine z_zast C hK (hDD _) 1 (g := (us u 17 (t1)) 17) 17 (WM_17 a c ((us u 17 (t1)))) rfl (by decide) (by omega) (by have := stt_bd (q := i) (x := if 1 < m then 48 else 49) (y := if 2 < m then 48 else 49) (by omega) (by split <;> omega) (by split <;> omega); omega) (WM_17_set a c ((us u 17 (t1))) (stt i ((if 1 < m then 48 else 49)) ((if 2 < m then 48 else 49))) 1) dX11_begins_57 ?_
              refine z_iinc C 3 [(3, .int (zI (i + 1))), (0, .ref (a 0)), (1, .int (zI k)), (2, .int (zI m))] dX11_begins_58 rfl (by decide) rfl ?_
              refine z_goto C 2 dX11_begins_61 (by decide) ?_
              refine z_lv [(0, .ref (a 0)), (1, .int (zI k)), (2, .int (zI m)), (3, .int (zI (i + 1)))] [1, 2, 3, 0] rfl ?_
              exact ih2 (i + 1) ((fun j => if j = stt i ((if 1 < m then 48 else 49)) ((if 2 < m then 48 else 49)) then 1 else t1 j)) (by omega) (by first | exact hB2 | exact B01_put hB2) (by first | exact bit_no hi.1 hA h1 | exact bit_yes (by omega) hA h1 (by rw [Int.toNat_of_nonneg hi.1]; exact Alv_put (by omega) (by split <;> omega) (by split <;> omega))) (by omega)
            · skip
              refine z_bipush C dX11_begins_46 (by decide) ?_
              refine z_goto C 53 dX11_begins_48 (by decide) ?_
              refine z_as (b := (if 2 < m then 48 else 49)) (by first | rw [if_pos (by omega)] | rw [if_neg (by omega)]) ?_
              refine z_callS C hK hDD (c_X11_state (zl x) (zG x) ((WM a c)) (WM_addr a c) ((us u 17 (t1))) i ((if 1 < m then 48 else 49)) ((if 2 < m then 48 else 49)) (by omega) (by split <;> omega) (by split <;> omega)) gX11_begins_X11_state rfl rfl zy_X11_state ⟨by omega, by decide⟩ rfl (Nat.le_of_ble_eq_true rfl) (st := [.ref (a 17)]) (stk2 := fun z9 => [.int (zI z9), .ref (a 17)]) rfl (fun _ => rfl) dX11_begins_53 (fun z9 u10 h11 => ?_)
              rw [h11.1]; replace h11 := h11.2
              refine z_as (b := stt i ((if 1 < m then 48 else 49)) ((if 2 < m then 48 else 49))) h11 ?_
              refine z_iconst C dX11_begins_56 ?_
              refine z_zast C hK (hDD _) 1 (g := (us u 17 (t1)) 17) 17 (WM_17 a c ((us u 17 (t1)))) rfl (by decide) (by omega) (by have := stt_bd (q := i) (x := if 1 < m then 48 else 49) (y := if 2 < m then 48 else 49) (by omega) (by split <;> omega) (by split <;> omega); omega) (WM_17_set a c ((us u 17 (t1))) (stt i ((if 1 < m then 48 else 49)) ((if 2 < m then 48 else 49))) 1) dX11_begins_57 ?_
              refine z_iinc C 3 [(3, .int (zI (i + 1))), (0, .ref (a 0)), (1, .int (zI k)), (2, .int (zI m))] dX11_begins_58 rfl (by decide) rfl ?_
              refine z_goto C 2 dX11_begins_61 (by decide) ?_
              refine z_lv [(0, .ref (a 0)), (1, .int (zI k)), (2, .int (zI m)), (3, .int (zI (i + 1)))] [1, 2, 3, 0] rfl ?_
              exact ih2 (i + 1) ((fun j => if j = stt i ((if 1 < m then 48 else 49)) ((if 2 < m then 48 else 49)) then 1 else t1 j)) (by omega) (by first | exact hB2 | exact B01_put hB2) (by first | exact bit_no hi.1 hA h1 | exact bit_yes (by omega) hA h1 (by rw [Int.toNat_of_nonneg hi.1]; exact Alv_put (by omega) (by split <;> omega) (by split <;> omega))) (by omega)
          · skip
            refine z_bipush C dX11_begins_34 (by decide) ?_
            refine z_goto C 41 dX11_begins_36 (by decide) ?_
            refine z_as (b := (if 1 < m then 48 else 49)) (by first | rw [if_pos (by omega)] | rw [if_neg (by omega)]) ?_
            refine z_iload_n C 2 dX11_begins_41 rfl ?_
            refine z_iconst C dX11_begins_42 ?_
            refine z_icmp_le C 51 dX11_begins_43 (by decide) (by omega) (fun h12 => ?_) (fun h12 => ?_)
            · skip
              refine z_bipush C dX11_begins_51 (by decide) ?_
              refine z_as (b := (if 2 < m then 48 else 49)) (by first | rw [if_pos (by omega)] | rw [if_neg (by omega)]) ?_
              refine z_callS C hK hDD (c_X11_state (zl x) (zG x) ((WM a c)) (WM_addr a c) ((us u 17 (t1))) i ((if 1 < m then 48 else 49)) ((if 2 < m then 48 else 49)) (by omega) (by split <;> omega) (by split <;> omega)) gX11_begins_X11_state rfl rfl zy_X11_state ⟨by omega, by decide⟩ rfl (Nat.le_of_ble_eq_true rfl) (st := [.ref (a 17)]) (stk2 := fun z13 => [.int (zI z13), .ref (a 17)]) rfl (fun _ => rfl) dX11_begins_53 (fun z13 u14 h15 => ?_)
              rw [h15.1]; replace h15 := h15.2
              refine z_as (b := stt i ((if 1 < m then 48 else 49)) ((if 2 < m then 48 else 49))) h15 ?_
              refine z_iconst C dX11_begins_56 ?_
              refine z_zast C hK (hDD _) 1 (g := (us u 17 (t1)) 17) 17 (WM_17 a c ((us u 17 (t1)))) rfl (by decide) (by omega) (by have := stt_bd (q := i) (x := if 1 < m then 48 else 49) (y := if 2 < m then 48 else 49) (by omega) (by split <;> omega) (by split <;> omega); omega) (WM_17_set a c ((us u 17 (t1))) (stt i ((if 1 < m then 48 else 49)) ((if 2 < m then 48 else 49))) 1) dX11_begins_57 ?_
              refine z_iinc C 3 [(3, .int (zI (i + 1))), (0, .ref (a 0)), (1, .int (zI k)), (2, .int (zI m))] dX11_begins_58 rfl (by decide) rfl ?_
              refine z_goto C 2 dX11_begins_61 (by decide) ?_
              refine z_lv [(0, .ref (a 0)), (1, .int (zI k)), (2, .int (zI m)), (3, .int (zI (i + 1)))] [1, 2, 3, 0] rfl ?_
              exact ih2 (i + 1) ((fun j => if j = stt i ((if 1 < m then 48 else 49)) ((if 2 < m then 48 else 49)) then 1 else t1 j)) (by omega) (by first | exact hB2 | exact B01_put hB2) (by first | exact bit_no hi.1 hA h1 | exact bit_yes (by omega) hA h1 (by rw [Int.toNat_of_nonneg hi.1]; exact Alv_put (by omega) (by split <;> omega) (by split <;> omega))) (by omega)
            · skip
              refine z_bipush C dX11_begins_46 (by decide) ?_
              refine z_goto C 53 dX11_begins_48 (by decide) ?_
              refine z_as (b := (if 2 < m then 48 else 49)) (by first | rw [if_pos (by omega)] | rw [if_neg (by omega)]) ?_
              refine z_callS C hK hDD (c_X11_state (zl x) (zG x) ((WM a c)) (WM_addr a c) ((us u 17 (t1))) i ((if 1 < m then 48 else 49)) ((if 2 < m then 48 else 49)) (by omega) (by split <;> omega) (by split <;> omega)) gX11_begins_X11_state rfl rfl zy_X11_state ⟨by omega, by decide⟩ rfl (Nat.le_of_ble_eq_true rfl) (st := [.ref (a 17)]) (stk2 := fun z16 => [.int (zI z16), .ref (a 17)]) rfl (fun _ => rfl) dX11_begins_53 (fun z16 u17 h18 => ?_)
              rw [h18.1]; replace h18 := h18.2
              refine z_as (b := stt i ((if 1 < m then 48 else 49)) ((if 2 < m then 48 else 49))) h18 ?_
              refine z_iconst C dX11_begins_56 ?_
              refine z_zast C hK (hDD _) 1 (g := (us u 17 (t1)) 17) 17 (WM_17 a c ((us u 17 (t1)))) rfl (by decide) (by omega) (by have := stt_bd (q := i) (x := if 1 < m then 48 else 49) (y := if 2 < m then 48 else 49) (by omega) (by split <;> omega) (by split <;> omega); omega) (WM_17_set a c ((us u 17 (t1))) (stt i ((if 1 < m then 48 else 49)) ((if 2 < m then 48 else 49))) 1) dX11_begins_57 ?_
              refine z_iinc C 3 [(3, .int (zI (i + 1))), (0, .ref (a 0)), (1, .int (zI k)), (2, .int (zI m))] dX11_begins_58 rfl (by decide) rfl ?_
              refine z_goto C 2 dX11_begins_61 (by decide) ?_
              refine z_lv [(0, .ref (a 0)), (1, .int (zI k)), (2, .int (zI m)), (3, .int (zI (i + 1)))] [1, 2, 3, 0] rfl ?_
              exact ih2 (i + 1) ((fun j => if j = stt i ((if 1 < m then 48 else 49)) ((if 2 < m then 48 else 49)) then 1 else t1 j)) (by omega) (by first | exact hB2 | exact B01_put hB2) (by first | exact bit_no hi.1 hA h1 | exact bit_yes (by omega) hA h1 (by rw [Int.toNat_of_nonneg hi.1]; exact Alv_put (by omega) (by split <;> omega) (by split <;> omega))) (by omega)
  refine z_lv [(0, .ref (a 0)), (1, .int (zI k)), (2, .int (zI m)), (3, .int (zI 0))] [1, 2, 3, 0] rfl ?_
  exact L2_1 (((u 0 12 - 0 : Int)).toNat + 1) 0 ((u 17)) (by omega) (hB1) (bit_0) (by omega)
-- NoteBellsModel.goesOn
theorem inX11_goesOn_X11 : ∀ w ∈ wsX110, w ∈ wsX11_goesOn := fun w h => List.mem_cons_of_mem _ (List.mem_append_right _ (h))
set_option maxHeartbeats 8000000 in
set_option maxRecDepth 100000 in
theorem c_X11_goesOn (l : Launch) (D : va_G) (a : Nat → Nat) (c : Nat → ClassId) (u : zU) (b k : Int) (E : Int → Bool) (X : Int → Nat → Bool) (r : Nat) (hI : IM u) (b_b : 0 ≤ b ∧ b < 6) (b_k : 0 ≤ k ∧ k < 6) (hB1 : B01 (u 17)) (hB16 : B01 (u 16)) (hXk : u 15 k = ((bn (X k) 8 : Nat) : Int)) (hXl : ∀ q : Nat, X k q = true → (q : Int) < u 0 12) (hkr : k = u 0 21 - 1 - (r : Int)) (hEk : E k = false) : ZM l D (zTy c) (WM a c) yX11_goesOn wsX11_goesOn 4 [.ref (a 0), .int (zI b), .int (zI k)] u rV (fun z u' => ∃ t : Int → Int, u' = us (u) 17 t ∧ B01 t ∧ (Alv (u 10) (u 9 2) (u 0 21) E X t k r ↔ Alv (u 10) (u 9 2) (u 0 21) E X (u 17) k r ∨ Alv (u 10) (u 9 2) (u 0 21) E X (u 16) b (r + 1))) := by
  refine ZM.ofV (cc := cX11_goesOn) (maxL := 8) [(0, .ref (a 0)), (1, .int (zI b)), (2, .int (zI k))] rfl (by decide +kernel) rfl (Nat.le_of_ble_eq_true rfl) (WM_addr a c) ?_
  intro x C hK _ _ hDD kret
  have hlv := hI.lev
  refine z_iconst C dX11_goesOn_0 ?_
  refine z_istore_n C [(3, .int (zI 0)), (0, .ref (a 0)), (1, .int (zI b)), (2, .int (zI k))] dX11_goesOn_1 rfl (by decide) rfl ?_
  have L2_1 : ∀ (fu : Nat) (j : Int) (t1 : Int → Int), (0 ≤ j ∧ j ≤ 20000) → (B01 t1) → (Alv (u 10) (u 9 2) (u 0 21) E X t1 k r ↔ Alv (u 10) (u 9 2) (u 0 21) E X (u 17) k r ∨ Gon (u 10) (u 9 2) (u 0 21) E X (u 16) b k r j) → 20000 - j < (fu : Int) → Z x 0 0 (WM a c (us u 17 (t1))) [(0, .ref (a 0)), (1, .int (zI b)), (2, .int (zI k)), (3, .int (zI j))] 2 [] := by
    intro fu
    induction fu with
    | zero => intro j t1 hj hB2 h1 hmeas; exfalso; omega
    | succ fu ih2 =>
      intro j t1 hj hB2 h1 hmeas
      refine z_iload_n C 3 dX11_goesOn_2 rfl ?_
      refine z_sipush C dX11_goesOn_3 (by decide) ?_
      refine z_icmp_ge C 93 dX11_goesOn_6 (by decide) (by omega) (fun h2 => ?_) (fun h2 => ?_)
      · skip
        exact kret 0 (us u 17 t1) _ _ (⟨t1, rfl, hB2, gon_end hkr hEk (by rw [show (20000 : Int) = j by omega]; exact h1)⟩) dX11_goesOn_93
      · skip
        refine z_aload_n C 0 dX11_goesOn_9 rfl ?_
        have h16 := hB16 j hj.1 (by omega)
        refine z_get C hK (v := .ref (a 16)) inX11_goesOn_X11 0 (WM_0 a c ((us u 17 (t1)))) rfl 29 (by decide) (List.mem_of_getElem? (i := 1) rfl) rfl dX11_goesOn_10 ?_
        refine z_iload_n C 3 dX11_goesOn_13 rfl ?_
        refine z_zald C hK 1 (g := (u 16)) (i := j) 16 (WM_16 a c ((us u 17 (t1)))) rfl (by decide) (by omega) dX11_goesOn_14 ?_
        refine z_as (b := u 16 (j)) rfl ?_
        refine z_if_eq C 87 dX11_goesOn_15 (by decide) (by omega) (fun h3 => ?_) (fun h3 => ?_)
        · have hj0 := h3
          refine z_iinc C 3 [(3, .int (zI (j + 1))), (0, .ref (a 0)), (1, .int (zI b)), (2, .int (zI k))] dX11_goesOn_87 rfl (by decide) rfl ?_
          refine z_goto C 2 dX11_goesOn_90 (by decide) ?_
          refine z_lv [(0, .ref (a 0)), (1, .int (zI b)), (2, .int (zI k)), (3, .int (zI (j + 1)))] [1, 2, 3, 0] rfl ?_
          exact ih2 (j + 1) t1 (by omega) (by first | exact hB3 | exact hB2) (by first | exact gon_yes hj.1 hjn h1 (bit_end (fun q hq => by have := hXl q hq; omega) h2) | exact gon_no hj0 h1) (by omega)
        · have hjn := h3
          refine z_iload_n C 3 dX11_goesOn_18 rfl ?_
          refine z_sipush C dX11_goesOn_19 (by decide) ?_
          refine z_idiv C dX11_goesOn_22 (by omega) ?_
          refine z_as (b := j / 2500) (Int.tdiv_eq_ediv_of_nonneg (by omega)) ?_
          refine z_istore C [(4, .int (zI (j / 2500))), (0, .ref (a 0)), (1, .int (zI b)), (2, .int (zI k)), (3, .int (zI j))] dX11_goesOn_23 (by decide) rfl ?_
          refine z_iload_n C 4 dX11_goesOn_25 rfl ?_
          refine z_bipush C dX11_goesOn_26 (by decide) ?_
          refine z_idiv C dX11_goesOn_28 (by omega) ?_
          refine z_as (b := j / 50) (Int.tdiv_eq_ediv_of_nonneg (by omega)) ?_
          refine z_bipush C dX11_goesOn_29 (by decide) ?_
          refine z_irem C dX11_goesOn_31 (by omega) ?_
          refine z_as (b := j / 50 % 50) (Int.tmod_eq_emod_of_nonneg (by omega)) ?_
          refine z_istore C [(5, .int (zI (j / 50 % 50))), (4, .int (zI (j / 2500))), (0, .ref (a 0)), (1, .int (zI b)), (2, .int (zI k)), (3, .int (zI j))] dX11_goesOn_32 (by decide) rfl ?_
          refine z_iload_n C 5 dX11_goesOn_34 rfl ?_
          refine z_bipush C dX11_goesOn_35 (by decide) ?_
          refine z_irem C dX11_goesOn_37 (by omega) ?_
          refine z_as (b := j % 50) (Int.tmod_eq_emod_of_nonneg (by omega)) ?_
          refine z_istore C [(6, .int (zI (j % 50))), (5, .int (zI (j / 50 % 50))), (4, .int (zI (j / 2500))), (0, .ref (a 0)), (1, .int (zI b)), (2, .int (zI k)), (3, .int (zI j))] dX11_goesOn_38 (by decide) rfl ?_
          refine z_iconst C dX11_goesOn_40 ?_
          refine z_istore C [(7, .int (zI 0)), (6, .int (zI (j % 50))), (5, .int (zI (j / 50 % 50))), (4, .int (zI (j / 2500))), (0, .ref (a 0)), (1, .int (zI b)), (2, .int (zI k)), (3, .int (zI j))] dX11_goesOn_41 (by decide) rfl ?_
          have L43_4 : ∀ (fu : Nat) (i : Int) (t2 : Int → Int), (0 ≤ i ∧ i ≤ u 0 12) → (B01 t2) → (Alv (u 10) (u 9 2) (u 0 21) E X t2 k r ↔ Alv (u 10) (u 9 2) (u 0 21) E X t1 k r ∨ ∃ q : Nat, q < 8 ∧ (q : Int) < i ∧ X k q = true ∧ Mvs (u 10) (u 9 2) (u 0 21) E X r k (6 * (j / 2500) + b) (j / 50 % 50) (j % 50) q) → u 0 12 - i < (fu : Int) → Z x 0 0 (WM a c (us u 17 (t2))) [(0, .ref (a 0)), (1, .int (zI b)), (2, .int (zI k)), (3, .int (zI j)), (4, .int (zI (j / 2500))), (5, .int (zI (j / 50 % 50))), (6, .int (zI (j % 50))), (7, .int (zI i))] 43 [] := by
            intro fu
            induction fu with
            | zero => intro i t2 hi hB3 h2 hmeas; exfalso; omega
            | succ fu ih43 =>
              intro i t2 hi hB3 h2 hmeas
              refine z_iload C 7 dX11_goesOn_43 rfl ?_
              refine z_aload_n C 0 dX11_goesOn_45 rfl ?_
              refine z_get C hK (v := .int (zI (u 0 12))) inX11_goesOn_X11 0 (WM_0 a c ((us u 17 (t2)))) rfl 12 (by decide) (List.mem_of_getElem? (i := 2) rfl) rfl dX11_goesOn_46 ?_
              refine z_icmp_ge C 87 dX11_goesOn_49 (by decide) (by omega) (fun h5 => ?_) (fun h5 => ?_)
              · skip
                refine z_iinc C 3 [(3, .int (zI (j + 1))), (0, .ref (a 0)), (1, .int (zI b)), (2, .int (zI k)), (4, .int (zI (j / 2500))), (5, .int (zI (j / 50 % 50))), (6, .int (zI (j % 50))), (7, .int (zI i))] dX11_goesOn_87 rfl (by decide) rfl ?_
                refine z_goto C 2 dX11_goesOn_90 (by decide) ?_
                refine z_lv [(0, .ref (a 0)), (1, .int (zI b)), (2, .int (zI k)), (3, .int (zI (j + 1)))] [1, 2, 3, 0] rfl ?_
                exact ih2 (j + 1) t2 (by omega) (by first | exact hB3 | exact hB2) (by first | exact gon_yes hj.1 hjn h1 (bit_end (fun q hq => by have := hXl q hq; omega) h2) | exact gon_no hj0 h1) (by omega)
              · skip
                refine z_aload_n C 0 dX11_goesOn_52 rfl ?_
                refine z_get C hK (v := .ref (a 15)) inX11_goesOn_X11 0 (WM_0 a c ((us u 17 (t2)))) rfl 27 (by decide) (List.mem_of_getElem? (i := 3) rfl) rfl dX11_goesOn_53 ?_
                refine z_iload_n C 2 dX11_goesOn_56 rfl ?_
                refine z_iald C hK 0 (g := (u 15)) (i := k) 15 (WM_15 a c ((us u 17 (t2)))) rfl (by decide) (by omega) dX11_goesOn_57 ?_
                refine z_as (b := u 15 (k)) rfl ?_
                refine z_as (b := ((bn (X k) 8 : Nat) : Int)) (hXk) ?_
                refine z_iload C 7 dX11_goesOn_58 rfl ?_
                refine z_ishr C (((bn (X k) 8 >>> i.toNat : Nat) : Int)) dX11_goesOn_60 (zI_shrN (by have := bn_8 (X k) (n := 8) (by omega); omega) (by omega)) ?_
                refine z_iconst C dX11_goesOn_61 ?_
                refine z_iand C ((if X k i.toNat = true then 1 else 0)) dX11_goesOn_62 (bn_bitZ (by omega)) ?_
                refine z_iconst C dX11_goesOn_63 ?_
                refine z_icmp_ne C 81 dX11_goesOn_64 (by decide) (by split <;> omega) (fun h6 => ?_) (fun h6 => ?_)
                · have hA := ite01_n1 h6
                  refine z_iinc C 7 [(7, .int (zI (i + 1))), (0, .ref (a 0)), (1, .int (zI b)), (2, .int (zI k)), (3, .int (zI j)), (4, .int (zI (j / 2500))), (5, .int (zI (j / 50 % 50))), (6, .int (zI (j % 50)))] dX11_goesOn_81 rfl (by decide) rfl ?_
                  refine z_goto C 43 dX11_goesOn_84 (by decide) ?_
                  refine z_lv [(0, .ref (a 0)), (1, .int (zI b)), (2, .int (zI k)), (3, .int (zI j)), (4, .int (zI (j / 2500))), (5, .int (zI (j / 50 % 50))), (6, .int (zI (j % 50))), (7, .int (zI (i + 1)))] [1, 2, 3, 4, 5, 6, 7, 0] rfl ?_
                  exact ih43 (i + 1) t2 (by omega) (by first | exact hB4 | exact hB3) (by first | exact bit_no hi.1 hA h2 | exact bit_yes (by omega) hA h2 (by rw [Int.toNat_of_nonneg hi.1]; exact h4)) (by omega)
                · have hA := ite01_1 h6
                  refine z_aload_n C 0 dX11_goesOn_67 rfl ?_
                  refine z_iload_n C 1 dX11_goesOn_68 rfl ?_
                  refine z_iload_n C 2 dX11_goesOn_69 rfl ?_
                  refine z_iload C 4 dX11_goesOn_70 rfl ?_
                  refine z_iload C 5 dX11_goesOn_72 rfl ?_
                  refine z_iload C 6 dX11_goesOn_74 rfl ?_
                  refine z_iload C 7 dX11_goesOn_76 rfl ?_
                  refine z_callV C hK hDD (c_X11_moves (zl x) (zG x) a c ((us u 17 (t2))) b k (j / 2500) (j / 50 % 50) (j % 50) i E X r (hI) (show 0 ≤ b ∧ b < 6 by omega) (show 0 ≤ k ∧ k < 6 by omega) (show 0 ≤ (j / 2500) ∧ (j / 2500) < 8 by omega) (show 0 ≤ (j / 50 % 50) ∧ (j / 50 % 50) < 50 by omega) (show 0 ≤ (j % 50) ∧ (j % 50) < 50 by omega) (show 0 ≤ i ∧ i < 8 by omega) (hB3)) gX11_goesOn_X11_moves rfl zy_X11_moves 0 (WM_0 a c ((us u 17 (t2)))) rfl ⟨by omega, by decide⟩ rfl (Nat.le_of_ble_eq_true rfl) (st := []) (stk2 := fun _ => []) rfl (fun _ => rfl) dX11_goesOn_78 (fun z7 u8 h9 => ?_)
                  replace h9 : ∃ t : Int → Int, u8 = us (((us u 17 (t2)))) 17 t ∧ B01 t ∧ (Alv ((u 10)) ((u 9 2)) ((u 0 21)) E X t k r ↔ Alv ((u 10)) ((u 9 2)) ((u 0 21)) E X (t2) k r ∨ Mvs ((u 10)) ((u 9 2)) ((u 0 21)) E X r k (6 * (j / 2500) + b) (j / 50 % 50) (j % 50) i) := h9
                  obtain ⟨t4, e4, hB4, h4⟩ := h9
                  rw [e4, us_us]
                  change Z x 0 0 (WM a c (us u 17 (t4))) _ _ _
                  refine z_iinc C 7 [(7, .int (zI (i + 1))), (0, .ref (a 0)), (1, .int (zI b)), (2, .int (zI k)), (3, .int (zI j)), (4, .int (zI (j / 2500))), (5, .int (zI (j / 50 % 50))), (6, .int (zI (j % 50)))] dX11_goesOn_81 rfl (by decide) rfl ?_
                  refine z_goto C 43 dX11_goesOn_84 (by decide) ?_
                  refine z_lv [(0, .ref (a 0)), (1, .int (zI b)), (2, .int (zI k)), (3, .int (zI j)), (4, .int (zI (j / 2500))), (5, .int (zI (j / 50 % 50))), (6, .int (zI (j % 50))), (7, .int (zI (i + 1)))] [1, 2, 3, 4, 5, 6, 7, 0] rfl ?_
                  exact ih43 (i + 1) t4 (by omega) (by first | exact hB4 | exact hB3) (by first | exact bit_no hi.1 hA h2 | exact bit_yes (by omega) hA h2 (by rw [Int.toNat_of_nonneg hi.1]; exact h4)) (by omega)
          refine z_lv [(0, .ref (a 0)), (1, .int (zI b)), (2, .int (zI k)), (3, .int (zI j)), (4, .int (zI (j / 2500))), (5, .int (zI (j / 50 % 50))), (6, .int (zI (j % 50))), (7, .int (zI 0))] [4, 5, 6, 7, 3, 2, 1, 0] rfl ?_
          exact L43_4 (((u 0 12 - 0 : Int)).toNat + 1) 0 t1 (by omega) (hB2) (bit_0) (by omega)
  refine z_lv [(0, .ref (a 0)), (1, .int (zI b)), (2, .int (zI k)), (3, .int (zI 0))] [1, 2, 3, 0] rfl ?_
  exact L2_1 (((20000 - 0 : Int)).toNat + 1) 0 ((u 17)) (by omega) (hB1) (gon_0) (by omega)
-- NoteBellsModel.goes
theorem inX11_goes_X11 : ∀ w ∈ wsX110, w ∈ wsX11_goes := fun w h => List.mem_cons_of_mem _ (List.mem_append_right _ (h))
set_option maxHeartbeats 8000000 in
set_option maxRecDepth 100000 in
theorem c_X11_goes (l : Launch) (D : va_G) (a : Nat → Nat) (c : Nat → ClassId) (u : zU) (m : Int) (E : Int → Bool) (X : Int → Nat → Bool) (hI : IM u) (b_m : 1 ≤ m ∧ m ≤ 3) (hn1 : 1 ≤ u 0 21) (hE : ∀ j : Int, 0 ≤ j → j < u 0 21 → (E j = true ↔ 0 ≤ u 14 j)) (hsb : ∀ j : Int, 0 ≤ j → j < u 0 21 → -1 ≤ u 14 j ∧ u 14 j ≤ 5) (hX : ∀ j : Int, 0 ≤ j → j < u 0 21 → u 15 j = ((bn (X j) 8 : Nat) : Int)) (hXl : XL (u 0 21) (u 0 12) X) (hE0 : E 0 = false) : ZM l D (zTy c) (WM a c) yX11_goes wsX11_goes 6 [.ref (a 0), .int (zI m)] u rI (fun z u' => (∃ s t : Int → Int, u' = us (us (u) 16 s) 17 t) ∧ ((z = 1 ∧ St (u 10) (u 9 2) (u 0 21) E X m) ∨ (z = 0 ∧ ¬ St (u 10) (u 9 2) (u 0 21) E X m))) := by
  refine ZM.ofZ (cc := cX11_goes) (maxL := 5) [(0, .ref (a 0)), (1, .int (zI m))] rfl (by decide +kernel) rfl (Nat.le_of_ble_eq_true rfl) (WM_addr a c) ?_
  intro x C hK _ _ hDD kret
  have hno := hI.notes
  refine z_iconst C dX11_goes_0 ?_
  refine z_istore_n C [(2, .int (zI (-1))), (0, .ref (a 0)), (1, .int (zI m))] dX11_goes_1 rfl (by decide) rfl ?_
  refine z_iconst C dX11_goes_2 ?_
  refine z_istore_n C [(3, .int (zI 0)), (2, .int (zI (-1))), (0, .ref (a 0)), (1, .int (zI m))] dX11_goes_3 rfl (by decide) rfl ?_
  have L4_1 : ∀ (fu : Nat) (k : Int) (b : Int) (s : Int → Int) (t : Int → Int), (0 ≤ k ∧ k ≤ u 0 21) → ((k = 0 ∧ b = -1) ∨ (0 < k ∧ (0 ≤ b ∧ b < k) ∧ B01 s ∧ (Alv (u 10) (u 9 2) (u 0 21) E X s b (u 0 21 - k).toNat ↔ St (u 10) (u 9 2) (u 0 21) E X m))) → u 0 21 - k < (fu : Int) → Z x 0 0 (WM a c (us (us u 16 (s)) 17 (t))) [(0, .ref (a 0)), (1, .int (zI m)), (2, .int (zI b)), (3, .int (zI k))] 4 [] := by
    intro fu
    induction fu with
    | zero => intro k b s t hk hs hmeas; exfalso; omega
    | succ fu ih4 =>
      intro k b s t hk hs hmeas
      refine z_iload_n C 3 dX11_goes_4 rfl ?_
      refine z_aload_n C 0 dX11_goes_5 rfl ?_
      refine z_get C hK (v := .int (zI (u 0 21))) inX11_goes_X11 0 (WM_0 a c ((us (us u 16 (s)) 17 (t)))) rfl 21 (by decide) (List.mem_of_getElem? (i := 1) rfl) rfl dX11_goes_6 ?_
      refine z_icmp_ge C 104 dX11_goes_9 (by decide) (by omega) (fun h2 => ?_) (fun h2 => ?_)
      · skip
        refine z_iconst C dX11_goes_104 ?_
        refine z_istore_n C [(3, .int (zI 0)), (0, .ref (a 0)), (1, .int (zI m)), (2, .int (zI b))] dX11_goes_105 rfl (by decide) rfl ?_
        refine z_iconst C dX11_goes_106 ?_
        refine z_istore C [(4, .int (zI 0)), (3, .int (zI 0)), (0, .ref (a 0)), (1, .int (zI m)), (2, .int (zI b))] dX11_goes_107 (by decide) rfl ?_
        have L109_3 : ∀ (fu : Nat) (j : Int) (v : Int), (0 ≤ j ∧ j ≤ 20000) → ((v = 0 ∧ ∀ i : Int, 0 ≤ i → i < j → s i = 0) ∨ (v = 1 ∧ ∃ i : Int, (0 ≤ i ∧ i < j) ∧ s i ≠ 0)) → (B01 s) → (Alv (u 10) (u 9 2) (u 0 21) E X s b 0 ↔ St (u 10) (u 9 2) (u 0 21) E X m) → 20000 - j < (fu : Int) → Z x 0 0 (WM a c (us (us u 16 (s)) 17 (t))) [(0, .ref (a 0)), (1, .int (zI m)), (2, .int (zI b)), (3, .int (zI v)), (4, .int (zI j))] 109 [] := by
          intro fu
          induction fu with
          | zero => intro j v hj hv hBs hfin hmeas; exfalso; omega
          | succ fu ih109 =>
            intro j v hj hv hBs hfin hmeas
            refine z_iload C 4 dX11_goes_109 rfl ?_
            refine z_sipush C dX11_goes_111 (by decide) ?_
            refine z_icmp_ge C 143 dX11_goes_114 (by decide) (by omega) (fun h4 => ?_) (fun h4 => ?_)
            · skip
              refine z_iload_n C 3 dX11_goes_143 rfl ?_
              exact kret v (us (us u 16 s) 17 t) _ _ (⟨⟨s, t, rfl⟩, any_end (by omega) hv hfin⟩) (by omega) dX11_goes_144
            · skip
              have hv01 : v = 0 ∨ v = 1 := hv.imp (fun q => q.1) (fun q => q.1)
              refine z_iload_n C 3 dX11_goes_117 rfl ?_
              refine z_if_ne C 131 dX11_goes_118 (by decide) (by omega) (fun h5 => ?_) (fun h5 => ?_)
              · have hvn := h5
                refine z_iconst C dX11_goes_131 ?_
                refine z_goto C 136 dX11_goes_132 (by decide) ?_
                refine z_istore_n C [(3, .int (zI 1)), (0, .ref (a 0)), (1, .int (zI m)), (2, .int (zI b)), (4, .int (zI j))] dX11_goes_136 rfl (by decide) rfl ?_
                refine z_iinc C 4 [(4, .int (zI (j + 1))), (3, .int (zI 1)), (0, .ref (a 0)), (1, .int (zI m)), (2, .int (zI b))] dX11_goes_137 rfl (by decide) rfl ?_
                refine z_goto C 109 dX11_goes_140 (by decide) ?_
                refine z_lv [(0, .ref (a 0)), (1, .int (zI m)), (2, .int (zI b)), (3, .int (zI 1)), (4, .int (zI (j + 1)))] [2, 3, 4, 1, 0] rfl ?_
                exact ih109 (j + 1) 1 (by omega) (by first | exact any_yes hj.1 hv (Or.inl hvn) | exact any_yes hj.1 hv (Or.inr hjn) | exact any_no hv hv0 hj0) (hBs) (hfin) (by omega)
              · have hv0 : v = 0 := by omega
                have hs01 := hBs j hj.1 (by omega)
                refine z_aload_n C 0 dX11_goes_121 rfl ?_
                refine z_get C hK (v := .ref (a 16)) inX11_goes_X11 0 (WM_0 a c ((us (us u 16 (s)) 17 (t)))) rfl 29 (by decide) (List.mem_of_getElem? (i := 4) rfl) rfl dX11_goes_122 ?_
                refine z_iload C 4 dX11_goes_125 rfl ?_
                refine z_zald C hK 1 (g := s) (i := j) 16 (WM_16 a c ((us (us u 16 (s)) 17 (t)))) rfl (by decide) (by omega) dX11_goes_127 ?_
                refine z_as (b := s (j)) rfl ?_
                refine z_if_eq C 135 dX11_goes_128 (by decide) (by omega) (fun h6 => ?_) (fun h6 => ?_)
                · have hj0 := h6
                  refine z_iconst C dX11_goes_135 ?_
                  refine z_istore_n C [(3, .int (zI 0)), (0, .ref (a 0)), (1, .int (zI m)), (2, .int (zI b)), (4, .int (zI j))] dX11_goes_136 rfl (by decide) rfl ?_
                  refine z_iinc C 4 [(4, .int (zI (j + 1))), (3, .int (zI 0)), (0, .ref (a 0)), (1, .int (zI m)), (2, .int (zI b))] dX11_goes_137 rfl (by decide) rfl ?_
                  refine z_goto C 109 dX11_goes_140 (by decide) ?_
                  refine z_lv [(0, .ref (a 0)), (1, .int (zI m)), (2, .int (zI b)), (3, .int (zI 0)), (4, .int (zI (j + 1)))] [2, 3, 4, 1, 0] rfl ?_
                  exact ih109 (j + 1) 0 (by omega) (by first | exact any_yes hj.1 hv (Or.inl hvn) | exact any_yes hj.1 hv (Or.inr hjn) | exact any_no hv hv0 hj0) (hBs) (hfin) (by omega)
                · have hjn := h6
                  refine z_iconst C dX11_goes_131 ?_
                  refine z_goto C 136 dX11_goes_132 (by decide) ?_
                  refine z_istore_n C [(3, .int (zI 1)), (0, .ref (a 0)), (1, .int (zI m)), (2, .int (zI b)), (4, .int (zI j))] dX11_goes_136 rfl (by decide) rfl ?_
                  refine z_iinc C 4 [(4, .int (zI (j + 1))), (3, .int (zI 1)), (0, .ref (a 0)), (1, .int (zI m)), (2, .int (zI b))] dX11_goes_137 rfl (by decide) rfl ?_
                  refine z_goto C 109 dX11_goes_140 (by decide) ?_
                  refine z_lv [(0, .ref (a 0)), (1, .int (zI m)), (2, .int (zI b)), (3, .int (zI 1)), (4, .int (zI (j + 1)))] [2, 3, 4, 1, 0] rfl ?_
                  exact ih109 (j + 1) 1 (by omega) (by first | exact any_yes hj.1 hv (Or.inl hvn) | exact any_yes hj.1 hv (Or.inr hjn) | exact any_no hv hv0 hj0) (hBs) (hfin) (by omega)
        refine z_lv [(0, .ref (a 0)), (1, .int (zI m)), (2, .int (zI b)), (3, .int (zI 0)), (4, .int (zI 0))] [2, 3, 4, 1, 0] rfl ?_
        exact L109_3 (((20000 - 0 : Int)).toNat + 1) 0 0 (by omega) (Or.inl ⟨rfl, fun i h0 h1 => absurd h1 (by omega)⟩) (gs_B0 (n := u 0 21) hs (by omega)) (gs_A0 hs (by omega) (by omega)) (by omega)
      · skip
        have hsk := hsb k hk.1 (by omega)
        refine z_aload_n C 0 dX11_goes_12 rfl ?_
        refine z_get C hK (v := .ref (a 14)) inX11_goes_X11 0 (WM_0 a c ((us (us u 16 (s)) 17 (t)))) rfl 26 (by decide) (List.mem_of_getElem? (i := 2) rfl) rfl dX11_goes_13 ?_
        refine z_iload_n C 3 dX11_goes_16 rfl ?_
        refine z_iald C hK 0 (g := (u 14)) (i := k) 14 (WM_14 a c ((us (us u 16 (s)) 17 (t)))) rfl (by decide) (by omega) dX11_goes_17 ?_
        refine z_as (b := u 14 (k)) rfl ?_
        refine z_if_ge C 98 dX11_goes_18 (by decide) (by omega) (fun h7 => ?_) (fun h7 => ?_)
        · have hec : E k = true := (hE k hk.1 (by omega)).2 h7
          refine z_iinc C 3 [(3, .int (zI (k + 1))), (0, .ref (a 0)), (1, .int (zI m)), (2, .int (zI b))] dX11_goes_98 rfl (by decide) rfl ?_
          refine z_goto C 4 dX11_goes_101 (by decide) ?_
          refine z_lv [(0, .ref (a 0)), (1, .int (zI m)), (2, .int (zI b)), (3, .int (zI (k + 1)))] [1, 2, 3, 0] rfl ?_
          exact ih4 (k + 1) b s t (by omega) (by first | exact Or.inr ⟨by omega, by omega, gs_B hB3 hs2 (by omega), gs_A hA3 hs2 (by omega)⟩ | exact gs_echo hE0 hs hec (by omega)) (by omega)
        · have hno1 : E k = false := by cases hq : E k with | false => rfl | true => exact absurd ((hE k hk.1 (by omega)).1 hq) (by omega)
          refine z_iconst C dX11_goes_21 ?_
          refine z_istore C [(4, .int (zI 0)), (0, .ref (a 0)), (1, .int (zI m)), (2, .int (zI b)), (3, .int (zI k))] dX11_goes_22 (by decide) rfl ?_
          have L24_8 : ∀ (fu : Nat) (i : Int) (t2 : Int → Int), (0 ≤ i ∧ i ≤ 20000) → (∀ j : Int, 0 ≤ j → j < i → t2 j = 0) → (E k = false) → 20000 - i < (fu : Int) → Z x 0 0 (WM a c (us (us u 16 (s)) 17 (t2))) [(0, .ref (a 0)), (1, .int (zI m)), (2, .int (zI b)), (3, .int (zI k)), (4, .int (zI i))] 24 [] := by
            intro fu
            induction fu with
            | zero => intro i t2 hi ht2 hno2 hmeas; exfalso; omega
            | succ fu ih24 =>
              intro i t2 hi ht2 hno2 hmeas
              refine z_iload C 4 dX11_goes_24 rfl ?_
              refine z_sipush C dX11_goes_26 (by decide) ?_
              refine z_icmp_ge C 46 dX11_goes_29 (by decide) (by omega) (fun h9 => ?_) (fun h9 => ?_)
              · skip
                refine z_iload_n C 2 dX11_goes_46 rfl ?_
                refine z_if_ge C 59 dX11_goes_47 (by decide) (by omega) (fun h10 => ?_) (fun h10 => ?_)
                · skip
                  refine z_aload_n C 0 dX11_goes_59 rfl ?_
                  refine z_iload_n C 2 dX11_goes_60 rfl ?_
                  refine z_iload_n C 3 dX11_goes_61 rfl ?_
                  refine z_callV C hK hDD (c_X11_goesOn (zl x) (zG x) a c ((us (us u 16 (s)) 17 (t2))) b k E X ((u 0 21 - (k + 1)).toNat) (hI) (show 0 ≤ b ∧ b < 6 by omega) (show 0 ≤ k ∧ k < 6 by omega) (B01_z ht2 (by omega)) (gs_B1 hs (by omega)) (hX k hk.1 (by omega)) (hXl k hk.1 (by omega)) (show k = u 0 21 - 1 - (((u 0 21 - (k + 1)).toNat : Nat) : Int) by omega) (hno2)) gX11_goes_X11_goesOn rfl zy_X11_goesOn 0 (WM_0 a c ((us (us u 16 (s)) 17 (t2)))) rfl ⟨by omega, by decide⟩ rfl (Nat.le_of_ble_eq_true rfl) (st := []) (stk2 := fun _ => []) rfl (fun _ => rfl) dX11_goes_62 (fun z11 u12 h13 => ?_)
                  replace h13 : ∃ t : Int → Int, u12 = us (((us (us u 16 (s)) 17 (t2)))) 17 t ∧ B01 t ∧ (Alv ((u 10)) ((u 9 2)) ((u 0 21)) E X t k ((u 0 21 - (k + 1)).toNat) ↔ Alv ((u 10)) ((u 9 2)) ((u 0 21)) E X (t2) k ((u 0 21 - (k + 1)).toNat) ∨ Alv ((u 10)) ((u 9 2)) ((u 0 21)) E X (s) b (((u 0 21 - (k + 1)).toNat) + 1)) := h13
                  obtain ⟨t4, e4, hBn, hA4⟩ := h13
                  rw [e4, us_us]
                  have hAn := goes_g (fun j h0 h1 => ht2 j h0 (by omega)) hA4 (show (u 0 21 - (k + 1)).toNat + 1 = (u 0 21 - k).toNat by omega) (gs_A1 hs (by omega))
                  change Z x 0 0 (WM a c (us (us u 16 (s)) 17 (t4))) _ _ _
                  refine z_iconst C dX11_goes_65 ?_
                  refine z_istore C [(4, .int (zI 0)), (0, .ref (a 0)), (1, .int (zI m)), (2, .int (zI b)), (3, .int (zI k))] dX11_goes_66 (by decide) rfl ?_
                  have L68_14 : ∀ (fu : Nat) (i : Int) (s2 : Int → Int) (t3 : Int → Int), (0 ≤ i ∧ i ≤ 20000) → (∀ j : Int, 0 ≤ j → j < i → s2 j = t3 j) → (B01 t3) → (Alv (u 10) (u 9 2) (u 0 21) E X t3 k (u 0 21 - (k + 1)).toNat ↔ St (u 10) (u 9 2) (u 0 21) E X m) → 20000 - i < (fu : Int) → Z x 0 0 (WM a c (us (us u 16 (s2)) 17 (t3))) [(0, .ref (a 0)), (1, .int (zI m)), (2, .int (zI b)), (3, .int (zI k)), (4, .int (zI i))] 68 [] := by
                    intro fu
                    induction fu with
                    | zero => intro i s2 t3 hi3 hs2 hB3 hA3 hmeas; exfalso; omega
                    | succ fu ih68 =>
                      intro i s2 t3 hi3 hs2 hB3 hA3 hmeas
                      refine z_iload C 4 dX11_goes_68 rfl ?_
                      refine z_sipush C dX11_goes_70 (by decide) ?_
                      refine z_icmp_ge C 96 dX11_goes_73 (by decide) (by omega) (fun h15 => ?_) (fun h15 => ?_)
                      · skip
                        refine z_iload_n C 3 dX11_goes_96 rfl ?_
                        refine z_istore_n C [(2, .int (zI k)), (0, .ref (a 0)), (1, .int (zI m)), (3, .int (zI k)), (4, .int (zI i))] dX11_goes_97 rfl (by decide) rfl ?_
                        refine z_iinc C 3 [(3, .int (zI (k + 1))), (2, .int (zI k)), (0, .ref (a 0)), (1, .int (zI m)), (4, .int (zI i))] dX11_goes_98 rfl (by decide) rfl ?_
                        refine z_goto C 4 dX11_goes_101 (by decide) ?_
                        refine z_lv [(0, .ref (a 0)), (1, .int (zI m)), (2, .int (zI k)), (3, .int (zI (k + 1)))] [2, 3, 1, 0] rfl ?_
                        exact ih4 (k + 1) k s2 t3 (by omega) (by first | exact Or.inr ⟨by omega, by omega, gs_B hB3 hs2 (by omega), gs_A hA3 hs2 (by omega)⟩ | exact gs_echo hE0 hs hec (by omega)) (by omega)
                      · skip
                        refine z_aload_n C 0 dX11_goes_76 rfl ?_
                        refine z_get C hK (v := .ref (a 16)) inX11_goes_X11 0 (WM_0 a c ((us (us u 16 (s2)) 17 (t3)))) rfl 29 (by decide) (List.mem_of_getElem? (i := 4) rfl) rfl dX11_goes_77 ?_
                        refine z_iload C 4 dX11_goes_80 rfl ?_
                        refine z_aload_n C 0 dX11_goes_82 rfl ?_
                        have h01 := hB3 i hi3.1 (by omega)
                        refine z_get C hK (v := .ref (a 17)) inX11_goes_X11 0 (WM_0 a c ((us (us u 16 (s2)) 17 (t3)))) rfl 30 (by decide) (List.mem_of_getElem? (i := 3) rfl) rfl dX11_goes_83 ?_
                        refine z_iload C 4 dX11_goes_86 rfl ?_
                        refine z_zald C hK 1 (g := t3) (i := i) 17 (WM_17 a c ((us (us u 16 (s2)) 17 (t3)))) rfl (by decide) (by omega) dX11_goes_88 ?_
                        refine z_as (b := t3 (i)) rfl ?_
                        refine z_zast C hK (hDD _) 1 (g := (us (us u 16 (s2)) 17 (t3)) 16) 16 (WM_16 a c ((us (us u 16 (s2)) 17 (t3)))) rfl (by decide) (by omega) (by omega) (WM_16_set a c ((us (us u 16 (s2)) 17 (t3))) i (t3 (i))) dX11_goes_89 ?_
                        refine z_iinc C 4 [(4, .int (zI (i + 1))), (0, .ref (a 0)), (1, .int (zI m)), (2, .int (zI b)), (3, .int (zI k))] dX11_goes_90 rfl (by decide) rfl ?_
                        refine z_goto C 68 dX11_goes_93 (by decide) ?_
                        refine z_lv [(0, .ref (a 0)), (1, .int (zI m)), (2, .int (zI b)), (3, .int (zI k)), (4, .int (zI (i + 1)))] [1, 2, 3, 4, 0] rfl ?_
                        exact ih68 (i + 1) ((fun j => if j = i then t3 i else s2 j)) t3 (by omega) (fw_put hs2 rfl) (hB3) (hA3) (by omega)
                  refine z_lv [(0, .ref (a 0)), (1, .int (zI m)), (2, .int (zI b)), (3, .int (zI k)), (4, .int (zI 0))] [1, 2, 3, 4, 0] rfl ?_
                  exact L68_14 (((20000 - 0 : Int)).toNat + 1) 0 s t4 (by omega) (fun j h0 h1 => absurd h1 (by omega)) (hBn) (hAn) (by omega)
                · skip
                  refine z_aload_n C 0 dX11_goes_50 rfl ?_
                  refine z_iload_n C 3 dX11_goes_51 rfl ?_
                  have hk0 : k = 0 := by omega
                  refine z_iload_n C 1 dX11_goes_52 rfl ?_
                  refine z_callV C hK hDD (c_X11_begins (zl x) (zG x) a c ((us (us u 16 (s)) 17 (t2))) k m E X ((u 0 21 - (k + 1)).toNat) (hI) (show 0 ≤ k ∧ k < 6 by omega) (show 1 ≤ m ∧ m ≤ 3 by omega) (B01_z ht2 (by omega)) (hX k hk.1 (by omega)) (hXl k hk.1 (by omega))) gX11_goes_X11_begins rfl zy_X11_begins 0 (WM_0 a c ((us (us u 16 (s)) 17 (t2)))) rfl ⟨by omega, by decide⟩ rfl (Nat.le_of_ble_eq_true rfl) (st := []) (stk2 := fun _ => []) rfl (fun _ => rfl) dX11_goes_53 (fun z16 u17 h18 => ?_)
                  replace h18 : ∃ t : Int → Int, u17 = us (((us (us u 16 (s)) 17 (t2)))) 17 t ∧ B01 t ∧ (Alv ((u 10)) ((u 9 2)) ((u 0 21)) E X t k ((u 0 21 - (k + 1)).toNat) ↔ Alv ((u 10)) ((u 9 2)) ((u 0 21)) E X (t2) k ((u 0 21 - (k + 1)).toNat) ∨ ∃ q : Nat, q < 8 ∧ X k q = true ∧ CanK ((u 10)) ((u 9 2)) ((u 0 21)) E X ((u 0 21 - (k + 1)).toNat) (6 * (q : Int) + k) (if 1 < m then 48 else 49) (if 2 < m then 48 else 49)) := h18
                  obtain ⟨t4, e4, hBn, hA4⟩ := h18
                  rw [e4, us_us]
                  have hAn := goes_b2 hk0 hn1 hE0 (fun j h0 h1 => ht2 j h0 (by omega)) hA4
                  change Z x 0 0 (WM a c (us (us u 16 (s)) 17 (t4))) _ _ _
                  refine z_goto C 65 dX11_goes_56 (by decide) ?_
                  refine z_iconst C dX11_goes_65 ?_
                  refine z_istore C [(4, .int (zI 0)), (0, .ref (a 0)), (1, .int (zI m)), (2, .int (zI b)), (3, .int (zI k))] dX11_goes_66 (by decide) rfl ?_
                  have L68_19 : ∀ (fu : Nat) (i : Int) (s2 : Int → Int) (t3 : Int → Int), (0 ≤ i ∧ i ≤ 20000) → (∀ j : Int, 0 ≤ j → j < i → s2 j = t3 j) → (B01 t3) → (Alv (u 10) (u 9 2) (u 0 21) E X t3 k (u 0 21 - (k + 1)).toNat ↔ St (u 10) (u 9 2) (u 0 21) E X m) → 20000 - i < (fu : Int) → Z x 0 0 (WM a c (us (us u 16 (s2)) 17 (t3))) [(0, .ref (a 0)), (1, .int (zI m)), (2, .int (zI b)), (3, .int (zI k)), (4, .int (zI i))] 68 [] := by
                    intro fu
                    induction fu with
                    | zero => intro i s2 t3 hi3 hs2 hB3 hA3 hmeas; exfalso; omega
                    | succ fu ih68 =>
                      intro i s2 t3 hi3 hs2 hB3 hA3 hmeas
                      refine z_iload C 4 dX11_goes_68 rfl ?_
                      refine z_sipush C dX11_goes_70 (by decide) ?_
                      refine z_icmp_ge C 96 dX11_goes_73 (by decide) (by omega) (fun h20 => ?_) (fun h20 => ?_)
                      · skip
                        refine z_iload_n C 3 dX11_goes_96 rfl ?_
                        refine z_istore_n C [(2, .int (zI k)), (0, .ref (a 0)), (1, .int (zI m)), (3, .int (zI k)), (4, .int (zI i))] dX11_goes_97 rfl (by decide) rfl ?_
                        refine z_iinc C 3 [(3, .int (zI (k + 1))), (2, .int (zI k)), (0, .ref (a 0)), (1, .int (zI m)), (4, .int (zI i))] dX11_goes_98 rfl (by decide) rfl ?_
                        refine z_goto C 4 dX11_goes_101 (by decide) ?_
                        refine z_lv [(0, .ref (a 0)), (1, .int (zI m)), (2, .int (zI k)), (3, .int (zI (k + 1)))] [2, 3, 1, 0] rfl ?_
                        exact ih4 (k + 1) k s2 t3 (by omega) (by first | exact Or.inr ⟨by omega, by omega, gs_B hB3 hs2 (by omega), gs_A hA3 hs2 (by omega)⟩ | exact gs_echo hE0 hs hec (by omega)) (by omega)
                      · skip
                        refine z_aload_n C 0 dX11_goes_76 rfl ?_
                        refine z_get C hK (v := .ref (a 16)) inX11_goes_X11 0 (WM_0 a c ((us (us u 16 (s2)) 17 (t3)))) rfl 29 (by decide) (List.mem_of_getElem? (i := 4) rfl) rfl dX11_goes_77 ?_
                        refine z_iload C 4 dX11_goes_80 rfl ?_
                        refine z_aload_n C 0 dX11_goes_82 rfl ?_
                        have h01 := hB3 i hi3.1 (by omega)
                        refine z_get C hK (v := .ref (a 17)) inX11_goes_X11 0 (WM_0 a c ((us (us u 16 (s2)) 17 (t3)))) rfl 30 (by decide) (List.mem_of_getElem? (i := 3) rfl) rfl dX11_goes_83 ?_
                        refine z_iload C 4 dX11_goes_86 rfl ?_
                        refine z_zald C hK 1 (g := t3) (i := i) 17 (WM_17 a c ((us (us u 16 (s2)) 17 (t3)))) rfl (by decide) (by omega) dX11_goes_88 ?_
                        refine z_as (b := t3 (i)) rfl ?_
                        refine z_zast C hK (hDD _) 1 (g := (us (us u 16 (s2)) 17 (t3)) 16) 16 (WM_16 a c ((us (us u 16 (s2)) 17 (t3)))) rfl (by decide) (by omega) (by omega) (WM_16_set a c ((us (us u 16 (s2)) 17 (t3))) i (t3 (i))) dX11_goes_89 ?_
                        refine z_iinc C 4 [(4, .int (zI (i + 1))), (0, .ref (a 0)), (1, .int (zI m)), (2, .int (zI b)), (3, .int (zI k))] dX11_goes_90 rfl (by decide) rfl ?_
                        refine z_goto C 68 dX11_goes_93 (by decide) ?_
                        refine z_lv [(0, .ref (a 0)), (1, .int (zI m)), (2, .int (zI b)), (3, .int (zI k)), (4, .int (zI (i + 1)))] [1, 2, 3, 4, 0] rfl ?_
                        exact ih68 (i + 1) ((fun j => if j = i then t3 i else s2 j)) t3 (by omega) (fw_put hs2 rfl) (hB3) (hA3) (by omega)
                  refine z_lv [(0, .ref (a 0)), (1, .int (zI m)), (2, .int (zI b)), (3, .int (zI k)), (4, .int (zI 0))] [1, 2, 3, 4, 0] rfl ?_
                  exact L68_19 (((20000 - 0 : Int)).toNat + 1) 0 s t4 (by omega) (fun j h0 h1 => absurd h1 (by omega)) (hBn) (hAn) (by omega)
              · skip
                refine z_aload_n C 0 dX11_goes_32 rfl ?_
                refine z_get C hK (v := .ref (a 17)) inX11_goes_X11 0 (WM_0 a c ((us (us u 16 (s)) 17 (t2)))) rfl 30 (by decide) (List.mem_of_getElem? (i := 3) rfl) rfl dX11_goes_33 ?_
                refine z_iload C 4 dX11_goes_36 rfl ?_
                refine z_iconst C dX11_goes_38 ?_
                refine z_zast C hK (hDD _) 1 (g := (us (us u 16 (s)) 17 (t2)) 17) 17 (WM_17 a c ((us (us u 16 (s)) 17 (t2)))) rfl (by decide) (by omega) (by omega) (WM_17_set a c ((us (us u 16 (s)) 17 (t2))) i 0) dX11_goes_39 ?_
                refine z_iinc C 4 [(4, .int (zI (i + 1))), (0, .ref (a 0)), (1, .int (zI m)), (2, .int (zI b)), (3, .int (zI k))] dX11_goes_40 rfl (by decide) rfl ?_
                refine z_goto C 24 dX11_goes_43 (by decide) ?_
                refine z_lv [(0, .ref (a 0)), (1, .int (zI m)), (2, .int (zI b)), (3, .int (zI k)), (4, .int (zI (i + 1)))] [1, 2, 3, 4, 0] rfl ?_
                exact ih24 (i + 1) ((fun j => if j = i then 0 else t2 j)) (by omega) (fw_put (F := fun _ => 0) ht2 rfl) (hno2) (by omega)
          refine z_lv [(0, .ref (a 0)), (1, .int (zI m)), (2, .int (zI b)), (3, .int (zI k)), (4, .int (zI 0))] [1, 2, 3, 4, 0] rfl ?_
          exact L24_8 (((20000 - 0 : Int)).toNat + 1) 0 t (by omega) (fun j h0 h1 => absurd h1 (by omega)) (hno1) (by omega)
  refine z_lv [(0, .ref (a 0)), (1, .int (zI m)), (2, .int (zI (-1))), (3, .int (zI 0))] [2, 3, 1, 0] rfl ?_
  exact L4_1 (((u 0 21 - 0 : Int)).toNat + 1) 0 (-1) ((u 16)) ((u 17)) (by omega) (by omega) (by omega)
-- NoteBellsModel.looks
theorem inX11_looks_X11 : ∀ w ∈ wsX110, w ∈ wsX11_looks := fun w h => List.mem_cons_of_mem _ (List.mem_append_right _ (h))
set_option maxHeartbeats 8000000 in
set_option maxRecDepth 100000 in
theorem c_X11_looks (l : Launch) (D : va_G) (a : Nat → Nat) (c : Nat → ClassId) (u : zU) (E : Int → Bool) (X : Int → Nat → Bool) (hI : IM u) (hn1 : 1 ≤ u 0 21) (hE : ∀ j : Int, 0 ≤ j → j < u 0 21 → (E j = true ↔ 0 ≤ u 14 j)) (hsb : ∀ j : Int, 0 ≤ j → j < u 0 21 → -1 ≤ u 14 j ∧ u 14 j ≤ 5) (hX : ∀ j : Int, 0 ≤ j → j < u 0 21 → u 15 j = ((bn (X j) 8 : Nat) : Int)) (hXl : XL (u 0 21) (u 0 12) X) (hE0 : E 0 = false) (hF0 : 1 ≤ u 0 28 ∧ u 0 28 ≤ 4) : ZM l D (zTy c) (WM a c) yX11_looks wsX11_looks 7 [.ref (a 0)] u rV (fun z u' => ∃ (s t : Int → Int) (F : Int), u' = up (us (us (u) 16 s) 17 t) 0 28 F ∧ Bst (u 0 28) F (fun t => (1 ≤ t ∧ t ≤ 3) ∧ St (u 10) (u 9 2) (u 0 21) E X t)) := by
  refine ZM.ofV (cc := cX11_looks) (maxL := 2) [(0, .ref (a 0))] rfl (by decide +kernel) rfl (Nat.le_of_ble_eq_true rfl) (WM_addr a c) ?_
  intro x C hK _ _ hDD kret
  have hno := hI.notes
  refine z_iconst C dX11_looks_0 ?_
  refine z_ws (ws' := (WM a c (up (us (us u 16 ((u 16))) 17 ((u 17))) 0 (28) ((u 0 28))))) (congrArg (WM a c) (lk_self u)) ?_
  refine z_istore_n C [(1, .int (zI 1)), (0, .ref (a 0))] dX11_looks_1 rfl (by decide) rfl ?_
  have L2_1 : ∀ (fu : Nat) (m : Int) (F : Int) (s : Int → Int) (t : Int → Int), (1 ≤ m ∧ m ≤ 4) → (1 ≤ F ∧ F ≤ 4) → (Lk (fun t => St (u 10) (u 9 2) (u 0 21) E X t) (u 0 28) m F) → 4 - m < (fu : Int) → Z x 0 0 (WM a c (up (us (us u 16 (s)) 17 (t)) 0 (28) (F))) [(0, .ref (a 0)), (1, .int (zI m))] 2 [] := by
    intro fu
    induction fu with
    | zero => intro m F s t hm hF hL hmeas; exfalso; omega
    | succ fu ih2 =>
      intro m F s t hm hF hL hmeas
      refine z_iload_n C 1 dX11_looks_2 rfl ?_
      refine z_iconst C dX11_looks_3 ?_
      refine z_icmp_ge C 34 dX11_looks_4 (by decide) (by omega) (fun h2 => ?_) (fun h2 => ?_)
      · skip
        exact kret 0 (up (us (us u 16 s) 17 t) 0 28 F) _ _ (⟨s, t, F, rfl, Lk_end hL (by omega) (by omega)⟩) dX11_looks_34
      · skip
        refine z_iload_n C 1 dX11_looks_7 rfl ?_
        refine z_aload_n C 0 dX11_looks_8 rfl ?_
        refine z_get C hK (v := .int (zI F)) inX11_looks_X11 0 (WM_0 a c ((up (us (us u 16 (s)) 17 (t)) 0 (28) (F)))) rfl 28 (by decide) (List.mem_of_getElem? (i := 1) rfl) rfl dX11_looks_9 ?_
        refine z_icmp_ge C 34 dX11_looks_12 (by decide) (by omega) (fun h3 => ?_) (fun h3 => ?_)
        · skip
          exact kret 0 (up (us (us u 16 s) 17 t) 0 28 F) _ _ (⟨s, t, F, rfl, Lk_end hL (by omega) (by omega)⟩) dX11_looks_34
        · skip
          refine z_aload_n C 0 dX11_looks_15 rfl ?_
          refine z_iload_n C 1 dX11_looks_16 rfl ?_
          refine z_callV C hK hDD (c_X11_goes (zl x) (zG x) a c ((up (us (us u 16 (s)) 17 (t)) 0 (28) (F))) m E X (hI) (show 1 ≤ m ∧ m ≤ 3 by omega) (show 1 ≤ (u 0 21) by omega) (hE) (hsb) (hX) (hXl) (hE0)) gX11_looks_X11_goes rfl zy_X11_goes 0 (WM_0 a c ((up (us (us u 16 (s)) 17 (t)) 0 (28) (F)))) rfl ⟨by omega, by decide⟩ rfl (Nat.le_of_ble_eq_true rfl) (st := []) (stk2 := fun z4 => [.int (zI z4)]) rfl (fun _ => rfl) dX11_looks_17 (fun z4 u5 h6 => ?_)
          obtain ⟨⟨s2, t2, e2⟩, KG⟩ := h6
          rw [e2]
          change Z x 0 0 (WM a c (up (us (us u 16 (s2)) 17 (t2)) 0 (28) (F))) _ _ _
          refine z_if_eq C 28 dX11_looks_20 (by decide) (by omega) (fun h7 => ?_) (fun h7 => ?_)
          · have hgn : ¬ St (u 10) (u 9 2) (u 0 21) E X m := KG.elim (fun g => absurd g.1 (by omega)) (fun g => g.2)
            refine z_iinc C 1 [(1, .int (zI (m + 1))), (0, .ref (a 0))] dX11_looks_28 rfl (by decide) rfl ?_
            refine z_goto C 2 dX11_looks_31 (by decide) ?_
            refine z_lv [(0, .ref (a 0)), (1, .int (zI (m + 1)))] [1, 0] rfl ?_
            exact ih2 (m + 1) F s2 t2 (by omega) (by omega) (by first | exact Lk_yes hL (by omega) hgo | exact Lk_no hL (by omega) hgn) (by omega)
          · have hgo : St (u 10) (u 9 2) (u 0 21) E X m := KG.elim (fun g => g.2) (fun g => absurd g.1 (by omega))
            refine z_aload_n C 0 dX11_looks_23 rfl ?_
            refine z_iload_n C 1 dX11_looks_24 rfl ?_
            refine z_put C hK (hDD _) inX11_looks_X11 tyX11 tyX11_ok nmX11 0 (WM_0 a c ((up (us (us u 16 (s2)) 17 (t2)) 0 (28) (F)))) rfl 28 (by decide) (List.mem_of_getElem? (i := 1) rfl) rfl rfl rfl (Nat.le_of_ble_eq_true rfl) (WM_0_p28 a c ((up (us (us u 16 (s2)) 17 (t2)) 0 (28) (F))) m) dX11_looks_25 ?_
            refine z_iinc C 1 [(1, .int (zI (m + 1))), (0, .ref (a 0))] dX11_looks_28 rfl (by decide) rfl ?_
            refine z_goto C 2 dX11_looks_31 (by decide) ?_
            refine z_lv [(0, .ref (a 0)), (1, .int (zI (m + 1)))] [1, 0] rfl ?_
            exact ih2 (m + 1) m s2 t2 (by omega) (by omega) (by first | exact Lk_yes hL (by omega) hgo | exact Lk_no hL (by omega) hgn) (by omega)
  refine z_lv [(0, .ref (a 0)), (1, .int (zI 1))] [1, 0] rfl ?_
  exact L2_1 (((4 - 1 : Int)).toNat + 1) 1 ((u 0 28)) ((u 16)) ((u 17)) (by omega) (by omega) (Or.inl ⟨rfl, fun t h0 h1 => absurd h1 (by omega)⟩) (by omega)
