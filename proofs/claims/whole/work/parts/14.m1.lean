/-! ===== contracts: the reference, small methods ===== -/
theorem zy_X11_in : zY yX11_in 3 := ⟨by decide +kernel, by decide +kernel, by decide +kernel⟩
theorem zy_X11_isLetter : zY yX11_isLetter 1 := ⟨by decide +kernel, by decide +kernel, by decide +kernel⟩
theorem zy_X11_isFigure : zY yX11_isFigure 1 := ⟨by decide +kernel, by decide +kernel, by decide +kernel⟩
theorem zy_X11_isNote : zY yX11_isNote 1 := ⟨by decide +kernel, by decide +kernel, by decide +kernel⟩
theorem zy_X11_isLevel : zY yX11_isLevel 1 := ⟨by decide +kernel, by decide +kernel, by decide +kernel⟩
theorem zy_X11_isMan : zY yX11_isMan 1 := ⟨by decide +kernel, by decide +kernel, by decide +kernel⟩
theorem zy_X11_away : zY yX11_away 2 := ⟨by decide +kernel, by decide +kernel, by decide +kernel⟩
theorem zy_X11_sound : zY yX11_sound 3 := ⟨by decide +kernel, by decide +kernel, by decide +kernel⟩
theorem zy_X11_soundOf : zY yX11_soundOf 1 := ⟨by decide +kernel, by decide +kernel, by decide +kernel⟩
theorem zy_X11_comesOf : zY yX11_comesOf 1 := ⟨by decide +kernel, by decide +kernel, by decide +kernel⟩
theorem zy_X11_level : zY yX11_level 2 := ⟨by decide +kernel, by decide +kernel, by decide +kernel⟩
theorem zy_X11_man : zY yX11_man 1 := ⟨by decide +kernel, by decide +kernel, by decide +kernel⟩
theorem zy_X11_wet : zY yX11_wet 1 := ⟨by decide +kernel, by decide +kernel, by decide +kernel⟩
theorem zy_X11_taken : zY yX11_taken 1 := ⟨by decide +kernel, by decide +kernel, by decide +kernel⟩
theorem zy_X11_comes : zY yX11_comes 1 := ⟨by decide +kernel, by decide +kernel, by decide +kernel⟩
theorem zy_X11_climbs : zY yX11_climbs 2 := ⟨by decide +kernel, by decide +kernel, by decide +kernel⟩
theorem zy_X11_plucks : zY yX11_plucks 1 := ⟨by decide +kernel, by decide +kernel, by decide +kernel⟩
theorem zy_X11_falls : zY yX11_falls 1 := ⟨by decide +kernel, by decide +kernel, by decide +kernel⟩
theorem zy_X11_mends : zY yX11_mends 0 := ⟨by decide +kernel, by decide +kernel, by decide +kernel⟩
theorem zy_X11_forget : zY yX11_forget 0 := ⟨by decide +kernel, by decide +kernel, by decide +kernel⟩
theorem zy_X11_hush : zY yX11_hush 0 := ⟨by decide +kernel, by decide +kernel, by decide +kernel⟩
theorem zy_X11_clear : zY yX11_clear 0 := ⟨by decide +kernel, by decide +kernel, by decide +kernel⟩
theorem zy_X11_trace : zY yX11_trace 0 := ⟨by decide +kernel, by decide +kernel, by decide +kernel⟩
theorem zy_X11_sing : zY yX11_sing 1 := ⟨by decide +kernel, by decide +kernel, by decide +kernel⟩
theorem zy_X11_heard : zY yX11_heard 2 := ⟨by decide +kernel, by decide +kernel, by decide +kernel⟩
theorem zy_X11_year : zY yX11_year 0 := ⟨by decide +kernel, by decide +kernel, by decide +kernel⟩
theorem zy_X11_count : zY yX11_count 1 := ⟨by decide +kernel, by decide +kernel, by decide +kernel⟩
theorem zy_X11_type : zY yX11_type 2 := ⟨by decide +kernel, by decide +kernel, by decide +kernel⟩
theorem zy_X11_mark : zY yX11_mark 2 := ⟨by decide +kernel, by decide +kernel, by decide +kernel⟩
-- NoteBellsModel.in
set_option maxHeartbeats 8000000 in
set_option maxRecDepth 100000 in
theorem c_X11_in (l : Launch) (D : va_G) {tys : List (ClassId × FieldType)} {S : Type} (WW : S → va_W) (hWW : ∀ u u' : S, (WW u).map (fun q => q.1) = (WW u').map (fun q => q.1)) (u : S) (v lo hi : Int) (b_v : -2147483648 ≤ v ∧ v < 2147483648) (b_lo : -2147483648 ≤ lo ∧ lo < 2147483648) (b_hi : -2147483648 ≤ hi ∧ hi < 2147483648) : ZM l D tys WW yX11_in wsX11_in 1 [.long (zL v), .long (zL lo), .long (zL hi)] u rI (fun z u' => u' = u ∧ ((z = 1 ∧ lo ≤ v ∧ v ≤ hi) ∨ (z = 0 ∧ ¬ (lo ≤ v ∧ v ≤ hi)))) := by
  refine ZM.ofZ (cc := cX11_in) (maxL := 6) [(0, .long (zL v)), (2, .long (zL lo)), (4, .long (zL hi))] rfl (by decide +kernel) rfl (Nat.le_of_ble_eq_true rfl) hWW ?_
  intro x C hK _ _ hDD kret
  refine z_lload_n C 0 dX11_in_0 rfl ?_
  refine z_lload_n C 1 dX11_in_1 rfl ?_
  refine z_lcmp C dX11_in_2 (by omega) (fun r1 h2 => ?_)
  refine z_if_lt C 17 dX11_in_3 (by decide) (by omega) (fun h3 => ?_) (fun h3 => ?_)
  · skip
    refine z_iconst C dX11_in_17 ?_
    exact kret 0 u _ _ (⟨rfl, by omega⟩) (by omega) dX11_in_18
  · skip
    refine z_lload_n C 0 dX11_in_6 rfl ?_
    refine z_lload C 2 dX11_in_7 rfl ?_
    refine z_lcmp C dX11_in_9 (by omega) (fun r4 h5 => ?_)
    refine z_if_gt C 17 dX11_in_10 (by decide) (by omega) (fun h6 => ?_) (fun h6 => ?_)
    · skip
      refine z_iconst C dX11_in_17 ?_
      exact kret 0 u _ _ (⟨rfl, by omega⟩) (by omega) dX11_in_18
    · skip
      refine z_iconst C dX11_in_13 ?_
      refine z_goto C 18 dX11_in_14 (by decide) ?_
      exact kret 1 u _ _ (⟨rfl, by omega⟩) (by omega) dX11_in_18
-- NoteBellsModel.isLetter
set_option maxHeartbeats 8000000 in
set_option maxRecDepth 100000 in
theorem c_X11_isLetter (l : Launch) (D : va_G) {tys : List (ClassId × FieldType)} {S : Type} (WW : S → va_W) (hWW : ∀ u u' : S, (WW u).map (fun q => q.1) = (WW u').map (fun q => q.1)) (u : S) (v : Int) (b_v : -2147483648 ≤ v ∧ v < 2147483648) : ZM l D tys WW yX11_isLetter wsX11_isLetter 2 [.int (zI v)] u rI (fun z u' => u' = u ∧ ((z = 1 ∧ 97 ≤ v ∧ v ≤ 122) ∨ (z = 0 ∧ ¬ (97 ≤ v ∧ v ≤ 122)))) := by
  refine ZM.ofZ (cc := cX11_isLetter) (maxL := 1) [(0, .int (zI v))] rfl (by decide +kernel) rfl (Nat.le_of_ble_eq_true rfl) hWW ?_
  intro x C hK _ _ hDD kret
  refine z_iload_n C 0 dX11_isLetter_0 rfl ?_
  refine z_i2l C dX11_isLetter_1 (by omega) ?_
  refine z_ldc2 C (v := 97) (z := 97) (by decide) (List.mem_of_getElem? (i := 1) rfl) dX11_isLetter_2 ?_
  refine z_ldc2 C (v := 122) (z := 122) (by decide) (List.mem_of_getElem? (i := 2) rfl) dX11_isLetter_5 ?_
  refine z_callS C hK hDD (c_X11_in (zl x) (zG x) (WW) (hWW) u v 97 122 (by omega) (by omega) (by omega)) gX11_isLetter_X11_in rfl rfl zy_X11_in ⟨by omega, by decide⟩ rfl (Nat.le_of_ble_eq_true rfl) (st := []) (stk2 := fun z1 => [.int (zI z1)]) rfl (fun _ => rfl) dX11_isLetter_8 (fun z1 u2 h3 => ?_)
  rw [h3.1]; replace h3 := h3.2
  exact kret z1 u _ _ (⟨rfl, by omega⟩) (by omega) dX11_isLetter_11
-- NoteBellsModel.isFigure
set_option maxHeartbeats 8000000 in
set_option maxRecDepth 100000 in
theorem c_X11_isFigure (l : Launch) (D : va_G) {tys : List (ClassId × FieldType)} {S : Type} (WW : S → va_W) (hWW : ∀ u u' : S, (WW u).map (fun q => q.1) = (WW u').map (fun q => q.1)) (u : S) (v : Int) (b_v : -2147483648 ≤ v ∧ v < 2147483648) : ZM l D tys WW yX11_isFigure wsX11_isFigure 2 [.int (zI v)] u rI (fun z u' => u' = u ∧ ((z = 1 ∧ 48 ≤ v ∧ v ≤ 57) ∨ (z = 0 ∧ ¬ (48 ≤ v ∧ v ≤ 57)))) := by
  refine ZM.ofZ (cc := cX11_isFigure) (maxL := 1) [(0, .int (zI v))] rfl (by decide +kernel) rfl (Nat.le_of_ble_eq_true rfl) hWW ?_
  intro x C hK _ _ hDD kret
  refine z_iload_n C 0 dX11_isFigure_0 rfl ?_
  refine z_i2l C dX11_isFigure_1 (by omega) ?_
  refine z_ldc2 C (v := 48) (z := 48) (by decide) (List.mem_of_getElem? (i := 1) rfl) dX11_isFigure_2 ?_
  refine z_ldc2 C (v := 57) (z := 57) (by decide) (List.mem_of_getElem? (i := 2) rfl) dX11_isFigure_5 ?_
  refine z_callS C hK hDD (c_X11_in (zl x) (zG x) (WW) (hWW) u v 48 57 (by omega) (by omega) (by omega)) gX11_isFigure_X11_in rfl rfl zy_X11_in ⟨by omega, by decide⟩ rfl (Nat.le_of_ble_eq_true rfl) (st := []) (stk2 := fun z1 => [.int (zI z1)]) rfl (fun _ => rfl) dX11_isFigure_8 (fun z1 u2 h3 => ?_)
  rw [h3.1]; replace h3 := h3.2
  exact kret z1 u _ _ (⟨rfl, by omega⟩) (by omega) dX11_isFigure_11
-- NoteBellsModel.isNote
set_option maxHeartbeats 8000000 in
set_option maxRecDepth 100000 in
theorem c_X11_isNote (l : Launch) (D : va_G) {tys : List (ClassId × FieldType)} {S : Type} (WW : S → va_W) (hWW : ∀ u u' : S, (WW u).map (fun q => q.1) = (WW u').map (fun q => q.1)) (u : S) (v : Int) (b_v : -2147483648 ≤ v ∧ v < 2147483648) : ZM l D tys WW yX11_isNote wsX11_isNote 2 [.int (zI v)] u rI (fun z u' => u' = u ∧ ((z = 1 ∧ -99 ≤ v ∧ v ≤ 99) ∨ (z = 0 ∧ ¬ (-99 ≤ v ∧ v ≤ 99)))) := by
  refine ZM.ofZ (cc := cX11_isNote) (maxL := 1) [(0, .int (zI v))] rfl (by decide +kernel) rfl (Nat.le_of_ble_eq_true rfl) hWW ?_
  intro x C hK _ _ hDD kret
  refine z_iload_n C 0 dX11_isNote_0 rfl ?_
  refine z_i2l C dX11_isNote_1 (by omega) ?_
  refine z_ldc2 C (v := (-99)) (z := (-99)) (by decide) (List.mem_of_getElem? (i := 1) rfl) dX11_isNote_2 ?_
  refine z_ldc2 C (v := 99) (z := 99) (by decide) (List.mem_of_getElem? (i := 2) rfl) dX11_isNote_5 ?_
  refine z_callS C hK hDD (c_X11_in (zl x) (zG x) (WW) (hWW) u v (-99) 99 (by omega) (by omega) (by omega)) gX11_isNote_X11_in rfl rfl zy_X11_in ⟨by omega, by decide⟩ rfl (Nat.le_of_ble_eq_true rfl) (st := []) (stk2 := fun z1 => [.int (zI z1)]) rfl (fun _ => rfl) dX11_isNote_8 (fun z1 u2 h3 => ?_)
  rw [h3.1]; replace h3 := h3.2
  exact kret z1 u _ _ (⟨rfl, by omega⟩) (by omega) dX11_isNote_11
-- NoteBellsModel.isLevel
theorem inX11_isLevel_X11 : ∀ w ∈ wsX110, w ∈ wsX11_isLevel := fun w h => List.mem_cons_of_mem _ (List.mem_append_right _ (h))
set_option maxHeartbeats 8000000 in
set_option maxRecDepth 100000 in
theorem c_X11_isLevel (l : Launch) (D : va_G) (a : Nat → Nat) (c : Nat → ClassId) (u : zU) (m : Int) (hI : IM u) (b_m : -2147483648 ≤ m ∧ m < 2147483648) : ZM l D (zTy c) (WM a c) yX11_isLevel wsX11_isLevel 2 [.ref (a 0), .int (zI m)] u rI (fun z u' => u' = u ∧ ((z = 1 ∧ 0 ≤ m ∧ m < u 0 12) ∨ (z = 0 ∧ ¬ (0 ≤ m ∧ m < u 0 12)))) := by
  refine ZM.ofZ (cc := cX11_isLevel) (maxL := 2) [(0, .ref (a 0)), (1, .int (zI m))] rfl (by decide +kernel) rfl (Nat.le_of_ble_eq_true rfl) (WM_addr a c) ?_
  intro x C hK _ _ hDD kret
  have hlv := hI.lev
  refine z_iload_n C 1 dX11_isLevel_0 rfl ?_
  refine z_i2l C dX11_isLevel_1 (by omega) ?_
  refine z_lconst C (z := 0) dX11_isLevel_2 (by decide) ?_
  refine z_aload_n C 0 dX11_isLevel_3 rfl ?_
  refine z_get C hK (v := .int (zI (u 0 12))) inX11_isLevel_X11 0 (WM_0 a c u) rfl 12 (by decide) (List.mem_of_getElem? (i := 1) rfl) rfl dX11_isLevel_4 ?_
  refine z_iconst C dX11_isLevel_7 ?_
  refine z_isub C dX11_isLevel_8 ?_
  refine z_i2l C dX11_isLevel_9 (by omega) ?_
  refine z_callS C hK hDD (c_X11_in (zl x) (zG x) ((WM a c)) (WM_addr a c) u m 0 ((u 0 12) - 1) (by omega) (by omega) (by omega)) gX11_isLevel_X11_in rfl rfl zy_X11_in ⟨by omega, by decide⟩ rfl (Nat.le_of_ble_eq_true rfl) (st := []) (stk2 := fun z1 => [.int (zI z1)]) rfl (fun _ => rfl) dX11_isLevel_10 (fun z1 u2 h3 => ?_)
  rw [h3.1]; replace h3 := h3.2
  exact kret z1 u _ _ (⟨rfl, by omega⟩) (by omega) dX11_isLevel_13
-- NoteBellsModel.isMan
theorem inX11_isMan_X11 : ∀ w ∈ wsX110, w ∈ wsX11_isMan := fun w h => List.mem_cons_of_mem _ (List.mem_append_right _ (h))
set_option maxHeartbeats 8000000 in
set_option maxRecDepth 100000 in
theorem c_X11_isMan (l : Launch) (D : va_G) (a : Nat → Nat) (c : Nat → ClassId) (u : zU) (m : Int) (hI : IM u) (b_m : -2147483648 ≤ m ∧ m < 2147483648) : ZM l D (zTy c) (WM a c) yX11_isMan wsX11_isMan 2 [.ref (a 0), .int (zI m)] u rI (fun z u' => u' = u ∧ ((z = 1 ∧ 0 ≤ m ∧ m < u 0 13) ∨ (z = 0 ∧ ¬ (0 ≤ m ∧ m < u 0 13)))) := by
  refine ZM.ofZ (cc := cX11_isMan) (maxL := 2) [(0, .ref (a 0)), (1, .int (zI m))] rfl (by decide +kernel) rfl (Nat.le_of_ble_eq_true rfl) (WM_addr a c) ?_
  intro x C hK _ _ hDD kret
  have hpp := hI.ppl
  refine z_iload_n C 1 dX11_isMan_0 rfl ?_
  refine z_i2l C dX11_isMan_1 (by omega) ?_
  refine z_lconst C (z := 0) dX11_isMan_2 (by decide) ?_
  refine z_aload_n C 0 dX11_isMan_3 rfl ?_
  refine z_get C hK (v := .int (zI (u 0 13))) inX11_isMan_X11 0 (WM_0 a c u) rfl 13 (by decide) (List.mem_of_getElem? (i := 1) rfl) rfl dX11_isMan_4 ?_
  refine z_iconst C dX11_isMan_7 ?_
  refine z_isub C dX11_isMan_8 ?_
  refine z_i2l C dX11_isMan_9 (by omega) ?_
  refine z_callS C hK hDD (c_X11_in (zl x) (zG x) ((WM a c)) (WM_addr a c) u m 0 ((u 0 13) - 1) (by omega) (by omega) (by omega)) gX11_isMan_X11_in rfl rfl zy_X11_in ⟨by omega, by decide⟩ rfl (Nat.le_of_ble_eq_true rfl) (st := []) (stk2 := fun z1 => [.int (zI z1)]) rfl (fun _ => rfl) dX11_isMan_10 (fun z1 u2 h3 => ?_)
  rw [h3.1]; replace h3 := h3.2
  exact kret z1 u _ _ (⟨rfl, by omega⟩) (by omega) dX11_isMan_13
-- NoteBellsModel.away
set_option maxHeartbeats 8000000 in
set_option maxRecDepth 100000 in
theorem c_X11_away (l : Launch) (D : va_G) {tys : List (ClassId × FieldType)} {S : Type} (WW : S → va_W) (hWW : ∀ u u' : S, (WW u).map (fun q => q.1) = (WW u').map (fun q => q.1)) (u : S) (x1 x2 : Int) (b_x1 : -2147483648 ≤ x1 ∧ x1 < 2147483648) (b_x2 : -2147483648 ≤ x2 ∧ x2 < 2147483648) : ZM l D tys WW yX11_away wsX11_away 1 [.int (zI x1), .int (zI x2)] u rI (fun z u' => u' = u ∧ ((x2 < x1 ∧ z = x1 - x2) ∨ (x1 ≤ x2 ∧ z = x2 - x1))) := by
  refine ZM.ofI (cc := cX11_away) (maxL := 2) [(0, .int (zI x1)), (1, .int (zI x2))] rfl (by decide +kernel) rfl (Nat.le_of_ble_eq_true rfl) hWW ?_
  intro x C hK _ _ hDD kret
  refine z_iload_n C 0 dX11_away_0 rfl ?_
  refine z_iload_n C 1 dX11_away_1 rfl ?_
  refine z_icmp_le C 11 dX11_away_2 (by decide) (by omega) (fun h1 => ?_) (fun h1 => ?_)
  · skip
    refine z_iload_n C 1 dX11_away_11 rfl ?_
    refine z_iload_n C 0 dX11_away_12 rfl ?_
    refine z_isub C dX11_away_13 ?_
    exact kret (x2 - x1) u _ _ (⟨rfl, by omega⟩) dX11_away_14
  · skip
    refine z_iload_n C 0 dX11_away_5 rfl ?_
    refine z_iload_n C 1 dX11_away_6 rfl ?_
    refine z_isub C dX11_away_7 ?_
    refine z_goto C 14 dX11_away_8 (by decide) ?_
    exact kret (x1 - x2) u _ _ (⟨rfl, by omega⟩) dX11_away_14
-- NoteBellsModel.sound
set_option maxHeartbeats 8000000 in
set_option maxRecDepth 100000 in
theorem c_X11_sound (l : Launch) (D : va_G) {tys : List (ClassId × FieldType)} {S : Type} (WW : S → va_W) (hWW : ∀ u u' : S, (WW u).map (fun q => q.1) = (WW u').map (fun q => q.1)) (u : S) (p m w : Int) (b_p : -2147483648 ≤ p ∧ p < 2147483648) (b_m : 0 ≤ m ∧ m ≤ 7) (b_w : 0 ≤ w ∧ w ≤ 9) : ZM l D tys WW yX11_sound wsX11_sound 1 [.int (zI p), .int (zI m), .int (zI w)] u rI (fun z u' => u' = u ∧ z = snd p w m) := by
  refine ZM.ofI (cc := cX11_sound) (maxL := 3) [(0, .int (zI p)), (1, .int (zI m)), (2, .int (zI w))] rfl (by decide +kernel) rfl (Nat.le_of_ble_eq_true rfl) hWW ?_
  intro x C hK _ _ hDD kret
  have hwm := wl_bd b_w b_m
  refine z_iload_n C 0 dX11_sound_0 rfl ?_
  refine z_iload_n C 2 dX11_sound_1 rfl ?_
  refine z_iload_n C 1 dX11_sound_2 rfl ?_
  refine z_iconst C dX11_sound_3 ?_
  refine z_iadd C dX11_sound_4 ?_
  refine z_imul C dX11_sound_5 ?_
  refine z_iconst C dX11_sound_6 ?_
  refine z_idiv C dX11_sound_7 (by omega) ?_
  refine z_isub C dX11_sound_8 ?_
  exact kret (p - ((w * (m + 1)).tdiv 2)) u _ _ (⟨rfl, rfl⟩) dX11_sound_9
-- NoteBellsModel.soundOf
theorem inX11_soundOf_X11 : ∀ w ∈ wsX110, w ∈ wsX11_soundOf := fun w h => List.mem_cons_of_mem _ (List.mem_append_right _ (h))
set_option maxHeartbeats 8000000 in
set_option maxRecDepth 100000 in
theorem c_X11_soundOf (l : Launch) (D : va_G) (a : Nat → Nat) (c : Nat → ClassId) (u : zU) (m : Int) (hI : IM u) (b_m : 0 ≤ m ∧ m ≤ 7) : ZM l D (zTy c) (WM a c) yX11_soundOf wsX11_soundOf 3 [.ref (a 0), .int (zI m)] u rI (fun z u' => u' = u ∧ z = snd (u 5 m) (u 9 1) m) := by
  refine ZM.ofI (cc := cX11_soundOf) (maxL := 2) [(0, .ref (a 0)), (1, .int (zI m))] rfl (by decide +kernel) rfl (Nat.le_of_ble_eq_true rfl) (WM_addr a c) ?_
  intro x C hK _ _ hDD kret
  have hw := hI.wet
  have hp := hI.pitch m b_m.1 (by omega)
  refine z_aload_n C 0 dX11_soundOf_0 rfl ?_
  refine z_get C hK (v := .ref (a 5)) inX11_soundOf_X11 0 (WM_0 a c u) rfl 14 (by decide) (List.mem_of_getElem? (i := 1) rfl) rfl dX11_soundOf_1 ?_
  refine z_iload_n C 1 dX11_soundOf_4 rfl ?_
  refine z_iald C hK 0 (g := (u 5)) (i := m) 5 (WM_5 a c u) rfl (by decide) (by omega) dX11_soundOf_5 ?_
  refine z_as (b := u 5 (m)) rfl ?_
  refine z_iload_n C 1 dX11_soundOf_6 rfl ?_
  refine z_aload_n C 0 dX11_soundOf_7 rfl ?_
  refine z_get C hK (v := .ref (a 9)) inX11_soundOf_X11 0 (WM_0 a c u) rfl 18 (by decide) (List.mem_of_getElem? (i := 2) rfl) rfl dX11_soundOf_8 ?_
  refine z_iconst C dX11_soundOf_11 ?_
  refine z_iald C hK 0 (g := (u 9)) (i := 1) 9 (WM_9 a c u) rfl (by decide) (by omega) dX11_soundOf_12 ?_
  refine z_as (b := u 9 1) rfl ?_
  refine z_callS C hK hDD (c_X11_sound (zl x) (zG x) ((WM a c)) (WM_addr a c) u (u 5 (m)) m (u 9 1) (by omega) (by omega) (by omega)) gX11_soundOf_X11_sound rfl rfl zy_X11_sound ⟨by omega, by decide⟩ rfl (Nat.le_of_ble_eq_true rfl) (st := []) (stk2 := fun z1 => [.int (zI z1)]) rfl (fun _ => rfl) dX11_soundOf_13 (fun z1 u2 h3 => ?_)
  rw [h3.1]; replace h3 := h3.2
  refine z_as (b := snd (u 5 (m)) (u 9 1) m) h3 ?_
  exact kret (snd (u 5 (m)) (u 9 1) m) u _ _ (⟨rfl, rfl⟩) dX11_soundOf_16
-- NoteBellsModel.comesOf
theorem inX11_comesOf_X11 : ∀ w ∈ wsX110, w ∈ wsX11_comesOf := fun w h => List.mem_cons_of_mem _ (List.mem_append_right _ (h))
set_option maxHeartbeats 8000000 in
set_option maxRecDepth 100000 in
theorem c_X11_comesOf (l : Launch) (D : va_G) (a : Nat → Nat) (c : Nat → ClassId) (u : zU) (s : Int) (hI : IM u) (b_s : -200 ≤ s ∧ s ≤ 200) : ZM l D (zTy c) (WM a c) yX11_comesOf wsX11_comesOf 4 [.ref (a 0), .int (zI s)] u rI (fun z u' => u' = u ∧ z = ((like (u 5) (u 9 1) (u 9 0) (u 0 12) (s) : Nat) : Int)) := by
  refine ZM.ofI (cc := cX11_comesOf) (maxL := 4) [(0, .ref (a 0)), (1, .int (zI s))] rfl (by decide +kernel) rfl (Nat.le_of_ble_eq_true rfl) (WM_addr a c) ?_
  intro x C hK _ _ hDD kret
  have hlv := hI.lev
  have hw := hI.wet
  have he := hI.ear
  refine z_iconst C dX11_comesOf_0 ?_
  refine z_istore_n C [(2, .int (zI 0)), (0, .ref (a 0)), (1, .int (zI s))] dX11_comesOf_1 rfl (by decide) rfl ?_
  refine z_iconst C dX11_comesOf_2 ?_
  refine z_istore_n C [(3, .int (zI 0)), (2, .int (zI 0)), (0, .ref (a 0)), (1, .int (zI s))] dX11_comesOf_3 rfl (by decide) rfl ?_
  have L4_1 : ∀ (fu : Nat) (i : Int) (b : Int), (0 ≤ i ∧ i ≤ u 0 12) → (b = ((bn (fun q : Nat => alw (u 5) (u 9 1) (u 9 0) (u 0 12) s q) i.toNat : Nat) : Int)) → u 0 12 - i < (fu : Int) → Z x 0 0 (WM a c u) [(0, .ref (a 0)), (1, .int (zI s)), (2, .int (zI b)), (3, .int (zI i))] 4 [] := by
    intro fu
    induction fu with
    | zero => intro i b hi hb hmeas; exfalso; omega
    | succ fu ih4 =>
      intro i b hi hb hmeas
      refine z_iload_n C 3 dX11_comesOf_4 rfl ?_
      refine z_aload_n C 0 dX11_comesOf_5 rfl ?_
      refine z_get C hK (v := .int (zI (u 0 12))) inX11_comesOf_X11 0 (WM_0 a c u) rfl 12 (by decide) (List.mem_of_getElem? (i := 1) rfl) rfl dX11_comesOf_6 ?_
      refine z_icmp_ge C 46 dX11_comesOf_9 (by decide) (by omega) (fun h2 => ?_) (fun h2 => ?_)
      · skip
        refine z_iload_n C 2 dX11_comesOf_46 rfl ?_
        exact kret b u _ _ (⟨rfl, by rw [hb, show i = u 0 12 by omega, like_end hlv]⟩) dX11_comesOf_47
      · skip
        have hs := snd_bd (hI.pitch i hi.1 (by omega)) hw (m := i) (by omega)
        refine z_iload_n C 2 dX11_comesOf_12 rfl ?_
        refine z_aload_n C 0 dX11_comesOf_13 rfl ?_
        refine z_iload_n C 3 dX11_comesOf_14 rfl ?_
        refine z_callV C hK hDD (c_X11_soundOf (zl x) (zG x) a c u i (hI) (by omega)) gX11_comesOf_X11_soundOf rfl zy_X11_soundOf 0 (WM_0 a c u) rfl ⟨by omega, by decide⟩ rfl (Nat.le_of_ble_eq_true rfl) (st := [.int (zI b)]) (stk2 := fun z3 => [.int (zI z3), .int (zI b)]) rfl (fun _ => rfl) dX11_comesOf_15 (fun z3 u4 h5 => ?_)
        rw [h5.1]; replace h5 := h5.2
        refine z_as (b := snd (u 5 i) (u 9 1) i) h5 ?_
        refine z_iload_n C 1 dX11_comesOf_18 rfl ?_
        refine z_callS C hK hDD (c_X11_away (zl x) (zG x) ((WM a c)) (WM_addr a c) u (snd (u 5 i) (u 9 1) i) s (by omega) (by omega)) gX11_comesOf_X11_away rfl rfl zy_X11_away ⟨by omega, by decide⟩ rfl (Nat.le_of_ble_eq_true rfl) (st := [.int (zI b)]) (stk2 := fun z6 => [.int (zI z6), .int (zI b)]) rfl (fun _ => rfl) dX11_comesOf_19 (fun z6 u7 h8 => ?_)
        rw [h8.1]; replace h8 := h8.2
        refine z_aload_n C 0 dX11_comesOf_22 rfl ?_
        refine z_get C hK (v := .ref (a 9)) inX11_comesOf_X11 0 (WM_0 a c u) rfl 18 (by decide) (List.mem_of_getElem? (i := 2) rfl) rfl dX11_comesOf_23 ?_
        refine z_iconst C dX11_comesOf_26 ?_
        refine z_iald C hK 0 (g := (u 9)) (i := 0) 9 (WM_9 a c u) rfl (by decide) (by omega) dX11_comesOf_27 ?_
        refine z_as (b := u 9 0) rfl ?_
        refine z_icmp_gt C 37 dX11_comesOf_28 (by decide) (by omega) (fun h9 => ?_) (fun h9 => ?_)
        · skip
          refine z_iconst C dX11_comesOf_37 ?_
          refine z_ior C (((bn (fun q : Nat => alw (u 5) (u 9 1) (u 9 0) (u 0 12) s q) i.toNat : Nat) : Int)) dX11_comesOf_38 (by rw [hb]; exact (zI_or _ 0).trans (by rw [Nat.or_zero])) ?_
          refine z_istore_n C [(2, .int (zI (((bn (fun q : Nat => alw (u 5) (u 9 1) (u 9 0) (u 0 12) s q) i.toNat : Nat) : Int)))), (0, .ref (a 0)), (1, .int (zI s)), (3, .int (zI i))] dX11_comesOf_39 rfl (by decide) rfl ?_
          refine z_iinc C 3 [(3, .int (zI (i + 1))), (2, .int (zI (((bn (fun q : Nat => alw (u 5) (u 9 1) (u 9 0) (u 0 12) s q) i.toNat : Nat) : Int)))), (0, .ref (a 0)), (1, .int (zI s))] dX11_comesOf_40 rfl (by decide) rfl ?_
          refine z_goto C 4 dX11_comesOf_43 (by decide) ?_
          refine z_lv [(0, .ref (a 0)), (1, .int (zI s)), (2, .int (zI (((bn (fun q : Nat => alw (u 5) (u 9 1) (u 9 0) (u 0 12) s q) i.toNat : Nat) : Int)))), (3, .int (zI (i + 1)))] [2, 3, 1, 0] rfl ?_
          exact ih4 (i + 1) (((bn (fun q : Nat => alw (u 5) (u 9 1) (u 9 0) (u 0 12) s q) i.toNat : Nat) : Int)) (by omega) (by first | exact bn_stepI hi.1 (alw_t hi.1 (by omega)) | exact (bn_skipI hi.1 (alw_f hi.1 (by omega)))) (by omega)
        · skip
          refine z_iconst C dX11_comesOf_31 ?_
          refine z_iload_n C 3 dX11_comesOf_32 rfl ?_
          refine z_ishl C (((2 ^ i.toNat : Nat) : Int)) dX11_comesOf_33 (zI_1shl (by omega)) ?_
          refine z_goto C 38 dX11_comesOf_34 (by decide) ?_
          refine z_ior C (((bn (fun q : Nat => alw (u 5) (u 9 1) (u 9 0) (u 0 12) s q) i.toNat ||| 2 ^ i.toNat : Nat) : Int)) dX11_comesOf_38 (by rw [hb]; exact zI_or _ _) ?_
          refine z_istore_n C [(2, .int (zI (((bn (fun q : Nat => alw (u 5) (u 9 1) (u 9 0) (u 0 12) s q) i.toNat ||| 2 ^ i.toNat : Nat) : Int)))), (0, .ref (a 0)), (1, .int (zI s)), (3, .int (zI i))] dX11_comesOf_39 rfl (by decide) rfl ?_
          refine z_iinc C 3 [(3, .int (zI (i + 1))), (2, .int (zI (((bn (fun q : Nat => alw (u 5) (u 9 1) (u 9 0) (u 0 12) s q) i.toNat ||| 2 ^ i.toNat : Nat) : Int)))), (0, .ref (a 0)), (1, .int (zI s))] dX11_comesOf_40 rfl (by decide) rfl ?_
          refine z_goto C 4 dX11_comesOf_43 (by decide) ?_
          refine z_lv [(0, .ref (a 0)), (1, .int (zI s)), (2, .int (zI (((bn (fun q : Nat => alw (u 5) (u 9 1) (u 9 0) (u 0 12) s q) i.toNat ||| 2 ^ i.toNat : Nat) : Int)))), (3, .int (zI (i + 1)))] [2, 3, 1, 0] rfl ?_
          exact ih4 (i + 1) (((bn (fun q : Nat => alw (u 5) (u 9 1) (u 9 0) (u 0 12) s q) i.toNat ||| 2 ^ i.toNat : Nat) : Int)) (by omega) (by first | exact bn_stepI hi.1 (alw_t hi.1 (by omega)) | exact (bn_skipI hi.1 (alw_f hi.1 (by omega)))) (by omega)
  refine z_lv [(0, .ref (a 0)), (1, .int (zI s)), (2, .int (zI 0)), (3, .int (zI 0))] [2, 3, 1, 0] rfl ?_
  exact L4_1 (((u 0 12 - 0 : Int)).toNat + 1) 0 0 (by omega) (rfl) (by omega)
-- NoteBellsModel.level
theorem inX11_level_X11 : ∀ w ∈ wsX110, w ∈ wsX11_level := fun w h => List.mem_cons_of_mem _ (List.mem_append_right _ (h))
set_option maxHeartbeats 8000000 in
set_option maxRecDepth 100000 in
theorem c_X11_level (l : Launch) (D : va_G) (a : Nat → Nat) (c : Nat → ClassId) (u : zU) (m k : Int) (hI : IM u) (b_m : -2147483648 ≤ m ∧ m < 2147483648) (b_k : -2147483648 ≤ k ∧ k < 2147483648) : ZM l D (zTy c) (WM a c) yX11_level wsX11_level 5 [.ref (a 0), .int (zI m), .int (zI k)] u rI (fun z u' => u' = u ∧ (((0 ≤ m ∧ m < u 0 12) ∧ ((k = 0 ∧ z = u 5 m) ∨ (k = 1 ∧ z = u 6 m) ∨ (k = 2 ∧ z = u 7 m) ∨ (k = 3 ∧ z = snd (u 5 m) (u 9 1) m))) ∨ (¬ ((0 ≤ m ∧ m < u 0 12) ∧ 0 ≤ k ∧ k ≤ 3) ∧ z = -1000000))) := by
  refine ZM.ofI (cc := cX11_level) (maxL := 3) [(0, .ref (a 0)), (1, .int (zI m)), (2, .int (zI k))] rfl (by decide +kernel) rfl (Nat.le_of_ble_eq_true rfl) (WM_addr a c) ?_
  intro x C hK _ _ hDD kret
  have hlv := hI.lev
  refine z_aload_n C 0 dX11_level_0 rfl ?_
  refine z_iload_n C 1 dX11_level_1 rfl ?_
  refine z_callV C hK hDD (c_X11_isLevel (zl x) (zG x) a c u m (hI) (by omega)) gX11_level_X11_isLevel rfl zy_X11_isLevel 0 (WM_0 a c u) rfl ⟨by omega, by decide⟩ rfl (Nat.le_of_ble_eq_true rfl) (st := []) (stk2 := fun z1 => [.int (zI z1)]) rfl (fun _ => rfl) dX11_level_2 (fun z1 u2 h3 => ?_)
  rw [h3.1]; replace h3 := h3.2
  refine z_if_eq C 20 dX11_level_5 (by decide) (by omega) (fun h4 => ?_) (fun h4 => ?_)
  · skip
    refine z_ldc C (v := (-1000000)) (z := (-1000000)) (by decide) (List.mem_of_getElem? (i := 2) rfl) dX11_level_20 ?_
    exact kret (-1000000) u _ _ (⟨rfl, Or.inr ⟨by omega, rfl⟩⟩) dX11_level_22
  · skip
    refine z_iload_n C 2 dX11_level_8 rfl ?_
    refine z_i2l C dX11_level_9 (by omega) ?_
    refine z_lconst C (z := 0) dX11_level_10 (by decide) ?_
    refine z_ldc2 C (v := 3) (z := 3) (by decide) (List.mem_of_getElem? (i := 1) rfl) dX11_level_11 ?_
    refine z_callS C hK hDD (c_X11_in (zl x) (zG x) ((WM a c)) (WM_addr a c) u k 0 3 (by omega) (by omega) (by omega)) gX11_level_X11_in rfl rfl zy_X11_in ⟨by omega, by decide⟩ rfl (Nat.le_of_ble_eq_true rfl) (st := []) (stk2 := fun z5 => [.int (zI z5)]) rfl (fun _ => rfl) dX11_level_14 (fun z5 u6 h7 => ?_)
    rw [h7.1]; replace h7 := h7.2
    refine z_if_ne C 23 dX11_level_17 (by decide) (by omega) (fun h8 => ?_) (fun h8 => ?_)
    · skip
      refine z_iload_n C 2 dX11_level_23 rfl ?_
      refine z_if_ne C 36 dX11_level_24 (by decide) (by omega) (fun h9 => ?_) (fun h9 => ?_)
      · skip
        refine z_iload_n C 2 dX11_level_36 rfl ?_
        refine z_iconst C dX11_level_37 ?_
        refine z_icmp_ne C 50 dX11_level_38 (by decide) (by omega) (fun h10 => ?_) (fun h10 => ?_)
        · skip
          refine z_iload_n C 2 dX11_level_50 rfl ?_
          refine z_iconst C dX11_level_51 ?_
          refine z_icmp_ne C 64 dX11_level_52 (by decide) (by omega) (fun h11 => ?_) (fun h11 => ?_)
          · skip
            refine z_aload_n C 0 dX11_level_64 rfl ?_
            refine z_iload_n C 1 dX11_level_65 rfl ?_
            refine z_callV C hK hDD (c_X11_soundOf (zl x) (zG x) a c u m (hI) (by omega)) gX11_level_X11_soundOf rfl zy_X11_soundOf 0 (WM_0 a c u) rfl ⟨by omega, by decide⟩ rfl (Nat.le_of_ble_eq_true rfl) (st := []) (stk2 := fun z12 => [.int (zI z12)]) rfl (fun _ => rfl) dX11_level_66 (fun z12 u13 h14 => ?_)
            rw [h14.1]; replace h14 := h14.2
            refine z_as (b := snd (u 5 m) (u 9 1) m) h14 ?_
            exact kret (snd (u 5 m) (u 9 1) m) u _ _ (⟨rfl, Or.inl ⟨by omega, by first | exact Or.inl ⟨by omega, rfl⟩ | exact Or.inr (Or.inl ⟨by omega, rfl⟩) | exact Or.inr (Or.inr (Or.inl ⟨by omega, rfl⟩)) | exact Or.inr (Or.inr (Or.inr ⟨by omega, rfl⟩))⟩⟩) dX11_level_69
          · skip
            refine z_aload_n C 0 dX11_level_55 rfl ?_
            refine z_get C hK (v := .ref (a 7)) inX11_level_X11 0 (WM_0 a c u) rfl 16 (by decide) (List.mem_of_getElem? (i := 5) rfl) rfl dX11_level_56 ?_
            refine z_iload_n C 1 dX11_level_59 rfl ?_
            refine z_iald C hK 0 (g := (u 7)) (i := m) 7 (WM_7 a c u) rfl (by decide) (by omega) dX11_level_60 ?_
            refine z_as (b := u 7 (m)) rfl ?_
            refine z_goto C 69 dX11_level_61 (by decide) ?_
            exact kret (u 7 (m)) u _ _ (⟨rfl, Or.inl ⟨by omega, by first | exact Or.inl ⟨by omega, rfl⟩ | exact Or.inr (Or.inl ⟨by omega, rfl⟩) | exact Or.inr (Or.inr (Or.inl ⟨by omega, rfl⟩)) | exact Or.inr (Or.inr (Or.inr ⟨by omega, rfl⟩))⟩⟩) dX11_level_69
        · skip
          refine z_aload_n C 0 dX11_level_41 rfl ?_
          refine z_get C hK (v := .ref (a 6)) inX11_level_X11 0 (WM_0 a c u) rfl 15 (by decide) (List.mem_of_getElem? (i := 4) rfl) rfl dX11_level_42 ?_
          refine z_iload_n C 1 dX11_level_45 rfl ?_
          refine z_iald C hK 0 (g := (u 6)) (i := m) 6 (WM_6 a c u) rfl (by decide) (by omega) dX11_level_46 ?_
          refine z_as (b := u 6 (m)) rfl ?_
          refine z_goto C 69 dX11_level_47 (by decide) ?_
          exact kret (u 6 (m)) u _ _ (⟨rfl, Or.inl ⟨by omega, by first | exact Or.inl ⟨by omega, rfl⟩ | exact Or.inr (Or.inl ⟨by omega, rfl⟩) | exact Or.inr (Or.inr (Or.inl ⟨by omega, rfl⟩)) | exact Or.inr (Or.inr (Or.inr ⟨by omega, rfl⟩))⟩⟩) dX11_level_69
      · skip
        refine z_aload_n C 0 dX11_level_27 rfl ?_
        refine z_get C hK (v := .ref (a 5)) inX11_level_X11 0 (WM_0 a c u) rfl 14 (by decide) (List.mem_of_getElem? (i := 3) rfl) rfl dX11_level_28 ?_
        refine z_iload_n C 1 dX11_level_31 rfl ?_
        refine z_iald C hK 0 (g := (u 5)) (i := m) 5 (WM_5 a c u) rfl (by decide) (by omega) dX11_level_32 ?_
        refine z_as (b := u 5 (m)) rfl ?_
        refine z_goto C 69 dX11_level_33 (by decide) ?_
        exact kret (u 5 (m)) u _ _ (⟨rfl, Or.inl ⟨by omega, by first | exact Or.inl ⟨by omega, rfl⟩ | exact Or.inr (Or.inl ⟨by omega, rfl⟩) | exact Or.inr (Or.inr (Or.inl ⟨by omega, rfl⟩)) | exact Or.inr (Or.inr (Or.inr ⟨by omega, rfl⟩))⟩⟩) dX11_level_69
    · skip
      refine z_ldc C (v := (-1000000)) (z := (-1000000)) (by decide) (List.mem_of_getElem? (i := 2) rfl) dX11_level_20 ?_
      exact kret (-1000000) u _ _ (⟨rfl, Or.inr ⟨by omega, rfl⟩⟩) dX11_level_22
-- NoteBellsModel.man
theorem inX11_man_X11 : ∀ w ∈ wsX110, w ∈ wsX11_man := fun w h => List.mem_cons_of_mem _ (List.mem_append_right _ (h))
set_option maxHeartbeats 8000000 in
set_option maxRecDepth 100000 in
theorem c_X11_man (l : Launch) (D : va_G) (a : Nat → Nat) (c : Nat → ClassId) (u : zU) (m : Int) (hI : IM u) (b_m : -2147483648 ≤ m ∧ m < 2147483648) : ZM l D (zTy c) (WM a c) yX11_man wsX11_man 5 [.ref (a 0), .int (zI m)] u rI (fun z u' => u' = u ∧ ((0 ≤ m ∧ m < u 0 13 ∧ z = u 8 m) ∨ (¬ (0 ≤ m ∧ m < u 0 13) ∧ z = -1))) := by
  refine ZM.ofI (cc := cX11_man) (maxL := 2) [(0, .ref (a 0)), (1, .int (zI m))] rfl (by decide +kernel) rfl (Nat.le_of_ble_eq_true rfl) (WM_addr a c) ?_
  intro x C hK _ _ hDD kret
  have hpp := hI.ppl
  refine z_aload_n C 0 dX11_man_0 rfl ?_
  refine z_iload_n C 1 dX11_man_1 rfl ?_
  refine z_callV C hK hDD (c_X11_isMan (zl x) (zG x) a c u m (hI) (by omega)) gX11_man_X11_isMan rfl zy_X11_isMan 0 (WM_0 a c u) rfl ⟨by omega, by decide⟩ rfl (Nat.le_of_ble_eq_true rfl) (st := []) (stk2 := fun z1 => [.int (zI z1)]) rfl (fun _ => rfl) dX11_man_2 (fun z1 u2 h3 => ?_)
  rw [h3.1]; replace h3 := h3.2
  refine z_if_eq C 17 dX11_man_5 (by decide) (by omega) (fun h4 => ?_) (fun h4 => ?_)
  · skip
    refine z_iconst C dX11_man_17 ?_
    exact kret (-1) u _ _ (⟨rfl, by omega⟩) dX11_man_18
  · skip
    refine z_aload_n C 0 dX11_man_8 rfl ?_
    refine z_get C hK (v := .ref (a 8)) inX11_man_X11 0 (WM_0 a c u) rfl 17 (by decide) (List.mem_of_getElem? (i := 1) rfl) rfl dX11_man_9 ?_
    refine z_iload_n C 1 dX11_man_12 rfl ?_
    refine z_iald C hK 0 (g := (u 8)) (i := m) 8 (WM_8 a c u) rfl (by decide) (by omega) dX11_man_13 ?_
    refine z_as (b := u 8 (m)) rfl ?_
    refine z_goto C 18 dX11_man_14 (by decide) ?_
    exact kret (u 8 (m)) u _ _ (⟨rfl, by omega⟩) dX11_man_18
-- NoteBellsModel.wet
theorem inX11_wet_X11 : ∀ w ∈ wsX110, w ∈ wsX11_wet := fun w h => List.mem_cons_of_mem _ (List.mem_append_right _ (h))
set_option maxHeartbeats 8000000 in
set_option maxRecDepth 100000 in
theorem c_X11_wet (l : Launch) (D : va_G) (a : Nat → Nat) (c : Nat → ClassId) (u : zU) (w : Int) (hI : IM u) (b_w : -2147483648 ≤ w ∧ w < 2147483648) : ZM l D (zTy c) (WM a c) yX11_wet wsX11_wet 5 [.ref (a 0), .int (zI w)] u rI (fun z u' => (0 ≤ w ∧ w ≤ 9 ∧ z = u 9 1 ∧ u' = up u 9 1 w) ∨ (¬ (0 ≤ w ∧ w ≤ 9) ∧ z = -1 ∧ u' = u)) := by
  refine ZM.ofI (cc := cX11_wet) (maxL := 3) [(0, .ref (a 0)), (1, .int (zI w))] rfl (by decide +kernel) rfl (Nat.le_of_ble_eq_true rfl) (WM_addr a c) ?_
  intro x C hK _ _ hDD kret
  refine z_iload_n C 1 dX11_wet_0 rfl ?_
  refine z_i2l C dX11_wet_1 (by omega) ?_
  refine z_lconst C (z := 0) dX11_wet_2 (by decide) ?_
  refine z_ldc2 C (v := 9) (z := 9) (by decide) (List.mem_of_getElem? (i := 1) rfl) dX11_wet_3 ?_
  refine z_callS C hK hDD (c_X11_in (zl x) (zG x) ((WM a c)) (WM_addr a c) u w 0 9 (by omega) (by omega) (by omega)) gX11_wet_X11_in rfl rfl zy_X11_in ⟨by omega, by decide⟩ rfl (Nat.le_of_ble_eq_true rfl) (st := []) (stk2 := fun z1 => [.int (zI z1)]) rfl (fun _ => rfl) dX11_wet_6 (fun z1 u2 h3 => ?_)
  rw [h3.1]; replace h3 := h3.2
  refine z_if_ne C 14 dX11_wet_9 (by decide) (by omega) (fun h4 => ?_) (fun h4 => ?_)
  · skip
    refine z_aload_n C 0 dX11_wet_14 rfl ?_
    refine z_get C hK (v := .ref (a 9)) inX11_wet_X11 0 (WM_0 a c u) rfl 18 (by decide) (List.mem_of_getElem? (i := 2) rfl) rfl dX11_wet_15 ?_
    refine z_iconst C dX11_wet_18 ?_
    refine z_iald C hK 0 (g := (u 9)) (i := 1) 9 (WM_9 a c u) rfl (by decide) (by omega) dX11_wet_19 ?_
    refine z_as (b := u 9 1) rfl ?_
    refine z_istore_n C [(2, .int (zI (u 9 1))), (0, .ref (a 0)), (1, .int (zI w))] dX11_wet_20 rfl (by decide) rfl ?_
    refine z_aload_n C 1 dX11_wet_21 rfl ?_
    refine z_get C hK (v := .ref (a 9)) inX11_wet_X11 0 (WM_0 a c u) rfl 18 (by decide) (List.mem_of_getElem? (i := 2) rfl) rfl dX11_wet_22 ?_
    refine z_iconst C dX11_wet_25 ?_
    refine z_iload_n C 2 dX11_wet_26 rfl ?_
    refine z_iast C hK (hDD _) 0 (g := u 9) 9 (WM_9 a c u) rfl (by decide) (by omega) (WM_9_set a c u 1 w) dX11_wet_27 ?_
    refine z_iload_n C 0 dX11_wet_28 rfl ?_
    exact kret (u 9 1) ((up u 9 (1) (w))) _ _ (Or.inl ⟨by omega, by omega, rfl, rfl⟩) dX11_wet_29
  · skip
    refine z_iconst C dX11_wet_12 ?_
    exact kret (-1) u _ _ (Or.inr ⟨by omega, rfl, rfl⟩) dX11_wet_13
-- NoteBellsModel.taken
set_option maxHeartbeats 8000000 in
set_option maxRecDepth 100000 in
theorem c_X11_taken (l : Launch) (D : va_G) (a : Nat → Nat) (c : Nat → ClassId) (u : zU) (m : Int) (hI : IM u) (b_m : -2147483648 ≤ m ∧ m < 2147483648) : ZM l D (zTy c) (WM a c) yX11_taken wsX11_taken 6 [.ref (a 0), .int (zI m)] u rI (fun z u' => u' = u ∧ ((0 ≤ m ∧ m < u 0 12 ∧ z = ((like (u 5) (u 9 1) (u 9 0) (u 0 12) (snd (u 5 m) (u 9 1) m) : Nat) : Int)) ∨ (¬ (0 ≤ m ∧ m < u 0 12) ∧ z = -1))) := by
  refine ZM.ofI (cc := cX11_taken) (maxL := 2) [(0, .ref (a 0)), (1, .int (zI m))] rfl (by decide +kernel) rfl (Nat.le_of_ble_eq_true rfl) (WM_addr a c) ?_
  intro x C hK _ _ hDD kret
  have hlv := hI.lev
  have hw := hI.wet
  refine z_aload_n C 0 dX11_taken_0 rfl ?_
  refine z_iload_n C 1 dX11_taken_1 rfl ?_
  refine z_callV C hK hDD (c_X11_isLevel (zl x) (zG x) a c u m (hI) (by omega)) gX11_taken_X11_isLevel rfl zy_X11_isLevel 0 (WM_0 a c u) rfl ⟨by omega, by decide⟩ rfl (Nat.le_of_ble_eq_true rfl) (st := []) (stk2 := fun z1 => [.int (zI z1)]) rfl (fun _ => rfl) dX11_taken_2 (fun z1 u2 h3 => ?_)
  rw [h3.1]; replace h3 := h3.2
  refine z_if_eq C 20 dX11_taken_5 (by decide) (by omega) (fun h4 => ?_) (fun h4 => ?_)
  · skip
    refine z_iconst C dX11_taken_20 ?_
    exact kret (-1) u _ _ (⟨rfl, by first | exact Or.inl ⟨by omega, by omega, rfl⟩ | exact Or.inr ⟨by omega, rfl⟩⟩) dX11_taken_21
  · skip
    have hs := snd_bd (hI.pitch m (by omega) (by omega)) hw (m := m) (by omega)
    refine z_aload_n C 0 dX11_taken_8 rfl ?_
    refine z_aload_n C 0 dX11_taken_9 rfl ?_
    refine z_iload_n C 1 dX11_taken_10 rfl ?_
    refine z_callV C hK hDD (c_X11_soundOf (zl x) (zG x) a c u m (hI) (by omega)) gX11_taken_X11_soundOf rfl zy_X11_soundOf 0 (WM_0 a c u) rfl ⟨by omega, by decide⟩ rfl (Nat.le_of_ble_eq_true rfl) (st := [.ref (a 0)]) (stk2 := fun z5 => [.int (zI z5), .ref (a 0)]) rfl (fun _ => rfl) dX11_taken_11 (fun z5 u6 h7 => ?_)
    rw [h7.1]; replace h7 := h7.2
    refine z_as (b := snd (u 5 m) (u 9 1) m) h7 ?_
    refine z_callV C hK hDD (c_X11_comesOf (zl x) (zG x) a c u (snd (u 5 m) (u 9 1) m) (hI) (by omega)) gX11_taken_X11_comesOf rfl zy_X11_comesOf 0 (WM_0 a c u) rfl ⟨by omega, by decide⟩ rfl (Nat.le_of_ble_eq_true rfl) (st := []) (stk2 := fun z8 => [.int (zI z8)]) rfl (fun _ => rfl) dX11_taken_14 (fun z8 u9 h10 => ?_)
    rw [h10.1]; replace h10 := h10.2
    refine z_as (b := ((like (u 5) (u 9 1) (u 9 0) (u 0 12) ((snd (u 5 m) (u 9 1) m)) : Nat) : Int)) h10 ?_
    refine z_goto C 21 dX11_taken_17 (by decide) ?_
    exact kret (((like (u 5) (u 9 1) (u 9 0) (u 0 12) ((snd (u 5 m) (u 9 1) m)) : Nat) : Int)) u _ _ (⟨rfl, by first | exact Or.inl ⟨by omega, by omega, rfl⟩ | exact Or.inr ⟨by omega, rfl⟩⟩) dX11_taken_21
-- NoteBellsModel.comes
set_option maxHeartbeats 8000000 in
set_option maxRecDepth 100000 in
theorem c_X11_comes (l : Launch) (D : va_G) (a : Nat → Nat) (c : Nat → ClassId) (u : zU) (s : Int) (hI : IM u) (b_s : -2147483648 ≤ s ∧ s < 2147483648) : ZM l D (zTy c) (WM a c) yX11_comes wsX11_comes 6 [.ref (a 0), .int (zI s)] u rI (fun z u' => u' = u ∧ ((-99 ≤ s ∧ s ≤ 99 ∧ z = ((like (u 5) (u 9 1) (u 9 0) (u 0 12) (s) : Nat) : Int)) ∨ (¬ (-99 ≤ s ∧ s ≤ 99) ∧ z = -1))) := by
  refine ZM.ofI (cc := cX11_comes) (maxL := 2) [(0, .ref (a 0)), (1, .int (zI s))] rfl (by decide +kernel) rfl (Nat.le_of_ble_eq_true rfl) (WM_addr a c) ?_
  intro x C hK _ _ hDD kret
  have hlv := hI.lev
  refine z_iload_n C 1 dX11_comes_0 rfl ?_
  refine z_callS C hK hDD (c_X11_isNote (zl x) (zG x) ((WM a c)) (WM_addr a c) u s (by omega)) gX11_comes_X11_isNote rfl rfl zy_X11_isNote ⟨by omega, by decide⟩ rfl (Nat.le_of_ble_eq_true rfl) (st := []) (stk2 := fun z1 => [.int (zI z1)]) rfl (fun _ => rfl) dX11_comes_1 (fun z1 u2 h3 => ?_)
  rw [h3.1]; replace h3 := h3.2
  refine z_if_eq C 15 dX11_comes_4 (by decide) (by omega) (fun h4 => ?_) (fun h4 => ?_)
  · skip
    refine z_iconst C dX11_comes_15 ?_
    exact kret (-1) u _ _ (⟨rfl, by first | exact Or.inl ⟨by omega, by omega, rfl⟩ | exact Or.inr ⟨by omega, rfl⟩⟩) dX11_comes_16
  · skip
    refine z_aload_n C 0 dX11_comes_7 rfl ?_
    refine z_iload_n C 1 dX11_comes_8 rfl ?_
    refine z_callV C hK hDD (c_X11_comesOf (zl x) (zG x) a c u s (hI) (by omega)) gX11_comes_X11_comesOf rfl zy_X11_comesOf 0 (WM_0 a c u) rfl ⟨by omega, by decide⟩ rfl (Nat.le_of_ble_eq_true rfl) (st := []) (stk2 := fun z5 => [.int (zI z5)]) rfl (fun _ => rfl) dX11_comes_9 (fun z5 u6 h7 => ?_)
    rw [h7.1]; replace h7 := h7.2
    refine z_as (b := ((like (u 5) (u 9 1) (u 9 0) (u 0 12) (s) : Nat) : Int)) h7 ?_
    refine z_goto C 16 dX11_comes_12 (by decide) ?_
    exact kret (((like (u 5) (u 9 1) (u 9 0) (u 0 12) (s) : Nat) : Int)) u _ _ (⟨rfl, by first | exact Or.inl ⟨by omega, by omega, rfl⟩ | exact Or.inr ⟨by omega, rfl⟩⟩) dX11_comes_16
-- NoteBellsModel.climbs
theorem inX11_climbs_X11 : ∀ w ∈ wsX110, w ∈ wsX11_climbs := fun w h => List.mem_cons_of_mem _ (List.mem_append_right _ (h))
set_option maxHeartbeats 8000000 in
set_option maxRecDepth 100000 in
theorem c_X11_climbs (l : Launch) (D : va_G) (a : Nat → Nat) (c : Nat → ClassId) (u : zU) (m k : Int) (hI : IM u) (b_m : -2147483648 ≤ m ∧ m < 2147483648) (b_k : -2147483648 ≤ k ∧ k < 2147483648) : ZM l D (zTy c) (WM a c) yX11_climbs wsX11_climbs 5 [.ref (a 0), .int (zI m), .int (zI k)] u rI (fun z u' => (¬ (0 ≤ m ∧ m < u 0 13 ∧ 0 ≤ k ∧ k < u 0 12) ∧ z = -1 ∧ u' = u) ∨ ((0 ≤ m ∧ m < u 0 13 ∧ 0 ≤ k ∧ k < u 0 12) ∧ u 8 m = k ∧ z = -2 ∧ u' = u) ∨ ((0 ≤ m ∧ m < u 0 13 ∧ 0 ≤ k ∧ k < u 0 12) ∧ u 8 m ≠ k ∧ ((u 8 m ≤ k ∧ z = k - u 8 m) ∨ (k < u 8 m ∧ z = u 8 m - k)) ∧ u' = up u 8 m k)) := by
  refine ZM.ofI (cc := cX11_climbs) (maxL := 4) [(0, .ref (a 0)), (1, .int (zI m)), (2, .int (zI k))] rfl (by decide +kernel) rfl (Nat.le_of_ble_eq_true rfl) (WM_addr a c) ?_
  intro x C hK _ _ hDD kret
  have hlv := hI.lev
  have hpp := hI.ppl
  refine z_aload_n C 0 dX11_climbs_0 rfl ?_
  refine z_iload_n C 1 dX11_climbs_1 rfl ?_
  refine z_callV C hK hDD (c_X11_isMan (zl x) (zG x) a c u m (hI) (by omega)) gX11_climbs_X11_isMan rfl zy_X11_isMan 0 (WM_0 a c u) rfl ⟨by omega, by decide⟩ rfl (Nat.le_of_ble_eq_true rfl) (st := []) (stk2 := fun z1 => [.int (zI z1)]) rfl (fun _ => rfl) dX11_climbs_2 (fun z1 u2 h3 => ?_)
  rw [h3.1]; replace h3 := h3.2
  refine z_if_eq C 16 dX11_climbs_5 (by decide) (by omega) (fun h4 => ?_) (fun h4 => ?_)
  · skip
    refine z_iconst C dX11_climbs_16 ?_
    exact kret (-1) u _ _ (Or.inl ⟨by omega, rfl, rfl⟩) dX11_climbs_17
  · skip
    refine z_aload_n C 0 dX11_climbs_8 rfl ?_
    refine z_iload_n C 2 dX11_climbs_9 rfl ?_
    refine z_callV C hK hDD (c_X11_isLevel (zl x) (zG x) a c u k (hI) (by omega)) gX11_climbs_X11_isLevel rfl zy_X11_isLevel 0 (WM_0 a c u) rfl ⟨by omega, by decide⟩ rfl (Nat.le_of_ble_eq_true rfl) (st := []) (stk2 := fun z5 => [.int (zI z5)]) rfl (fun _ => rfl) dX11_climbs_10 (fun z5 u6 h7 => ?_)
    rw [h7.1]; replace h7 := h7.2
    refine z_if_ne C 18 dX11_climbs_13 (by decide) (by omega) (fun h8 => ?_) (fun h8 => ?_)
    · skip
      have hst := hI.stands m (by omega) (by omega)
      refine z_aload_n C 0 dX11_climbs_18 rfl ?_
      refine z_get C hK (v := .ref (a 8)) inX11_climbs_X11 0 (WM_0 a c u) rfl 17 (by decide) (List.mem_of_getElem? (i := 1) rfl) rfl dX11_climbs_19 ?_
      refine z_iload_n C 1 dX11_climbs_22 rfl ?_
      refine z_iald C hK 0 (g := (u 8)) (i := m) 8 (WM_8 a c u) rfl (by decide) (by omega) dX11_climbs_23 ?_
      refine z_as (b := u 8 (m)) rfl ?_
      refine z_iload_n C 2 dX11_climbs_24 rfl ?_
      refine z_icmp_ne C 31 dX11_climbs_25 (by decide) (by omega) (fun h9 => ?_) (fun h9 => ?_)
      · skip
        refine z_aload_n C 0 dX11_climbs_31 rfl ?_
        refine z_get C hK (v := .ref (a 8)) inX11_climbs_X11 0 (WM_0 a c u) rfl 17 (by decide) (List.mem_of_getElem? (i := 1) rfl) rfl dX11_climbs_32 ?_
        refine z_iload_n C 1 dX11_climbs_35 rfl ?_
        refine z_iald C hK 0 (g := (u 8)) (i := m) 8 (WM_8 a c u) rfl (by decide) (by omega) dX11_climbs_36 ?_
        refine z_as (b := u 8 (m)) rfl ?_
        refine z_iload_n C 2 dX11_climbs_37 rfl ?_
        refine z_callS C hK hDD (c_X11_away (zl x) (zG x) ((WM a c)) (WM_addr a c) u (u 8 (m)) k (by omega) (by omega)) gX11_climbs_X11_away rfl rfl zy_X11_away ⟨by omega, by decide⟩ rfl (Nat.le_of_ble_eq_true rfl) (st := []) (stk2 := fun z10 => [.int (zI z10)]) rfl (fun _ => rfl) dX11_climbs_38 (fun z10 u11 h12 => ?_)
        rw [h12.1]; replace h12 := h12.2
        refine z_istore_n C [(3, .int (zI z10)), (0, .ref (a 0)), (1, .int (zI m)), (2, .int (zI k))] dX11_climbs_41 rfl (by decide) rfl ?_
        refine z_aload_n C 1 dX11_climbs_42 rfl ?_
        refine z_get C hK (v := .ref (a 8)) inX11_climbs_X11 0 (WM_0 a c u) rfl 17 (by decide) (List.mem_of_getElem? (i := 1) rfl) rfl dX11_climbs_43 ?_
        refine z_iload_n C 2 dX11_climbs_46 rfl ?_
        refine z_iload_n C 3 dX11_climbs_47 rfl ?_
        refine z_iast C hK (hDD _) 0 (g := u 8) 8 (WM_8 a c u) rfl (by decide) (by omega) (WM_8_set a c u m k) dX11_climbs_48 ?_
        refine z_iload_n C 0 dX11_climbs_49 rfl ?_
        exact kret z10 ((up u 8 (m) (k))) _ _ (Or.inr (Or.inr ⟨by omega, by omega, by omega, rfl⟩)) dX11_climbs_50
      · skip
        refine z_bipush C dX11_climbs_28 (by decide) ?_
        exact kret (-2) u _ _ (Or.inr (Or.inl ⟨by omega, by omega, rfl, rfl⟩)) dX11_climbs_30
    · skip
      refine z_iconst C dX11_climbs_16 ?_
      exact kret (-1) u _ _ (Or.inl ⟨by omega, rfl, rfl⟩) dX11_climbs_17
-- NoteBellsModel.plucks
theorem inX11_plucks_X11 : ∀ w ∈ wsX110, w ∈ wsX11_plucks := fun w h => List.mem_cons_of_mem _ (List.mem_append_right _ (h))
set_option maxHeartbeats 8000000 in
set_option maxRecDepth 100000 in
theorem c_X11_plucks (l : Launch) (D : va_G) (a : Nat → Nat) (c : Nat → ClassId) (u : zU) (m : Int) (hI : IM u) (b_m : -2147483648 ≤ m ∧ m < 2147483648) : ZM l D (zTy c) (WM a c) yX11_plucks wsX11_plucks 5 [.ref (a 0), .int (zI m)] u rI (fun z u' => u' = u ∧ ((0 ≤ m ∧ m < u 0 13 ∧ u 8 m < u 0 20 ∧ z = snd (u 5 (u 8 m)) (u 9 1) (u 8 m)) ∨ (¬ (0 ≤ m ∧ m < u 0 13 ∧ u 8 m < u 0 20) ∧ z = -1000000))) := by
  refine ZM.ofI (cc := cX11_plucks) (maxL := 2) [(0, .ref (a 0)), (1, .int (zI m))] rfl (by decide +kernel) rfl (Nat.le_of_ble_eq_true rfl) (WM_addr a c) ?_
  intro x C hK _ _ hDD kret
  have hpp := hI.ppl
  have hro := hI.rope
  refine z_aload_n C 0 dX11_plucks_0 rfl ?_
  refine z_iload_n C 1 dX11_plucks_1 rfl ?_
  refine z_callV C hK hDD (c_X11_isMan (zl x) (zG x) a c u m (hI) (by omega)) gX11_plucks_X11_isMan rfl zy_X11_isMan 0 (WM_0 a c u) rfl ⟨by omega, by decide⟩ rfl (Nat.le_of_ble_eq_true rfl) (st := []) (stk2 := fun z1 => [.int (zI z1)]) rfl (fun _ => rfl) dX11_plucks_2 (fun z1 u2 h3 => ?_)
  rw [h3.1]; replace h3 := h3.2
  refine z_if_eq C 21 dX11_plucks_5 (by decide) (by omega) (fun h4 => ?_) (fun h4 => ?_)
  · skip
    refine z_ldc C (v := (-1000000)) (z := (-1000000)) (by decide) (List.mem_of_getElem? (i := 3) rfl) dX11_plucks_21 ?_
    refine z_goto C 36 dX11_plucks_23 (by decide) ?_
    exact kret (-1000000) u _ _ (⟨rfl, by first | exact Or.inl ⟨by omega, by omega, by omega, rfl⟩ | exact Or.inr ⟨by omega, rfl⟩⟩) dX11_plucks_36
  · skip
    have hst := hI.stands m (by omega) (by omega)
    refine z_aload_n C 0 dX11_plucks_8 rfl ?_
    refine z_get C hK (v := .ref (a 8)) inX11_plucks_X11 0 (WM_0 a c u) rfl 17 (by decide) (List.mem_of_getElem? (i := 1) rfl) rfl dX11_plucks_9 ?_
    refine z_iload_n C 1 dX11_plucks_12 rfl ?_
    refine z_iald C hK 0 (g := (u 8)) (i := m) 8 (WM_8 a c u) rfl (by decide) (by omega) dX11_plucks_13 ?_
    refine z_as (b := u 8 (m)) rfl ?_
    refine z_aload_n C 0 dX11_plucks_14 rfl ?_
    refine z_get C hK (v := .int (zI (u 0 20))) inX11_plucks_X11 0 (WM_0 a c u) rfl 20 (by decide) (List.mem_of_getElem? (i := 2) rfl) rfl dX11_plucks_15 ?_
    refine z_icmp_lt C 26 dX11_plucks_18 (by decide) (by omega) (fun h5 => ?_) (fun h5 => ?_)
    · skip
      refine z_aload_n C 0 dX11_plucks_26 rfl ?_
      refine z_aload_n C 0 dX11_plucks_27 rfl ?_
      refine z_get C hK (v := .ref (a 8)) inX11_plucks_X11 0 (WM_0 a c u) rfl 17 (by decide) (List.mem_of_getElem? (i := 1) rfl) rfl dX11_plucks_28 ?_
      refine z_iload_n C 1 dX11_plucks_31 rfl ?_
      refine z_iald C hK 0 (g := (u 8)) (i := m) 8 (WM_8 a c u) rfl (by decide) (by omega) dX11_plucks_32 ?_
      refine z_as (b := u 8 (m)) rfl ?_
      refine z_callV C hK hDD (c_X11_soundOf (zl x) (zG x) a c u (u 8 (m)) (hI) (by omega)) gX11_plucks_X11_soundOf rfl zy_X11_soundOf 0 (WM_0 a c u) rfl ⟨by omega, by decide⟩ rfl (Nat.le_of_ble_eq_true rfl) (st := []) (stk2 := fun z6 => [.int (zI z6)]) rfl (fun _ => rfl) dX11_plucks_33 (fun z6 u7 h8 => ?_)
      rw [h8.1]; replace h8 := h8.2
      refine z_as (b := snd (u 5 (u 8 (m))) (u 9 1) (u 8 (m))) h8 ?_
      exact kret (snd (u 5 (u 8 (m))) (u 9 1) (u 8 (m))) u _ _ (⟨rfl, by first | exact Or.inl ⟨by omega, by omega, by omega, rfl⟩ | exact Or.inr ⟨by omega, rfl⟩⟩) dX11_plucks_36
    · skip
      refine z_ldc C (v := (-1000000)) (z := (-1000000)) (by decide) (List.mem_of_getElem? (i := 3) rfl) dX11_plucks_21 ?_
      refine z_goto C 36 dX11_plucks_23 (by decide) ?_
      exact kret (-1000000) u _ _ (⟨rfl, by first | exact Or.inl ⟨by omega, by omega, by omega, rfl⟩ | exact Or.inr ⟨by omega, rfl⟩⟩) dX11_plucks_36
-- NoteBellsModel.falls
theorem inX11_falls_X11 : ∀ w ∈ wsX110, w ∈ wsX11_falls := fun w h => List.mem_cons_of_mem _ (List.mem_append_right _ (h))
set_option maxHeartbeats 8000000 in
set_option maxRecDepth 100000 in
theorem c_X11_falls (l : Launch) (D : va_G) (a : Nat → Nat) (c : Nat → ClassId) (u : zU) (m : Int) (hI : IM u) (b_m : -2147483648 ≤ m ∧ m < 2147483648) : ZM l D (zTy c) (WM a c) yX11_falls wsX11_falls 5 [.ref (a 0), .int (zI m)] u rI (fun z u' => (¬ (0 ≤ m ∧ m < u 0 12) ∧ z = -1 ∧ u' = u) ∨ (0 ≤ m ∧ m < u 0 12 ∧ u 0 20 ≤ m ∧ z = -2 ∧ u' = u) ∨ (0 ≤ m ∧ m < u 0 12 ∧ m < u 0 20 ∧ z = u 0 12 - m ∧ u' = up u 0 20 m)) := by
  refine ZM.ofI (cc := cX11_falls) (maxL := 2) [(0, .ref (a 0)), (1, .int (zI m))] rfl (by decide +kernel) rfl (Nat.le_of_ble_eq_true rfl) (WM_addr a c) ?_
  intro x C hK _ _ hDD kret
  have hlv := hI.lev
  have hro := hI.rope
  refine z_aload_n C 0 dX11_falls_0 rfl ?_
  refine z_iload_n C 1 dX11_falls_1 rfl ?_
  refine z_callV C hK hDD (c_X11_isLevel (zl x) (zG x) a c u m (hI) (by omega)) gX11_falls_X11_isLevel rfl zy_X11_isLevel 0 (WM_0 a c u) rfl ⟨by omega, by decide⟩ rfl (Nat.le_of_ble_eq_true rfl) (st := []) (stk2 := fun z1 => [.int (zI z1)]) rfl (fun _ => rfl) dX11_falls_2 (fun z1 u2 h3 => ?_)
  rw [h3.1]; replace h3 := h3.2
  refine z_if_ne C 10 dX11_falls_5 (by decide) (by omega) (fun h4 => ?_) (fun h4 => ?_)
  · skip
    refine z_aload_n C 0 dX11_falls_10 rfl ?_
    refine z_get C hK (v := .int (zI (u 0 20))) inX11_falls_X11 0 (WM_0 a c u) rfl 20 (by decide) (List.mem_of_getElem? (i := 1) rfl) rfl dX11_falls_11 ?_
    refine z_iload_n C 1 dX11_falls_14 rfl ?_
    refine z_icmp_gt C 21 dX11_falls_15 (by decide) (by omega) (fun h5 => ?_) (fun h5 => ?_)
    · skip
      refine z_aload_n C 0 dX11_falls_21 rfl ?_
      refine z_iload_n C 1 dX11_falls_22 rfl ?_
      refine z_put C hK (hDD _) inX11_falls_X11 tyX11 tyX11_ok nmX11 0 (WM_0 a c u) rfl 20 (by decide) (List.mem_of_getElem? (i := 1) rfl) rfl rfl rfl (Nat.le_of_ble_eq_true rfl) (WM_0_p20 a c u m) dX11_falls_23 ?_
      refine z_aload_n C 0 dX11_falls_26 rfl ?_
      refine z_get C hK (v := .int (zI (u 0 12))) inX11_falls_X11 0 (WM_0 a c ((up u 0 (20) (m)))) rfl 12 (by decide) (List.mem_of_getElem? (i := 2) rfl) rfl dX11_falls_27 ?_
      refine z_aload_n C 0 dX11_falls_30 rfl ?_
      refine z_get C hK (v := .int (zI m)) inX11_falls_X11 0 (WM_0 a c ((up u 0 (20) (m)))) rfl 20 (by decide) (List.mem_of_getElem? (i := 1) rfl) rfl dX11_falls_31 ?_
      refine z_isub C dX11_falls_34 ?_
      exact kret ((u 0 12) - m) ((up u 0 (20) (m))) _ _ (Or.inr (Or.inr ⟨by omega, by omega, by omega, rfl, rfl⟩)) dX11_falls_35
    · skip
      refine z_bipush C dX11_falls_18 (by decide) ?_
      exact kret (-2) u _ _ (Or.inr (Or.inl ⟨by omega, by omega, by omega, rfl, rfl⟩)) dX11_falls_20
  · skip
    refine z_iconst C dX11_falls_8 ?_
    exact kret (-1) u _ _ (Or.inl ⟨by omega, rfl, rfl⟩) dX11_falls_9
-- NoteBellsModel.mends
theorem inX11_mends_X11 : ∀ w ∈ wsX110, w ∈ wsX11_mends := fun w h => List.mem_cons_of_mem _ (List.mem_append_right _ (h))
set_option maxHeartbeats 8000000 in
set_option maxRecDepth 100000 in
theorem c_X11_mends (l : Launch) (D : va_G) (a : Nat → Nat) (c : Nat → ClassId) (u : zU)  (hI : IM u) : ZM l D (zTy c) (WM a c) yX11_mends wsX11_mends 5 [.ref (a 0)] u rI (fun z u' => (u 0 20 = 8 ∧ z = -2 ∧ u' = u) ∨ (u 0 20 ≠ 8 ∧ z = u 0 12 - u 0 20 ∧ u' = up u 0 20 8)) := by
  refine ZM.ofI (cc := cX11_mends) (maxL := 2) [(0, .ref (a 0))] rfl (by decide +kernel) rfl (Nat.le_of_ble_eq_true rfl) (WM_addr a c) ?_
  intro x C hK _ _ hDD kret
  have hlv := hI.lev
  have hro := hI.rope
  refine z_aload_n C 0 dX11_mends_0 rfl ?_
  refine z_get C hK (v := .int (zI (u 0 20))) inX11_mends_X11 0 (WM_0 a c u) rfl 20 (by decide) (List.mem_of_getElem? (i := 1) rfl) rfl dX11_mends_1 ?_
  refine z_bipush C dX11_mends_4 (by decide) ?_
  refine z_icmp_ne C 12 dX11_mends_6 (by decide) (by omega) (fun h1 => ?_) (fun h1 => ?_)
  · skip
    refine z_aload_n C 0 dX11_mends_12 rfl ?_
    refine z_get C hK (v := .int (zI (u 0 12))) inX11_mends_X11 0 (WM_0 a c u) rfl 12 (by decide) (List.mem_of_getElem? (i := 2) rfl) rfl dX11_mends_13 ?_
    refine z_aload_n C 0 dX11_mends_16 rfl ?_
    refine z_get C hK (v := .int (zI (u 0 20))) inX11_mends_X11 0 (WM_0 a c u) rfl 20 (by decide) (List.mem_of_getElem? (i := 1) rfl) rfl dX11_mends_17 ?_
    refine z_isub C dX11_mends_20 ?_
    refine z_istore_n C [(1, .int (zI ((u 0 12) - (u 0 20)))), (0, .ref (a 0))] dX11_mends_21 rfl (by decide) rfl ?_
    refine z_aload_n C 1 dX11_mends_22 rfl ?_
    refine z_bipush C dX11_mends_23 (by decide) ?_
    refine z_put C hK (hDD _) inX11_mends_X11 tyX11 tyX11_ok nmX11 0 (WM_0 a c u) rfl 20 (by decide) (List.mem_of_getElem? (i := 1) rfl) rfl rfl rfl (Nat.le_of_ble_eq_true rfl) (WM_0_p20 a c u 8) dX11_mends_25 ?_
    refine z_iload_n C 0 dX11_mends_28 rfl ?_
    exact kret ((u 0 12) - (u 0 20)) ((up u 0 (20) (8))) _ _ (Or.inr ⟨by omega, rfl, rfl⟩) dX11_mends_29
  · skip
    refine z_bipush C dX11_mends_9 (by decide) ?_
    exact kret (-2) u _ _ (Or.inl ⟨by omega, rfl, rfl⟩) dX11_mends_11
-- NoteBellsModel.forget
theorem inX11_forget_X11 : ∀ w ∈ wsX110, w ∈ wsX11_forget := fun w h => List.mem_cons_of_mem _ (List.mem_append_right _ (h))
set_option maxHeartbeats 8000000 in
set_option maxRecDepth 100000 in
theorem c_X11_forget (l : Launch) (D : va_G) (a : Nat → Nat) (c : Nat → ClassId) (u : zU)   : ZM l D (zTy c) (WM a c) yX11_forget wsX11_forget 5 [.ref (a 0)] u rI (fun z u' => u' = (up u 0 (21) (0)) ∧ z = u 0 21) := by
  refine ZM.ofI (cc := cX11_forget) (maxL := 2) [(0, .ref (a 0))] rfl (by decide +kernel) rfl (Nat.le_of_ble_eq_true rfl) (WM_addr a c) ?_
  intro x C hK _ _ hDD kret
  refine z_aload_n C 0 dX11_forget_0 rfl ?_
  refine z_get C hK (v := .int (zI (u 0 21))) inX11_forget_X11 0 (WM_0 a c u) rfl 21 (by decide) (List.mem_of_getElem? (i := 1) rfl) rfl dX11_forget_1 ?_
  refine z_istore_n C [(1, .int (zI (u 0 21))), (0, .ref (a 0))] dX11_forget_4 rfl (by decide) rfl ?_
  refine z_aload_n C 1 dX11_forget_5 rfl ?_
  refine z_iconst C dX11_forget_6 ?_
  refine z_put C hK (hDD _) inX11_forget_X11 tyX11 tyX11_ok nmX11 0 (WM_0 a c u) rfl 21 (by decide) (List.mem_of_getElem? (i := 1) rfl) rfl rfl rfl (Nat.le_of_ble_eq_true rfl) (WM_0_p21 a c u 0) dX11_forget_7 ?_
  refine z_iload_n C 0 dX11_forget_10 rfl ?_
  exact kret (u 0 21) ((up u 0 (21) (0))) _ _ (⟨rfl, rfl⟩) dX11_forget_11
-- NoteBellsModel.hush
theorem inX11_hush_X11 : ∀ w ∈ wsX110, w ∈ wsX11_hush := fun w h => List.mem_cons_of_mem _ (List.mem_append_right _ (h))
set_option maxHeartbeats 8000000 in
set_option maxRecDepth 100000 in
theorem c_X11_hush (l : Launch) (D : va_G) (a : Nat → Nat) (c : Nat → ClassId) (u : zU)   : ZM l D (zTy c) (WM a c) yX11_hush wsX11_hush 5 [.ref (a 0)] u rI (fun z u' => u' = (up u 0 (31) (0)) ∧ z = u 0 31) := by
  refine ZM.ofI (cc := cX11_hush) (maxL := 2) [(0, .ref (a 0))] rfl (by decide +kernel) rfl (Nat.le_of_ble_eq_true rfl) (WM_addr a c) ?_
  intro x C hK _ _ hDD kret
  refine z_aload_n C 0 dX11_hush_0 rfl ?_
  refine z_get C hK (v := .int (zI (u 0 31))) inX11_hush_X11 0 (WM_0 a c u) rfl 31 (by decide) (List.mem_of_getElem? (i := 1) rfl) rfl dX11_hush_1 ?_
  refine z_istore_n C [(1, .int (zI (u 0 31))), (0, .ref (a 0))] dX11_hush_4 rfl (by decide) rfl ?_
  refine z_aload_n C 1 dX11_hush_5 rfl ?_
  refine z_iconst C dX11_hush_6 ?_
  refine z_put C hK (hDD _) inX11_hush_X11 tyX11 tyX11_ok nmX11 0 (WM_0 a c u) rfl 31 (by decide) (List.mem_of_getElem? (i := 1) rfl) rfl rfl rfl (Nat.le_of_ble_eq_true rfl) (WM_0_p31 a c u 0) dX11_hush_7 ?_
  refine z_iload_n C 0 dX11_hush_10 rfl ?_
  exact kret (u 0 31) ((up u 0 (31) (0))) _ _ (⟨rfl, rfl⟩) dX11_hush_11
-- NoteBellsModel.clear
theorem inX11_clear_X11 : ∀ w ∈ wsX110, w ∈ wsX11_clear := fun w h => List.mem_cons_of_mem _ (List.mem_append_right _ (h))
set_option maxHeartbeats 8000000 in
set_option maxRecDepth 100000 in
theorem c_X11_clear (l : Launch) (D : va_G) (a : Nat → Nat) (c : Nat → ClassId) (u : zU)   : ZM l D (zTy c) (WM a c) yX11_clear wsX11_clear 3 [.ref (a 0)] u rI (fun z u' => u' = (up u 0 (1) (0)) ∧ z = u 0 1) := by
  refine ZM.ofI (cc := cX11_clear) (maxL := 2) [(0, .ref (a 0))] rfl (by decide +kernel) rfl (Nat.le_of_ble_eq_true rfl) (WM_addr a c) ?_
  intro x C hK _ _ hDD kret
  refine z_aload_n C 0 dX11_clear_0 rfl ?_
  refine z_get C hK (v := .int (zI (u 0 1))) inX11_clear_X11 0 (WM_0 a c u) rfl 1 (by decide) (List.mem_of_getElem? (i := 1) rfl) rfl dX11_clear_1 ?_
  refine z_istore_n C [(1, .int (zI (u 0 1))), (0, .ref (a 0))] dX11_clear_4 rfl (by decide) rfl ?_
  refine z_aload_n C 1 dX11_clear_5 rfl ?_
  refine z_iconst C dX11_clear_6 ?_
  refine z_put C hK (hDD _) inX11_clear_X11 tyX11 tyX11_ok nmX11 0 (WM_0 a c u) rfl 1 (by decide) (List.mem_of_getElem? (i := 1) rfl) rfl rfl rfl (Nat.le_of_ble_eq_true rfl) (WM_0_p1 a c u 0) dX11_clear_7 ?_
  refine z_iload_n C 0 dX11_clear_10 rfl ?_
  exact kret (u 0 1) ((up u 0 (1) (0))) _ _ (⟨rfl, rfl⟩) dX11_clear_11
-- NoteBellsModel.trace
theorem inX11_trace_X11 : ∀ w ∈ wsX110, w ∈ wsX11_trace := fun w h => List.mem_cons_of_mem _ (List.mem_append_right _ (h))
set_option maxHeartbeats 8000000 in
set_option maxRecDepth 100000 in
theorem c_X11_trace (l : Launch) (D : va_G) (a : Nat → Nat) (c : Nat → ClassId) (u : zU)   : ZM l D (zTy c) (WM a c) yX11_trace wsX11_trace 3 [.ref (a 0)] u rL (fun z u' => u' = u ∧ z = u 0 34) := by
  refine ZM.ofL (cc := cX11_trace) (maxL := 1) [(0, .ref (a 0))] rfl (by decide +kernel) rfl (Nat.le_of_ble_eq_true rfl) (WM_addr a c) ?_
  intro x C hK _ _ hDD kret
  refine z_aload_n C 0 dX11_trace_0 rfl ?_
  refine z_get C hK (v := .long (zL (u 0 34))) inX11_trace_X11 0 (WM_0 a c u) rfl 34 (by decide) (List.mem_of_getElem? (i := 1) rfl) rfl dX11_trace_1 ?_
  exact kret (u 0 34) u _ _ (⟨rfl, rfl⟩) dX11_trace_4
-- NoteBellsModel.sing
theorem inX11_sing_X11 : ∀ w ∈ wsX110, w ∈ wsX11_sing := fun w h => List.mem_cons_of_mem _ (List.mem_append_right _ (h))
set_option maxHeartbeats 8000000 in
set_option maxRecDepth 100000 in
theorem c_X11_sing (l : Launch) (D : va_G) (a : Nat → Nat) (c : Nat → ClassId) (u : zU) (s : Int) (hI : IM u) (b_s : -2147483648 ≤ s ∧ s < 2147483648) : ZM l D (zTy c) (WM a c) yX11_sing wsX11_sing 5 [.ref (a 0), .int (zI s)] u rI (fun z u' => (¬ (-99 ≤ s ∧ s ≤ 99) ∧ z = -1 ∧ u' = u) ∨ (-99 ≤ s ∧ s ≤ 99 ∧ 8 ≤ u 0 31 ∧ z = -3 ∧ u' = u) ∨ (-99 ≤ s ∧ s ≤ 99 ∧ u 0 31 < 8 ∧ z = u 0 31 + 1 ∧ u' = up (up u 18 (u 0 31) s) 0 31 (u 0 31 + 1))) := by
  refine ZM.ofI (cc := cX11_sing) (maxL := 2) [(0, .ref (a 0)), (1, .int (zI s))] rfl (by decide +kernel) rfl (Nat.le_of_ble_eq_true rfl) (WM_addr a c) ?_
  intro x C hK _ _ hDD kret
  have hsu := hI.sung
  refine z_iload_n C 1 dX11_sing_0 rfl ?_
  refine z_callS C hK hDD (c_X11_isNote (zl x) (zG x) ((WM a c)) (WM_addr a c) u s (by omega)) gX11_sing_X11_isNote rfl rfl zy_X11_isNote ⟨by omega, by decide⟩ rfl (Nat.le_of_ble_eq_true rfl) (st := []) (stk2 := fun z1 => [.int (zI z1)]) rfl (fun _ => rfl) dX11_sing_1 (fun z1 u2 h3 => ?_)
  rw [h3.1]; replace h3 := h3.2
  refine z_if_ne C 9 dX11_sing_4 (by decide) (by omega) (fun h4 => ?_) (fun h4 => ?_)
  · skip
    refine z_aload_n C 0 dX11_sing_9 rfl ?_
    refine z_get C hK (v := .int (zI (u 0 31))) inX11_sing_X11 0 (WM_0 a c u) rfl 31 (by decide) (List.mem_of_getElem? (i := 1) rfl) rfl dX11_sing_10 ?_
    refine z_bipush C dX11_sing_13 (by decide) ?_
    refine z_icmp_ne C 21 dX11_sing_15 (by decide) (by omega) (fun h5 => ?_) (fun h5 => ?_)
    · skip
      refine z_aload_n C 0 dX11_sing_21 rfl ?_
      refine z_get C hK (v := .ref (a 18)) inX11_sing_X11 0 (WM_0 a c u) rfl 32 (by decide) (List.mem_of_getElem? (i := 2) rfl) rfl dX11_sing_22 ?_
      refine z_aload_n C 0 dX11_sing_25 rfl ?_
      refine z_get C hK (v := .int (zI (u 0 31))) inX11_sing_X11 0 (WM_0 a c u) rfl 31 (by decide) (List.mem_of_getElem? (i := 1) rfl) rfl dX11_sing_26 ?_
      refine z_iload_n C 1 dX11_sing_29 rfl ?_
      refine z_iast C hK (hDD _) 0 (g := u 18) 18 (WM_18 a c u) rfl (by decide) (by omega) (WM_18_set a c u (u 0 31) s) dX11_sing_30 ?_
      refine z_aload_n C 0 dX11_sing_31 rfl ?_
      refine z_dup C dX11_sing_32 rfl ?_
      refine z_get C hK (v := .int (zI (u 0 31))) inX11_sing_X11 0 (WM_0 a c ((up u 18 (u 0 31) (s)))) rfl 31 (by decide) (List.mem_of_getElem? (i := 1) rfl) rfl dX11_sing_33 ?_
      refine z_iconst C dX11_sing_36 ?_
      refine z_iadd C dX11_sing_37 ?_
      refine z_put C hK (hDD _) inX11_sing_X11 tyX11 tyX11_ok nmX11 0 (WM_0 a c ((up u 18 (u 0 31) (s)))) rfl 31 (by decide) (List.mem_of_getElem? (i := 1) rfl) rfl rfl rfl (Nat.le_of_ble_eq_true rfl) (WM_0_p31 a c ((up u 18 (u 0 31) (s))) ((u 0 31) + 1)) dX11_sing_38 ?_
      refine z_aload_n C 0 dX11_sing_41 rfl ?_
      refine z_get C hK (v := .int (zI ((u 0 31) + 1))) inX11_sing_X11 0 (WM_0 a c ((up (up u 18 (u 0 31) (s)) 0 (31) ((u 0 31) + 1)))) rfl 31 (by decide) (List.mem_of_getElem? (i := 1) rfl) rfl dX11_sing_42 ?_
      exact kret ((u 0 31) + 1) ((up (up u 18 (u 0 31) (s)) 0 (31) ((u 0 31) + 1))) _ _ (Or.inr (Or.inr ⟨by omega, by omega, by omega, rfl, rfl⟩)) dX11_sing_45
    · skip
      refine z_bipush C dX11_sing_18 (by decide) ?_
      exact kret (-3) u _ _ (Or.inr (Or.inl ⟨by omega, by omega, by omega, rfl, rfl⟩)) dX11_sing_20
  · skip
    refine z_iconst C dX11_sing_7 ?_
    exact kret (-1) u _ _ (Or.inl ⟨by omega, rfl, rfl⟩) dX11_sing_8
-- NoteBellsModel.heard
theorem inX11_heard_X11 : ∀ w ∈ wsX110, w ∈ wsX11_heard := fun w h => List.mem_cons_of_mem _ (List.mem_append_right _ (h))
set_option maxHeartbeats 8000000 in
set_option maxRecDepth 100000 in
theorem c_X11_heard (l : Launch) (D : va_G) (a : Nat → Nat) (c : Nat → ClassId) (u : zU) (t s : Int) (hI : IM u) (b_t : -2147483648 ≤ t ∧ t < 2147483648) (b_s : -2147483648 ≤ s ∧ s < 2147483648) : ZM l D (zTy c) (WM a c) yX11_heard wsX11_heard 5 [.ref (a 0), .int (zI t), .int (zI s)] u rI (fun z u' => (¬ (0 ≤ t ∧ t ≤ 99 ∧ -99 ≤ s ∧ s ≤ 99 ∧ (0 < u 0 21 → u 10 (u 0 21 - 1) ≤ t)) ∧ z = -1 ∧ u' = u) ∨ ((0 ≤ t ∧ t ≤ 99 ∧ -99 ≤ s ∧ s ≤ 99 ∧ (0 < u 0 21 → u 10 (u 0 21 - 1) ≤ t)) ∧ 6 ≤ u 0 21 ∧ z = -3 ∧ u' = u) ∨ ((0 ≤ t ∧ t ≤ 99 ∧ -99 ≤ s ∧ s ≤ 99 ∧ (0 < u 0 21 → u 10 (u 0 21 - 1) ≤ t)) ∧ u 0 21 < 6 ∧ z = u 0 21 + 1 ∧ u' = up (up (up u 10 (u 0 21) t) 11 (u 0 21) s) 0 21 (u 0 21 + 1))) := by
  refine ZM.ofI (cc := cX11_heard) (maxL := 3) [(0, .ref (a 0)), (1, .int (zI t)), (2, .int (zI s))] rfl (by decide +kernel) rfl (Nat.le_of_ble_eq_true rfl) (WM_addr a c) ?_
  intro x C hK _ _ hDD kret
  have hno := hI.notes
  refine z_iload_n C 1 dX11_heard_0 rfl ?_
  refine z_i2l C dX11_heard_1 (by omega) ?_
  refine z_lconst C (z := 0) dX11_heard_2 (by decide) ?_
  refine z_ldc2 C (v := 99) (z := 99) (by decide) (List.mem_of_getElem? (i := 1) rfl) dX11_heard_3 ?_
  refine z_callS C hK hDD (c_X11_in (zl x) (zG x) ((WM a c)) (WM_addr a c) u t 0 99 (by omega) (by omega) (by omega)) gX11_heard_X11_in rfl rfl zy_X11_in ⟨by omega, by decide⟩ rfl (Nat.le_of_ble_eq_true rfl) (st := []) (stk2 := fun z1 => [.int (zI z1)]) rfl (fun _ => rfl) dX11_heard_6 (fun z1 u2 h3 => ?_)
  rw [h3.1]; replace h3 := h3.2
  refine z_if_eq C 41 dX11_heard_9 (by decide) (by omega) (fun h4 => ?_) (fun h4 => ?_)
  · skip
    refine z_iconst C dX11_heard_41 ?_
    exact kret (-1) u _ _ (Or.inl ⟨by omega, rfl, rfl⟩) dX11_heard_42
  · skip
    refine z_iload_n C 2 dX11_heard_12 rfl ?_
    refine z_callS C hK hDD (c_X11_isNote (zl x) (zG x) ((WM a c)) (WM_addr a c) u s (by omega)) gX11_heard_X11_isNote rfl rfl zy_X11_isNote ⟨by omega, by decide⟩ rfl (Nat.le_of_ble_eq_true rfl) (st := []) (stk2 := fun z5 => [.int (zI z5)]) rfl (fun _ => rfl) dX11_heard_13 (fun z5 u6 h7 => ?_)
    rw [h7.1]; replace h7 := h7.2
    refine z_if_eq C 41 dX11_heard_16 (by decide) (by omega) (fun h8 => ?_) (fun h8 => ?_)
    · skip
      refine z_iconst C dX11_heard_41 ?_
      exact kret (-1) u _ _ (Or.inl ⟨by omega, rfl, rfl⟩) dX11_heard_42
    · skip
      refine z_aload_n C 0 dX11_heard_19 rfl ?_
      refine z_get C hK (v := .int (zI (u 0 21))) inX11_heard_X11 0 (WM_0 a c u) rfl 21 (by decide) (List.mem_of_getElem? (i := 2) rfl) rfl dX11_heard_20 ?_
      refine z_if_le C 43 dX11_heard_23 (by decide) (by omega) (fun h9 => ?_) (fun h9 => ?_)
      · skip
        refine z_aload_n C 0 dX11_heard_43 rfl ?_
        refine z_get C hK (v := .int (zI (u 0 21))) inX11_heard_X11 0 (WM_0 a c u) rfl 21 (by decide) (List.mem_of_getElem? (i := 2) rfl) rfl dX11_heard_44 ?_
        refine z_bipush C dX11_heard_47 (by decide) ?_
        refine z_icmp_ne C 55 dX11_heard_49 (by decide) (by omega) (fun h10 => ?_) (fun h10 => ?_)
        · skip
          refine z_aload_n C 0 dX11_heard_55 rfl ?_
          refine z_get C hK (v := .ref (a 10)) inX11_heard_X11 0 (WM_0 a c u) rfl 22 (by decide) (List.mem_of_getElem? (i := 3) rfl) rfl dX11_heard_56 ?_
          refine z_aload_n C 0 dX11_heard_59 rfl ?_
          refine z_get C hK (v := .int (zI (u 0 21))) inX11_heard_X11 0 (WM_0 a c u) rfl 21 (by decide) (List.mem_of_getElem? (i := 2) rfl) rfl dX11_heard_60 ?_
          refine z_iload_n C 1 dX11_heard_63 rfl ?_
          refine z_iast C hK (hDD _) 0 (g := u 10) 10 (WM_10 a c u) rfl (by decide) (by omega) (WM_10_set a c u (u 0 21) t) dX11_heard_64 ?_
          refine z_aload_n C 0 dX11_heard_65 rfl ?_
          refine z_get C hK (v := .ref (a 11)) inX11_heard_X11 0 (WM_0 a c ((up u 10 (u 0 21) (t)))) rfl 23 (by decide) (List.mem_of_getElem? (i := 4) rfl) rfl dX11_heard_66 ?_
          refine z_aload_n C 0 dX11_heard_69 rfl ?_
          refine z_get C hK (v := .int (zI (u 0 21))) inX11_heard_X11 0 (WM_0 a c ((up u 10 (u 0 21) (t)))) rfl 21 (by decide) (List.mem_of_getElem? (i := 2) rfl) rfl dX11_heard_70 ?_
          refine z_iload_n C 2 dX11_heard_73 rfl ?_
          refine z_iast C hK (hDD _) 0 (g := (up u 10 (u 0 21) (t)) 11) 11 (WM_11 a c ((up u 10 (u 0 21) (t)))) rfl (by decide) (by omega) (WM_11_set a c ((up u 10 (u 0 21) (t))) (u 0 21) s) dX11_heard_74 ?_
          refine z_aload_n C 0 dX11_heard_75 rfl ?_
          refine z_dup C dX11_heard_76 rfl ?_
          refine z_get C hK (v := .int (zI (u 0 21))) inX11_heard_X11 0 (WM_0 a c ((up (up u 10 (u 0 21) (t)) 11 (u 0 21) (s)))) rfl 21 (by decide) (List.mem_of_getElem? (i := 2) rfl) rfl dX11_heard_77 ?_
          refine z_iconst C dX11_heard_80 ?_
          refine z_iadd C dX11_heard_81 ?_
          refine z_put C hK (hDD _) inX11_heard_X11 tyX11 tyX11_ok nmX11 0 (WM_0 a c ((up (up u 10 (u 0 21) (t)) 11 (u 0 21) (s)))) rfl 21 (by decide) (List.mem_of_getElem? (i := 2) rfl) rfl rfl rfl (Nat.le_of_ble_eq_true rfl) (WM_0_p21 a c ((up (up u 10 (u 0 21) (t)) 11 (u 0 21) (s))) ((u 0 21) + 1)) dX11_heard_82 ?_
          refine z_aload_n C 0 dX11_heard_85 rfl ?_
          refine z_get C hK (v := .int (zI ((u 0 21) + 1))) inX11_heard_X11 0 (WM_0 a c ((up (up (up u 10 (u 0 21) (t)) 11 (u 0 21) (s)) 0 (21) ((u 0 21) + 1)))) rfl 21 (by decide) (List.mem_of_getElem? (i := 2) rfl) rfl dX11_heard_86 ?_
          exact kret ((u 0 21) + 1) ((up (up (up u 10 (u 0 21) (t)) 11 (u 0 21) (s)) 0 (21) ((u 0 21) + 1))) _ _ (Or.inr (Or.inr ⟨by omega, by omega, rfl, rfl⟩)) dX11_heard_89
        · skip
          refine z_bipush C dX11_heard_52 (by decide) ?_
          exact kret (-3) u _ _ (Or.inr (Or.inl ⟨by omega, by omega, rfl, rfl⟩)) dX11_heard_54
      · skip
        have hmi := hI.minute (u 0 21 - 1) (by omega) (by omega)
        refine z_iload_n C 1 dX11_heard_26 rfl ?_
        refine z_aload_n C 0 dX11_heard_27 rfl ?_
        refine z_get C hK (v := .ref (a 10)) inX11_heard_X11 0 (WM_0 a c u) rfl 22 (by decide) (List.mem_of_getElem? (i := 3) rfl) rfl dX11_heard_28 ?_
        refine z_aload_n C 0 dX11_heard_31 rfl ?_
        refine z_get C hK (v := .int (zI (u 0 21))) inX11_heard_X11 0 (WM_0 a c u) rfl 21 (by decide) (List.mem_of_getElem? (i := 2) rfl) rfl dX11_heard_32 ?_
        refine z_iconst C dX11_heard_35 ?_
        refine z_isub C dX11_heard_36 ?_
        refine z_iald C hK 0 (g := (u 10)) (i := ((u 0 21) - 1)) 10 (WM_10 a c u) rfl (by decide) (by omega) dX11_heard_37 ?_
        refine z_as (b := u 10 ((u 0 21) - 1)) rfl ?_
        refine z_icmp_ge C 43 dX11_heard_38 (by decide) (by omega) (fun h11 => ?_) (fun h11 => ?_)
        · skip
          refine z_aload_n C 0 dX11_heard_43 rfl ?_
          refine z_get C hK (v := .int (zI (u 0 21))) inX11_heard_X11 0 (WM_0 a c u) rfl 21 (by decide) (List.mem_of_getElem? (i := 2) rfl) rfl dX11_heard_44 ?_
          refine z_bipush C dX11_heard_47 (by decide) ?_
          refine z_icmp_ne C 55 dX11_heard_49 (by decide) (by omega) (fun h12 => ?_) (fun h12 => ?_)
          · skip
            refine z_aload_n C 0 dX11_heard_55 rfl ?_
            refine z_get C hK (v := .ref (a 10)) inX11_heard_X11 0 (WM_0 a c u) rfl 22 (by decide) (List.mem_of_getElem? (i := 3) rfl) rfl dX11_heard_56 ?_
            refine z_aload_n C 0 dX11_heard_59 rfl ?_
            refine z_get C hK (v := .int (zI (u 0 21))) inX11_heard_X11 0 (WM_0 a c u) rfl 21 (by decide) (List.mem_of_getElem? (i := 2) rfl) rfl dX11_heard_60 ?_
            refine z_iload_n C 1 dX11_heard_63 rfl ?_
            refine z_iast C hK (hDD _) 0 (g := u 10) 10 (WM_10 a c u) rfl (by decide) (by omega) (WM_10_set a c u (u 0 21) t) dX11_heard_64 ?_
            refine z_aload_n C 0 dX11_heard_65 rfl ?_
            refine z_get C hK (v := .ref (a 11)) inX11_heard_X11 0 (WM_0 a c ((up u 10 (u 0 21) (t)))) rfl 23 (by decide) (List.mem_of_getElem? (i := 4) rfl) rfl dX11_heard_66 ?_
            refine z_aload_n C 0 dX11_heard_69 rfl ?_
            refine z_get C hK (v := .int (zI (u 0 21))) inX11_heard_X11 0 (WM_0 a c ((up u 10 (u 0 21) (t)))) rfl 21 (by decide) (List.mem_of_getElem? (i := 2) rfl) rfl dX11_heard_70 ?_
            refine z_iload_n C 2 dX11_heard_73 rfl ?_
            refine z_iast C hK (hDD _) 0 (g := (up u 10 (u 0 21) (t)) 11) 11 (WM_11 a c ((up u 10 (u 0 21) (t)))) rfl (by decide) (by omega) (WM_11_set a c ((up u 10 (u 0 21) (t))) (u 0 21) s) dX11_heard_74 ?_
            refine z_aload_n C 0 dX11_heard_75 rfl ?_
            refine z_dup C dX11_heard_76 rfl ?_
            refine z_get C hK (v := .int (zI (u 0 21))) inX11_heard_X11 0 (WM_0 a c ((up (up u 10 (u 0 21) (t)) 11 (u 0 21) (s)))) rfl 21 (by decide) (List.mem_of_getElem? (i := 2) rfl) rfl dX11_heard_77 ?_
            refine z_iconst C dX11_heard_80 ?_
            refine z_iadd C dX11_heard_81 ?_
            refine z_put C hK (hDD _) inX11_heard_X11 tyX11 tyX11_ok nmX11 0 (WM_0 a c ((up (up u 10 (u 0 21) (t)) 11 (u 0 21) (s)))) rfl 21 (by decide) (List.mem_of_getElem? (i := 2) rfl) rfl rfl rfl (Nat.le_of_ble_eq_true rfl) (WM_0_p21 a c ((up (up u 10 (u 0 21) (t)) 11 (u 0 21) (s))) ((u 0 21) + 1)) dX11_heard_82 ?_
            refine z_aload_n C 0 dX11_heard_85 rfl ?_
            refine z_get C hK (v := .int (zI ((u 0 21) + 1))) inX11_heard_X11 0 (WM_0 a c ((up (up (up u 10 (u 0 21) (t)) 11 (u 0 21) (s)) 0 (21) ((u 0 21) + 1)))) rfl 21 (by decide) (List.mem_of_getElem? (i := 2) rfl) rfl dX11_heard_86 ?_
            exact kret ((u 0 21) + 1) ((up (up (up u 10 (u 0 21) (t)) 11 (u 0 21) (s)) 0 (21) ((u 0 21) + 1))) _ _ (Or.inr (Or.inr ⟨by omega, by omega, rfl, rfl⟩)) dX11_heard_89
          · skip
            refine z_bipush C dX11_heard_52 (by decide) ?_
            exact kret (-3) u _ _ (Or.inr (Or.inl ⟨by omega, by omega, rfl, rfl⟩)) dX11_heard_54
        · skip
          refine z_iconst C dX11_heard_41 ?_
          exact kret (-1) u _ _ (Or.inl ⟨by omega, rfl, rfl⟩) dX11_heard_42
-- NoteBellsModel.year
theorem inX11_year_X11 : ∀ w ∈ wsX110, w ∈ wsX11_year := fun w h => List.mem_cons_of_mem _ (List.mem_append_right _ (h))
set_option maxHeartbeats 8000000 in
set_option maxRecDepth 100000 in
theorem c_X11_year (l : Launch) (D : va_G) (a : Nat → Nat) (c : Nat → ClassId) (u : zU)  (hI : IM u) : ZM l D (zTy c) (WM a c) yX11_year wsX11_year 5 [.ref (a 0)] u rI (fun z u' => (999 ≤ u 0 19 ∧ z = -2 ∧ u' = u) ∨ (u 0 19 < 999 ∧ z = u 0 19 + 1 ∧ u' = up (us u 5 (fun j => if 0 ≤ j ∧ j < u 0 12 then wrn (u 5 j) (u 6 j) 1 else u 5 j)) 0 19 (u 0 19 + 1))) := by
  refine ZM.ofI (cc := cX11_year) (maxL := 2) [(0, .ref (a 0))] rfl (by decide +kernel) rfl (Nat.le_of_ble_eq_true rfl) (WM_addr a c) ?_
  intro x C hK _ _ hDD kret
  have hlv := hI.lev
  have hy := hI.year
  refine z_aload_n C 0 dX11_year_0 rfl ?_
  refine z_get C hK (v := .int (zI (u 0 19))) inX11_year_X11 0 (WM_0 a c u) rfl 19 (by decide) (List.mem_of_getElem? (i := 1) rfl) rfl dX11_year_1 ?_
  refine z_sipush C dX11_year_4 (by decide) ?_
  refine z_icmp_ne C 13 dX11_year_7 (by decide) (by omega) (fun h1 => ?_) (fun h1 => ?_)
  · skip
    refine z_iconst C dX11_year_13 ?_
    refine z_istore_n C [(1, .int (zI 0)), (0, .ref (a 0))] dX11_year_14 rfl (by decide) rfl ?_
    have L15_2 : ∀ (fu : Nat) (i : Int) (w : Int → Int), (0 ≤ i ∧ i ≤ u 0 12) → (∀ j : Int, w j = if 0 ≤ j ∧ j < i then wrn (u 5 j) (u 6 j) 1 else u 5 j) → u 0 12 - i < (fu : Int) → Z x 0 0 (WM a c (us u 5 (w))) [(0, .ref (a 0)), (1, .int (zI i))] 15 [] := by
      intro fu
      induction fu with
      | zero => intro i w hi hw hmeas; exfalso; omega
      | succ fu ih15 =>
        intro i w hi hw hmeas
        refine z_iload_n C 1 dX11_year_15 rfl ?_
        refine z_aload_n C 0 dX11_year_16 rfl ?_
        refine z_get C hK (v := .int (zI (u 0 12))) inX11_year_X11 0 (WM_0 a c ((us u 5 (w)))) rfl 12 (by decide) (List.mem_of_getElem? (i := 2) rfl) rfl dX11_year_17 ?_
        refine z_icmp_ge C 67 dX11_year_20 (by decide) (by omega) (fun h3 => ?_) (fun h3 => ?_)
        · skip
          refine z_aload_n C 0 dX11_year_67 rfl ?_
          refine z_dup C dX11_year_68 rfl ?_
          refine z_get C hK (v := .int (zI (u 0 19))) inX11_year_X11 0 (WM_0 a c ((us u 5 (w)))) rfl 19 (by decide) (List.mem_of_getElem? (i := 1) rfl) rfl dX11_year_69 ?_
          refine z_iconst C dX11_year_72 ?_
          refine z_iadd C dX11_year_73 ?_
          refine z_put C hK (hDD _) inX11_year_X11 tyX11 tyX11_ok nmX11 0 (WM_0 a c ((us u 5 (w)))) rfl 19 (by decide) (List.mem_of_getElem? (i := 1) rfl) rfl rfl rfl (Nat.le_of_ble_eq_true rfl) (WM_0_p19 a c ((us u 5 (w))) ((u 0 19) + 1)) dX11_year_74 ?_
          refine z_aload_n C 0 dX11_year_77 rfl ?_
          refine z_get C hK (v := .int (zI ((u 0 19) + 1))) inX11_year_X11 0 (WM_0 a c ((up (us u 5 (w)) 0 (19) ((u 0 19) + 1)))) rfl 19 (by decide) (List.mem_of_getElem? (i := 1) rfl) rfl dX11_year_78 ?_
          exact kret ((u 0 19) + 1) (up (us u 5 w) 0 19 (u 0 19 + 1)) _ _ (Or.inr ⟨by omega, rfl, by rw [show w = _ from funext hw, show i = u 0 12 by omega]⟩) dX11_year_81
        · skip
          have hp := hI.pitch i hi.1 (by omega)
          have hwr := hI.wear i hi.1 (by omega)
          have hwi : w i = u 5 i := by rw [hw, if_neg (by omega)]
          refine z_aload_n C 0 dX11_year_23 rfl ?_
          refine z_get C hK (v := .ref (a 5)) inX11_year_X11 0 (WM_0 a c ((us u 5 (w)))) rfl 14 (by decide) (List.mem_of_getElem? (i := 3) rfl) rfl dX11_year_24 ?_
          refine z_iload_n C 1 dX11_year_27 rfl ?_
          refine z_aload_n C 0 dX11_year_28 rfl ?_
          refine z_get C hK (v := .ref (a 5)) inX11_year_X11 0 (WM_0 a c ((us u 5 (w)))) rfl 14 (by decide) (List.mem_of_getElem? (i := 3) rfl) rfl dX11_year_29 ?_
          refine z_iload_n C 1 dX11_year_32 rfl ?_
          refine z_iald C hK 0 (g := w) (i := i) 5 (WM_5 a c ((us u 5 (w)))) rfl (by decide) (by omega) dX11_year_33 ?_
          refine z_as (b := w (i)) rfl ?_
          refine z_aload_n C 0 dX11_year_34 rfl ?_
          refine z_get C hK (v := .ref (a 6)) inX11_year_X11 0 (WM_0 a c ((us u 5 (w)))) rfl 15 (by decide) (List.mem_of_getElem? (i := 4) rfl) rfl dX11_year_35 ?_
          refine z_iload_n C 1 dX11_year_38 rfl ?_
          refine z_iald C hK 0 (g := (u 6)) (i := i) 6 (WM_6 a c ((us u 5 (w)))) rfl (by decide) (by omega) dX11_year_39 ?_
          refine z_as (b := u 6 (i)) rfl ?_
          refine z_icmp_le C 59 dX11_year_40 (by decide) (by omega) (fun h4 => ?_) (fun h4 => ?_)
          · skip
            refine z_iconst C dX11_year_59 ?_
            refine z_as (b := wrn (w i) (u 6 i) 1) (by unfold wrn; rw [Int.mul_one]; first | rw [if_pos (by omega)] | rw [if_neg (by omega)]) ?_
            refine z_iast C hK (hDD _) 0 (g := (us u 5 (w)) 5) 5 (WM_5 a c ((us u 5 (w)))) rfl (by decide) (by omega) (WM_5_set a c ((us u 5 (w))) i (wrn (w i) (u 6 i) 1)) dX11_year_60 ?_
            refine z_iinc C 1 [(1, .int (zI (i + 1))), (0, .ref (a 0))] dX11_year_61 rfl (by decide) rfl ?_
            refine z_goto C 15 dX11_year_64 (by decide) ?_
            refine z_lv [(0, .ref (a 0)), (1, .int (zI (i + 1)))] [1, 0] rfl ?_
            exact ih15 (i + 1) (fun j => if j = i then wrn (w i) (u 6 i) 1 else w j) (by omega) (year_step hi.1 hw) (by omega)
          · skip
            refine z_aload_n C 0 dX11_year_43 rfl ?_
            refine z_get C hK (v := .ref (a 5)) inX11_year_X11 0 (WM_0 a c ((us u 5 (w)))) rfl 14 (by decide) (List.mem_of_getElem? (i := 3) rfl) rfl dX11_year_44 ?_
            refine z_iload_n C 1 dX11_year_47 rfl ?_
            refine z_iald C hK 0 (g := w) (i := i) 5 (WM_5 a c ((us u 5 (w)))) rfl (by decide) (by omega) dX11_year_48 ?_
            refine z_as (b := w (i)) rfl ?_
            refine z_aload_n C 0 dX11_year_49 rfl ?_
            refine z_get C hK (v := .ref (a 6)) inX11_year_X11 0 (WM_0 a c ((us u 5 (w)))) rfl 15 (by decide) (List.mem_of_getElem? (i := 4) rfl) rfl dX11_year_50 ?_
            refine z_iload_n C 1 dX11_year_53 rfl ?_
            refine z_iald C hK 0 (g := (u 6)) (i := i) 6 (WM_6 a c ((us u 5 (w)))) rfl (by decide) (by omega) dX11_year_54 ?_
            refine z_as (b := u 6 (i)) rfl ?_
            refine z_isub C dX11_year_55 ?_
            refine z_goto C 60 dX11_year_56 (by decide) ?_
            refine z_as (b := wrn (w i) (u 6 i) 1) (by unfold wrn; rw [Int.mul_one]; first | rw [if_pos (by omega)] | rw [if_neg (by omega)]) ?_
            refine z_iast C hK (hDD _) 0 (g := (us u 5 (w)) 5) 5 (WM_5 a c ((us u 5 (w)))) rfl (by decide) (by omega) (WM_5_set a c ((us u 5 (w))) i (wrn (w i) (u 6 i) 1)) dX11_year_60 ?_
            refine z_iinc C 1 [(1, .int (zI (i + 1))), (0, .ref (a 0))] dX11_year_61 rfl (by decide) rfl ?_
            refine z_goto C 15 dX11_year_64 (by decide) ?_
            refine z_lv [(0, .ref (a 0)), (1, .int (zI (i + 1)))] [1, 0] rfl ?_
            exact ih15 (i + 1) (fun j => if j = i then wrn (w i) (u 6 i) 1 else w j) (by omega) (year_step hi.1 hw) (by omega)
    refine z_lv [(0, .ref (a 0)), (1, .int (zI 0))] [1, 0] rfl ?_
    exact L15_2 (((u 0 12 - 0 : Int)).toNat + 1) 0 (u 5) (by omega) (fun j => by rw [if_neg (by omega)]) (by omega)
  · skip
    refine z_bipush C dX11_year_10 (by decide) ?_
    exact kret (-2) u _ _ (Or.inl ⟨by omega, rfl, rfl⟩) dX11_year_12
-- NoteBellsModel.count
theorem inX11_count_X11 : ∀ w ∈ wsX110, w ∈ wsX11_count := fun w h => List.mem_cons_of_mem _ (List.mem_append_right _ (h))
set_option maxHeartbeats 8000000 in
set_option maxRecDepth 100000 in
theorem c_X11_count (l : Launch) (D : va_G) (a : Nat → Nat) (c : Nat → ClassId) (u : zU) (k : Int) (b_k : -2147483648 ≤ k ∧ k < 2147483648) : ZM l D (zTy c) (WM a c) yX11_count wsX11_count 3 [.ref (a 0), .int (zI k)] u rI (fun z u' => u' = u ∧ ((k = 0 ∧ z = u 0 12) ∨ (k = 1 ∧ z = u 0 13) ∨ (k = 2 ∧ z = u 9 0) ∨ (k = 3 ∧ z = u 9 1) ∨ (k = 4 ∧ z = u 9 2) ∨ (k = 5 ∧ z = u 0 21) ∨ (k = 6 ∧ z = u 0 31) ∨ (k = 7 ∧ z = u 0 19) ∨ (k = 8 ∧ z = u 0 1) ∨ ((k < 0 ∨ 8 < k) ∧ z = -1))) := by
  refine ZM.ofI (cc := cX11_count) (maxL := 2) [(0, .ref (a 0)), (1, .int (zI k))] rfl (by decide +kernel) rfl (Nat.le_of_ble_eq_true rfl) (WM_addr a c) ?_
  intro x C hK _ _ hDD kret
  refine z_iload_n C 1 dX11_count_0 rfl ?_
  by_cases h1 : k < 0 ∨ 8 < k
  · refine z_tableOut C 91 dX11_count_1 (by omega) h1 (by decide) ?_
    refine z_iconst C dX11_count_91 ?_
    exact kret (-1) u _ _ (⟨rfl, Or.inr (Or.inr (Or.inr (Or.inr (Or.inr (Or.inr (Or.inr (Or.inr (Or.inr ((⟨by omega, rfl⟩))))))))))⟩) dX11_count_92
  by_cases h3 : k = 0
  · refine z_tableIn C (off := 51) 52 dX11_count_1 (by omega) ⟨by omega, by omega⟩ (by rw [h3]; rfl) (by decide) ?_
    refine z_aload_n C 0 dX11_count_52 rfl ?_
    refine z_get C hK (v := .int (zI (u 0 12))) inX11_count_X11 0 (WM_0 a c u) rfl 12 (by decide) (List.mem_of_getElem? (i := 1) rfl) rfl dX11_count_53 ?_
    exact kret (u 0 12) u _ _ (⟨rfl, Or.inl (⟨by omega, rfl⟩)⟩) dX11_count_56
  by_cases h4 : k = 1
  · refine z_tableIn C (off := 56) 57 dX11_count_1 (by omega) ⟨by omega, by omega⟩ (by rw [h4]; rfl) (by decide) ?_
    refine z_aload_n C 0 dX11_count_57 rfl ?_
    refine z_get C hK (v := .int (zI (u 0 13))) inX11_count_X11 0 (WM_0 a c u) rfl 13 (by decide) (List.mem_of_getElem? (i := 2) rfl) rfl dX11_count_58 ?_
    exact kret (u 0 13) u _ _ (⟨rfl, Or.inr (Or.inl (⟨by omega, rfl⟩))⟩) dX11_count_61
  by_cases h5 : k = 2
  · refine z_tableIn C (off := 61) 62 dX11_count_1 (by omega) ⟨by omega, by omega⟩ (by rw [h5]; rfl) (by decide) ?_
    refine z_aload_n C 0 dX11_count_62 rfl ?_
    refine z_get C hK (v := .ref (a 9)) inX11_count_X11 0 (WM_0 a c u) rfl 18 (by decide) (List.mem_of_getElem? (i := 3) rfl) rfl dX11_count_63 ?_
    refine z_iload_n C 1 dX11_count_66 rfl ?_
    refine z_iconst C dX11_count_67 ?_
    refine z_isub C dX11_count_68 ?_
    refine z_iald C hK 0 (g := (u 9)) (i := (k - 2)) 9 (WM_9 a c u) rfl (by decide) (by omega) dX11_count_69 ?_
    refine z_as (b := u 9 (k - 2)) rfl ?_
    exact kret (u 9 (k - 2)) u _ _ (⟨rfl, by first | exact Or.inr (Or.inr (Or.inl (⟨by omega, by rw [show k - 2 = 0 by omega]⟩))) | exact Or.inr (Or.inr (Or.inr (Or.inl (⟨by omega, by rw [show k - 2 = 1 by omega]⟩)))) | exact Or.inr (Or.inr (Or.inr (Or.inr (Or.inl (⟨by omega, by rw [show k - 2 = 2 by omega]⟩)))))⟩) dX11_count_70
  by_cases h6 : k = 3
  · refine z_tableIn C (off := 61) 62 dX11_count_1 (by omega) ⟨by omega, by omega⟩ (by rw [h6]; rfl) (by decide) ?_
    refine z_aload_n C 0 dX11_count_62 rfl ?_
    refine z_get C hK (v := .ref (a 9)) inX11_count_X11 0 (WM_0 a c u) rfl 18 (by decide) (List.mem_of_getElem? (i := 3) rfl) rfl dX11_count_63 ?_
    refine z_iload_n C 1 dX11_count_66 rfl ?_
    refine z_iconst C dX11_count_67 ?_
    refine z_isub C dX11_count_68 ?_
    refine z_iald C hK 0 (g := (u 9)) (i := (k - 2)) 9 (WM_9 a c u) rfl (by decide) (by omega) dX11_count_69 ?_
    refine z_as (b := u 9 (k - 2)) rfl ?_
    exact kret (u 9 (k - 2)) u _ _ (⟨rfl, by first | exact Or.inr (Or.inr (Or.inl (⟨by omega, by rw [show k - 2 = 0 by omega]⟩))) | exact Or.inr (Or.inr (Or.inr (Or.inl (⟨by omega, by rw [show k - 2 = 1 by omega]⟩)))) | exact Or.inr (Or.inr (Or.inr (Or.inr (Or.inl (⟨by omega, by rw [show k - 2 = 2 by omega]⟩)))))⟩) dX11_count_70
  by_cases h7 : k = 4
  · refine z_tableIn C (off := 61) 62 dX11_count_1 (by omega) ⟨by omega, by omega⟩ (by rw [h7]; rfl) (by decide) ?_
    refine z_aload_n C 0 dX11_count_62 rfl ?_
    refine z_get C hK (v := .ref (a 9)) inX11_count_X11 0 (WM_0 a c u) rfl 18 (by decide) (List.mem_of_getElem? (i := 3) rfl) rfl dX11_count_63 ?_
    refine z_iload_n C 1 dX11_count_66 rfl ?_
    refine z_iconst C dX11_count_67 ?_
    refine z_isub C dX11_count_68 ?_
    refine z_iald C hK 0 (g := (u 9)) (i := (k - 2)) 9 (WM_9 a c u) rfl (by decide) (by omega) dX11_count_69 ?_
    refine z_as (b := u 9 (k - 2)) rfl ?_
    exact kret (u 9 (k - 2)) u _ _ (⟨rfl, by first | exact Or.inr (Or.inr (Or.inl (⟨by omega, by rw [show k - 2 = 0 by omega]⟩))) | exact Or.inr (Or.inr (Or.inr (Or.inl (⟨by omega, by rw [show k - 2 = 1 by omega]⟩)))) | exact Or.inr (Or.inr (Or.inr (Or.inr (Or.inl (⟨by omega, by rw [show k - 2 = 2 by omega]⟩)))))⟩) dX11_count_70
  by_cases h8 : k = 5
  · refine z_tableIn C (off := 70) 71 dX11_count_1 (by omega) ⟨by omega, by omega⟩ (by rw [h8]; rfl) (by decide) ?_
    refine z_aload_n C 0 dX11_count_71 rfl ?_
    refine z_get C hK (v := .int (zI (u 0 21))) inX11_count_X11 0 (WM_0 a c u) rfl 21 (by decide) (List.mem_of_getElem? (i := 4) rfl) rfl dX11_count_72 ?_
    exact kret (u 0 21) u _ _ (⟨rfl, Or.inr (Or.inr (Or.inr (Or.inr (Or.inr (Or.inl (⟨by omega, rfl⟩))))))⟩) dX11_count_75
  by_cases h9 : k = 6
  · refine z_tableIn C (off := 75) 76 dX11_count_1 (by omega) ⟨by omega, by omega⟩ (by rw [h9]; rfl) (by decide) ?_
    refine z_aload_n C 0 dX11_count_76 rfl ?_
    refine z_get C hK (v := .int (zI (u 0 31))) inX11_count_X11 0 (WM_0 a c u) rfl 31 (by decide) (List.mem_of_getElem? (i := 5) rfl) rfl dX11_count_77 ?_
    exact kret (u 0 31) u _ _ (⟨rfl, Or.inr (Or.inr (Or.inr (Or.inr (Or.inr (Or.inr (Or.inl (⟨by omega, rfl⟩)))))))⟩) dX11_count_80
  by_cases h10 : k = 7
  · refine z_tableIn C (off := 80) 81 dX11_count_1 (by omega) ⟨by omega, by omega⟩ (by rw [h10]; rfl) (by decide) ?_
    refine z_aload_n C 0 dX11_count_81 rfl ?_
    refine z_get C hK (v := .int (zI (u 0 19))) inX11_count_X11 0 (WM_0 a c u) rfl 19 (by decide) (List.mem_of_getElem? (i := 6) rfl) rfl dX11_count_82 ?_
    exact kret (u 0 19) u _ _ (⟨rfl, Or.inr (Or.inr (Or.inr (Or.inr (Or.inr (Or.inr (Or.inr (Or.inl (⟨by omega, rfl⟩))))))))⟩) dX11_count_85
  have h11 : k = 8 := by omega
  refine z_tableIn C (off := 85) 86 dX11_count_1 (by omega) ⟨by omega, by omega⟩ (by rw [h11]; rfl) (by decide) ?_
  refine z_aload_n C 0 dX11_count_86 rfl ?_
  refine z_get C hK (v := .int (zI (u 0 1))) inX11_count_X11 0 (WM_0 a c u) rfl 1 (by decide) (List.mem_of_getElem? (i := 7) rfl) rfl dX11_count_87 ?_
  exact kret (u 0 1) u _ _ (⟨rfl, Or.inr (Or.inr (Or.inr (Or.inr (Or.inr (Or.inr (Or.inr (Or.inr (Or.inl (⟨by omega, rfl⟩)))))))))⟩) dX11_count_90
-- NoteBellsModel.type
theorem inX11_type_X11 : ∀ w ∈ wsX110, w ∈ wsX11_type := fun w h => List.mem_cons_of_mem _ (List.mem_append_right _ (h))
set_option maxHeartbeats 8000000 in
set_option maxRecDepth 100000 in
theorem c_X11_type (l : Launch) (D : va_G) (a : Nat → Nat) (c : Nat → ClassId) (u : zU) (V n : Int) (hI : IM u) (b_V : -9223372036854775808 ≤ V ∧ V < 9223372036854775808) (b_n : -2147483648 ≤ n ∧ n < 2147483648) : ZM l D (zTy c) (WM a c) yX11_type wsX11_type 2 [.ref (a 0), .long (zL V), .int (zI n)] u rI (fun z u' => (¬ (1 ≤ n ∧ n ≤ 8) ∧ z = -1 ∧ u' = u) ∨ (1 ≤ n ∧ n ≤ 8 ∧ 200 < u 0 1 + n ∧ z = -3 ∧ u' = u) ∨ (1 ≤ n ∧ n ≤ 8 ∧ u 0 1 + n ≤ 200 ∧ z = u 0 1 + n ∧ u' = up (us u 1 (tyf (u 1) (u 0 1) V n)) 0 1 (u 0 1 + n))) := by
  refine ZM.ofI (cc := cX11_type) (maxL := 5) [(0, .ref (a 0)), (1, .long (zL V)), (3, .int (zI n))] rfl (by decide +kernel) rfl (Nat.le_of_ble_eq_true rfl) (WM_addr a c) ?_
  intro x C hK _ _ hDD kret
  have htl := hI.tlen
  refine z_iload_n C 2 dX11_type_0 rfl ?_
  refine z_i2l C dX11_type_1 (by omega) ?_
  refine z_lconst C (z := 1) dX11_type_2 (by decide) ?_
  refine z_ldc2 C (v := 8) (z := 8) (by decide) (List.mem_of_getElem? (i := 1) rfl) dX11_type_3 ?_
  refine z_callS C hK hDD (c_X11_in (zl x) (zG x) ((WM a c)) (WM_addr a c) u n 1 8 (by omega) (by omega) (by omega)) gX11_type_X11_in rfl rfl zy_X11_in ⟨by omega, by decide⟩ rfl (Nat.le_of_ble_eq_true rfl) (st := []) (stk2 := fun z1 => [.int (zI z1)]) rfl (fun _ => rfl) dX11_type_6 (fun z1 u2 h3 => ?_)
  rw [h3.1]; replace h3 := h3.2
  refine z_if_ne C 14 dX11_type_9 (by decide) (by omega) (fun h4 => ?_) (fun h4 => ?_)
  · skip
    refine z_aload_n C 0 dX11_type_14 rfl ?_
    refine z_get C hK (v := .int (zI (u 0 1))) inX11_type_X11 0 (WM_0 a c u) rfl 1 (by decide) (List.mem_of_getElem? (i := 2) rfl) rfl dX11_type_15 ?_
    refine z_iload_n C 2 dX11_type_18 rfl ?_
    refine z_iadd C dX11_type_19 ?_
    refine z_sipush C dX11_type_20 (by decide) ?_
    refine z_icmp_le C 29 dX11_type_23 (by decide) (by omega) (fun h5 => ?_) (fun h5 => ?_)
    · skip
      refine z_iload_n C 2 dX11_type_29 rfl ?_
      refine z_iconst C dX11_type_30 ?_
      refine z_isub C dX11_type_31 ?_
      refine z_istore C [(4, .int (zI (n - 1))), (0, .ref (a 0)), (1, .long (zL V)), (3, .int (zI n))] dX11_type_32 (by decide) rfl ?_
      have L34_6 : ∀ (fu : Nat) (i : Int) (w : Int → Int) (t : Int), (-1 ≤ i ∧ i < n) → (t = u 0 1 + (n - 1 - i)) → (∀ j : Int, w j = if u 0 1 ≤ j ∧ j < t then byt V (n - 1 - (j - u 0 1)) else u 1 j) → i + 1 < (fu : Int) → Z x 0 0 (WM a c (up (us u 1 (w)) 0 (1) (t))) [(0, .ref (a 0)), (1, .long (zL V)), (3, .int (zI n)), (4, .int (zI i))] 34 [] := by
        intro fu
        induction fu with
        | zero => intro i w t hi ht hw hmeas; exfalso; omega
        | succ fu ih34 =>
          intro i w t hi ht hw hmeas
          refine z_iload C 3 dX11_type_34 rfl ?_
          refine z_if_lt C 76 dX11_type_36 (by decide) (by omega) (fun h7 => ?_) (fun h7 => ?_)
          · skip
            refine z_aload_n C 0 dX11_type_76 rfl ?_
            refine z_get C hK (v := .int (zI t)) inX11_type_X11 0 (WM_0 a c ((up (us u 1 (w)) 0 (1) (t)))) rfl 1 (by decide) (List.mem_of_getElem? (i := 2) rfl) rfl dX11_type_77 ?_
            exact kret t (up (us u 1 w) 0 1 t) _ _ (Or.inr (Or.inr ⟨by omega, by omega, by omega, by omega, by rw [type_end (i := i) (by omega) (by omega) hw, show t = u 0 1 + n by omega]⟩)) dX11_type_80
          · skip
            refine z_aload_n C 0 dX11_type_39 rfl ?_
            refine z_get C hK (v := .ref (a 1)) inX11_type_X11 0 (WM_0 a c ((up (us u 1 (w)) 0 (1) (t)))) rfl 0 (by decide) (List.mem_of_getElem? (i := 3) rfl) rfl dX11_type_40 ?_
            refine z_aload_n C 0 dX11_type_43 rfl ?_
            refine z_get C hK (v := .int (zI t)) inX11_type_X11 0 (WM_0 a c ((up (us u 1 (w)) 0 (1) (t)))) rfl 1 (by decide) (List.mem_of_getElem? (i := 2) rfl) rfl dX11_type_44 ?_
            refine z_lload_n C 1 dX11_type_47 rfl ?_
            refine z_bipush C dX11_type_48 (by decide) ?_
            refine z_iload C 3 dX11_type_50 rfl ?_
            refine z_imul C dX11_type_52 ?_
            refine z_lshr C ((zL V >>> ((zI (8 * i)).toInt64 &&& 63))) dX11_type_53 (rfl) ?_
            refine z_ldc2 C (v := 255) (z := 255) (by decide) (List.mem_of_getElem? (i := 4) rfl) dX11_type_54 ?_
            refine z_landW C (((zL V >>> ((zI (8 * i)).toInt64 &&& 63)) &&& zL 255)) dX11_type_57 rfl ?_
            refine z_l2i C (byt V i) dX11_type_58 (byt_l (by omega)) ?_
            refine z_iast C hK (hDD _) 0 (g := (up (us u 1 (w)) 0 (1) (t)) 1) 1 (WM_1 a c ((up (us u 1 (w)) 0 (1) (t)))) rfl (by decide) (by omega) (WM_1_set a c ((up (us u 1 (w)) 0 (1) (t))) t (byt V i)) dX11_type_59 ?_
            refine z_aload_n C 0 dX11_type_60 rfl ?_
            refine z_dup C dX11_type_61 rfl ?_
            refine z_get C hK (v := .int (zI t)) inX11_type_X11 0 (WM_0 a c ((up (up (us u 1 (w)) 0 (1) (t)) 1 (t) (byt V i)))) rfl 1 (by decide) (List.mem_of_getElem? (i := 2) rfl) rfl dX11_type_62 ?_
            refine z_iconst C dX11_type_65 ?_
            refine z_iadd C dX11_type_66 ?_
            refine z_put C hK (hDD _) inX11_type_X11 tyX11 tyX11_ok nmX11 0 (WM_0 a c ((up (up (us u 1 (w)) 0 (1) (t)) 1 (t) (byt V i)))) rfl 1 (by decide) (List.mem_of_getElem? (i := 2) rfl) rfl rfl rfl (Nat.le_of_ble_eq_true rfl) (WM_0_p1 a c ((up (up (us u 1 (w)) 0 (1) (t)) 1 (t) (byt V i))) (t + 1)) dX11_type_67 ?_
            refine z_iinc C 3 [(4, .int (zI (i + (-1)))), (0, .ref (a 0)), (1, .long (zL V)), (3, .int (zI n))] dX11_type_70 rfl (by decide) rfl ?_
            refine z_goto C 34 dX11_type_73 (by decide) ?_
            refine z_lv [(0, .ref (a 0)), (1, .long (zL V)), (3, .int (zI n)), (4, .int (zI (i + (-1))))] [1, 2, 3, 0] rfl ?_
            exact ih34 (i + (-1)) (fun j => if j = t then byt V i else w j) (t + 1) (by omega) (by omega) (type_step hi ht hw) (by omega)
      refine z_lv [(0, .ref (a 0)), (1, .long (zL V)), (3, .int (zI n)), (4, .int (zI (n - 1)))] [1, 2, 3, 0] rfl ?_
      exact L34_6 ((((n - 1) + 1 : Int)).toNat + 1) (n - 1) (u 1) (u 0 1) (by omega) (by omega) (fun j => by rw [if_neg (by omega)]) (by omega)
    · skip
      refine z_bipush C dX11_type_26 (by decide) ?_
      exact kret (-3) u _ _ (Or.inr (Or.inl ⟨by omega, by omega, by omega, rfl, rfl⟩)) dX11_type_28
  · skip
    refine z_iconst C dX11_type_12 ?_
    exact kret (-1) u _ _ (Or.inl ⟨by omega, rfl, rfl⟩) dX11_type_13
-- NoteBellsModel.mark
theorem inX11_mark_X11 : ∀ w ∈ wsX110, w ∈ wsX11_mark := fun w h => List.mem_cons_of_mem _ (List.mem_append_right _ (h))
set_option maxHeartbeats 8000000 in
set_option maxRecDepth 100000 in
theorem c_X11_mark (l : Launch) (D : va_G) (a : Nat → Nat) (c : Nat → ClassId) (u : zU) (k m : Int) (hI : IM u) (b_k : -2147483648 ≤ k ∧ k < 2147483648) (b_m : -2147483648 ≤ m ∧ m < 2147483648) : ZM l D (zTy c) (WM a c) yX11_mark wsX11_mark 4 [.ref (a 0), .int (zI k), .int (zI m)] u rI (fun z u' => (0 ≤ m ∧ m < u 0 12 ∧ ((k = 0 ∧ z = u 5 m ∧ u' = up u 0 34 (u 0 34 + 1)) ∨ (k = 1 ∧ z = u 5 m + u 7 m ∧ u' = up u 0 34 (u 0 34 + 11)) ∨ (k = 2 ∧ z = u 5 m - u 9 1 ∧ u' = up u 0 34 (u 0 34 + 101)) ∨ (k = 3 ∧ z = 2 * (u 5 m + u 7 m) ∧ u' = up u 0 34 (u 0 34 + 1011)) ∨ (k = 4 ∧ z = u 5 m - u 9 1 + m ∧ u' = up u 0 34 (u 0 34 + 10101)) ∨ (k = 5 ∧ z = u 5 m + cnt (u 8) m (u 0 13).toNat ∧ u' = up u 0 34 (u 0 34 + 100001)))) ∨ (¬ (0 ≤ m ∧ m < u 0 12 ∧ 0 ≤ k ∧ k ≤ 5) ∧ z = -1000000 ∧ u' = u)) := by
  refine ZM.ofI (cc := cX11_mark) (maxL := 5) [(0, .ref (a 0)), (1, .int (zI k)), (2, .int (zI m))] rfl (by decide +kernel) rfl (Nat.le_of_ble_eq_true rfl) (WM_addr a c) ?_
  intro x C hK _ _ hDD kret
  have hlv := hI.lev
  have hpp := hI.ppl
  refine z_iload_n C 1 dX11_mark_0 rfl ?_
  refine z_i2l C dX11_mark_1 (by omega) ?_
  refine z_lconst C (z := 0) dX11_mark_2 (by decide) ?_
  refine z_ldc2 C (v := 5) (z := 5) (by decide) (List.mem_of_getElem? (i := 1) rfl) dX11_mark_3 ?_
  refine z_callS C hK hDD (c_X11_in (zl x) (zG x) ((WM a c)) (WM_addr a c) u k 0 5 (by omega) (by omega) (by omega)) gX11_mark_X11_in rfl rfl zy_X11_in ⟨by omega, by decide⟩ rfl (Nat.le_of_ble_eq_true rfl) (st := []) (stk2 := fun z1 => [.int (zI z1)]) rfl (fun _ => rfl) dX11_mark_6 (fun z1 u2 h3 => ?_)
  rw [h3.1]; replace h3 := h3.2
  refine z_if_eq C 20 dX11_mark_9 (by decide) (by omega) (fun h4 => ?_) (fun h4 => ?_)
  · skip
    refine z_ldc C (v := (-1000000)) (z := (-1000000)) (by decide) (List.mem_of_getElem? (i := 2) rfl) dX11_mark_20 ?_
    exact kret (-1000000) u _ _ (Or.inr ⟨by omega, rfl, rfl⟩) dX11_mark_22
  · skip
    refine z_aload_n C 0 dX11_mark_12 rfl ?_
    refine z_iload_n C 2 dX11_mark_13 rfl ?_
    refine z_callV C hK hDD (c_X11_isLevel (zl x) (zG x) a c u m (hI) (by omega)) gX11_mark_X11_isLevel rfl zy_X11_isLevel 0 (WM_0 a c u) rfl ⟨by omega, by decide⟩ rfl (Nat.le_of_ble_eq_true rfl) (st := []) (stk2 := fun z5 => [.int (zI z5)]) rfl (fun _ => rfl) dX11_mark_14 (fun z5 u6 h7 => ?_)
    rw [h7.1]; replace h7 := h7.2
    refine z_if_ne C 23 dX11_mark_17 (by decide) (by omega) (fun h8 => ?_) (fun h8 => ?_)
    · skip
      refine z_aload_n C 0 dX11_mark_23 rfl ?_
      refine z_dup C dX11_mark_24 rfl ?_
      refine z_get C hK (v := .long (zL (u 0 34))) inX11_mark_X11 0 (WM_0 a c u) rfl 34 (by decide) (List.mem_of_getElem? (i := 3) rfl) rfl dX11_mark_25 ?_
      refine z_iload_n C 1 dX11_mark_28 rfl ?_
      refine z_if_ne C 36 dX11_mark_29 (by decide) (by omega) (fun h9 => ?_) (fun h9 => ?_)
      · skip
        refine z_iload_n C 1 dX11_mark_36 rfl ?_
        refine z_iconst C dX11_mark_37 ?_
        refine z_icmp_ne C 47 dX11_mark_38 (by decide) (by omega) (fun h10 => ?_) (fun h10 => ?_)
        · skip
          refine z_iload_n C 1 dX11_mark_47 rfl ?_
          refine z_iconst C dX11_mark_48 ?_
          refine z_icmp_ne C 58 dX11_mark_49 (by decide) (by omega) (fun h11 => ?_) (fun h11 => ?_)
          · skip
            refine z_iload_n C 1 dX11_mark_58 rfl ?_
            refine z_iconst C dX11_mark_59 ?_
            refine z_icmp_ne C 69 dX11_mark_60 (by decide) (by omega) (fun h12 => ?_) (fun h12 => ?_)
            · skip
              refine z_iload_n C 1 dX11_mark_69 rfl ?_
              refine z_iconst C dX11_mark_70 ?_
              refine z_icmp_ne C 80 dX11_mark_71 (by decide) (by omega) (fun h13 => ?_) (fun h13 => ?_)
              · skip
                refine z_ldc2 C (v := 100001) (z := 100001) (by decide) (List.mem_of_getElem? (i := 8) rfl) dX11_mark_80 ?_
                refine z_ladd C ((u 0 34) + 100001) dX11_mark_83 (zL_add _ _) ?_
                refine z_put C hK (hDD _) inX11_mark_X11 tyX11 tyX11_ok nmX11 0 (WM_0 a c u) rfl 34 (by decide) (List.mem_of_getElem? (i := 3) rfl) rfl rfl rfl (Nat.le_of_ble_eq_true rfl) (WM_0_p34 a c u ((u 0 34) + 100001)) dX11_mark_84 ?_
                refine z_iconst C dX11_mark_87 ?_
                refine z_istore_n C [(3, .int (zI 0)), (0, .ref (a 0)), (1, .int (zI k)), (2, .int (zI m))] dX11_mark_88 rfl (by decide) rfl ?_
                refine z_iconst C dX11_mark_89 ?_
                refine z_istore C [(4, .int (zI 0)), (3, .int (zI 0)), (0, .ref (a 0)), (1, .int (zI k)), (2, .int (zI m))] dX11_mark_90 (by decide) rfl ?_
                have L92_14 : ∀ (fu : Nat) (i : Int) (b : Int) (tr : Int), (0 ≤ i ∧ i ≤ u 0 13) → (b = cnt (u 8) m i.toNat) → (0 ≤ b ∧ b ≤ i) → (0 ≤ m ∧ m < u 0 12) → ((k = 0 ∧ tr = u 0 34 + 1) ∨ (k = 1 ∧ tr = u 0 34 + 11) ∨ (k = 2 ∧ tr = u 0 34 + 101) ∨ (k = 3 ∧ tr = u 0 34 + 1011) ∨ (k = 4 ∧ tr = u 0 34 + 10101) ∨ (k = 5 ∧ tr = u 0 34 + 100001)) → u 0 13 - i < (fu : Int) → Z x 0 0 (WM a c (up u 0 (34) (tr))) [(0, .ref (a 0)), (1, .int (zI k)), (2, .int (zI m)), (3, .int (zI b)), (4, .int (zI i))] 92 [] := by
                  intro fu
                  induction fu with
                  | zero => intro i b tr hi hb hbb hm2 htr hmeas; exfalso; omega
                  | succ fu ih92 =>
                    intro i b tr hi hb hbb hm2 htr hmeas
                    refine z_iload C 4 dX11_mark_92 rfl ?_
                    refine z_aload_n C 0 dX11_mark_94 rfl ?_
                    refine z_get C hK (v := .int (zI (u 0 13))) inX11_mark_X11 0 (WM_0 a c ((up u 0 (34) (tr)))) rfl 13 (by decide) (List.mem_of_getElem? (i := 9) rfl) rfl dX11_mark_95 ?_
                    refine z_icmp_ge C 126 dX11_mark_98 (by decide) (by omega) (fun h15 => ?_) (fun h15 => ?_)
                    · skip
                      refine z_iload_n C 1 dX11_mark_126 rfl ?_
                      by_cases h16 : k < 0 ∨ 4 < k
                      · refine z_tableOut C 227 dX11_mark_127 (by omega) h16 (by decide) ?_
                        refine z_aload_n C 0 dX11_mark_227 rfl ?_
                        refine z_get C hK (v := .ref (a 5)) inX11_mark_X11 0 (WM_0 a c ((up u 0 (34) (tr)))) rfl 14 (by decide) (List.mem_of_getElem? (i := 11) rfl) rfl dX11_mark_228 ?_
                        refine z_iload_n C 2 dX11_mark_231 rfl ?_
                        refine z_iald C hK 0 (g := (u 5)) (i := m) 5 (WM_5 a c ((up u 0 (34) (tr)))) rfl (by decide) (by omega) dX11_mark_232 ?_
                        refine z_as (b := u 5 (m)) rfl ?_
                        refine z_iload_n C 3 dX11_mark_233 rfl ?_
                        refine z_iadd C dX11_mark_234 ?_
                        exact kret ((u 5 (m)) + b) ((up u 0 (34) (tr))) _ _ (Or.inl ⟨by omega, by omega, Or.inr (Or.inr (Or.inr (Or.inr (Or.inr ((⟨by omega, by rw [hb, show i = u 0 13 by omega], by rw [show tr = u 0 34 + 100001 by omega]⟩))))))⟩) dX11_mark_235
                      by_cases h18 : k = 0
                      · refine z_tableIn C (off := 33) 160 dX11_mark_127 (by omega) ⟨by omega, by omega⟩ (by rw [h18]; rfl) (by decide) ?_
                        refine z_aload_n C 0 dX11_mark_160 rfl ?_
                        refine z_get C hK (v := .ref (a 5)) inX11_mark_X11 0 (WM_0 a c ((up u 0 (34) (tr)))) rfl 14 (by decide) (List.mem_of_getElem? (i := 11) rfl) rfl dX11_mark_161 ?_
                        refine z_iload_n C 2 dX11_mark_164 rfl ?_
                        refine z_iald C hK 0 (g := (u 5)) (i := m) 5 (WM_5 a c ((up u 0 (34) (tr)))) rfl (by decide) (by omega) dX11_mark_165 ?_
                        refine z_as (b := u 5 (m)) rfl ?_
                        exact kret (u 5 (m)) ((up u 0 (34) (tr))) _ _ (Or.inl ⟨by omega, by omega, Or.inl (⟨by omega, rfl, by rw [show tr = u 0 34 + 1 by omega]⟩)⟩) dX11_mark_166
                      by_cases h19 : k = 1
                      · refine z_tableIn C (off := 40) 167 dX11_mark_127 (by omega) ⟨by omega, by omega⟩ (by rw [h19]; rfl) (by decide) ?_
                        refine z_aload_n C 0 dX11_mark_167 rfl ?_
                        refine z_get C hK (v := .ref (a 5)) inX11_mark_X11 0 (WM_0 a c ((up u 0 (34) (tr)))) rfl 14 (by decide) (List.mem_of_getElem? (i := 11) rfl) rfl dX11_mark_168 ?_
                        refine z_iload_n C 2 dX11_mark_171 rfl ?_
                        refine z_iald C hK 0 (g := (u 5)) (i := m) 5 (WM_5 a c ((up u 0 (34) (tr)))) rfl (by decide) (by omega) dX11_mark_172 ?_
                        refine z_as (b := u 5 (m)) rfl ?_
                        refine z_aload_n C 0 dX11_mark_173 rfl ?_
                        refine z_get C hK (v := .ref (a 7)) inX11_mark_X11 0 (WM_0 a c ((up u 0 (34) (tr)))) rfl 16 (by decide) (List.mem_of_getElem? (i := 12) rfl) rfl dX11_mark_174 ?_
                        refine z_iload_n C 2 dX11_mark_177 rfl ?_
                        refine z_iald C hK 0 (g := (u 7)) (i := m) 7 (WM_7 a c ((up u 0 (34) (tr)))) rfl (by decide) (by omega) dX11_mark_178 ?_
                        refine z_as (b := u 7 (m)) rfl ?_
                        refine z_iadd C dX11_mark_179 ?_
                        exact kret ((u 5 (m)) + (u 7 (m))) ((up u 0 (34) (tr))) _ _ (Or.inl ⟨by omega, by omega, Or.inr (Or.inl (⟨by omega, rfl, by rw [show tr = u 0 34 + 11 by omega]⟩))⟩) dX11_mark_180
                      by_cases h20 : k = 2
                      · refine z_tableIn C (off := 54) 181 dX11_mark_127 (by omega) ⟨by omega, by omega⟩ (by rw [h20]; rfl) (by decide) ?_
                        refine z_aload_n C 0 dX11_mark_181 rfl ?_
                        refine z_get C hK (v := .ref (a 5)) inX11_mark_X11 0 (WM_0 a c ((up u 0 (34) (tr)))) rfl 14 (by decide) (List.mem_of_getElem? (i := 11) rfl) rfl dX11_mark_182 ?_
                        refine z_iload_n C 2 dX11_mark_185 rfl ?_
                        refine z_iald C hK 0 (g := (u 5)) (i := m) 5 (WM_5 a c ((up u 0 (34) (tr)))) rfl (by decide) (by omega) dX11_mark_186 ?_
                        refine z_as (b := u 5 (m)) rfl ?_
                        refine z_aload_n C 0 dX11_mark_187 rfl ?_
                        refine z_get C hK (v := .ref (a 9)) inX11_mark_X11 0 (WM_0 a c ((up u 0 (34) (tr)))) rfl 18 (by decide) (List.mem_of_getElem? (i := 13) rfl) rfl dX11_mark_188 ?_
                        refine z_iconst C dX11_mark_191 ?_
                        refine z_iald C hK 0 (g := (u 9)) (i := 1) 9 (WM_9 a c ((up u 0 (34) (tr)))) rfl (by decide) (by omega) dX11_mark_192 ?_
                        refine z_as (b := u 9 1) rfl ?_
                        refine z_isub C dX11_mark_193 ?_
                        exact kret ((u 5 (m)) - (u 9 1)) ((up u 0 (34) (tr))) _ _ (Or.inl ⟨by omega, by omega, Or.inr (Or.inr (Or.inl (⟨by omega, rfl, by rw [show tr = u 0 34 + 101 by omega]⟩)))⟩) dX11_mark_194
                      by_cases h21 : k = 3
                      · refine z_tableIn C (off := 68) 195 dX11_mark_127 (by omega) ⟨by omega, by omega⟩ (by rw [h21]; rfl) (by decide) ?_
                        refine z_iconst C dX11_mark_195 ?_
                        refine z_aload_n C 0 dX11_mark_196 rfl ?_
                        refine z_get C hK (v := .ref (a 5)) inX11_mark_X11 0 (WM_0 a c ((up u 0 (34) (tr)))) rfl 14 (by decide) (List.mem_of_getElem? (i := 11) rfl) rfl dX11_mark_197 ?_
                        refine z_iload_n C 2 dX11_mark_200 rfl ?_
                        refine z_iald C hK 0 (g := (u 5)) (i := m) 5 (WM_5 a c ((up u 0 (34) (tr)))) rfl (by decide) (by omega) dX11_mark_201 ?_
                        refine z_as (b := u 5 (m)) rfl ?_
                        refine z_aload_n C 0 dX11_mark_202 rfl ?_
                        refine z_get C hK (v := .ref (a 7)) inX11_mark_X11 0 (WM_0 a c ((up u 0 (34) (tr)))) rfl 16 (by decide) (List.mem_of_getElem? (i := 12) rfl) rfl dX11_mark_203 ?_
                        refine z_iload_n C 2 dX11_mark_206 rfl ?_
                        refine z_iald C hK 0 (g := (u 7)) (i := m) 7 (WM_7 a c ((up u 0 (34) (tr)))) rfl (by decide) (by omega) dX11_mark_207 ?_
                        refine z_as (b := u 7 (m)) rfl ?_
                        refine z_iadd C dX11_mark_208 ?_
                        refine z_imul C dX11_mark_209 ?_
                        exact kret (2 * ((u 5 (m)) + (u 7 (m)))) ((up u 0 (34) (tr))) _ _ (Or.inl ⟨by omega, by omega, Or.inr (Or.inr (Or.inr (Or.inl (⟨by omega, rfl, by rw [show tr = u 0 34 + 1011 by omega]⟩))))⟩) dX11_mark_210
                      have h22 : k = 4 := by omega
                      refine z_tableIn C (off := 84) 211 dX11_mark_127 (by omega) ⟨by omega, by omega⟩ (by rw [h22]; rfl) (by decide) ?_
                      refine z_aload_n C 0 dX11_mark_211 rfl ?_
                      refine z_get C hK (v := .ref (a 5)) inX11_mark_X11 0 (WM_0 a c ((up u 0 (34) (tr)))) rfl 14 (by decide) (List.mem_of_getElem? (i := 11) rfl) rfl dX11_mark_212 ?_
                      refine z_iload_n C 2 dX11_mark_215 rfl ?_
                      refine z_iald C hK 0 (g := (u 5)) (i := m) 5 (WM_5 a c ((up u 0 (34) (tr)))) rfl (by decide) (by omega) dX11_mark_216 ?_
                      refine z_as (b := u 5 (m)) rfl ?_
                      refine z_aload_n C 0 dX11_mark_217 rfl ?_
                      refine z_get C hK (v := .ref (a 9)) inX11_mark_X11 0 (WM_0 a c ((up u 0 (34) (tr)))) rfl 18 (by decide) (List.mem_of_getElem? (i := 13) rfl) rfl dX11_mark_218 ?_
                      refine z_iconst C dX11_mark_221 ?_
                      refine z_iald C hK 0 (g := (u 9)) (i := 1) 9 (WM_9 a c ((up u 0 (34) (tr)))) rfl (by decide) (by omega) dX11_mark_222 ?_
                      refine z_as (b := u 9 1) rfl ?_
                      refine z_isub C dX11_mark_223 ?_
                      refine z_iload_n C 2 dX11_mark_224 rfl ?_
                      refine z_iadd C dX11_mark_225 ?_
                      exact kret (((u 5 (m)) - (u 9 1)) + m) ((up u 0 (34) (tr))) _ _ (Or.inl ⟨by omega, by omega, Or.inr (Or.inr (Or.inr (Or.inr (Or.inl (⟨by omega, rfl, by rw [show tr = u 0 34 + 10101 by omega]⟩)))))⟩) dX11_mark_226
                    · skip
                      have hst := hI.stands i hi.1 (by omega)
                      refine z_iload_n C 3 dX11_mark_101 rfl ?_
                      refine z_aload_n C 0 dX11_mark_102 rfl ?_
                      refine z_get C hK (v := .ref (a 8)) inX11_mark_X11 0 (WM_0 a c ((up u 0 (34) (tr)))) rfl 17 (by decide) (List.mem_of_getElem? (i := 10) rfl) rfl dX11_mark_103 ?_
                      refine z_iload C 4 dX11_mark_106 rfl ?_
                      refine z_iald C hK 0 (g := (u 8)) (i := i) 8 (WM_8 a c ((up u 0 (34) (tr)))) rfl (by decide) (by omega) dX11_mark_108 ?_
                      refine z_as (b := u 8 (i)) rfl ?_
                      refine z_iload_n C 2 dX11_mark_109 rfl ?_
                      refine z_icmp_ne C 117 dX11_mark_110 (by decide) (by omega) (fun h23 => ?_) (fun h23 => ?_)
                      · skip
                        refine z_iconst C dX11_mark_117 ?_
                        refine z_iadd C dX11_mark_118 ?_
                        refine z_istore_n C [(3, .int (zI (b + 0))), (0, .ref (a 0)), (1, .int (zI k)), (2, .int (zI m)), (4, .int (zI i))] dX11_mark_119 rfl (by decide) rfl ?_
                        refine z_iinc C 4 [(4, .int (zI (i + 1))), (3, .int (zI (b + 0))), (0, .ref (a 0)), (1, .int (zI k)), (2, .int (zI m))] dX11_mark_120 rfl (by decide) rfl ?_
                        refine z_goto C 92 dX11_mark_123 (by decide) ?_
                        refine z_lv [(0, .ref (a 0)), (1, .int (zI k)), (2, .int (zI m)), (3, .int (zI (b + 0))), (4, .int (zI (i + 1)))] [2, 3, 4, 1, 0] rfl ?_
                        exact ih92 (i + 1) (b + 0) tr (by omega) (by rw [show (i + 1).toNat = i.toNat + 1 by omega, cnt, Int.toNat_of_nonneg hi.1]; first | rw [if_pos (by omega)]; omega | rw [if_neg (by omega)]; omega) (by omega) (by omega) (by omega) (by omega)
                      · skip
                        refine z_iconst C dX11_mark_113 ?_
                        refine z_goto C 118 dX11_mark_114 (by decide) ?_
                        refine z_iadd C dX11_mark_118 ?_
                        refine z_istore_n C [(3, .int (zI (b + 1))), (0, .ref (a 0)), (1, .int (zI k)), (2, .int (zI m)), (4, .int (zI i))] dX11_mark_119 rfl (by decide) rfl ?_
                        refine z_iinc C 4 [(4, .int (zI (i + 1))), (3, .int (zI (b + 1))), (0, .ref (a 0)), (1, .int (zI k)), (2, .int (zI m))] dX11_mark_120 rfl (by decide) rfl ?_
                        refine z_goto C 92 dX11_mark_123 (by decide) ?_
                        refine z_lv [(0, .ref (a 0)), (1, .int (zI k)), (2, .int (zI m)), (3, .int (zI (b + 1))), (4, .int (zI (i + 1)))] [2, 3, 4, 1, 0] rfl ?_
                        exact ih92 (i + 1) (b + 1) tr (by omega) (by rw [show (i + 1).toNat = i.toNat + 1 by omega, cnt, Int.toNat_of_nonneg hi.1]; first | rw [if_pos (by omega)]; omega | rw [if_neg (by omega)]; omega) (by omega) (by omega) (by omega) (by omega)
                refine z_lv [(0, .ref (a 0)), (1, .int (zI k)), (2, .int (zI m)), (3, .int (zI 0)), (4, .int (zI 0))] [2, 3, 4, 1, 0] rfl ?_
                exact L92_14 (((u 0 13 - 0 : Int)).toNat + 1) 0 0 ((u 0 34) + 100001) (by omega) (rfl) (by omega) (by omega) (by omega) (by omega)
              · skip
                refine z_ldc2 C (v := 10101) (z := 10101) (by decide) (List.mem_of_getElem? (i := 7) rfl) dX11_mark_74 ?_
                refine z_goto C 83 dX11_mark_77 (by decide) ?_
                refine z_ladd C ((u 0 34) + 10101) dX11_mark_83 (zL_add _ _) ?_
                refine z_put C hK (hDD _) inX11_mark_X11 tyX11 tyX11_ok nmX11 0 (WM_0 a c u) rfl 34 (by decide) (List.mem_of_getElem? (i := 3) rfl) rfl rfl rfl (Nat.le_of_ble_eq_true rfl) (WM_0_p34 a c u ((u 0 34) + 10101)) dX11_mark_84 ?_
                refine z_iconst C dX11_mark_87 ?_
                refine z_istore_n C [(3, .int (zI 0)), (0, .ref (a 0)), (1, .int (zI k)), (2, .int (zI m))] dX11_mark_88 rfl (by decide) rfl ?_
                refine z_iconst C dX11_mark_89 ?_
                refine z_istore C [(4, .int (zI 0)), (3, .int (zI 0)), (0, .ref (a 0)), (1, .int (zI k)), (2, .int (zI m))] dX11_mark_90 (by decide) rfl ?_
                have L92_24 : ∀ (fu : Nat) (i : Int) (b : Int) (tr : Int), (0 ≤ i ∧ i ≤ u 0 13) → (b = cnt (u 8) m i.toNat) → (0 ≤ b ∧ b ≤ i) → (0 ≤ m ∧ m < u 0 12) → ((k = 0 ∧ tr = u 0 34 + 1) ∨ (k = 1 ∧ tr = u 0 34 + 11) ∨ (k = 2 ∧ tr = u 0 34 + 101) ∨ (k = 3 ∧ tr = u 0 34 + 1011) ∨ (k = 4 ∧ tr = u 0 34 + 10101) ∨ (k = 5 ∧ tr = u 0 34 + 100001)) → u 0 13 - i < (fu : Int) → Z x 0 0 (WM a c (up u 0 (34) (tr))) [(0, .ref (a 0)), (1, .int (zI k)), (2, .int (zI m)), (3, .int (zI b)), (4, .int (zI i))] 92 [] := by
                  intro fu
                  induction fu with
                  | zero => intro i b tr hi hb hbb hm2 htr hmeas; exfalso; omega
                  | succ fu ih92 =>
                    intro i b tr hi hb hbb hm2 htr hmeas
                    refine z_iload C 4 dX11_mark_92 rfl ?_
                    refine z_aload_n C 0 dX11_mark_94 rfl ?_
                    refine z_get C hK (v := .int (zI (u 0 13))) inX11_mark_X11 0 (WM_0 a c ((up u 0 (34) (tr)))) rfl 13 (by decide) (List.mem_of_getElem? (i := 9) rfl) rfl dX11_mark_95 ?_
                    refine z_icmp_ge C 126 dX11_mark_98 (by decide) (by omega) (fun h25 => ?_) (fun h25 => ?_)
                    · skip
                      refine z_iload_n C 1 dX11_mark_126 rfl ?_
                      by_cases h26 : k < 0 ∨ 4 < k
                      · refine z_tableOut C 227 dX11_mark_127 (by omega) h26 (by decide) ?_
                        refine z_aload_n C 0 dX11_mark_227 rfl ?_
                        refine z_get C hK (v := .ref (a 5)) inX11_mark_X11 0 (WM_0 a c ((up u 0 (34) (tr)))) rfl 14 (by decide) (List.mem_of_getElem? (i := 11) rfl) rfl dX11_mark_228 ?_
                        refine z_iload_n C 2 dX11_mark_231 rfl ?_
                        refine z_iald C hK 0 (g := (u 5)) (i := m) 5 (WM_5 a c ((up u 0 (34) (tr)))) rfl (by decide) (by omega) dX11_mark_232 ?_
                        refine z_as (b := u 5 (m)) rfl ?_
                        refine z_iload_n C 3 dX11_mark_233 rfl ?_
                        refine z_iadd C dX11_mark_234 ?_
                        exact kret ((u 5 (m)) + b) ((up u 0 (34) (tr))) _ _ (Or.inl ⟨by omega, by omega, Or.inr (Or.inr (Or.inr (Or.inr (Or.inr ((⟨by omega, by rw [hb, show i = u 0 13 by omega], by rw [show tr = u 0 34 + 100001 by omega]⟩))))))⟩) dX11_mark_235
                      by_cases h28 : k = 0
                      · refine z_tableIn C (off := 33) 160 dX11_mark_127 (by omega) ⟨by omega, by omega⟩ (by rw [h28]; rfl) (by decide) ?_
                        refine z_aload_n C 0 dX11_mark_160 rfl ?_
                        refine z_get C hK (v := .ref (a 5)) inX11_mark_X11 0 (WM_0 a c ((up u 0 (34) (tr)))) rfl 14 (by decide) (List.mem_of_getElem? (i := 11) rfl) rfl dX11_mark_161 ?_
                        refine z_iload_n C 2 dX11_mark_164 rfl ?_
                        refine z_iald C hK 0 (g := (u 5)) (i := m) 5 (WM_5 a c ((up u 0 (34) (tr)))) rfl (by decide) (by omega) dX11_mark_165 ?_
                        refine z_as (b := u 5 (m)) rfl ?_
                        exact kret (u 5 (m)) ((up u 0 (34) (tr))) _ _ (Or.inl ⟨by omega, by omega, Or.inl (⟨by omega, rfl, by rw [show tr = u 0 34 + 1 by omega]⟩)⟩) dX11_mark_166
                      by_cases h29 : k = 1
                      · refine z_tableIn C (off := 40) 167 dX11_mark_127 (by omega) ⟨by omega, by omega⟩ (by rw [h29]; rfl) (by decide) ?_
                        refine z_aload_n C 0 dX11_mark_167 rfl ?_
                        refine z_get C hK (v := .ref (a 5)) inX11_mark_X11 0 (WM_0 a c ((up u 0 (34) (tr)))) rfl 14 (by decide) (List.mem_of_getElem? (i := 11) rfl) rfl dX11_mark_168 ?_
                        refine z_iload_n C 2 dX11_mark_171 rfl ?_
                        refine z_iald C hK 0 (g := (u 5)) (i := m) 5 (WM_5 a c ((up u 0 (34) (tr)))) rfl (by decide) (by omega) dX11_mark_172 ?_
                        refine z_as (b := u 5 (m)) rfl ?_
                        refine z_aload_n C 0 dX11_mark_173 rfl ?_
                        refine z_get C hK (v := .ref (a 7)) inX11_mark_X11 0 (WM_0 a c ((up u 0 (34) (tr)))) rfl 16 (by decide) (List.mem_of_getElem? (i := 12) rfl) rfl dX11_mark_174 ?_
                        refine z_iload_n C 2 dX11_mark_177 rfl ?_
                        refine z_iald C hK 0 (g := (u 7)) (i := m) 7 (WM_7 a c ((up u 0 (34) (tr)))) rfl (by decide) (by omega) dX11_mark_178 ?_
                        refine z_as (b := u 7 (m)) rfl ?_
                        refine z_iadd C dX11_mark_179 ?_
                        exact kret ((u 5 (m)) + (u 7 (m))) ((up u 0 (34) (tr))) _ _ (Or.inl ⟨by omega, by omega, Or.inr (Or.inl (⟨by omega, rfl, by rw [show tr = u 0 34 + 11 by omega]⟩))⟩) dX11_mark_180
                      by_cases h30 : k = 2
                      · refine z_tableIn C (off := 54) 181 dX11_mark_127 (by omega) ⟨by omega, by omega⟩ (by rw [h30]; rfl) (by decide) ?_
                        refine z_aload_n C 0 dX11_mark_181 rfl ?_
                        refine z_get C hK (v := .ref (a 5)) inX11_mark_X11 0 (WM_0 a c ((up u 0 (34) (tr)))) rfl 14 (by decide) (List.mem_of_getElem? (i := 11) rfl) rfl dX11_mark_182 ?_
                        refine z_iload_n C 2 dX11_mark_185 rfl ?_
                        refine z_iald C hK 0 (g := (u 5)) (i := m) 5 (WM_5 a c ((up u 0 (34) (tr)))) rfl (by decide) (by omega) dX11_mark_186 ?_
                        refine z_as (b := u 5 (m)) rfl ?_
                        refine z_aload_n C 0 dX11_mark_187 rfl ?_
                        refine z_get C hK (v := .ref (a 9)) inX11_mark_X11 0 (WM_0 a c ((up u 0 (34) (tr)))) rfl 18 (by decide) (List.mem_of_getElem? (i := 13) rfl) rfl dX11_mark_188 ?_
                        refine z_iconst C dX11_mark_191 ?_
                        refine z_iald C hK 0 (g := (u 9)) (i := 1) 9 (WM_9 a c ((up u 0 (34) (tr)))) rfl (by decide) (by omega) dX11_mark_192 ?_
                        refine z_as (b := u 9 1) rfl ?_
                        refine z_isub C dX11_mark_193 ?_
                        exact kret ((u 5 (m)) - (u 9 1)) ((up u 0 (34) (tr))) _ _ (Or.inl ⟨by omega, by omega, Or.inr (Or.inr (Or.inl (⟨by omega, rfl, by rw [show tr = u 0 34 + 101 by omega]⟩)))⟩) dX11_mark_194
                      by_cases h31 : k = 3
                      · refine z_tableIn C (off := 68) 195 dX11_mark_127 (by omega) ⟨by omega, by omega⟩ (by rw [h31]; rfl) (by decide) ?_
                        refine z_iconst C dX11_mark_195 ?_
                        refine z_aload_n C 0 dX11_mark_196 rfl ?_
                        refine z_get C hK (v := .ref (a 5)) inX11_mark_X11 0 (WM_0 a c ((up u 0 (34) (tr)))) rfl 14 (by decide) (List.mem_of_getElem? (i := 11) rfl) rfl dX11_mark_197 ?_
                        refine z_iload_n C 2 dX11_mark_200 rfl ?_
                        refine z_iald C hK 0 (g := (u 5)) (i := m) 5 (WM_5 a c ((up u 0 (34) (tr)))) rfl (by decide) (by omega) dX11_mark_201 ?_
                        refine z_as (b := u 5 (m)) rfl ?_
                        refine z_aload_n C 0 dX11_mark_202 rfl ?_
                        refine z_get C hK (v := .ref (a 7)) inX11_mark_X11 0 (WM_0 a c ((up u 0 (34) (tr)))) rfl 16 (by decide) (List.mem_of_getElem? (i := 12) rfl) rfl dX11_mark_203 ?_
                        refine z_iload_n C 2 dX11_mark_206 rfl ?_
                        refine z_iald C hK 0 (g := (u 7)) (i := m) 7 (WM_7 a c ((up u 0 (34) (tr)))) rfl (by decide) (by omega) dX11_mark_207 ?_
                        refine z_as (b := u 7 (m)) rfl ?_
                        refine z_iadd C dX11_mark_208 ?_
                        refine z_imul C dX11_mark_209 ?_
                        exact kret (2 * ((u 5 (m)) + (u 7 (m)))) ((up u 0 (34) (tr))) _ _ (Or.inl ⟨by omega, by omega, Or.inr (Or.inr (Or.inr (Or.inl (⟨by omega, rfl, by rw [show tr = u 0 34 + 1011 by omega]⟩))))⟩) dX11_mark_210
                      have h32 : k = 4 := by omega
                      refine z_tableIn C (off := 84) 211 dX11_mark_127 (by omega) ⟨by omega, by omega⟩ (by rw [h32]; rfl) (by decide) ?_
                      refine z_aload_n C 0 dX11_mark_211 rfl ?_
                      refine z_get C hK (v := .ref (a 5)) inX11_mark_X11 0 (WM_0 a c ((up u 0 (34) (tr)))) rfl 14 (by decide) (List.mem_of_getElem? (i := 11) rfl) rfl dX11_mark_212 ?_
                      refine z_iload_n C 2 dX11_mark_215 rfl ?_
                      refine z_iald C hK 0 (g := (u 5)) (i := m) 5 (WM_5 a c ((up u 0 (34) (tr)))) rfl (by decide) (by omega) dX11_mark_216 ?_
                      refine z_as (b := u 5 (m)) rfl ?_
                      refine z_aload_n C 0 dX11_mark_217 rfl ?_
                      refine z_get C hK (v := .ref (a 9)) inX11_mark_X11 0 (WM_0 a c ((up u 0 (34) (tr)))) rfl 18 (by decide) (List.mem_of_getElem? (i := 13) rfl) rfl dX11_mark_218 ?_
                      refine z_iconst C dX11_mark_221 ?_
                      refine z_iald C hK 0 (g := (u 9)) (i := 1) 9 (WM_9 a c ((up u 0 (34) (tr)))) rfl (by decide) (by omega) dX11_mark_222 ?_
                      refine z_as (b := u 9 1) rfl ?_
                      refine z_isub C dX11_mark_223 ?_
                      refine z_iload_n C 2 dX11_mark_224 rfl ?_
                      refine z_iadd C dX11_mark_225 ?_
                      exact kret (((u 5 (m)) - (u 9 1)) + m) ((up u 0 (34) (tr))) _ _ (Or.inl ⟨by omega, by omega, Or.inr (Or.inr (Or.inr (Or.inr (Or.inl (⟨by omega, rfl, by rw [show tr = u 0 34 + 10101 by omega]⟩)))))⟩) dX11_mark_226
                    · skip
                      have hst := hI.stands i hi.1 (by omega)
                      refine z_iload_n C 3 dX11_mark_101 rfl ?_
                      refine z_aload_n C 0 dX11_mark_102 rfl ?_
                      refine z_get C hK (v := .ref (a 8)) inX11_mark_X11 0 (WM_0 a c ((up u 0 (34) (tr)))) rfl 17 (by decide) (List.mem_of_getElem? (i := 10) rfl) rfl dX11_mark_103 ?_
                      refine z_iload C 4 dX11_mark_106 rfl ?_
                      refine z_iald C hK 0 (g := (u 8)) (i := i) 8 (WM_8 a c ((up u 0 (34) (tr)))) rfl (by decide) (by omega) dX11_mark_108 ?_
                      refine z_as (b := u 8 (i)) rfl ?_
                      refine z_iload_n C 2 dX11_mark_109 rfl ?_
                      refine z_icmp_ne C 117 dX11_mark_110 (by decide) (by omega) (fun h33 => ?_) (fun h33 => ?_)
                      · skip
                        refine z_iconst C dX11_mark_117 ?_
                        refine z_iadd C dX11_mark_118 ?_
                        refine z_istore_n C [(3, .int (zI (b + 0))), (0, .ref (a 0)), (1, .int (zI k)), (2, .int (zI m)), (4, .int (zI i))] dX11_mark_119 rfl (by decide) rfl ?_
                        refine z_iinc C 4 [(4, .int (zI (i + 1))), (3, .int (zI (b + 0))), (0, .ref (a 0)), (1, .int (zI k)), (2, .int (zI m))] dX11_mark_120 rfl (by decide) rfl ?_
                        refine z_goto C 92 dX11_mark_123 (by decide) ?_
                        refine z_lv [(0, .ref (a 0)), (1, .int (zI k)), (2, .int (zI m)), (3, .int (zI (b + 0))), (4, .int (zI (i + 1)))] [2, 3, 4, 1, 0] rfl ?_
                        exact ih92 (i + 1) (b + 0) tr (by omega) (by rw [show (i + 1).toNat = i.toNat + 1 by omega, cnt, Int.toNat_of_nonneg hi.1]; first | rw [if_pos (by omega)]; omega | rw [if_neg (by omega)]; omega) (by omega) (by omega) (by omega) (by omega)
                      · skip
                        refine z_iconst C dX11_mark_113 ?_
                        refine z_goto C 118 dX11_mark_114 (by decide) ?_
                        refine z_iadd C dX11_mark_118 ?_
                        refine z_istore_n C [(3, .int (zI (b + 1))), (0, .ref (a 0)), (1, .int (zI k)), (2, .int (zI m)), (4, .int (zI i))] dX11_mark_119 rfl (by decide) rfl ?_
                        refine z_iinc C 4 [(4, .int (zI (i + 1))), (3, .int (zI (b + 1))), (0, .ref (a 0)), (1, .int (zI k)), (2, .int (zI m))] dX11_mark_120 rfl (by decide) rfl ?_
                        refine z_goto C 92 dX11_mark_123 (by decide) ?_
                        refine z_lv [(0, .ref (a 0)), (1, .int (zI k)), (2, .int (zI m)), (3, .int (zI (b + 1))), (4, .int (zI (i + 1)))] [2, 3, 4, 1, 0] rfl ?_
                        exact ih92 (i + 1) (b + 1) tr (by omega) (by rw [show (i + 1).toNat = i.toNat + 1 by omega, cnt, Int.toNat_of_nonneg hi.1]; first | rw [if_pos (by omega)]; omega | rw [if_neg (by omega)]; omega) (by omega) (by omega) (by omega) (by omega)
                refine z_lv [(0, .ref (a 0)), (1, .int (zI k)), (2, .int (zI m)), (3, .int (zI 0)), (4, .int (zI 0))] [2, 3, 4, 1, 0] rfl ?_
                exact L92_24 (((u 0 13 - 0 : Int)).toNat + 1) 0 0 ((u 0 34) + 10101) (by omega) (rfl) (by omega) (by omega) (by omega) (by omega)
            · skip
              refine z_ldc2 C (v := 1011) (z := 1011) (by decide) (List.mem_of_getElem? (i := 6) rfl) dX11_mark_63 ?_
              refine z_goto C 83 dX11_mark_66 (by decide) ?_
              refine z_ladd C ((u 0 34) + 1011) dX11_mark_83 (zL_add _ _) ?_
              refine z_put C hK (hDD _) inX11_mark_X11 tyX11 tyX11_ok nmX11 0 (WM_0 a c u) rfl 34 (by decide) (List.mem_of_getElem? (i := 3) rfl) rfl rfl rfl (Nat.le_of_ble_eq_true rfl) (WM_0_p34 a c u ((u 0 34) + 1011)) dX11_mark_84 ?_
              refine z_iconst C dX11_mark_87 ?_
              refine z_istore_n C [(3, .int (zI 0)), (0, .ref (a 0)), (1, .int (zI k)), (2, .int (zI m))] dX11_mark_88 rfl (by decide) rfl ?_
              refine z_iconst C dX11_mark_89 ?_
              refine z_istore C [(4, .int (zI 0)), (3, .int (zI 0)), (0, .ref (a 0)), (1, .int (zI k)), (2, .int (zI m))] dX11_mark_90 (by decide) rfl ?_
              have L92_34 : ∀ (fu : Nat) (i : Int) (b : Int) (tr : Int), (0 ≤ i ∧ i ≤ u 0 13) → (b = cnt (u 8) m i.toNat) → (0 ≤ b ∧ b ≤ i) → (0 ≤ m ∧ m < u 0 12) → ((k = 0 ∧ tr = u 0 34 + 1) ∨ (k = 1 ∧ tr = u 0 34 + 11) ∨ (k = 2 ∧ tr = u 0 34 + 101) ∨ (k = 3 ∧ tr = u 0 34 + 1011) ∨ (k = 4 ∧ tr = u 0 34 + 10101) ∨ (k = 5 ∧ tr = u 0 34 + 100001)) → u 0 13 - i < (fu : Int) → Z x 0 0 (WM a c (up u 0 (34) (tr))) [(0, .ref (a 0)), (1, .int (zI k)), (2, .int (zI m)), (3, .int (zI b)), (4, .int (zI i))] 92 [] := by
                intro fu
                induction fu with
                | zero => intro i b tr hi hb hbb hm2 htr hmeas; exfalso; omega
                | succ fu ih92 =>
                  intro i b tr hi hb hbb hm2 htr hmeas
                  refine z_iload C 4 dX11_mark_92 rfl ?_
                  refine z_aload_n C 0 dX11_mark_94 rfl ?_
                  refine z_get C hK (v := .int (zI (u 0 13))) inX11_mark_X11 0 (WM_0 a c ((up u 0 (34) (tr)))) rfl 13 (by decide) (List.mem_of_getElem? (i := 9) rfl) rfl dX11_mark_95 ?_
                  refine z_icmp_ge C 126 dX11_mark_98 (by decide) (by omega) (fun h35 => ?_) (fun h35 => ?_)
                  · skip
                    refine z_iload_n C 1 dX11_mark_126 rfl ?_
                    by_cases h36 : k < 0 ∨ 4 < k
                    · refine z_tableOut C 227 dX11_mark_127 (by omega) h36 (by decide) ?_
                      refine z_aload_n C 0 dX11_mark_227 rfl ?_
                      refine z_get C hK (v := .ref (a 5)) inX11_mark_X11 0 (WM_0 a c ((up u 0 (34) (tr)))) rfl 14 (by decide) (List.mem_of_getElem? (i := 11) rfl) rfl dX11_mark_228 ?_
                      refine z_iload_n C 2 dX11_mark_231 rfl ?_
                      refine z_iald C hK 0 (g := (u 5)) (i := m) 5 (WM_5 a c ((up u 0 (34) (tr)))) rfl (by decide) (by omega) dX11_mark_232 ?_
                      refine z_as (b := u 5 (m)) rfl ?_
                      refine z_iload_n C 3 dX11_mark_233 rfl ?_
                      refine z_iadd C dX11_mark_234 ?_
                      exact kret ((u 5 (m)) + b) ((up u 0 (34) (tr))) _ _ (Or.inl ⟨by omega, by omega, Or.inr (Or.inr (Or.inr (Or.inr (Or.inr ((⟨by omega, by rw [hb, show i = u 0 13 by omega], by rw [show tr = u 0 34 + 100001 by omega]⟩))))))⟩) dX11_mark_235
                    by_cases h38 : k = 0
                    · refine z_tableIn C (off := 33) 160 dX11_mark_127 (by omega) ⟨by omega, by omega⟩ (by rw [h38]; rfl) (by decide) ?_
                      refine z_aload_n C 0 dX11_mark_160 rfl ?_
                      refine z_get C hK (v := .ref (a 5)) inX11_mark_X11 0 (WM_0 a c ((up u 0 (34) (tr)))) rfl 14 (by decide) (List.mem_of_getElem? (i := 11) rfl) rfl dX11_mark_161 ?_
                      refine z_iload_n C 2 dX11_mark_164 rfl ?_
                      refine z_iald C hK 0 (g := (u 5)) (i := m) 5 (WM_5 a c ((up u 0 (34) (tr)))) rfl (by decide) (by omega) dX11_mark_165 ?_
                      refine z_as (b := u 5 (m)) rfl ?_
                      exact kret (u 5 (m)) ((up u 0 (34) (tr))) _ _ (Or.inl ⟨by omega, by omega, Or.inl (⟨by omega, rfl, by rw [show tr = u 0 34 + 1 by omega]⟩)⟩) dX11_mark_166
                    by_cases h39 : k = 1
                    · refine z_tableIn C (off := 40) 167 dX11_mark_127 (by omega) ⟨by omega, by omega⟩ (by rw [h39]; rfl) (by decide) ?_
                      refine z_aload_n C 0 dX11_mark_167 rfl ?_
                      refine z_get C hK (v := .ref (a 5)) inX11_mark_X11 0 (WM_0 a c ((up u 0 (34) (tr)))) rfl 14 (by decide) (List.mem_of_getElem? (i := 11) rfl) rfl dX11_mark_168 ?_
                      refine z_iload_n C 2 dX11_mark_171 rfl ?_
                      refine z_iald C hK 0 (g := (u 5)) (i := m) 5 (WM_5 a c ((up u 0 (34) (tr)))) rfl (by decide) (by omega) dX11_mark_172 ?_
                      refine z_as (b := u 5 (m)) rfl ?_
                      refine z_aload_n C 0 dX11_mark_173 rfl ?_
                      refine z_get C hK (v := .ref (a 7)) inX11_mark_X11 0 (WM_0 a c ((up u 0 (34) (tr)))) rfl 16 (by decide) (List.mem_of_getElem? (i := 12) rfl) rfl dX11_mark_174 ?_
                      refine z_iload_n C 2 dX11_mark_177 rfl ?_
                      refine z_iald C hK 0 (g := (u 7)) (i := m) 7 (WM_7 a c ((up u 0 (34) (tr)))) rfl (by decide) (by omega) dX11_mark_178 ?_
                      refine z_as (b := u 7 (m)) rfl ?_
                      refine z_iadd C dX11_mark_179 ?_
                      exact kret ((u 5 (m)) + (u 7 (m))) ((up u 0 (34) (tr))) _ _ (Or.inl ⟨by omega, by omega, Or.inr (Or.inl (⟨by omega, rfl, by rw [show tr = u 0 34 + 11 by omega]⟩))⟩) dX11_mark_180
                    by_cases h40 : k = 2
                    · refine z_tableIn C (off := 54) 181 dX11_mark_127 (by omega) ⟨by omega, by omega⟩ (by rw [h40]; rfl) (by decide) ?_
                      refine z_aload_n C 0 dX11_mark_181 rfl ?_
                      refine z_get C hK (v := .ref (a 5)) inX11_mark_X11 0 (WM_0 a c ((up u 0 (34) (tr)))) rfl 14 (by decide) (List.mem_of_getElem? (i := 11) rfl) rfl dX11_mark_182 ?_
                      refine z_iload_n C 2 dX11_mark_185 rfl ?_
                      refine z_iald C hK 0 (g := (u 5)) (i := m) 5 (WM_5 a c ((up u 0 (34) (tr)))) rfl (by decide) (by omega) dX11_mark_186 ?_
                      refine z_as (b := u 5 (m)) rfl ?_
                      refine z_aload_n C 0 dX11_mark_187 rfl ?_
                      refine z_get C hK (v := .ref (a 9)) inX11_mark_X11 0 (WM_0 a c ((up u 0 (34) (tr)))) rfl 18 (by decide) (List.mem_of_getElem? (i := 13) rfl) rfl dX11_mark_188 ?_
                      refine z_iconst C dX11_mark_191 ?_
                      refine z_iald C hK 0 (g := (u 9)) (i := 1) 9 (WM_9 a c ((up u 0 (34) (tr)))) rfl (by decide) (by omega) dX11_mark_192 ?_
                      refine z_as (b := u 9 1) rfl ?_
                      refine z_isub C dX11_mark_193 ?_
                      exact kret ((u 5 (m)) - (u 9 1)) ((up u 0 (34) (tr))) _ _ (Or.inl ⟨by omega, by omega, Or.inr (Or.inr (Or.inl (⟨by omega, rfl, by rw [show tr = u 0 34 + 101 by omega]⟩)))⟩) dX11_mark_194
                    by_cases h41 : k = 3
                    · refine z_tableIn C (off := 68) 195 dX11_mark_127 (by omega) ⟨by omega, by omega⟩ (by rw [h41]; rfl) (by decide) ?_
                      refine z_iconst C dX11_mark_195 ?_
                      refine z_aload_n C 0 dX11_mark_196 rfl ?_
                      refine z_get C hK (v := .ref (a 5)) inX11_mark_X11 0 (WM_0 a c ((up u 0 (34) (tr)))) rfl 14 (by decide) (List.mem_of_getElem? (i := 11) rfl) rfl dX11_mark_197 ?_
                      refine z_iload_n C 2 dX11_mark_200 rfl ?_
                      refine z_iald C hK 0 (g := (u 5)) (i := m) 5 (WM_5 a c ((up u 0 (34) (tr)))) rfl (by decide) (by omega) dX11_mark_201 ?_
                      refine z_as (b := u 5 (m)) rfl ?_
                      refine z_aload_n C 0 dX11_mark_202 rfl ?_
                      refine z_get C hK (v := .ref (a 7)) inX11_mark_X11 0 (WM_0 a c ((up u 0 (34) (tr)))) rfl 16 (by decide) (List.mem_of_getElem? (i := 12) rfl) rfl dX11_mark_203 ?_
                      refine z_iload_n C 2 dX11_mark_206 rfl ?_
                      refine z_iald C hK 0 (g := (u 7)) (i := m) 7 (WM_7 a c ((up u 0 (34) (tr)))) rfl (by decide) (by omega) dX11_mark_207 ?_
                      refine z_as (b := u 7 (m)) rfl ?_
                      refine z_iadd C dX11_mark_208 ?_
                      refine z_imul C dX11_mark_209 ?_
                      exact kret (2 * ((u 5 (m)) + (u 7 (m)))) ((up u 0 (34) (tr))) _ _ (Or.inl ⟨by omega, by omega, Or.inr (Or.inr (Or.inr (Or.inl (⟨by omega, rfl, by rw [show tr = u 0 34 + 1011 by omega]⟩))))⟩) dX11_mark_210
                    have h42 : k = 4 := by omega
                    refine z_tableIn C (off := 84) 211 dX11_mark_127 (by omega) ⟨by omega, by omega⟩ (by rw [h42]; rfl) (by decide) ?_
                    refine z_aload_n C 0 dX11_mark_211 rfl ?_
                    refine z_get C hK (v := .ref (a 5)) inX11_mark_X11 0 (WM_0 a c ((up u 0 (34) (tr)))) rfl 14 (by decide) (List.mem_of_getElem? (i := 11) rfl) rfl dX11_mark_212 ?_
                    refine z_iload_n C 2 dX11_mark_215 rfl ?_
                    refine z_iald C hK 0 (g := (u 5)) (i := m) 5 (WM_5 a c ((up u 0 (34) (tr)))) rfl (by decide) (by omega) dX11_mark_216 ?_
                    refine z_as (b := u 5 (m)) rfl ?_
                    refine z_aload_n C 0 dX11_mark_217 rfl ?_
                    refine z_get C hK (v := .ref (a 9)) inX11_mark_X11 0 (WM_0 a c ((up u 0 (34) (tr)))) rfl 18 (by decide) (List.mem_of_getElem? (i := 13) rfl) rfl dX11_mark_218 ?_
                    refine z_iconst C dX11_mark_221 ?_
                    refine z_iald C hK 0 (g := (u 9)) (i := 1) 9 (WM_9 a c ((up u 0 (34) (tr)))) rfl (by decide) (by omega) dX11_mark_222 ?_
                    refine z_as (b := u 9 1) rfl ?_
                    refine z_isub C dX11_mark_223 ?_
                    refine z_iload_n C 2 dX11_mark_224 rfl ?_
                    refine z_iadd C dX11_mark_225 ?_
                    exact kret (((u 5 (m)) - (u 9 1)) + m) ((up u 0 (34) (tr))) _ _ (Or.inl ⟨by omega, by omega, Or.inr (Or.inr (Or.inr (Or.inr (Or.inl (⟨by omega, rfl, by rw [show tr = u 0 34 + 10101 by omega]⟩)))))⟩) dX11_mark_226
                  · skip
                    have hst := hI.stands i hi.1 (by omega)
                    refine z_iload_n C 3 dX11_mark_101 rfl ?_
                    refine z_aload_n C 0 dX11_mark_102 rfl ?_
                    refine z_get C hK (v := .ref (a 8)) inX11_mark_X11 0 (WM_0 a c ((up u 0 (34) (tr)))) rfl 17 (by decide) (List.mem_of_getElem? (i := 10) rfl) rfl dX11_mark_103 ?_
                    refine z_iload C 4 dX11_mark_106 rfl ?_
                    refine z_iald C hK 0 (g := (u 8)) (i := i) 8 (WM_8 a c ((up u 0 (34) (tr)))) rfl (by decide) (by omega) dX11_mark_108 ?_
                    refine z_as (b := u 8 (i)) rfl ?_
                    refine z_iload_n C 2 dX11_mark_109 rfl ?_
                    refine z_icmp_ne C 117 dX11_mark_110 (by decide) (by omega) (fun h43 => ?_) (fun h43 => ?_)
                    · skip
                      refine z_iconst C dX11_mark_117 ?_
                      refine z_iadd C dX11_mark_118 ?_
                      refine z_istore_n C [(3, .int (zI (b + 0))), (0, .ref (a 0)), (1, .int (zI k)), (2, .int (zI m)), (4, .int (zI i))] dX11_mark_119 rfl (by decide) rfl ?_
                      refine z_iinc C 4 [(4, .int (zI (i + 1))), (3, .int (zI (b + 0))), (0, .ref (a 0)), (1, .int (zI k)), (2, .int (zI m))] dX11_mark_120 rfl (by decide) rfl ?_
                      refine z_goto C 92 dX11_mark_123 (by decide) ?_
                      refine z_lv [(0, .ref (a 0)), (1, .int (zI k)), (2, .int (zI m)), (3, .int (zI (b + 0))), (4, .int (zI (i + 1)))] [2, 3, 4, 1, 0] rfl ?_
                      exact ih92 (i + 1) (b + 0) tr (by omega) (by rw [show (i + 1).toNat = i.toNat + 1 by omega, cnt, Int.toNat_of_nonneg hi.1]; first | rw [if_pos (by omega)]; omega | rw [if_neg (by omega)]; omega) (by omega) (by omega) (by omega) (by omega)
                    · skip
                      refine z_iconst C dX11_mark_113 ?_
                      refine z_goto C 118 dX11_mark_114 (by decide) ?_
                      refine z_iadd C dX11_mark_118 ?_
                      refine z_istore_n C [(3, .int (zI (b + 1))), (0, .ref (a 0)), (1, .int (zI k)), (2, .int (zI m)), (4, .int (zI i))] dX11_mark_119 rfl (by decide) rfl ?_
                      refine z_iinc C 4 [(4, .int (zI (i + 1))), (3, .int (zI (b + 1))), (0, .ref (a 0)), (1, .int (zI k)), (2, .int (zI m))] dX11_mark_120 rfl (by decide) rfl ?_
                      refine z_goto C 92 dX11_mark_123 (by decide) ?_
                      refine z_lv [(0, .ref (a 0)), (1, .int (zI k)), (2, .int (zI m)), (3, .int (zI (b + 1))), (4, .int (zI (i + 1)))] [2, 3, 4, 1, 0] rfl ?_
                      exact ih92 (i + 1) (b + 1) tr (by omega) (by rw [show (i + 1).toNat = i.toNat + 1 by omega, cnt, Int.toNat_of_nonneg hi.1]; first | rw [if_pos (by omega)]; omega | rw [if_neg (by omega)]; omega) (by omega) (by omega) (by omega) (by omega)
              refine z_lv [(0, .ref (a 0)), (1, .int (zI k)), (2, .int (zI m)), (3, .int (zI 0)), (4, .int (zI 0))] [2, 3, 4, 1, 0] rfl ?_
              exact L92_34 (((u 0 13 - 0 : Int)).toNat + 1) 0 0 ((u 0 34) + 1011) (by omega) (rfl) (by omega) (by omega) (by omega) (by omega)
          · skip
            refine z_ldc2 C (v := 101) (z := 101) (by decide) (List.mem_of_getElem? (i := 5) rfl) dX11_mark_52 ?_
            refine z_goto C 83 dX11_mark_55 (by decide) ?_
            refine z_ladd C ((u 0 34) + 101) dX11_mark_83 (zL_add _ _) ?_
            refine z_put C hK (hDD _) inX11_mark_X11 tyX11 tyX11_ok nmX11 0 (WM_0 a c u) rfl 34 (by decide) (List.mem_of_getElem? (i := 3) rfl) rfl rfl rfl (Nat.le_of_ble_eq_true rfl) (WM_0_p34 a c u ((u 0 34) + 101)) dX11_mark_84 ?_
            refine z_iconst C dX11_mark_87 ?_
            refine z_istore_n C [(3, .int (zI 0)), (0, .ref (a 0)), (1, .int (zI k)), (2, .int (zI m))] dX11_mark_88 rfl (by decide) rfl ?_
            refine z_iconst C dX11_mark_89 ?_
            refine z_istore C [(4, .int (zI 0)), (3, .int (zI 0)), (0, .ref (a 0)), (1, .int (zI k)), (2, .int (zI m))] dX11_mark_90 (by decide) rfl ?_
            have L92_44 : ∀ (fu : Nat) (i : Int) (b : Int) (tr : Int), (0 ≤ i ∧ i ≤ u 0 13) → (b = cnt (u 8) m i.toNat) → (0 ≤ b ∧ b ≤ i) → (0 ≤ m ∧ m < u 0 12) → ((k = 0 ∧ tr = u 0 34 + 1) ∨ (k = 1 ∧ tr = u 0 34 + 11) ∨ (k = 2 ∧ tr = u 0 34 + 101) ∨ (k = 3 ∧ tr = u 0 34 + 1011) ∨ (k = 4 ∧ tr = u 0 34 + 10101) ∨ (k = 5 ∧ tr = u 0 34 + 100001)) → u 0 13 - i < (fu : Int) → Z x 0 0 (WM a c (up u 0 (34) (tr))) [(0, .ref (a 0)), (1, .int (zI k)), (2, .int (zI m)), (3, .int (zI b)), (4, .int (zI i))] 92 [] := by
              intro fu
              induction fu with
              | zero => intro i b tr hi hb hbb hm2 htr hmeas; exfalso; omega
              | succ fu ih92 =>
                intro i b tr hi hb hbb hm2 htr hmeas
                refine z_iload C 4 dX11_mark_92 rfl ?_
                refine z_aload_n C 0 dX11_mark_94 rfl ?_
                refine z_get C hK (v := .int (zI (u 0 13))) inX11_mark_X11 0 (WM_0 a c ((up u 0 (34) (tr)))) rfl 13 (by decide) (List.mem_of_getElem? (i := 9) rfl) rfl dX11_mark_95 ?_
                refine z_icmp_ge C 126 dX11_mark_98 (by decide) (by omega) (fun h45 => ?_) (fun h45 => ?_)
                · skip
                  refine z_iload_n C 1 dX11_mark_126 rfl ?_
                  by_cases h46 : k < 0 ∨ 4 < k
                  · refine z_tableOut C 227 dX11_mark_127 (by omega) h46 (by decide) ?_
                    refine z_aload_n C 0 dX11_mark_227 rfl ?_
                    refine z_get C hK (v := .ref (a 5)) inX11_mark_X11 0 (WM_0 a c ((up u 0 (34) (tr)))) rfl 14 (by decide) (List.mem_of_getElem? (i := 11) rfl) rfl dX11_mark_228 ?_
                    refine z_iload_n C 2 dX11_mark_231 rfl ?_
                    refine z_iald C hK 0 (g := (u 5)) (i := m) 5 (WM_5 a c ((up u 0 (34) (tr)))) rfl (by decide) (by omega) dX11_mark_232 ?_
                    refine z_as (b := u 5 (m)) rfl ?_
                    refine z_iload_n C 3 dX11_mark_233 rfl ?_
                    refine z_iadd C dX11_mark_234 ?_
                    exact kret ((u 5 (m)) + b) ((up u 0 (34) (tr))) _ _ (Or.inl ⟨by omega, by omega, Or.inr (Or.inr (Or.inr (Or.inr (Or.inr ((⟨by omega, by rw [hb, show i = u 0 13 by omega], by rw [show tr = u 0 34 + 100001 by omega]⟩))))))⟩) dX11_mark_235
                  by_cases h48 : k = 0
                  · refine z_tableIn C (off := 33) 160 dX11_mark_127 (by omega) ⟨by omega, by omega⟩ (by rw [h48]; rfl) (by decide) ?_
                    refine z_aload_n C 0 dX11_mark_160 rfl ?_
                    refine z_get C hK (v := .ref (a 5)) inX11_mark_X11 0 (WM_0 a c ((up u 0 (34) (tr)))) rfl 14 (by decide) (List.mem_of_getElem? (i := 11) rfl) rfl dX11_mark_161 ?_
                    refine z_iload_n C 2 dX11_mark_164 rfl ?_
                    refine z_iald C hK 0 (g := (u 5)) (i := m) 5 (WM_5 a c ((up u 0 (34) (tr)))) rfl (by decide) (by omega) dX11_mark_165 ?_
                    refine z_as (b := u 5 (m)) rfl ?_
                    exact kret (u 5 (m)) ((up u 0 (34) (tr))) _ _ (Or.inl ⟨by omega, by omega, Or.inl (⟨by omega, rfl, by rw [show tr = u 0 34 + 1 by omega]⟩)⟩) dX11_mark_166
                  by_cases h49 : k = 1
                  · refine z_tableIn C (off := 40) 167 dX11_mark_127 (by omega) ⟨by omega, by omega⟩ (by rw [h49]; rfl) (by decide) ?_
                    refine z_aload_n C 0 dX11_mark_167 rfl ?_
                    refine z_get C hK (v := .ref (a 5)) inX11_mark_X11 0 (WM_0 a c ((up u 0 (34) (tr)))) rfl 14 (by decide) (List.mem_of_getElem? (i := 11) rfl) rfl dX11_mark_168 ?_
                    refine z_iload_n C 2 dX11_mark_171 rfl ?_
                    refine z_iald C hK 0 (g := (u 5)) (i := m) 5 (WM_5 a c ((up u 0 (34) (tr)))) rfl (by decide) (by omega) dX11_mark_172 ?_
                    refine z_as (b := u 5 (m)) rfl ?_
                    refine z_aload_n C 0 dX11_mark_173 rfl ?_
                    refine z_get C hK (v := .ref (a 7)) inX11_mark_X11 0 (WM_0 a c ((up u 0 (34) (tr)))) rfl 16 (by decide) (List.mem_of_getElem? (i := 12) rfl) rfl dX11_mark_174 ?_
                    refine z_iload_n C 2 dX11_mark_177 rfl ?_
                    refine z_iald C hK 0 (g := (u 7)) (i := m) 7 (WM_7 a c ((up u 0 (34) (tr)))) rfl (by decide) (by omega) dX11_mark_178 ?_
                    refine z_as (b := u 7 (m)) rfl ?_
                    refine z_iadd C dX11_mark_179 ?_
                    exact kret ((u 5 (m)) + (u 7 (m))) ((up u 0 (34) (tr))) _ _ (Or.inl ⟨by omega, by omega, Or.inr (Or.inl (⟨by omega, rfl, by rw [show tr = u 0 34 + 11 by omega]⟩))⟩) dX11_mark_180
                  by_cases h50 : k = 2
                  · refine z_tableIn C (off := 54) 181 dX11_mark_127 (by omega) ⟨by omega, by omega⟩ (by rw [h50]; rfl) (by decide) ?_
                    refine z_aload_n C 0 dX11_mark_181 rfl ?_
                    refine z_get C hK (v := .ref (a 5)) inX11_mark_X11 0 (WM_0 a c ((up u 0 (34) (tr)))) rfl 14 (by decide) (List.mem_of_getElem? (i := 11) rfl) rfl dX11_mark_182 ?_
                    refine z_iload_n C 2 dX11_mark_185 rfl ?_
                    refine z_iald C hK 0 (g := (u 5)) (i := m) 5 (WM_5 a c ((up u 0 (34) (tr)))) rfl (by decide) (by omega) dX11_mark_186 ?_
                    refine z_as (b := u 5 (m)) rfl ?_
                    refine z_aload_n C 0 dX11_mark_187 rfl ?_
                    refine z_get C hK (v := .ref (a 9)) inX11_mark_X11 0 (WM_0 a c ((up u 0 (34) (tr)))) rfl 18 (by decide) (List.mem_of_getElem? (i := 13) rfl) rfl dX11_mark_188 ?_
                    refine z_iconst C dX11_mark_191 ?_
                    refine z_iald C hK 0 (g := (u 9)) (i := 1) 9 (WM_9 a c ((up u 0 (34) (tr)))) rfl (by decide) (by omega) dX11_mark_192 ?_
                    refine z_as (b := u 9 1) rfl ?_
                    refine z_isub C dX11_mark_193 ?_
                    exact kret ((u 5 (m)) - (u 9 1)) ((up u 0 (34) (tr))) _ _ (Or.inl ⟨by omega, by omega, Or.inr (Or.inr (Or.inl (⟨by omega, rfl, by rw [show tr = u 0 34 + 101 by omega]⟩)))⟩) dX11_mark_194
                  by_cases h51 : k = 3
                  · refine z_tableIn C (off := 68) 195 dX11_mark_127 (by omega) ⟨by omega, by omega⟩ (by rw [h51]; rfl) (by decide) ?_
                    refine z_iconst C dX11_mark_195 ?_
                    refine z_aload_n C 0 dX11_mark_196 rfl ?_
                    refine z_get C hK (v := .ref (a 5)) inX11_mark_X11 0 (WM_0 a c ((up u 0 (34) (tr)))) rfl 14 (by decide) (List.mem_of_getElem? (i := 11) rfl) rfl dX11_mark_197 ?_
                    refine z_iload_n C 2 dX11_mark_200 rfl ?_
                    refine z_iald C hK 0 (g := (u 5)) (i := m) 5 (WM_5 a c ((up u 0 (34) (tr)))) rfl (by decide) (by omega) dX11_mark_201 ?_
                    refine z_as (b := u 5 (m)) rfl ?_
                    refine z_aload_n C 0 dX11_mark_202 rfl ?_
                    refine z_get C hK (v := .ref (a 7)) inX11_mark_X11 0 (WM_0 a c ((up u 0 (34) (tr)))) rfl 16 (by decide) (List.mem_of_getElem? (i := 12) rfl) rfl dX11_mark_203 ?_
                    refine z_iload_n C 2 dX11_mark_206 rfl ?_
                    refine z_iald C hK 0 (g := (u 7)) (i := m) 7 (WM_7 a c ((up u 0 (34) (tr)))) rfl (by decide) (by omega) dX11_mark_207 ?_
                    refine z_as (b := u 7 (m)) rfl ?_
                    refine z_iadd C dX11_mark_208 ?_
                    refine z_imul C dX11_mark_209 ?_
                    exact kret (2 * ((u 5 (m)) + (u 7 (m)))) ((up u 0 (34) (tr))) _ _ (Or.inl ⟨by omega, by omega, Or.inr (Or.inr (Or.inr (Or.inl (⟨by omega, rfl, by rw [show tr = u 0 34 + 1011 by omega]⟩))))⟩) dX11_mark_210
                  have h52 : k = 4 := by omega
                  refine z_tableIn C (off := 84) 211 dX11_mark_127 (by omega) ⟨by omega, by omega⟩ (by rw [h52]; rfl) (by decide) ?_
                  refine z_aload_n C 0 dX11_mark_211 rfl ?_
                  refine z_get C hK (v := .ref (a 5)) inX11_mark_X11 0 (WM_0 a c ((up u 0 (34) (tr)))) rfl 14 (by decide) (List.mem_of_getElem? (i := 11) rfl) rfl dX11_mark_212 ?_
                  refine z_iload_n C 2 dX11_mark_215 rfl ?_
                  refine z_iald C hK 0 (g := (u 5)) (i := m) 5 (WM_5 a c ((up u 0 (34) (tr)))) rfl (by decide) (by omega) dX11_mark_216 ?_
                  refine z_as (b := u 5 (m)) rfl ?_
                  refine z_aload_n C 0 dX11_mark_217 rfl ?_
                  refine z_get C hK (v := .ref (a 9)) inX11_mark_X11 0 (WM_0 a c ((up u 0 (34) (tr)))) rfl 18 (by decide) (List.mem_of_getElem? (i := 13) rfl) rfl dX11_mark_218 ?_
                  refine z_iconst C dX11_mark_221 ?_
                  refine z_iald C hK 0 (g := (u 9)) (i := 1) 9 (WM_9 a c ((up u 0 (34) (tr)))) rfl (by decide) (by omega) dX11_mark_222 ?_
                  refine z_as (b := u 9 1) rfl ?_
                  refine z_isub C dX11_mark_223 ?_
                  refine z_iload_n C 2 dX11_mark_224 rfl ?_
                  refine z_iadd C dX11_mark_225 ?_
                  exact kret (((u 5 (m)) - (u 9 1)) + m) ((up u 0 (34) (tr))) _ _ (Or.inl ⟨by omega, by omega, Or.inr (Or.inr (Or.inr (Or.inr (Or.inl (⟨by omega, rfl, by rw [show tr = u 0 34 + 10101 by omega]⟩)))))⟩) dX11_mark_226
                · skip
                  have hst := hI.stands i hi.1 (by omega)
                  refine z_iload_n C 3 dX11_mark_101 rfl ?_
                  refine z_aload_n C 0 dX11_mark_102 rfl ?_
                  refine z_get C hK (v := .ref (a 8)) inX11_mark_X11 0 (WM_0 a c ((up u 0 (34) (tr)))) rfl 17 (by decide) (List.mem_of_getElem? (i := 10) rfl) rfl dX11_mark_103 ?_
                  refine z_iload C 4 dX11_mark_106 rfl ?_
                  refine z_iald C hK 0 (g := (u 8)) (i := i) 8 (WM_8 a c ((up u 0 (34) (tr)))) rfl (by decide) (by omega) dX11_mark_108 ?_
                  refine z_as (b := u 8 (i)) rfl ?_
                  refine z_iload_n C 2 dX11_mark_109 rfl ?_
                  refine z_icmp_ne C 117 dX11_mark_110 (by decide) (by omega) (fun h53 => ?_) (fun h53 => ?_)
                  · skip
                    refine z_iconst C dX11_mark_117 ?_
                    refine z_iadd C dX11_mark_118 ?_
                    refine z_istore_n C [(3, .int (zI (b + 0))), (0, .ref (a 0)), (1, .int (zI k)), (2, .int (zI m)), (4, .int (zI i))] dX11_mark_119 rfl (by decide) rfl ?_
                    refine z_iinc C 4 [(4, .int (zI (i + 1))), (3, .int (zI (b + 0))), (0, .ref (a 0)), (1, .int (zI k)), (2, .int (zI m))] dX11_mark_120 rfl (by decide) rfl ?_
                    refine z_goto C 92 dX11_mark_123 (by decide) ?_
                    refine z_lv [(0, .ref (a 0)), (1, .int (zI k)), (2, .int (zI m)), (3, .int (zI (b + 0))), (4, .int (zI (i + 1)))] [2, 3, 4, 1, 0] rfl ?_
                    exact ih92 (i + 1) (b + 0) tr (by omega) (by rw [show (i + 1).toNat = i.toNat + 1 by omega, cnt, Int.toNat_of_nonneg hi.1]; first | rw [if_pos (by omega)]; omega | rw [if_neg (by omega)]; omega) (by omega) (by omega) (by omega) (by omega)
                  · skip
                    refine z_iconst C dX11_mark_113 ?_
                    refine z_goto C 118 dX11_mark_114 (by decide) ?_
                    refine z_iadd C dX11_mark_118 ?_
                    refine z_istore_n C [(3, .int (zI (b + 1))), (0, .ref (a 0)), (1, .int (zI k)), (2, .int (zI m)), (4, .int (zI i))] dX11_mark_119 rfl (by decide) rfl ?_
                    refine z_iinc C 4 [(4, .int (zI (i + 1))), (3, .int (zI (b + 1))), (0, .ref (a 0)), (1, .int (zI k)), (2, .int (zI m))] dX11_mark_120 rfl (by decide) rfl ?_
                    refine z_goto C 92 dX11_mark_123 (by decide) ?_
                    refine z_lv [(0, .ref (a 0)), (1, .int (zI k)), (2, .int (zI m)), (3, .int (zI (b + 1))), (4, .int (zI (i + 1)))] [2, 3, 4, 1, 0] rfl ?_
                    exact ih92 (i + 1) (b + 1) tr (by omega) (by rw [show (i + 1).toNat = i.toNat + 1 by omega, cnt, Int.toNat_of_nonneg hi.1]; first | rw [if_pos (by omega)]; omega | rw [if_neg (by omega)]; omega) (by omega) (by omega) (by omega) (by omega)
            refine z_lv [(0, .ref (a 0)), (1, .int (zI k)), (2, .int (zI m)), (3, .int (zI 0)), (4, .int (zI 0))] [2, 3, 4, 1, 0] rfl ?_
            exact L92_44 (((u 0 13 - 0 : Int)).toNat + 1) 0 0 ((u 0 34) + 101) (by omega) (rfl) (by omega) (by omega) (by omega) (by omega)
        · skip
          refine z_ldc2 C (v := 11) (z := 11) (by decide) (List.mem_of_getElem? (i := 4) rfl) dX11_mark_41 ?_
          refine z_goto C 83 dX11_mark_44 (by decide) ?_
          refine z_ladd C ((u 0 34) + 11) dX11_mark_83 (zL_add _ _) ?_
          refine z_put C hK (hDD _) inX11_mark_X11 tyX11 tyX11_ok nmX11 0 (WM_0 a c u) rfl 34 (by decide) (List.mem_of_getElem? (i := 3) rfl) rfl rfl rfl (Nat.le_of_ble_eq_true rfl) (WM_0_p34 a c u ((u 0 34) + 11)) dX11_mark_84 ?_
          refine z_iconst C dX11_mark_87 ?_
          refine z_istore_n C [(3, .int (zI 0)), (0, .ref (a 0)), (1, .int (zI k)), (2, .int (zI m))] dX11_mark_88 rfl (by decide) rfl ?_
          refine z_iconst C dX11_mark_89 ?_
          refine z_istore C [(4, .int (zI 0)), (3, .int (zI 0)), (0, .ref (a 0)), (1, .int (zI k)), (2, .int (zI m))] dX11_mark_90 (by decide) rfl ?_
          have L92_54 : ∀ (fu : Nat) (i : Int) (b : Int) (tr : Int), (0 ≤ i ∧ i ≤ u 0 13) → (b = cnt (u 8) m i.toNat) → (0 ≤ b ∧ b ≤ i) → (0 ≤ m ∧ m < u 0 12) → ((k = 0 ∧ tr = u 0 34 + 1) ∨ (k = 1 ∧ tr = u 0 34 + 11) ∨ (k = 2 ∧ tr = u 0 34 + 101) ∨ (k = 3 ∧ tr = u 0 34 + 1011) ∨ (k = 4 ∧ tr = u 0 34 + 10101) ∨ (k = 5 ∧ tr = u 0 34 + 100001)) → u 0 13 - i < (fu : Int) → Z x 0 0 (WM a c (up u 0 (34) (tr))) [(0, .ref (a 0)), (1, .int (zI k)), (2, .int (zI m)), (3, .int (zI b)), (4, .int (zI i))] 92 [] := by
            intro fu
            induction fu with
            | zero => intro i b tr hi hb hbb hm2 htr hmeas; exfalso; omega
            | succ fu ih92 =>
              intro i b tr hi hb hbb hm2 htr hmeas
              refine z_iload C 4 dX11_mark_92 rfl ?_
              refine z_aload_n C 0 dX11_mark_94 rfl ?_
              refine z_get C hK (v := .int (zI (u 0 13))) inX11_mark_X11 0 (WM_0 a c ((up u 0 (34) (tr)))) rfl 13 (by decide) (List.mem_of_getElem? (i := 9) rfl) rfl dX11_mark_95 ?_
              refine z_icmp_ge C 126 dX11_mark_98 (by decide) (by omega) (fun h55 => ?_) (fun h55 => ?_)
              · skip
                refine z_iload_n C 1 dX11_mark_126 rfl ?_
                by_cases h56 : k < 0 ∨ 4 < k
                · refine z_tableOut C 227 dX11_mark_127 (by omega) h56 (by decide) ?_
                  refine z_aload_n C 0 dX11_mark_227 rfl ?_
                  refine z_get C hK (v := .ref (a 5)) inX11_mark_X11 0 (WM_0 a c ((up u 0 (34) (tr)))) rfl 14 (by decide) (List.mem_of_getElem? (i := 11) rfl) rfl dX11_mark_228 ?_
                  refine z_iload_n C 2 dX11_mark_231 rfl ?_
                  refine z_iald C hK 0 (g := (u 5)) (i := m) 5 (WM_5 a c ((up u 0 (34) (tr)))) rfl (by decide) (by omega) dX11_mark_232 ?_
                  refine z_as (b := u 5 (m)) rfl ?_
                  refine z_iload_n C 3 dX11_mark_233 rfl ?_
                  refine z_iadd C dX11_mark_234 ?_
                  exact kret ((u 5 (m)) + b) ((up u 0 (34) (tr))) _ _ (Or.inl ⟨by omega, by omega, Or.inr (Or.inr (Or.inr (Or.inr (Or.inr ((⟨by omega, by rw [hb, show i = u 0 13 by omega], by rw [show tr = u 0 34 + 100001 by omega]⟩))))))⟩) dX11_mark_235
                by_cases h58 : k = 0
                · refine z_tableIn C (off := 33) 160 dX11_mark_127 (by omega) ⟨by omega, by omega⟩ (by rw [h58]; rfl) (by decide) ?_
                  refine z_aload_n C 0 dX11_mark_160 rfl ?_
                  refine z_get C hK (v := .ref (a 5)) inX11_mark_X11 0 (WM_0 a c ((up u 0 (34) (tr)))) rfl 14 (by decide) (List.mem_of_getElem? (i := 11) rfl) rfl dX11_mark_161 ?_
                  refine z_iload_n C 2 dX11_mark_164 rfl ?_
                  refine z_iald C hK 0 (g := (u 5)) (i := m) 5 (WM_5 a c ((up u 0 (34) (tr)))) rfl (by decide) (by omega) dX11_mark_165 ?_
                  refine z_as (b := u 5 (m)) rfl ?_
                  exact kret (u 5 (m)) ((up u 0 (34) (tr))) _ _ (Or.inl ⟨by omega, by omega, Or.inl (⟨by omega, rfl, by rw [show tr = u 0 34 + 1 by omega]⟩)⟩) dX11_mark_166
                by_cases h59 : k = 1
                · refine z_tableIn C (off := 40) 167 dX11_mark_127 (by omega) ⟨by omega, by omega⟩ (by rw [h59]; rfl) (by decide) ?_
                  refine z_aload_n C 0 dX11_mark_167 rfl ?_
                  refine z_get C hK (v := .ref (a 5)) inX11_mark_X11 0 (WM_0 a c ((up u 0 (34) (tr)))) rfl 14 (by decide) (List.mem_of_getElem? (i := 11) rfl) rfl dX11_mark_168 ?_
                  refine z_iload_n C 2 dX11_mark_171 rfl ?_
                  refine z_iald C hK 0 (g := (u 5)) (i := m) 5 (WM_5 a c ((up u 0 (34) (tr)))) rfl (by decide) (by omega) dX11_mark_172 ?_
                  refine z_as (b := u 5 (m)) rfl ?_
                  refine z_aload_n C 0 dX11_mark_173 rfl ?_
                  refine z_get C hK (v := .ref (a 7)) inX11_mark_X11 0 (WM_0 a c ((up u 0 (34) (tr)))) rfl 16 (by decide) (List.mem_of_getElem? (i := 12) rfl) rfl dX11_mark_174 ?_
                  refine z_iload_n C 2 dX11_mark_177 rfl ?_
                  refine z_iald C hK 0 (g := (u 7)) (i := m) 7 (WM_7 a c ((up u 0 (34) (tr)))) rfl (by decide) (by omega) dX11_mark_178 ?_
                  refine z_as (b := u 7 (m)) rfl ?_
                  refine z_iadd C dX11_mark_179 ?_
                  exact kret ((u 5 (m)) + (u 7 (m))) ((up u 0 (34) (tr))) _ _ (Or.inl ⟨by omega, by omega, Or.inr (Or.inl (⟨by omega, rfl, by rw [show tr = u 0 34 + 11 by omega]⟩))⟩) dX11_mark_180
                by_cases h60 : k = 2
                · refine z_tableIn C (off := 54) 181 dX11_mark_127 (by omega) ⟨by omega, by omega⟩ (by rw [h60]; rfl) (by decide) ?_
                  refine z_aload_n C 0 dX11_mark_181 rfl ?_
                  refine z_get C hK (v := .ref (a 5)) inX11_mark_X11 0 (WM_0 a c ((up u 0 (34) (tr)))) rfl 14 (by decide) (List.mem_of_getElem? (i := 11) rfl) rfl dX11_mark_182 ?_
                  refine z_iload_n C 2 dX11_mark_185 rfl ?_
                  refine z_iald C hK 0 (g := (u 5)) (i := m) 5 (WM_5 a c ((up u 0 (34) (tr)))) rfl (by decide) (by omega) dX11_mark_186 ?_
                  refine z_as (b := u 5 (m)) rfl ?_
                  refine z_aload_n C 0 dX11_mark_187 rfl ?_
                  refine z_get C hK (v := .ref (a 9)) inX11_mark_X11 0 (WM_0 a c ((up u 0 (34) (tr)))) rfl 18 (by decide) (List.mem_of_getElem? (i := 13) rfl) rfl dX11_mark_188 ?_
                  refine z_iconst C dX11_mark_191 ?_
                  refine z_iald C hK 0 (g := (u 9)) (i := 1) 9 (WM_9 a c ((up u 0 (34) (tr)))) rfl (by decide) (by omega) dX11_mark_192 ?_
                  refine z_as (b := u 9 1) rfl ?_
                  refine z_isub C dX11_mark_193 ?_
                  exact kret ((u 5 (m)) - (u 9 1)) ((up u 0 (34) (tr))) _ _ (Or.inl ⟨by omega, by omega, Or.inr (Or.inr (Or.inl (⟨by omega, rfl, by rw [show tr = u 0 34 + 101 by omega]⟩)))⟩) dX11_mark_194
                by_cases h61 : k = 3
                · refine z_tableIn C (off := 68) 195 dX11_mark_127 (by omega) ⟨by omega, by omega⟩ (by rw [h61]; rfl) (by decide) ?_
                  refine z_iconst C dX11_mark_195 ?_
                  refine z_aload_n C 0 dX11_mark_196 rfl ?_
                  refine z_get C hK (v := .ref (a 5)) inX11_mark_X11 0 (WM_0 a c ((up u 0 (34) (tr)))) rfl 14 (by decide) (List.mem_of_getElem? (i := 11) rfl) rfl dX11_mark_197 ?_
                  refine z_iload_n C 2 dX11_mark_200 rfl ?_
                  refine z_iald C hK 0 (g := (u 5)) (i := m) 5 (WM_5 a c ((up u 0 (34) (tr)))) rfl (by decide) (by omega) dX11_mark_201 ?_
                  refine z_as (b := u 5 (m)) rfl ?_
                  refine z_aload_n C 0 dX11_mark_202 rfl ?_
                  refine z_get C hK (v := .ref (a 7)) inX11_mark_X11 0 (WM_0 a c ((up u 0 (34) (tr)))) rfl 16 (by decide) (List.mem_of_getElem? (i := 12) rfl) rfl dX11_mark_203 ?_
                  refine z_iload_n C 2 dX11_mark_206 rfl ?_
                  refine z_iald C hK 0 (g := (u 7)) (i := m) 7 (WM_7 a c ((up u 0 (34) (tr)))) rfl (by decide) (by omega) dX11_mark_207 ?_
                  refine z_as (b := u 7 (m)) rfl ?_
                  refine z_iadd C dX11_mark_208 ?_
                  refine z_imul C dX11_mark_209 ?_
                  exact kret (2 * ((u 5 (m)) + (u 7 (m)))) ((up u 0 (34) (tr))) _ _ (Or.inl ⟨by omega, by omega, Or.inr (Or.inr (Or.inr (Or.inl (⟨by omega, rfl, by rw [show tr = u 0 34 + 1011 by omega]⟩))))⟩) dX11_mark_210
                have h62 : k = 4 := by omega
                refine z_tableIn C (off := 84) 211 dX11_mark_127 (by omega) ⟨by omega, by omega⟩ (by rw [h62]; rfl) (by decide) ?_
                refine z_aload_n C 0 dX11_mark_211 rfl ?_
                refine z_get C hK (v := .ref (a 5)) inX11_mark_X11 0 (WM_0 a c ((up u 0 (34) (tr)))) rfl 14 (by decide) (List.mem_of_getElem? (i := 11) rfl) rfl dX11_mark_212 ?_
                refine z_iload_n C 2 dX11_mark_215 rfl ?_
                refine z_iald C hK 0 (g := (u 5)) (i := m) 5 (WM_5 a c ((up u 0 (34) (tr)))) rfl (by decide) (by omega) dX11_mark_216 ?_
                refine z_as (b := u 5 (m)) rfl ?_
                refine z_aload_n C 0 dX11_mark_217 rfl ?_
                refine z_get C hK (v := .ref (a 9)) inX11_mark_X11 0 (WM_0 a c ((up u 0 (34) (tr)))) rfl 18 (by decide) (List.mem_of_getElem? (i := 13) rfl) rfl dX11_mark_218 ?_
                refine z_iconst C dX11_mark_221 ?_
                refine z_iald C hK 0 (g := (u 9)) (i := 1) 9 (WM_9 a c ((up u 0 (34) (tr)))) rfl (by decide) (by omega) dX11_mark_222 ?_
                refine z_as (b := u 9 1) rfl ?_
                refine z_isub C dX11_mark_223 ?_
                refine z_iload_n C 2 dX11_mark_224 rfl ?_
                refine z_iadd C dX11_mark_225 ?_
                exact kret (((u 5 (m)) - (u 9 1)) + m) ((up u 0 (34) (tr))) _ _ (Or.inl ⟨by omega, by omega, Or.inr (Or.inr (Or.inr (Or.inr (Or.inl (⟨by omega, rfl, by rw [show tr = u 0 34 + 10101 by omega]⟩)))))⟩) dX11_mark_226
              · skip
                have hst := hI.stands i hi.1 (by omega)
                refine z_iload_n C 3 dX11_mark_101 rfl ?_
                refine z_aload_n C 0 dX11_mark_102 rfl ?_
                refine z_get C hK (v := .ref (a 8)) inX11_mark_X11 0 (WM_0 a c ((up u 0 (34) (tr)))) rfl 17 (by decide) (List.mem_of_getElem? (i := 10) rfl) rfl dX11_mark_103 ?_
                refine z_iload C 4 dX11_mark_106 rfl ?_
                refine z_iald C hK 0 (g := (u 8)) (i := i) 8 (WM_8 a c ((up u 0 (34) (tr)))) rfl (by decide) (by omega) dX11_mark_108 ?_
                refine z_as (b := u 8 (i)) rfl ?_
                refine z_iload_n C 2 dX11_mark_109 rfl ?_
                refine z_icmp_ne C 117 dX11_mark_110 (by decide) (by omega) (fun h63 => ?_) (fun h63 => ?_)
                · skip
                  refine z_iconst C dX11_mark_117 ?_
                  refine z_iadd C dX11_mark_118 ?_
                  refine z_istore_n C [(3, .int (zI (b + 0))), (0, .ref (a 0)), (1, .int (zI k)), (2, .int (zI m)), (4, .int (zI i))] dX11_mark_119 rfl (by decide) rfl ?_
                  refine z_iinc C 4 [(4, .int (zI (i + 1))), (3, .int (zI (b + 0))), (0, .ref (a 0)), (1, .int (zI k)), (2, .int (zI m))] dX11_mark_120 rfl (by decide) rfl ?_
                  refine z_goto C 92 dX11_mark_123 (by decide) ?_
                  refine z_lv [(0, .ref (a 0)), (1, .int (zI k)), (2, .int (zI m)), (3, .int (zI (b + 0))), (4, .int (zI (i + 1)))] [2, 3, 4, 1, 0] rfl ?_
                  exact ih92 (i + 1) (b + 0) tr (by omega) (by rw [show (i + 1).toNat = i.toNat + 1 by omega, cnt, Int.toNat_of_nonneg hi.1]; first | rw [if_pos (by omega)]; omega | rw [if_neg (by omega)]; omega) (by omega) (by omega) (by omega) (by omega)
                · skip
                  refine z_iconst C dX11_mark_113 ?_
                  refine z_goto C 118 dX11_mark_114 (by decide) ?_
                  refine z_iadd C dX11_mark_118 ?_
                  refine z_istore_n C [(3, .int (zI (b + 1))), (0, .ref (a 0)), (1, .int (zI k)), (2, .int (zI m)), (4, .int (zI i))] dX11_mark_119 rfl (by decide) rfl ?_
                  refine z_iinc C 4 [(4, .int (zI (i + 1))), (3, .int (zI (b + 1))), (0, .ref (a 0)), (1, .int (zI k)), (2, .int (zI m))] dX11_mark_120 rfl (by decide) rfl ?_
                  refine z_goto C 92 dX11_mark_123 (by decide) ?_
                  refine z_lv [(0, .ref (a 0)), (1, .int (zI k)), (2, .int (zI m)), (3, .int (zI (b + 1))), (4, .int (zI (i + 1)))] [2, 3, 4, 1, 0] rfl ?_
                  exact ih92 (i + 1) (b + 1) tr (by omega) (by rw [show (i + 1).toNat = i.toNat + 1 by omega, cnt, Int.toNat_of_nonneg hi.1]; first | rw [if_pos (by omega)]; omega | rw [if_neg (by omega)]; omega) (by omega) (by omega) (by omega) (by omega)
          refine z_lv [(0, .ref (a 0)), (1, .int (zI k)), (2, .int (zI m)), (3, .int (zI 0)), (4, .int (zI 0))] [2, 3, 4, 1, 0] rfl ?_
          exact L92_54 (((u 0 13 - 0 : Int)).toNat + 1) 0 0 ((u 0 34) + 11) (by omega) (rfl) (by omega) (by omega) (by omega) (by omega)
      · skip
        refine z_lconst C (z := 1) dX11_mark_32 (by decide) ?_
        refine z_goto C 83 dX11_mark_33 (by decide) ?_
        refine z_ladd C ((u 0 34) + 1) dX11_mark_83 (zL_add _ _) ?_
        refine z_put C hK (hDD _) inX11_mark_X11 tyX11 tyX11_ok nmX11 0 (WM_0 a c u) rfl 34 (by decide) (List.mem_of_getElem? (i := 3) rfl) rfl rfl rfl (Nat.le_of_ble_eq_true rfl) (WM_0_p34 a c u ((u 0 34) + 1)) dX11_mark_84 ?_
        refine z_iconst C dX11_mark_87 ?_
        refine z_istore_n C [(3, .int (zI 0)), (0, .ref (a 0)), (1, .int (zI k)), (2, .int (zI m))] dX11_mark_88 rfl (by decide) rfl ?_
        refine z_iconst C dX11_mark_89 ?_
        refine z_istore C [(4, .int (zI 0)), (3, .int (zI 0)), (0, .ref (a 0)), (1, .int (zI k)), (2, .int (zI m))] dX11_mark_90 (by decide) rfl ?_
        have L92_64 : ∀ (fu : Nat) (i : Int) (b : Int) (tr : Int), (0 ≤ i ∧ i ≤ u 0 13) → (b = cnt (u 8) m i.toNat) → (0 ≤ b ∧ b ≤ i) → (0 ≤ m ∧ m < u 0 12) → ((k = 0 ∧ tr = u 0 34 + 1) ∨ (k = 1 ∧ tr = u 0 34 + 11) ∨ (k = 2 ∧ tr = u 0 34 + 101) ∨ (k = 3 ∧ tr = u 0 34 + 1011) ∨ (k = 4 ∧ tr = u 0 34 + 10101) ∨ (k = 5 ∧ tr = u 0 34 + 100001)) → u 0 13 - i < (fu : Int) → Z x 0 0 (WM a c (up u 0 (34) (tr))) [(0, .ref (a 0)), (1, .int (zI k)), (2, .int (zI m)), (3, .int (zI b)), (4, .int (zI i))] 92 [] := by
          intro fu
          induction fu with
          | zero => intro i b tr hi hb hbb hm2 htr hmeas; exfalso; omega
          | succ fu ih92 =>
            intro i b tr hi hb hbb hm2 htr hmeas
            refine z_iload C 4 dX11_mark_92 rfl ?_
            refine z_aload_n C 0 dX11_mark_94 rfl ?_
            refine z_get C hK (v := .int (zI (u 0 13))) inX11_mark_X11 0 (WM_0 a c ((up u 0 (34) (tr)))) rfl 13 (by decide) (List.mem_of_getElem? (i := 9) rfl) rfl dX11_mark_95 ?_
            refine z_icmp_ge C 126 dX11_mark_98 (by decide) (by omega) (fun h65 => ?_) (fun h65 => ?_)
            · skip
              refine z_iload_n C 1 dX11_mark_126 rfl ?_
              by_cases h66 : k < 0 ∨ 4 < k
              · refine z_tableOut C 227 dX11_mark_127 (by omega) h66 (by decide) ?_
                refine z_aload_n C 0 dX11_mark_227 rfl ?_
                refine z_get C hK (v := .ref (a 5)) inX11_mark_X11 0 (WM_0 a c ((up u 0 (34) (tr)))) rfl 14 (by decide) (List.mem_of_getElem? (i := 11) rfl) rfl dX11_mark_228 ?_
                refine z_iload_n C 2 dX11_mark_231 rfl ?_
                refine z_iald C hK 0 (g := (u 5)) (i := m) 5 (WM_5 a c ((up u 0 (34) (tr)))) rfl (by decide) (by omega) dX11_mark_232 ?_
                refine z_as (b := u 5 (m)) rfl ?_
                refine z_iload_n C 3 dX11_mark_233 rfl ?_
                refine z_iadd C dX11_mark_234 ?_
                exact kret ((u 5 (m)) + b) ((up u 0 (34) (tr))) _ _ (Or.inl ⟨by omega, by omega, Or.inr (Or.inr (Or.inr (Or.inr (Or.inr ((⟨by omega, by rw [hb, show i = u 0 13 by omega], by rw [show tr = u 0 34 + 100001 by omega]⟩))))))⟩) dX11_mark_235
              by_cases h68 : k = 0
              · refine z_tableIn C (off := 33) 160 dX11_mark_127 (by omega) ⟨by omega, by omega⟩ (by rw [h68]; rfl) (by decide) ?_
                refine z_aload_n C 0 dX11_mark_160 rfl ?_
                refine z_get C hK (v := .ref (a 5)) inX11_mark_X11 0 (WM_0 a c ((up u 0 (34) (tr)))) rfl 14 (by decide) (List.mem_of_getElem? (i := 11) rfl) rfl dX11_mark_161 ?_
                refine z_iload_n C 2 dX11_mark_164 rfl ?_
                refine z_iald C hK 0 (g := (u 5)) (i := m) 5 (WM_5 a c ((up u 0 (34) (tr)))) rfl (by decide) (by omega) dX11_mark_165 ?_
                refine z_as (b := u 5 (m)) rfl ?_
                exact kret (u 5 (m)) ((up u 0 (34) (tr))) _ _ (Or.inl ⟨by omega, by omega, Or.inl (⟨by omega, rfl, by rw [show tr = u 0 34 + 1 by omega]⟩)⟩) dX11_mark_166
              by_cases h69 : k = 1
              · refine z_tableIn C (off := 40) 167 dX11_mark_127 (by omega) ⟨by omega, by omega⟩ (by rw [h69]; rfl) (by decide) ?_
                refine z_aload_n C 0 dX11_mark_167 rfl ?_
                refine z_get C hK (v := .ref (a 5)) inX11_mark_X11 0 (WM_0 a c ((up u 0 (34) (tr)))) rfl 14 (by decide) (List.mem_of_getElem? (i := 11) rfl) rfl dX11_mark_168 ?_
                refine z_iload_n C 2 dX11_mark_171 rfl ?_
                refine z_iald C hK 0 (g := (u 5)) (i := m) 5 (WM_5 a c ((up u 0 (34) (tr)))) rfl (by decide) (by omega) dX11_mark_172 ?_
                refine z_as (b := u 5 (m)) rfl ?_
                refine z_aload_n C 0 dX11_mark_173 rfl ?_
                refine z_get C hK (v := .ref (a 7)) inX11_mark_X11 0 (WM_0 a c ((up u 0 (34) (tr)))) rfl 16 (by decide) (List.mem_of_getElem? (i := 12) rfl) rfl dX11_mark_174 ?_
                refine z_iload_n C 2 dX11_mark_177 rfl ?_
                refine z_iald C hK 0 (g := (u 7)) (i := m) 7 (WM_7 a c ((up u 0 (34) (tr)))) rfl (by decide) (by omega) dX11_mark_178 ?_
                refine z_as (b := u 7 (m)) rfl ?_
                refine z_iadd C dX11_mark_179 ?_
                exact kret ((u 5 (m)) + (u 7 (m))) ((up u 0 (34) (tr))) _ _ (Or.inl ⟨by omega, by omega, Or.inr (Or.inl (⟨by omega, rfl, by rw [show tr = u 0 34 + 11 by omega]⟩))⟩) dX11_mark_180
              by_cases h70 : k = 2
              · refine z_tableIn C (off := 54) 181 dX11_mark_127 (by omega) ⟨by omega, by omega⟩ (by rw [h70]; rfl) (by decide) ?_
                refine z_aload_n C 0 dX11_mark_181 rfl ?_
                refine z_get C hK (v := .ref (a 5)) inX11_mark_X11 0 (WM_0 a c ((up u 0 (34) (tr)))) rfl 14 (by decide) (List.mem_of_getElem? (i := 11) rfl) rfl dX11_mark_182 ?_
                refine z_iload_n C 2 dX11_mark_185 rfl ?_
                refine z_iald C hK 0 (g := (u 5)) (i := m) 5 (WM_5 a c ((up u 0 (34) (tr)))) rfl (by decide) (by omega) dX11_mark_186 ?_
                refine z_as (b := u 5 (m)) rfl ?_
                refine z_aload_n C 0 dX11_mark_187 rfl ?_
                refine z_get C hK (v := .ref (a 9)) inX11_mark_X11 0 (WM_0 a c ((up u 0 (34) (tr)))) rfl 18 (by decide) (List.mem_of_getElem? (i := 13) rfl) rfl dX11_mark_188 ?_
                refine z_iconst C dX11_mark_191 ?_
                refine z_iald C hK 0 (g := (u 9)) (i := 1) 9 (WM_9 a c ((up u 0 (34) (tr)))) rfl (by decide) (by omega) dX11_mark_192 ?_
                refine z_as (b := u 9 1) rfl ?_
                refine z_isub C dX11_mark_193 ?_
                exact kret ((u 5 (m)) - (u 9 1)) ((up u 0 (34) (tr))) _ _ (Or.inl ⟨by omega, by omega, Or.inr (Or.inr (Or.inl (⟨by omega, rfl, by rw [show tr = u 0 34 + 101 by omega]⟩)))⟩) dX11_mark_194
              by_cases h71 : k = 3
              · refine z_tableIn C (off := 68) 195 dX11_mark_127 (by omega) ⟨by omega, by omega⟩ (by rw [h71]; rfl) (by decide) ?_
                refine z_iconst C dX11_mark_195 ?_
                refine z_aload_n C 0 dX11_mark_196 rfl ?_
                refine z_get C hK (v := .ref (a 5)) inX11_mark_X11 0 (WM_0 a c ((up u 0 (34) (tr)))) rfl 14 (by decide) (List.mem_of_getElem? (i := 11) rfl) rfl dX11_mark_197 ?_
                refine z_iload_n C 2 dX11_mark_200 rfl ?_
                refine z_iald C hK 0 (g := (u 5)) (i := m) 5 (WM_5 a c ((up u 0 (34) (tr)))) rfl (by decide) (by omega) dX11_mark_201 ?_
                refine z_as (b := u 5 (m)) rfl ?_
                refine z_aload_n C 0 dX11_mark_202 rfl ?_
                refine z_get C hK (v := .ref (a 7)) inX11_mark_X11 0 (WM_0 a c ((up u 0 (34) (tr)))) rfl 16 (by decide) (List.mem_of_getElem? (i := 12) rfl) rfl dX11_mark_203 ?_
                refine z_iload_n C 2 dX11_mark_206 rfl ?_
                refine z_iald C hK 0 (g := (u 7)) (i := m) 7 (WM_7 a c ((up u 0 (34) (tr)))) rfl (by decide) (by omega) dX11_mark_207 ?_
                refine z_as (b := u 7 (m)) rfl ?_
                refine z_iadd C dX11_mark_208 ?_
                refine z_imul C dX11_mark_209 ?_
                exact kret (2 * ((u 5 (m)) + (u 7 (m)))) ((up u 0 (34) (tr))) _ _ (Or.inl ⟨by omega, by omega, Or.inr (Or.inr (Or.inr (Or.inl (⟨by omega, rfl, by rw [show tr = u 0 34 + 1011 by omega]⟩))))⟩) dX11_mark_210
              have h72 : k = 4 := by omega
              refine z_tableIn C (off := 84) 211 dX11_mark_127 (by omega) ⟨by omega, by omega⟩ (by rw [h72]; rfl) (by decide) ?_
              refine z_aload_n C 0 dX11_mark_211 rfl ?_
              refine z_get C hK (v := .ref (a 5)) inX11_mark_X11 0 (WM_0 a c ((up u 0 (34) (tr)))) rfl 14 (by decide) (List.mem_of_getElem? (i := 11) rfl) rfl dX11_mark_212 ?_
              refine z_iload_n C 2 dX11_mark_215 rfl ?_
              refine z_iald C hK 0 (g := (u 5)) (i := m) 5 (WM_5 a c ((up u 0 (34) (tr)))) rfl (by decide) (by omega) dX11_mark_216 ?_
              refine z_as (b := u 5 (m)) rfl ?_
              refine z_aload_n C 0 dX11_mark_217 rfl ?_
              refine z_get C hK (v := .ref (a 9)) inX11_mark_X11 0 (WM_0 a c ((up u 0 (34) (tr)))) rfl 18 (by decide) (List.mem_of_getElem? (i := 13) rfl) rfl dX11_mark_218 ?_
              refine z_iconst C dX11_mark_221 ?_
              refine z_iald C hK 0 (g := (u 9)) (i := 1) 9 (WM_9 a c ((up u 0 (34) (tr)))) rfl (by decide) (by omega) dX11_mark_222 ?_
              refine z_as (b := u 9 1) rfl ?_
              refine z_isub C dX11_mark_223 ?_
              refine z_iload_n C 2 dX11_mark_224 rfl ?_
              refine z_iadd C dX11_mark_225 ?_
              exact kret (((u 5 (m)) - (u 9 1)) + m) ((up u 0 (34) (tr))) _ _ (Or.inl ⟨by omega, by omega, Or.inr (Or.inr (Or.inr (Or.inr (Or.inl (⟨by omega, rfl, by rw [show tr = u 0 34 + 10101 by omega]⟩)))))⟩) dX11_mark_226
            · skip
              have hst := hI.stands i hi.1 (by omega)
              refine z_iload_n C 3 dX11_mark_101 rfl ?_
              refine z_aload_n C 0 dX11_mark_102 rfl ?_
              refine z_get C hK (v := .ref (a 8)) inX11_mark_X11 0 (WM_0 a c ((up u 0 (34) (tr)))) rfl 17 (by decide) (List.mem_of_getElem? (i := 10) rfl) rfl dX11_mark_103 ?_
              refine z_iload C 4 dX11_mark_106 rfl ?_
              refine z_iald C hK 0 (g := (u 8)) (i := i) 8 (WM_8 a c ((up u 0 (34) (tr)))) rfl (by decide) (by omega) dX11_mark_108 ?_
              refine z_as (b := u 8 (i)) rfl ?_
              refine z_iload_n C 2 dX11_mark_109 rfl ?_
              refine z_icmp_ne C 117 dX11_mark_110 (by decide) (by omega) (fun h73 => ?_) (fun h73 => ?_)
              · skip
                refine z_iconst C dX11_mark_117 ?_
                refine z_iadd C dX11_mark_118 ?_
                refine z_istore_n C [(3, .int (zI (b + 0))), (0, .ref (a 0)), (1, .int (zI k)), (2, .int (zI m)), (4, .int (zI i))] dX11_mark_119 rfl (by decide) rfl ?_
                refine z_iinc C 4 [(4, .int (zI (i + 1))), (3, .int (zI (b + 0))), (0, .ref (a 0)), (1, .int (zI k)), (2, .int (zI m))] dX11_mark_120 rfl (by decide) rfl ?_
                refine z_goto C 92 dX11_mark_123 (by decide) ?_
                refine z_lv [(0, .ref (a 0)), (1, .int (zI k)), (2, .int (zI m)), (3, .int (zI (b + 0))), (4, .int (zI (i + 1)))] [2, 3, 4, 1, 0] rfl ?_
                exact ih92 (i + 1) (b + 0) tr (by omega) (by rw [show (i + 1).toNat = i.toNat + 1 by omega, cnt, Int.toNat_of_nonneg hi.1]; first | rw [if_pos (by omega)]; omega | rw [if_neg (by omega)]; omega) (by omega) (by omega) (by omega) (by omega)
              · skip
                refine z_iconst C dX11_mark_113 ?_
                refine z_goto C 118 dX11_mark_114 (by decide) ?_
                refine z_iadd C dX11_mark_118 ?_
                refine z_istore_n C [(3, .int (zI (b + 1))), (0, .ref (a 0)), (1, .int (zI k)), (2, .int (zI m)), (4, .int (zI i))] dX11_mark_119 rfl (by decide) rfl ?_
                refine z_iinc C 4 [(4, .int (zI (i + 1))), (3, .int (zI (b + 1))), (0, .ref (a 0)), (1, .int (zI k)), (2, .int (zI m))] dX11_mark_120 rfl (by decide) rfl ?_
                refine z_goto C 92 dX11_mark_123 (by decide) ?_
                refine z_lv [(0, .ref (a 0)), (1, .int (zI k)), (2, .int (zI m)), (3, .int (zI (b + 1))), (4, .int (zI (i + 1)))] [2, 3, 4, 1, 0] rfl ?_
                exact ih92 (i + 1) (b + 1) tr (by omega) (by rw [show (i + 1).toNat = i.toNat + 1 by omega, cnt, Int.toNat_of_nonneg hi.1]; first | rw [if_pos (by omega)]; omega | rw [if_neg (by omega)]; omega) (by omega) (by omega) (by omega) (by omega)
        refine z_lv [(0, .ref (a 0)), (1, .int (zI k)), (2, .int (zI m)), (3, .int (zI 0)), (4, .int (zI 0))] [2, 3, 4, 1, 0] rfl ?_
        exact L92_64 (((u 0 13 - 0 : Int)).toNat + 1) 0 0 ((u 0 34) + 1) (by omega) (rfl) (by omega) (by omega) (by omega) (by omega)
    · skip
      refine z_ldc C (v := (-1000000)) (z := (-1000000)) (by decide) (List.mem_of_getElem? (i := 2) rfl) dX11_mark_20 ?_
      exact kret (-1000000) u _ _ (Or.inr ⟨by omega, rfl, rfl⟩) dX11_mark_22
