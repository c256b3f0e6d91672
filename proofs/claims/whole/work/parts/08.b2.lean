/-! ===== contracts: the face's small methods ===== -/
theorem up_up (u : zU) (c : Nat) (k x y : Int) : up (up u c k x) c k y = up u c k y := by
  funext c' i
  unfold up
  by_cases h : c' = c <;> by_cases h2 : i = k <;> simp [h, h2]
def cnt (S : Int → Int) (m : Int) : Nat → Int
  | 0 => 0
  | n + 1 => cnt S m n + (if S n = m then 1 else 0)
def cpy (d s : Nat) (u : zU) : zU := up (up (up (up (up (us (us (us (us (us u (d + 1) (fun j => if j < 8 then u (s + 1) j else u (d + 1) j)) (d + 2) (fun j => if j < 3 then u (s + 2) j else u (d + 2) j)) (d + 3) (fun j => if j < 6 then u (s + 3) j else u (d + 3) j)) (d + 4) (fun j => if j < 6 then u (s + 4) j else u (d + 4) j)) (d + 5) (fun j => if j < 8 then u (s + 5) j else u (d + 5) j)) d 5 (u s 5)) d 6 (u s 6)) d 7 (u s 7)) d 8 (u s 8)) d 9 (u s 9)
def bgN (u : zU) : zU := up (up (up (up (up (us (us u 18 (fun j => if j < 8 then u 4 j else u 18 j)) 19 (fun j => if j < 3 then u 7 j else u 19 j)) 17 5 0) 17 6 (u 3 7)) 17 7 8) 17 8 0) 17 9 0
def cpT (u : zU) : zU := up (up (up (up (up (us (us (us (us u 4 (fun j => if j < 8 then u 9 j else u 4 j)) 5 (fun j => if j < 8 then u 10 j else u 5 j)) 6 (fun j => if j < 8 then u 11 j else u 6 j)) 7 (fun j => if j < 3 then u 12 j else u 7 j)) 3 4 (u 8 4)) 3 5 (u 8 5)) 3 6 (u 8 6)) 3 7 (u 8 7)) 3 8 (u 8 8)
theorem IB.put_rope {u : zU} (h : IB u) {m : Int} (hm : 0 ≤ m ∧ m ≤ 8) : IB (up u 17 7 m) := ⟨h.1, h.2.1, ⟨h.2.2.1.1, h.2.2.1.2.1, hm, h.2.2.1.2.2.2⟩, h.2.2.2⟩
theorem IB.has {u : zU} (h : IB u) : (u 36 0 = 0 ∨ u 36 0 = 1) ∧ (u 36 1 = 0 ∨ u 36 1 = 1) := ⟨h.2.2.2.1.elim Or.inl (fun q => Or.inr q.1), h.2.2.2.2.1.elim Or.inl (fun q => Or.inr q.1)⟩
theorem year_step {P W w : Int → Int} {i : Int} (hi : 0 ≤ i) (hw : ∀ j : Int, w j = if 0 ≤ j ∧ j < i then wrn (P j) (W j) 1 else P j) : ∀ j : Int, (if j = i then wrn (w i) (W i) 1 else w j) = if 0 ≤ j ∧ j < i + 1 then wrn (P j) (W j) 1 else P j := by
  intro j
  by_cases e : j = i
  · subst e
    rw [if_pos rfl, hw j, if_neg (by omega), if_pos (by omega)]
  · rw [if_neg e, hw j]
    by_cases q : 0 ≤ j ∧ j < i
    · rw [if_pos q, if_pos (by omega)]
    · rw [if_neg q, if_neg (by omega)]
theorem echo_shl {e i : Int} (he : 0 ≤ e ∧ e ≤ 1) (hi : 0 ≤ i ∧ i < 8) : zI e <<< (zI i &&& 31) = zI ((if e = 1 then 2 ^ i.toNat else 0 : Nat) : Int) := by
  rcases (by omega : e = 0 ∨ e = 1) with rfl | rfl
  · rw [zI_shlE (by omega)]; simp
  · rw [zI_1shl (by omega)]; simp
theorem echo_step {E : Int → Int} {i : Int} (hi : 0 ≤ i) (he : 0 ≤ E i ∧ E i ≤ 1) : ((bn (fun q => decide (E q = 1)) i.toNat ||| (if E i = 1 then 2 ^ i.toNat else 0) : Nat) : Int) = ((bn (fun q => decide (E q = 1)) (i + 1).toNat : Nat) : Int) := by
  by_cases h : E i = 1
  · rw [if_pos h]
    exact bn_stepI hi (by show decide (E (i.toNat : Int) = 1) = true; rw [Int.toNat_of_nonneg hi]; exact decide_eq_true h)
  · rw [if_neg h, Nat.or_zero]
    exact bn_skipI hi (by show decide (E (i.toNat : Int) = 1) = false; rw [Int.toNat_of_nonneg hi]; exact decide_eq_false h)
/-- the k-th byte of V, from the lowest -/
def byt (V k : Int) : Int := (V / 2 ^ (8 * k.toNat)) % 256
def tyf (f : Int → Int) (t V n : Int) : Int → Int := fun j => if t ≤ j ∧ j < t + n then byt V (n - 1 - (j - t)) else f j
theorem byt_bd (V k : Int) : 0 ≤ byt V k ∧ byt V k ≤ 255 := by unfold byt; omega
theorem byt_u {V i : Int} (hi : 0 ≤ i ∧ i ≤ 7) : zI ((((zL V).toUInt64 >>> ((zI (8 * i)).toInt64.toUInt64 &&& Int64.toUInt64 63)).toInt64).toInt32).toInt &&& zI 255 = zI (byt V i) := by
  have hk : ∀ k : Fin 8, ((zI (8 * (k.val : Int))).toInt64.toUInt64 &&& Int64.toUInt64 63) = UInt64.ofNat (8 * k.val) := by decide
  have h1 := hk ⟨i.toNat, by omega⟩
  rw [show ((i.toNat : Nat) : Int) = i by omega] at h1
  rw [h1]
  have h2 : ∀ X : Int64, zI X.toInt32.toInt &&& zI 255 = zI ((X.toBitVec.toNat % 256 : Nat) : Int) := by
    intro X
    rw [← zI_of X.toInt32]
    apply Int32.toBitVec.inj
    rw [Int32.toBitVec_and, Int64.toBitVec_toInt32, zI_bv (X.toBitVec.toNat % 256)]
    apply BitVec.eq_of_toNat_eq
    rw [BitVec.signExtend_eq_setWidth_of_le _ (by decide), BitVec.toNat_and, BitVec.toNat_setWidth, show (zI 255).toBitVec.toNat = 2 ^ 8 - 1 by decide, Nat.and_two_pow_sub_one_eq_mod, BitVec.toNat_ofNat]
    omega
  rw [h2]
  congr 1
  have h3 : ((zL V).toUInt64 >>> UInt64.ofNat (8 * i.toNat)).toInt64.toBitVec.toNat = (V % 18446744073709551616).toNat / 2 ^ (8 * i.toNat) := by
    show ((zL V).toUInt64 >>> UInt64.ofNat (8 * i.toNat)).toBitVec.toNat = _
    rw [UInt64.toBitVec_shiftRight]
    have e1 : (UInt64.ofNat (8 * i.toNat)).toBitVec % 64 = BitVec.ofNat 64 (8 * i.toNat) := by
      apply BitVec.eq_of_toNat_eq
      simp only [UInt64.toBitVec_ofNat', BitVec.toNat_umod, BitVec.toNat_ofNat, show BitVec.toNat (64 : BitVec 64) = 64 from rfl]
      omega
    rw [e1]
    have e2 : (zL V).toUInt64.toBitVec = BitVec.ofInt 64 V := rfl
    rw [e2, BitVec.ushiftRight_eq', BitVec.toNat_ushiftRight, BitVec.toNat_ofNat, BitVec.toNat_ofInt, Nat.shiftRight_eq_div_pow]
    congr 2
    omega
  rw [h3]
  unfold byt
  rcases (by omega : i = 0 ∨ i = 1 ∨ i = 2 ∨ i = 3 ∨ i = 4 ∨ i = 5 ∨ i = 6 ∨ i = 7) with e | e | e | e | e | e | e | e <;> subst e <;> simp only [show (0 : Int).toNat = 0 from rfl, show (1 : Int).toNat = 1 from rfl, show (2 : Int).toNat = 2 from rfl, show (3 : Int).toNat = 3 from rfl, show (4 : Int).toNat = 4 from rfl, show (5 : Int).toNat = 5 from rfl, show (6 : Int).toNat = 6 from rfl, show (7 : Int).toNat = 7 from rfl, Nat.reduceMul, Nat.reducePow, Int.reducePow] <;> omega
theorem type_step {f w : Int → Int} {T V n i t : Int} (hi : -1 ≤ i ∧ i < n) (ht : t = T + (n - 1 - i)) (hw : ∀ j : Int, w j = if T ≤ j ∧ j < t then byt V (n - 1 - (j - T)) else f j) : ∀ j : Int, (if j = t then byt V i else w j) = if T ≤ j ∧ j < t + 1 then byt V (n - 1 - (j - T)) else f j := by
  intro j
  by_cases e : j = t
  · rw [if_pos e, if_pos (by omega), show n - 1 - (j - T) = i by omega]
  · rw [if_neg e, hw j]
    by_cases q : T ≤ j ∧ j < t
    · rw [if_pos q, if_pos (by omega)]
    · rw [if_neg q, if_neg (by omega)]
theorem type_end {f w : Int → Int} {T V n i t : Int} (hi : i = -1) (ht : t = T + (n - 1 - i)) (hw : ∀ j : Int, w j = if T ≤ j ∧ j < t then byt V (n - 1 - (j - T)) else f j) : w = tyf f T V n := by
  funext j
  rw [hw j, show t = T + n by omega]
  rfl
theorem zy_X10_isLevel : zY yX10_isLevel 1 := ⟨by decide +kernel, by decide +kernel, by decide +kernel⟩
theorem zy_X10_isMan : zY yX10_isMan 1 := ⟨by decide +kernel, by decide +kernel, by decide +kernel⟩
theorem zy_X10_silentLevels : zY yX10_silentLevels 0 := ⟨by decide +kernel, by decide +kernel, by decide +kernel⟩
theorem zy_X10_level : zY yX10_level 2 := ⟨by decide +kernel, by decide +kernel, by decide +kernel⟩
theorem zy_X10_man : zY yX10_man 1 := ⟨by decide +kernel, by decide +kernel, by decide +kernel⟩
theorem zy_X10_wet : zY yX10_wet 1 := ⟨by decide +kernel, by decide +kernel, by decide +kernel⟩
theorem zy_X10_taken : zY yX10_taken 1 := ⟨by decide +kernel, by decide +kernel, by decide +kernel⟩
theorem zy_X10_comes : zY yX10_comes 1 := ⟨by decide +kernel, by decide +kernel, by decide +kernel⟩
theorem zy_X10_climbs : zY yX10_climbs 2 := ⟨by decide +kernel, by decide +kernel, by decide +kernel⟩
theorem zy_X10_plucks : zY yX10_plucks 1 := ⟨by decide +kernel, by decide +kernel, by decide +kernel⟩
theorem zy_X10_falls : zY yX10_falls 1 := ⟨by decide +kernel, by decide +kernel, by decide +kernel⟩
theorem zy_X10_mends : zY yX10_mends 0 := ⟨by decide +kernel, by decide +kernel, by decide +kernel⟩
theorem zy_X10_forget : zY yX10_forget 0 := ⟨by decide +kernel, by decide +kernel, by decide +kernel⟩
theorem zy_X10_hush : zY yX10_hush 0 := ⟨by decide +kernel, by decide +kernel, by decide +kernel⟩
theorem zy_X10_sing : zY yX10_sing 1 := ⟨by decide +kernel, by decide +kernel, by decide +kernel⟩
theorem zy_X10_heard : zY yX10_heard 2 := ⟨by decide +kernel, by decide +kernel, by decide +kernel⟩
theorem zy_X10_year : zY yX10_year 0 := ⟨by decide +kernel, by decide +kernel, by decide +kernel⟩
theorem zy_X10_count : zY yX10_count 1 := ⟨by decide +kernel, by decide +kernel, by decide +kernel⟩
theorem zy_X10_trace : zY yX10_trace 0 := ⟨by decide +kernel, by decide +kernel, by decide +kernel⟩
theorem zy_X7_drop : zY yX7_drop 0 := ⟨by decide +kernel, by decide +kernel, by decide +kernel⟩
theorem zy_X10_clear : zY yX10_clear 0 := ⟨by decide +kernel, by decide +kernel, by decide +kernel⟩
theorem zy_X1_asLevel : zY yX1_asLevel 1 := ⟨by decide +kernel, by decide +kernel, by decide +kernel⟩
theorem zy_X1_asGallery : zY yX1_asGallery 1 := ⟨by decide +kernel, by decide +kernel, by decide +kernel⟩
theorem zy_X1_asSump : zY yX1_asSump 1 := ⟨by decide +kernel, by decide +kernel, by decide +kernel⟩
theorem zy_X1_asDeep : zY yX1_asDeep 1 := ⟨by decide +kernel, by decide +kernel, by decide +kernel⟩
theorem zy_X1_asDrowned : zY yX1_asDrowned 1 := ⟨by decide +kernel, by decide +kernel, by decide +kernel⟩
theorem zy_X1_menAt : zY yX1_menAt 1 := ⟨by decide +kernel, by decide +kernel, by decide +kernel⟩
theorem zy_X1_asStage : zY yX1_asStage 1 := ⟨by decide +kernel, by decide +kernel, by decide +kernel⟩
theorem zy_X1_markAs : zY yX1_markAs 2 := ⟨by decide +kernel, by decide +kernel, by decide +kernel⟩
theorem zy_X10_mark : zY yX10_mark 2 := ⟨by decide +kernel, by decide +kernel, by decide +kernel⟩
theorem zy_X2_copyFrom : zY yX2_copyFrom 1 := ⟨by decide +kernel, by decide +kernel, by decide +kernel⟩
theorem zy_X2_begin : zY yX2_begin 1 := ⟨by decide +kernel, by decide +kernel, by decide +kernel⟩
theorem zy_X8_copyFrom : zY yX8_copyFrom 1 := ⟨by decide +kernel, by decide +kernel, by decide +kernel⟩
theorem zy_X8_reset : zY yX8_reset 0 := ⟨by decide +kernel, by decide +kernel, by decide +kernel⟩
theorem zy_X8_echoLevels : zY yX8_echoLevels 0 := ⟨by decide +kernel, by decide +kernel, by decide +kernel⟩
theorem zy_X10_keep : zY yX10_keep 1 := ⟨by decide +kernel, by decide +kernel, by decide +kernel⟩
theorem zy_X10_back : zY yX10_back 1 := ⟨by decide +kernel, by decide +kernel, by decide +kernel⟩
theorem zy_X7_append : zY yX7_append 2 := ⟨by decide +kernel, by decide +kernel, by decide +kernel⟩
theorem zy_X10_type : zY yX10_type 2 := ⟨by decide +kernel, by decide +kernel, by decide +kernel⟩
-- NoteBells.isLevel
theorem inX10_isLevel_X10 : ∀ w ∈ wsX100, w ∈ wsX10_isLevel := fun w h => List.mem_cons_of_mem _ (List.mem_append_left _ (List.mem_append_right _ (h)))
theorem inX10_isLevel_X8 : ∀ w ∈ wsX80, w ∈ wsX10_isLevel := fun w h => List.mem_cons_of_mem _ (List.mem_append_right _ (h))
set_option maxHeartbeats 8000000 in
set_option maxRecDepth 100000 in
theorem c_X10_isLevel (l : Launch) (D : va_G) (a : Nat → Nat) (c : Nat → ClassId) (u : zU) (m : Int) (hI : IB u) (b_m : -2147483648 ≤ m ∧ m < 2147483648) : ZM l D (zTy c) (WB a c) yX10_isLevel wsX10_isLevel 2 [.ref (a 0), .int (zI m)] u rI (fun z u' => u' = u ∧ ((z = 1 ∧ 0 ≤ m ∧ m < u 3 4) ∨ (z = 0 ∧ ¬ (0 ≤ m ∧ m < u 3 4)))) := by
  refine ZM.ofZ (cc := cX10_isLevel) (maxL := 2) [(0, .ref (a 0)), (1, .int (zI m))] rfl (by decide +kernel) rfl (Nat.le_of_ble_eq_true rfl) (WB_addr a c) ?_
  intro x C hK _ _ hDD kret
  have hlv := hI.lev
  refine z_iload_n C 1 dX10_isLevel_0 rfl ?_
  refine z_iconst C dX10_isLevel_1 ?_
  refine z_aload_n C 0 dX10_isLevel_2 rfl ?_
  refine z_get C hK (v := .ref (a 3)) inX10_isLevel_X10 0 (WB_0 a c u) rfl 1 (by decide) (List.mem_of_getElem? (i := 1) rfl) rfl dX10_isLevel_3 ?_
  refine z_getN C hK (v := .int (zI (u 3 4))) inX10_isLevel_X8 3 (WB_3 a c u) rfl 4 (by decide) (List.mem_of_getElem? (i := 7) rfl) rfl dX10_isLevel_6 ?_
  refine z_iconst C dX10_isLevel_9 ?_
  refine z_isub C dX10_isLevel_10 ?_
  refine z_callS C hK hDD (c_X10_isWithin (zl x) (zG x) ((WB a c)) (WB_addr a c) u m 0 ((u 3 4) - 1) (by omega) (by omega) (by omega)) gX10_isLevel_X10_isWithin rfl rfl zy_X10_isWithin ⟨by omega, by decide⟩ rfl (Nat.le_of_ble_eq_true rfl) (st := []) (stk2 := fun z1 => [.int (zI z1)]) rfl (fun _ => rfl) dX10_isLevel_11 (fun z1 u2 h3 => ?_)
  rw [h3.1]; replace h3 := h3.2
  exact kret z1 u _ _ (⟨rfl, by omega⟩) (by omega) dX10_isLevel_14
-- NoteBells.isMan
theorem inX10_isMan_X10 : ∀ w ∈ wsX100, w ∈ wsX10_isMan := fun w h => List.mem_cons_of_mem _ (List.mem_append_left _ (List.mem_append_right _ (h)))
theorem inX10_isMan_X8 : ∀ w ∈ wsX80, w ∈ wsX10_isMan := fun w h => List.mem_cons_of_mem _ (List.mem_append_right _ (h))
set_option maxHeartbeats 8000000 in
set_option maxRecDepth 100000 in
theorem c_X10_isMan (l : Launch) (D : va_G) (a : Nat → Nat) (c : Nat → ClassId) (u : zU) (m : Int) (hI : IB u) (b_m : -2147483648 ≤ m ∧ m < 2147483648) : ZM l D (zTy c) (WB a c) yX10_isMan wsX10_isMan 2 [.ref (a 0), .int (zI m)] u rI (fun z u' => u' = u ∧ ((z = 1 ∧ 0 ≤ m ∧ m < u 3 5) ∨ (z = 0 ∧ ¬ (0 ≤ m ∧ m < u 3 5)))) := by
  refine ZM.ofZ (cc := cX10_isMan) (maxL := 2) [(0, .ref (a 0)), (1, .int (zI m))] rfl (by decide +kernel) rfl (Nat.le_of_ble_eq_true rfl) (WB_addr a c) ?_
  intro x C hK _ _ hDD kret
  have hpp := hI.ppl
  refine z_iload_n C 1 dX10_isMan_0 rfl ?_
  refine z_iconst C dX10_isMan_1 ?_
  refine z_aload_n C 0 dX10_isMan_2 rfl ?_
  refine z_get C hK (v := .ref (a 3)) inX10_isMan_X10 0 (WB_0 a c u) rfl 1 (by decide) (List.mem_of_getElem? (i := 1) rfl) rfl dX10_isMan_3 ?_
  refine z_getN C hK (v := .int (zI (u 3 5))) inX10_isMan_X8 3 (WB_3 a c u) rfl 5 (by decide) (List.mem_of_getElem? (i := 13) rfl) rfl dX10_isMan_6 ?_
  refine z_iconst C dX10_isMan_9 ?_
  refine z_isub C dX10_isMan_10 ?_
  refine z_callS C hK hDD (c_X10_isWithin (zl x) (zG x) ((WB a c)) (WB_addr a c) u m 0 ((u 3 5) - 1) (by omega) (by omega) (by omega)) gX10_isMan_X10_isWithin rfl rfl zy_X10_isWithin ⟨by omega, by decide⟩ rfl (Nat.le_of_ble_eq_true rfl) (st := []) (stk2 := fun z1 => [.int (zI z1)]) rfl (fun _ => rfl) dX10_isMan_11 (fun z1 u2 h3 => ?_)
  rw [h3.1]; replace h3 := h3.2
  exact kret z1 u _ _ (⟨rfl, by omega⟩) (by omega) dX10_isMan_14
-- NoteBells.silentLevels
theorem inX10_silentLevels_X10 : ∀ w ∈ wsX100, w ∈ wsX10_silentLevels := fun w h => List.mem_cons_of_mem _ (List.mem_append_left _ (List.mem_append_left _ (List.mem_append_right _ (h))))
theorem inX10_silentLevels_X8 : ∀ w ∈ wsX80, w ∈ wsX10_silentLevels := fun w h => List.mem_cons_of_mem _ (List.mem_append_left _ (List.mem_append_right _ (h)))
theorem inX10_silentLevels_X2 : ∀ w ∈ wsX20, w ∈ wsX10_silentLevels := fun w h => List.mem_cons_of_mem _ (List.mem_append_right _ (h))
set_option maxHeartbeats 8000000 in
set_option maxRecDepth 100000 in
theorem c_X10_silentLevels (l : Launch) (D : va_G) (a : Nat → Nat) (c : Nat → ClassId) (u : zU)  (hI : IB u) : ZM l D (zTy c) (WB a c) yX10_silentLevels wsX10_silentLevels 2 [.ref (a 0)] u rI (fun z u' => u' = u ∧ ((0 < u 3 4 - u 17 7 ∧ z = u 3 4 - u 17 7) ∨ (u 3 4 - u 17 7 ≤ 0 ∧ z = 0))) := by
  refine ZM.ofI (cc := cX10_silentLevels) (maxL := 1) [(0, .ref (a 0))] rfl (by decide +kernel) rfl (Nat.le_of_ble_eq_true rfl) (WB_addr a c) ?_
  intro x C hK _ _ hDD kret
  have hlv := hI.lev
  have hro := hI.rope
  refine z_iconst C dX10_silentLevels_0 ?_
  refine z_aload_n C 0 dX10_silentLevels_1 rfl ?_
  refine z_get C hK (v := .ref (a 3)) inX10_silentLevels_X10 0 (WB_0 a c u) rfl 1 (by decide) (List.mem_of_getElem? (i := 1) rfl) rfl dX10_silentLevels_2 ?_
  refine z_getN C hK (v := .int (zI (u 3 4))) inX10_silentLevels_X8 3 (WB_3 a c u) rfl 4 (by decide) (List.mem_of_getElem? (i := 7) rfl) rfl dX10_silentLevels_5 ?_
  refine z_aload_n C 0 dX10_silentLevels_8 rfl ?_
  refine z_get C hK (v := .ref (a 17)) inX10_silentLevels_X10 0 (WB_0 a c u) rfl 4 (by decide) (List.mem_of_getElem? (i := 2) rfl) rfl dX10_silentLevels_9 ?_
  refine z_getN C hK (v := .int (zI (u 17 7))) inX10_silentLevels_X2 17 (WB_17 a c u) rfl 7 (by decide) (List.mem_of_getElem? (i := 5) rfl) rfl dX10_silentLevels_12 ?_
  refine z_isub C dX10_silentLevels_15 ?_
  refine z_max C (by omega) (List.mem_of_getElem? (i := 3) rfl) (List.mem_of_getElem? (i := 4) rfl) (List.mem_of_getElem? (i := 5) rfl) (List.mem_of_getElem? (i := 6) rfl) (Nat.le_of_ble_eq_true rfl) (by omega) dX10_silentLevels_16 (fun r1 h2 => ?_)
  exact kret r1 u _ _ (⟨rfl, by omega⟩) dX10_silentLevels_19
-- NoteBells.level
theorem inX10_level_X10 : ∀ w ∈ wsX100, w ∈ wsX10_level := fun w h => List.mem_cons_of_mem _ (List.mem_append_left _ (List.mem_append_left _ (List.mem_append_left _ (List.mem_append_right _ (h)))))
theorem inX10_level_X2 : ∀ w ∈ wsX20, w ∈ wsX10_level := fun w h => List.mem_cons_of_mem _ (List.mem_append_left _ (List.mem_append_left _ (List.mem_append_right _ (h))))
theorem inX10_level_X8 : ∀ w ∈ wsX80, w ∈ wsX10_level := fun w h => List.mem_cons_of_mem _ (List.mem_append_left _ (List.mem_append_right _ (h)))
set_option maxHeartbeats 8000000 in
set_option maxRecDepth 100000 in
theorem c_X10_level (l : Launch) (D : va_G) (a : Nat → Nat) (c : Nat → ClassId) (u : zU) (m k : Int) (hI : IB u) (b_m : -2147483648 ≤ m ∧ m < 2147483648) (b_k : -2147483648 ≤ k ∧ k < 2147483648) : ZM l D (zTy c) (WB a c) yX10_level wsX10_level 5 [.ref (a 0), .int (zI m), .int (zI k)] u rI (fun z u' => u' = u ∧ (((0 ≤ m ∧ m < u 3 4) ∧ ((k = 0 ∧ z = u 18 m) ∨ (k = 1 ∧ z = u 5 m) ∨ (k = 2 ∧ z = u 6 m) ∨ (k = 3 ∧ z = snd (u 18 m) (u 17 6) m))) ∨ (¬ ((0 ≤ m ∧ m < u 3 4) ∧ 0 ≤ k ∧ k ≤ 3) ∧ z = -1000000))) := by
  refine ZM.ofI (cc := cX10_level) (maxL := 3) [(0, .ref (a 0)), (1, .int (zI m)), (2, .int (zI k))] rfl (by decide +kernel) rfl (Nat.le_of_ble_eq_true rfl) (WB_addr a c) ?_
  intro x C hK _ _ hDD kret
  have hlv := hI.lev
  refine z_aload_n C 0 dX10_level_0 rfl ?_
  refine z_iload_n C 1 dX10_level_1 rfl ?_
  refine z_callV C hK hDD (c_X10_isLevel (zl x) (zG x) a c u m (hI) (by omega)) gX10_level_X10_isLevel rfl zy_X10_isLevel 0 (WB_0 a c u) rfl ⟨by omega, by decide⟩ rfl (Nat.le_of_ble_eq_true rfl) (st := []) (stk2 := fun z1 => [.int (zI z1)]) rfl (fun _ => rfl) dX10_level_2 (fun z1 u2 h3 => ?_)
  rw [h3.1]; replace h3 := h3.2
  refine z_if_ne C 11 dX10_level_5 (by decide) (by omega) (fun h4 => ?_) (fun h4 => ?_)
  · skip
    refine z_iload_n C 2 dX10_level_11 rfl ?_
    by_cases h5 : k < 0 ∨ 3 < k
    · refine z_tableOut C 83 dX10_level_12 (by omega) h5 (by decide) ?_
      refine z_ldc C (v := (-1000000)) (z := (-1000000)) (by decide) (List.mem_of_getElem? (i := 1) rfl) dX10_level_83 ?_
      exact kret (-1000000) u _ _ (⟨rfl, Or.inr ⟨by omega, rfl⟩⟩) dX10_level_85
    by_cases h7 : k = 0
    · refine z_tableIn C (off := 32) 44 dX10_level_12 (by omega) ⟨by omega, by omega⟩ (by rw [h7]; rfl) (by decide) ?_
      refine z_aload_n C 0 dX10_level_44 rfl ?_
      refine z_get C hK (v := .ref (a 17)) inX10_level_X10 0 (WB_0 a c u) rfl 4 (by decide) (List.mem_of_getElem? (i := 2) rfl) rfl dX10_level_45 ?_
      refine z_getN C hK (v := .ref (a 18)) inX10_level_X2 17 (WB_17 a c u) rfl 0 (by decide) (List.mem_of_getElem? (i := 0) rfl) rfl dX10_level_48 ?_
      refine z_iload_n C 1 dX10_level_51 rfl ?_
      refine z_iald C hK 0 (g := (u 18)) (i := m) 18 (WB_18 a c u) rfl (by decide) (by omega) dX10_level_52 ?_
      refine z_as (b := u 18 (m)) rfl ?_
      exact kret (u 18 (m)) u _ _ (⟨rfl, Or.inl ⟨by omega, Or.inl ⟨by omega, rfl⟩⟩⟩) dX10_level_53
    by_cases h8 : k = 1
    · refine z_tableIn C (off := 42) 54 dX10_level_12 (by omega) ⟨by omega, by omega⟩ (by rw [h8]; rfl) (by decide) ?_
      refine z_aload_n C 0 dX10_level_54 rfl ?_
      refine z_get C hK (v := .ref (a 3)) inX10_level_X10 0 (WB_0 a c u) rfl 1 (by decide) (List.mem_of_getElem? (i := 3) rfl) rfl dX10_level_55 ?_
      refine z_getN C hK (v := .ref (a 5)) inX10_level_X8 3 (WB_3 a c u) rfl 1 (by decide) (List.mem_of_getElem? (i := 1) rfl) rfl dX10_level_58 ?_
      refine z_iload_n C 1 dX10_level_61 rfl ?_
      refine z_iald C hK 0 (g := (u 5)) (i := m) 5 (WB_5 a c u) rfl (by decide) (by omega) dX10_level_62 ?_
      refine z_as (b := u 5 (m)) rfl ?_
      exact kret (u 5 (m)) u _ _ (⟨rfl, Or.inl ⟨by omega, Or.inr (Or.inl ⟨by omega, rfl⟩)⟩⟩) dX10_level_63
    by_cases h9 : k = 2
    · refine z_tableIn C (off := 52) 64 dX10_level_12 (by omega) ⟨by omega, by omega⟩ (by rw [h9]; rfl) (by decide) ?_
      refine z_aload_n C 0 dX10_level_64 rfl ?_
      refine z_get C hK (v := .ref (a 3)) inX10_level_X10 0 (WB_0 a c u) rfl 1 (by decide) (List.mem_of_getElem? (i := 3) rfl) rfl dX10_level_65 ?_
      refine z_getN C hK (v := .ref (a 6)) inX10_level_X8 3 (WB_3 a c u) rfl 2 (by decide) (List.mem_of_getElem? (i := 2) rfl) rfl dX10_level_68 ?_
      refine z_iload_n C 1 dX10_level_71 rfl ?_
      refine z_iald C hK 0 (g := (u 6)) (i := m) 6 (WB_6 a c u) rfl (by decide) (by omega) dX10_level_72 ?_
      refine z_as (b := u 6 (m)) rfl ?_
      exact kret (u 6 (m)) u _ _ (⟨rfl, Or.inl ⟨by omega, Or.inr (Or.inr (Or.inl ⟨by omega, rfl⟩))⟩⟩) dX10_level_73
    have h10 : k = 3 := by omega
    refine z_tableIn C (off := 62) 74 dX10_level_12 (by omega) ⟨by omega, by omega⟩ (by rw [h10]; rfl) (by decide) ?_
    refine z_aload_n C 0 dX10_level_74 rfl ?_
    refine z_get C hK (v := .ref (a 37)) inX10_level_X10 0 (WB_0 a c u) rfl 7 (by decide) (List.mem_of_getElem? (i := 4) rfl) rfl dX10_level_75 ?_
    refine z_iload_n C 1 dX10_level_78 rfl ?_
    refine z_callVN C hK hDD (c_X6_soundOf (zl x) (zG x) a c u m (hI) (by omega)) ggX10_level_X6_soundOf (List.mem_of_getElem? (i := 15) rfl) (List.mem_of_getElem? (i := 14) rfl) (List.mem_of_getElem? (i := 13) rfl) (List.mem_of_getElem? (i := 15) rfl) rfl zy_X6_soundOf 37 (WB_37 a c u) rfl ⟨by omega, by decide⟩ rfl (Nat.le_of_ble_eq_true rfl) (st := []) (stk2 := fun z11 => [.int (zI z11)]) rfl (fun _ => rfl) dX10_level_79 (fun z11 u12 h13 => ?_)
    rw [h13.1]; replace h13 := h13.2
    refine z_as (b := snd (u 18 m) (u 17 6) m) h13 ?_
    exact kret (snd (u 18 m) (u 17 6) m) u _ _ (⟨rfl, Or.inl ⟨by omega, Or.inr (Or.inr (Or.inr ⟨by omega, rfl⟩))⟩⟩) dX10_level_82
  · skip
    refine z_ldc C (v := (-1000000)) (z := (-1000000)) (by decide) (List.mem_of_getElem? (i := 1) rfl) dX10_level_8 ?_
    exact kret (-1000000) u _ _ (⟨rfl, Or.inr ⟨by omega, rfl⟩⟩) dX10_level_10
-- NoteBells.man
theorem inX10_man_X10 : ∀ w ∈ wsX100, w ∈ wsX10_man := fun w h => List.mem_cons_of_mem _ (List.mem_append_left _ (List.mem_append_left _ (List.mem_append_right _ (h))))
theorem inX10_man_X2 : ∀ w ∈ wsX20, w ∈ wsX10_man := fun w h => List.mem_cons_of_mem _ (List.mem_append_left _ (List.mem_append_right _ (h)))
set_option maxHeartbeats 8000000 in
set_option maxRecDepth 100000 in
theorem c_X10_man (l : Launch) (D : va_G) (a : Nat → Nat) (c : Nat → ClassId) (u : zU) (m : Int) (hI : IB u) (b_m : -2147483648 ≤ m ∧ m < 2147483648) : ZM l D (zTy c) (WB a c) yX10_man wsX10_man 5 [.ref (a 0), .int (zI m)] u rI (fun z u' => u' = u ∧ ((0 ≤ m ∧ m < u 3 5 ∧ z = u 19 m) ∨ (¬ (0 ≤ m ∧ m < u 3 5) ∧ z = -1))) := by
  refine ZM.ofI (cc := cX10_man) (maxL := 2) [(0, .ref (a 0)), (1, .int (zI m))] rfl (by decide +kernel) rfl (Nat.le_of_ble_eq_true rfl) (WB_addr a c) ?_
  intro x C hK _ _ hDD kret
  have hpp := hI.ppl
  refine z_aload_n C 0 dX10_man_0 rfl ?_
  refine z_iload_n C 1 dX10_man_1 rfl ?_
  refine z_callV C hK hDD (c_X10_isMan (zl x) (zG x) a c u m (hI) (by omega)) gX10_man_X10_isMan rfl zy_X10_isMan 0 (WB_0 a c u) rfl ⟨by omega, by decide⟩ rfl (Nat.le_of_ble_eq_true rfl) (st := []) (stk2 := fun z1 => [.int (zI z1)]) rfl (fun _ => rfl) dX10_man_2 (fun z1 u2 h3 => ?_)
  rw [h3.1]; replace h3 := h3.2
  refine z_if_eq C 20 dX10_man_5 (by decide) (by omega) (fun h4 => ?_) (fun h4 => ?_)
  · skip
    refine z_iconst C dX10_man_20 ?_
    exact kret (-1) u _ _ (⟨rfl, by omega⟩) dX10_man_21
  · skip
    refine z_aload_n C 0 dX10_man_8 rfl ?_
    refine z_get C hK (v := .ref (a 17)) inX10_man_X10 0 (WB_0 a c u) rfl 4 (by decide) (List.mem_of_getElem? (i := 1) rfl) rfl dX10_man_9 ?_
    refine z_getN C hK (v := .ref (a 19)) inX10_man_X2 17 (WB_17 a c u) rfl 1 (by decide) (List.mem_of_getElem? (i := 3) rfl) rfl dX10_man_12 ?_
    refine z_iload_n C 1 dX10_man_15 rfl ?_
    refine z_iald C hK 0 (g := (u 19)) (i := m) 19 (WB_19 a c u) rfl (by decide) (by omega) dX10_man_16 ?_
    refine z_as (b := u 19 (m)) rfl ?_
    refine z_goto C 21 dX10_man_17 (by decide) ?_
    exact kret (u 19 (m)) u _ _ (⟨rfl, by omega⟩) dX10_man_21
-- NoteBells.wet
theorem inX10_wet_X10 : ∀ w ∈ wsX100, w ∈ wsX10_wet := fun w h => List.mem_cons_of_mem _ (List.mem_append_left _ (List.mem_append_right _ (h)))
theorem inX10_wet_X2 : ∀ w ∈ wsX20, w ∈ wsX10_wet := fun w h => List.mem_cons_of_mem _ (List.mem_append_right _ (h))
set_option maxHeartbeats 8000000 in
set_option maxRecDepth 100000 in
theorem c_X10_wet (l : Launch) (D : va_G) (a : Nat → Nat) (c : Nat → ClassId) (u : zU) (w : Int) (hI : IB u) (b_w : -2147483648 ≤ w ∧ w < 2147483648) : ZM l D (zTy c) (WB a c) yX10_wet wsX10_wet 5 [.ref (a 0), .int (zI w)] u rI (fun z u' => (0 ≤ w ∧ w ≤ 9 ∧ z = u 17 6 ∧ u' = up u 17 6 w) ∨ (¬ (0 ≤ w ∧ w ≤ 9) ∧ z = -1 ∧ u' = u)) := by
  refine ZM.ofI (cc := cX10_wet) (maxL := 3) [(0, .ref (a 0)), (1, .int (zI w))] rfl (by decide +kernel) rfl (Nat.le_of_ble_eq_true rfl) (WB_addr a c) ?_
  intro x C hK _ _ hDD kret
  refine z_iload_n C 1 dX10_wet_0 rfl ?_
  refine z_iconst C dX10_wet_1 ?_
  refine z_bipush C dX10_wet_2 (by decide) ?_
  refine z_callS C hK hDD (c_X10_isWithin (zl x) (zG x) ((WB a c)) (WB_addr a c) u w 0 9 (by omega) (by omega) (by omega)) gX10_wet_X10_isWithin rfl rfl zy_X10_isWithin ⟨by omega, by decide⟩ rfl (Nat.le_of_ble_eq_true rfl) (st := []) (stk2 := fun z1 => [.int (zI z1)]) rfl (fun _ => rfl) dX10_wet_4 (fun z1 u2 h3 => ?_)
  rw [h3.1]; replace h3 := h3.2
  refine z_if_ne C 12 dX10_wet_7 (by decide) (by omega) (fun h4 => ?_) (fun h4 => ?_)
  · skip
    refine z_aload_n C 0 dX10_wet_12 rfl ?_
    refine z_get C hK (v := .ref (a 17)) inX10_wet_X10 0 (WB_0 a c u) rfl 4 (by decide) (List.mem_of_getElem? (i := 1) rfl) rfl dX10_wet_13 ?_
    refine z_getN C hK (v := .int (zI (u 17 6))) inX10_wet_X2 17 (WB_17 a c u) rfl 6 (by decide) (List.mem_of_getElem? (i := 4) rfl) rfl dX10_wet_16 ?_
    refine z_istore_n C [(2, .int (zI (u 17 6))), (0, .ref (a 0)), (1, .int (zI w))] dX10_wet_19 rfl (by decide) rfl ?_
    refine z_aload_n C 1 dX10_wet_20 rfl ?_
    refine z_get C hK (v := .ref (a 17)) inX10_wet_X10 0 (WB_0 a c u) rfl 4 (by decide) (List.mem_of_getElem? (i := 1) rfl) rfl dX10_wet_21 ?_
    refine z_iload_n C 2 dX10_wet_24 rfl ?_
    refine z_putN C hK (hDD _) inX10_wet_X2 tyX2 tyX2_ok nmX2 17 (WB_17 a c u) rfl 6 (by decide) (List.mem_of_getElem? (i := 4) rfl) rfl rfl rfl (Nat.le_of_ble_eq_true rfl) (WB_17_p6 a c u w) dX10_wet_25 ?_
    refine z_iload_n C 0 dX10_wet_28 rfl ?_
    exact kret (u 17 6) ((up u 17 (6) (w))) _ _ (Or.inl ⟨by omega, by omega, rfl, rfl⟩) dX10_wet_29
  · skip
    refine z_iconst C dX10_wet_10 ?_
    exact kret (-1) u _ _ (Or.inr ⟨by omega, rfl, rfl⟩) dX10_wet_11
-- NoteBells.taken
theorem inX10_taken_X10 : ∀ w ∈ wsX100, w ∈ wsX10_taken := fun w h => List.mem_cons_of_mem _ (List.mem_append_left _ (List.mem_append_left _ (List.mem_append_left _ (List.mem_append_right _ (h)))))
set_option maxHeartbeats 8000000 in
set_option maxRecDepth 100000 in
theorem c_X10_taken (l : Launch) (D : va_G) (a : Nat → Nat) (c : Nat → ClassId) (u : zU) (m : Int) (hI : IB u) (b_m : -2147483648 ≤ m ∧ m < 2147483648) : ZM l D (zTy c) (WB a c) yX10_taken wsX10_taken 6 [.ref (a 0), .int (zI m)] u rI (fun z u' => u' = u ∧ ((0 ≤ m ∧ m < u 3 4 ∧ z = ((like (u 18) (u 17 6) (u 3 6) (u 3 4) (snd (u 18 m) (u 17 6) m) : Nat) : Int)) ∨ (¬ (0 ≤ m ∧ m < u 3 4) ∧ z = -1))) := by
  refine ZM.ofI (cc := cX10_taken) (maxL := 2) [(0, .ref (a 0)), (1, .int (zI m))] rfl (by decide +kernel) rfl (Nat.le_of_ble_eq_true rfl) (WB_addr a c) ?_
  intro x C hK _ _ hDD kret
  have hlv := hI.lev
  have hw := hI.wet
  refine z_aload_n C 0 dX10_taken_0 rfl ?_
  refine z_iload_n C 1 dX10_taken_1 rfl ?_
  refine z_callV C hK hDD (c_X10_isLevel (zl x) (zG x) a c u m (hI) (by omega)) gX10_taken_X10_isLevel rfl zy_X10_isLevel 0 (WB_0 a c u) rfl ⟨by omega, by decide⟩ rfl (Nat.le_of_ble_eq_true rfl) (st := []) (stk2 := fun z1 => [.int (zI z1)]) rfl (fun _ => rfl) dX10_taken_2 (fun z1 u2 h3 => ?_)
  rw [h3.1]; replace h3 := h3.2
  refine z_if_eq C 26 dX10_taken_5 (by decide) (by omega) (fun h4 => ?_) (fun h4 => ?_)
  · skip
    refine z_iconst C dX10_taken_26 ?_
    exact kret (-1) u _ _ (⟨rfl, by first | exact Or.inl ⟨by omega, by omega, rfl⟩ | exact Or.inr ⟨by omega, rfl⟩⟩) dX10_taken_27
  · skip
    have hs := snd_bd (hI.pitch m (by omega) (by omega)) hw (m := m) (by omega)
    refine z_aload_n C 0 dX10_taken_8 rfl ?_
    refine z_get C hK (v := .ref (a 37)) inX10_taken_X10 0 (WB_0 a c u) rfl 7 (by decide) (List.mem_of_getElem? (i := 1) rfl) rfl dX10_taken_9 ?_
    refine z_aload_n C 0 dX10_taken_12 rfl ?_
    refine z_get C hK (v := .ref (a 37)) inX10_taken_X10 0 (WB_0 a c u) rfl 7 (by decide) (List.mem_of_getElem? (i := 1) rfl) rfl dX10_taken_13 ?_
    refine z_iload_n C 1 dX10_taken_16 rfl ?_
    refine z_callVN C hK hDD (c_X6_soundOf (zl x) (zG x) a c u m (hI) (by omega)) ggX10_taken_X6_soundOf (List.mem_of_getElem? (i := 15) rfl) (List.mem_of_getElem? (i := 12) rfl) (List.mem_of_getElem? (i := 11) rfl) (List.mem_of_getElem? (i := 13) rfl) rfl zy_X6_soundOf 37 (WB_37 a c u) rfl ⟨by omega, by decide⟩ rfl (Nat.le_of_ble_eq_true rfl) (st := [.ref (a 37)]) (stk2 := fun z5 => [.int (zI z5), .ref (a 37)]) rfl (fun _ => rfl) dX10_taken_17 (fun z5 u6 h7 => ?_)
    rw [h7.1]; replace h7 := h7.2
    refine z_as (b := snd (u 18 m) (u 17 6) m) h7 ?_
    refine z_callVN C hK hDD (c_X6_likeSound (zl x) (zG x) a c u (snd (u 18 m) (u 17 6) m) (hI) (by omega)) ggX10_taken_X6_likeSound (List.mem_of_getElem? (i := 16) rfl) (List.mem_of_getElem? (i := 12) rfl) (List.mem_of_getElem? (i := 18) rfl) (List.mem_of_getElem? (i := 19) rfl) rfl zy_X6_likeSound 37 (WB_37 a c u) rfl ⟨by omega, by decide⟩ rfl (Nat.le_of_ble_eq_true rfl) (st := []) (stk2 := fun z8 => [.int (zI z8)]) rfl (fun _ => rfl) dX10_taken_20 (fun z8 u9 h10 => ?_)
    rw [h10.1]; replace h10 := h10.2
    refine z_as (b := ((like (u 18) (u 17 6) (u 3 6) (u 3 4) (snd (u 18 m) (u 17 6) m) : Nat) : Int)) h10 ?_
    refine z_goto C 27 dX10_taken_23 (by decide) ?_
    exact kret (((like (u 18) (u 17 6) (u 3 6) (u 3 4) (snd (u 18 m) (u 17 6) m) : Nat) : Int)) u _ _ (⟨rfl, by first | exact Or.inl ⟨by omega, by omega, rfl⟩ | exact Or.inr ⟨by omega, rfl⟩⟩) dX10_taken_27
-- NoteBells.comes
theorem inX10_comes_X10 : ∀ w ∈ wsX100, w ∈ wsX10_comes := fun w h => List.mem_cons_of_mem _ (List.mem_append_left _ (List.mem_append_left _ (List.mem_append_left _ (List.mem_append_right _ (h)))))
set_option maxHeartbeats 8000000 in
set_option maxRecDepth 100000 in
theorem c_X10_comes (l : Launch) (D : va_G) (a : Nat → Nat) (c : Nat → ClassId) (u : zU) (s : Int) (hI : IB u) (b_s : -2147483648 ≤ s ∧ s < 2147483648) : ZM l D (zTy c) (WB a c) yX10_comes wsX10_comes 6 [.ref (a 0), .int (zI s)] u rI (fun z u' => u' = u ∧ ((-99 ≤ s ∧ s ≤ 99 ∧ z = ((like (u 18) (u 17 6) (u 3 6) (u 3 4) (s) : Nat) : Int)) ∨ (¬ (-99 ≤ s ∧ s ≤ 99) ∧ z = -1))) := by
  refine ZM.ofI (cc := cX10_comes) (maxL := 2) [(0, .ref (a 0)), (1, .int (zI s))] rfl (by decide +kernel) rfl (Nat.le_of_ble_eq_true rfl) (WB_addr a c) ?_
  intro x C hK _ _ hDD kret
  have hlv := hI.lev
  refine z_iload_n C 1 dX10_comes_0 rfl ?_
  refine z_callS C hK hDD (c_X10_isNote (zl x) (zG x) ((WB a c)) (WB_addr a c) u s (by omega)) gX10_comes_X10_isNote rfl rfl zy_X10_isNote ⟨by omega, by decide⟩ rfl (Nat.le_of_ble_eq_true rfl) (st := []) (stk2 := fun z1 => [.int (zI z1)]) rfl (fun _ => rfl) dX10_comes_1 (fun z1 u2 h3 => ?_)
  rw [h3.1]; replace h3 := h3.2
  refine z_if_eq C 18 dX10_comes_4 (by decide) (by omega) (fun h4 => ?_) (fun h4 => ?_)
  · skip
    refine z_iconst C dX10_comes_18 ?_
    exact kret (-1) u _ _ (⟨rfl, by first | exact Or.inl ⟨by omega, by omega, rfl⟩ | exact Or.inr ⟨by omega, rfl⟩⟩) dX10_comes_19
  · skip
    refine z_aload_n C 0 dX10_comes_7 rfl ?_
    refine z_get C hK (v := .ref (a 37)) inX10_comes_X10 0 (WB_0 a c u) rfl 7 (by decide) (List.mem_of_getElem? (i := 1) rfl) rfl dX10_comes_8 ?_
    refine z_iload_n C 1 dX10_comes_11 rfl ?_
    refine z_callVN C hK hDD (c_X6_likeSound (zl x) (zG x) a c u s (hI) (by omega)) ggX10_comes_X6_likeSound (List.mem_of_getElem? (i := 16) rfl) (List.mem_of_getElem? (i := 10) rfl) (List.mem_of_getElem? (i := 9) rfl) (List.mem_of_getElem? (i := 11) rfl) rfl zy_X6_likeSound 37 (WB_37 a c u) rfl ⟨by omega, by decide⟩ rfl (Nat.le_of_ble_eq_true rfl) (st := []) (stk2 := fun z5 => [.int (zI z5)]) rfl (fun _ => rfl) dX10_comes_12 (fun z5 u6 h7 => ?_)
    rw [h7.1]; replace h7 := h7.2
    refine z_as (b := ((like (u 18) (u 17 6) (u 3 6) (u 3 4) s : Nat) : Int)) h7 ?_
    refine z_goto C 19 dX10_comes_15 (by decide) ?_
    exact kret (((like (u 18) (u 17 6) (u 3 6) (u 3 4) s : Nat) : Int)) u _ _ (⟨rfl, by first | exact Or.inl ⟨by omega, by omega, rfl⟩ | exact Or.inr ⟨by omega, rfl⟩⟩) dX10_comes_19
-- NoteBells.climbs
theorem inX10_climbs_X10 : ∀ w ∈ wsX100, w ∈ wsX10_climbs := fun w h => List.mem_cons_of_mem _ (List.mem_append_left _ (List.mem_append_left _ (List.mem_append_right _ (h))))
theorem inX10_climbs_X2 : ∀ w ∈ wsX20, w ∈ wsX10_climbs := fun w h => List.mem_cons_of_mem _ (List.mem_append_left _ (List.mem_append_right _ (h)))
set_option maxHeartbeats 8000000 in
set_option maxRecDepth 100000 in
theorem c_X10_climbs (l : Launch) (D : va_G) (a : Nat → Nat) (c : Nat → ClassId) (u : zU) (m k : Int) (hI : IB u) (b_m : -2147483648 ≤ m ∧ m < 2147483648) (b_k : -2147483648 ≤ k ∧ k < 2147483648) : ZM l D (zTy c) (WB a c) yX10_climbs wsX10_climbs 5 [.ref (a 0), .int (zI m), .int (zI k)] u rI (fun z u' => (¬ (0 ≤ m ∧ m < u 3 5 ∧ 0 ≤ k ∧ k < u 3 4) ∧ z = -1 ∧ u' = u) ∨ ((0 ≤ m ∧ m < u 3 5 ∧ 0 ≤ k ∧ k < u 3 4) ∧ u 19 m = k ∧ z = -2 ∧ u' = u) ∨ ((0 ≤ m ∧ m < u 3 5 ∧ 0 ≤ k ∧ k < u 3 4) ∧ u 19 m ≠ k ∧ ((u 19 m ≤ k ∧ z = k - u 19 m) ∨ (k < u 19 m ∧ z = u 19 m - k)) ∧ u' = up u 19 m k)) := by
  refine ZM.ofI (cc := cX10_climbs) (maxL := 4) [(0, .ref (a 0)), (1, .int (zI m)), (2, .int (zI k))] rfl (by decide +kernel) rfl (Nat.le_of_ble_eq_true rfl) (WB_addr a c) ?_
  intro x C hK _ _ hDD kret
  have hlv := hI.lev
  have hpp := hI.ppl
  refine z_aload_n C 0 dX10_climbs_0 rfl ?_
  refine z_iload_n C 1 dX10_climbs_1 rfl ?_
  refine z_callV C hK hDD (c_X10_isMan (zl x) (zG x) a c u m (hI) (by omega)) gX10_climbs_X10_isMan rfl zy_X10_isMan 0 (WB_0 a c u) rfl ⟨by omega, by decide⟩ rfl (Nat.le_of_ble_eq_true rfl) (st := []) (stk2 := fun z1 => [.int (zI z1)]) rfl (fun _ => rfl) dX10_climbs_2 (fun z1 u2 h3 => ?_)
  rw [h3.1]; replace h3 := h3.2
  refine z_if_eq C 16 dX10_climbs_5 (by decide) (by omega) (fun h4 => ?_) (fun h4 => ?_)
  · skip
    refine z_iconst C dX10_climbs_16 ?_
    exact kret (-1) u _ _ (Or.inl ⟨by omega, rfl, rfl⟩) dX10_climbs_17
  · skip
    refine z_aload_n C 0 dX10_climbs_8 rfl ?_
    refine z_iload_n C 2 dX10_climbs_9 rfl ?_
    refine z_callV C hK hDD (c_X10_isLevel (zl x) (zG x) a c u k (hI) (by omega)) gX10_climbs_X10_isLevel rfl zy_X10_isLevel 0 (WB_0 a c u) rfl ⟨by omega, by decide⟩ rfl (Nat.le_of_ble_eq_true rfl) (st := []) (stk2 := fun z5 => [.int (zI z5)]) rfl (fun _ => rfl) dX10_climbs_10 (fun z5 u6 h7 => ?_)
    rw [h7.1]; replace h7 := h7.2
    refine z_if_ne C 18 dX10_climbs_13 (by decide) (by omega) (fun h8 => ?_) (fun h8 => ?_)
    · skip
      have hst := hI.stands m (by omega) (by omega)
      refine z_aload_n C 0 dX10_climbs_18 rfl ?_
      refine z_get C hK (v := .ref (a 17)) inX10_climbs_X10 0 (WB_0 a c u) rfl 4 (by decide) (List.mem_of_getElem? (i := 1) rfl) rfl dX10_climbs_19 ?_
      refine z_getN C hK (v := .ref (a 19)) inX10_climbs_X2 17 (WB_17 a c u) rfl 1 (by decide) (List.mem_of_getElem? (i := 3) rfl) rfl dX10_climbs_22 ?_
      refine z_iload_n C 1 dX10_climbs_25 rfl ?_
      refine z_iald C hK 0 (g := (u 19)) (i := m) 19 (WB_19 a c u) rfl (by decide) (by omega) dX10_climbs_26 ?_
      refine z_as (b := u 19 (m)) rfl ?_
      refine z_iload_n C 2 dX10_climbs_27 rfl ?_
      refine z_isub C dX10_climbs_28 ?_
      refine z_abs C (by omega) (List.mem_of_getElem? (i := 2) rfl) (List.mem_of_getElem? (i := 3) rfl) (List.mem_of_getElem? (i := 4) rfl) (List.mem_of_getElem? (i := 5) rfl) (Nat.le_of_ble_eq_true rfl) (by omega) dX10_climbs_29 (fun r9 h10 => ?_)
      refine z_istore_n C [(3, .int (zI r9)), (0, .ref (a 0)), (1, .int (zI m)), (2, .int (zI k))] dX10_climbs_32 rfl (by decide) rfl ?_
      refine z_iload_n C 0 dX10_climbs_33 rfl ?_
      refine z_if_ne C 40 dX10_climbs_34 (by decide) (by omega) (fun h11 => ?_) (fun h11 => ?_)
      · skip
        refine z_aload_n C 1 dX10_climbs_40 rfl ?_
        refine z_get C hK (v := .ref (a 17)) inX10_climbs_X10 0 (WB_0 a c u) rfl 4 (by decide) (List.mem_of_getElem? (i := 1) rfl) rfl dX10_climbs_41 ?_
        refine z_getN C hK (v := .ref (a 19)) inX10_climbs_X2 17 (WB_17 a c u) rfl 1 (by decide) (List.mem_of_getElem? (i := 3) rfl) rfl dX10_climbs_44 ?_
        refine z_iload_n C 2 dX10_climbs_47 rfl ?_
        refine z_iload_n C 3 dX10_climbs_48 rfl ?_
        refine z_iast C hK (hDD _) 0 (g := u 19) 19 (WB_19 a c u) rfl (by decide) (by omega) (WB_19_set a c u m k) dX10_climbs_49 ?_
        refine z_iload_n C 0 dX10_climbs_50 rfl ?_
        exact kret r9 ((up u 19 (m) (k))) _ _ (Or.inr (Or.inr ⟨by omega, by omega, by omega, rfl⟩)) dX10_climbs_51
      · skip
        refine z_bipush C dX10_climbs_37 (by decide) ?_
        exact kret (-2) u _ _ (Or.inr (Or.inl ⟨by omega, by omega, rfl, rfl⟩)) dX10_climbs_39
    · skip
      refine z_iconst C dX10_climbs_16 ?_
      exact kret (-1) u _ _ (Or.inl ⟨by omega, rfl, rfl⟩) dX10_climbs_17
-- NoteBells.plucks
theorem inX10_plucks_X10 : ∀ w ∈ wsX100, w ∈ wsX10_plucks := fun w h => List.mem_cons_of_mem _ (List.mem_append_left _ (List.mem_append_left _ (List.mem_append_left _ (List.mem_append_right _ (h)))))
theorem inX10_plucks_X2 : ∀ w ∈ wsX20, w ∈ wsX10_plucks := fun w h => List.mem_cons_of_mem _ (List.mem_append_left _ (List.mem_append_left _ (List.mem_append_right _ (h))))
set_option maxHeartbeats 8000000 in
set_option maxRecDepth 100000 in
theorem c_X10_plucks (l : Launch) (D : va_G) (a : Nat → Nat) (c : Nat → ClassId) (u : zU) (m : Int) (hI : IB u) (b_m : -2147483648 ≤ m ∧ m < 2147483648) : ZM l D (zTy c) (WB a c) yX10_plucks wsX10_plucks 5 [.ref (a 0), .int (zI m)] u rI (fun z u' => u' = u ∧ ((0 ≤ m ∧ m < u 3 5 ∧ u 19 m < u 17 7 ∧ z = snd (u 18 (u 19 m)) (u 17 6) (u 19 m)) ∨ (¬ (0 ≤ m ∧ m < u 3 5 ∧ u 19 m < u 17 7) ∧ z = -1000000))) := by
  refine ZM.ofI (cc := cX10_plucks) (maxL := 2) [(0, .ref (a 0)), (1, .int (zI m))] rfl (by decide +kernel) rfl (Nat.le_of_ble_eq_true rfl) (WB_addr a c) ?_
  intro x C hK _ _ hDD kret
  have hpp := hI.ppl
  have hro := hI.rope
  refine z_aload_n C 0 dX10_plucks_0 rfl ?_
  refine z_iload_n C 1 dX10_plucks_1 rfl ?_
  refine z_callV C hK hDD (c_X10_isMan (zl x) (zG x) a c u m (hI) (by omega)) gX10_plucks_X10_isMan rfl zy_X10_isMan 0 (WB_0 a c u) rfl ⟨by omega, by decide⟩ rfl (Nat.le_of_ble_eq_true rfl) (st := []) (stk2 := fun z1 => [.int (zI z1)]) rfl (fun _ => rfl) dX10_plucks_2 (fun z1 u2 h3 => ?_)
  rw [h3.1]; replace h3 := h3.2
  refine z_if_eq C 27 dX10_plucks_5 (by decide) (by omega) (fun h4 => ?_) (fun h4 => ?_)
  · skip
    refine z_ldc C (v := (-1000000)) (z := (-1000000)) (by decide) (List.mem_of_getElem? (i := 2) rfl) dX10_plucks_27 ?_
    exact kret (-1000000) u _ _ (⟨rfl, Or.inr ⟨by omega, rfl⟩⟩) dX10_plucks_29
  · skip
    have hst := hI.stands m (by omega) (by omega)
    refine z_aload_n C 0 dX10_plucks_8 rfl ?_
    refine z_get C hK (v := .ref (a 17)) inX10_plucks_X10 0 (WB_0 a c u) rfl 4 (by decide) (List.mem_of_getElem? (i := 1) rfl) rfl dX10_plucks_9 ?_
    refine z_getN C hK (v := .ref (a 19)) inX10_plucks_X2 17 (WB_17 a c u) rfl 1 (by decide) (List.mem_of_getElem? (i := 3) rfl) rfl dX10_plucks_12 ?_
    refine z_iload_n C 1 dX10_plucks_15 rfl ?_
    refine z_iald C hK 0 (g := (u 19)) (i := m) 19 (WB_19 a c u) rfl (by decide) (by omega) dX10_plucks_16 ?_
    refine z_as (b := u 19 (m)) rfl ?_
    refine z_aload_n C 0 dX10_plucks_17 rfl ?_
    refine z_get C hK (v := .ref (a 17)) inX10_plucks_X10 0 (WB_0 a c u) rfl 4 (by decide) (List.mem_of_getElem? (i := 1) rfl) rfl dX10_plucks_18 ?_
    refine z_getN C hK (v := .int (zI (u 17 7))) inX10_plucks_X2 17 (WB_17 a c u) rfl 7 (by decide) (List.mem_of_getElem? (i := 5) rfl) rfl dX10_plucks_21 ?_
    refine z_icmp_lt C 30 dX10_plucks_24 (by decide) (by omega) (fun h5 => ?_) (fun h5 => ?_)
    · skip
      refine z_aload_n C 0 dX10_plucks_30 rfl ?_
      refine z_get C hK (v := .ref (a 37)) inX10_plucks_X10 0 (WB_0 a c u) rfl 7 (by decide) (List.mem_of_getElem? (i := 3) rfl) rfl dX10_plucks_31 ?_
      refine z_aload_n C 0 dX10_plucks_34 rfl ?_
      refine z_get C hK (v := .ref (a 17)) inX10_plucks_X10 0 (WB_0 a c u) rfl 4 (by decide) (List.mem_of_getElem? (i := 1) rfl) rfl dX10_plucks_35 ?_
      refine z_getN C hK (v := .ref (a 19)) inX10_plucks_X2 17 (WB_17 a c u) rfl 1 (by decide) (List.mem_of_getElem? (i := 3) rfl) rfl dX10_plucks_38 ?_
      refine z_iload_n C 1 dX10_plucks_41 rfl ?_
      refine z_iald C hK 0 (g := (u 19)) (i := m) 19 (WB_19 a c u) rfl (by decide) (by omega) dX10_plucks_42 ?_
      refine z_as (b := u 19 (m)) rfl ?_
      refine z_callVN C hK hDD (c_X6_soundOf (zl x) (zG x) a c u (u 19 (m)) (hI) (by omega)) ggX10_plucks_X6_soundOf (List.mem_of_getElem? (i := 15) rfl) (List.mem_of_getElem? (i := 14) rfl) (List.mem_of_getElem? (i := 13) rfl) (List.mem_of_getElem? (i := 15) rfl) rfl zy_X6_soundOf 37 (WB_37 a c u) rfl ⟨by omega, by decide⟩ rfl (Nat.le_of_ble_eq_true rfl) (st := []) (stk2 := fun z6 => [.int (zI z6)]) rfl (fun _ => rfl) dX10_plucks_43 (fun z6 u7 h8 => ?_)
      rw [h8.1]; replace h8 := h8.2
      refine z_as (b := snd (u 18 (u 19 (m))) (u 17 6) (u 19 (m))) h8 ?_
      exact kret (snd (u 18 (u 19 (m))) (u 17 6) (u 19 (m))) u _ _ (⟨rfl, Or.inl ⟨by omega, by omega, by omega, rfl⟩⟩) dX10_plucks_46
    · skip
      refine z_ldc C (v := (-1000000)) (z := (-1000000)) (by decide) (List.mem_of_getElem? (i := 2) rfl) dX10_plucks_27 ?_
      exact kret (-1000000) u _ _ (⟨rfl, Or.inr ⟨by omega, rfl⟩⟩) dX10_plucks_29
-- NoteBells.falls
theorem inX10_falls_X10 : ∀ w ∈ wsX100, w ∈ wsX10_falls := fun w h => List.mem_cons_of_mem _ (List.mem_append_left _ (List.mem_append_left _ (List.mem_append_right _ (h))))
theorem inX10_falls_X2 : ∀ w ∈ wsX20, w ∈ wsX10_falls := fun w h => List.mem_cons_of_mem _ (List.mem_append_left _ (List.mem_append_right _ (h)))
set_option maxHeartbeats 8000000 in
set_option maxRecDepth 100000 in
theorem c_X10_falls (l : Launch) (D : va_G) (a : Nat → Nat) (c : Nat → ClassId) (u : zU) (m : Int) (hI : IB u) (b_m : -2147483648 ≤ m ∧ m < 2147483648) : ZM l D (zTy c) (WB a c) yX10_falls wsX10_falls 5 [.ref (a 0), .int (zI m)] u rI (fun z u' => (¬ (0 ≤ m ∧ m < u 3 4) ∧ z = -1 ∧ u' = u) ∨ (0 ≤ m ∧ m < u 3 4 ∧ u 17 7 ≤ m ∧ z = -2 ∧ u' = u) ∨ (0 ≤ m ∧ m < u 3 4 ∧ m < u 17 7 ∧ z = u 3 4 - m ∧ u' = up u 17 7 m)) := by
  refine ZM.ofI (cc := cX10_falls) (maxL := 2) [(0, .ref (a 0)), (1, .int (zI m))] rfl (by decide +kernel) rfl (Nat.le_of_ble_eq_true rfl) (WB_addr a c) ?_
  intro x C hK _ _ hDD kret
  have hlv := hI.lev
  have hro := hI.rope
  refine z_aload_n C 0 dX10_falls_0 rfl ?_
  refine z_iload_n C 1 dX10_falls_1 rfl ?_
  refine z_callV C hK hDD (c_X10_isLevel (zl x) (zG x) a c u m (hI) (by omega)) gX10_falls_X10_isLevel rfl zy_X10_isLevel 0 (WB_0 a c u) rfl ⟨by omega, by decide⟩ rfl (Nat.le_of_ble_eq_true rfl) (st := []) (stk2 := fun z1 => [.int (zI z1)]) rfl (fun _ => rfl) dX10_falls_2 (fun z1 u2 h3 => ?_)
  rw [h3.1]; replace h3 := h3.2
  refine z_if_ne C 10 dX10_falls_5 (by decide) (by omega) (fun h4 => ?_) (fun h4 => ?_)
  · skip
    refine z_aload_n C 0 dX10_falls_10 rfl ?_
    refine z_get C hK (v := .ref (a 17)) inX10_falls_X10 0 (WB_0 a c u) rfl 4 (by decide) (List.mem_of_getElem? (i := 1) rfl) rfl dX10_falls_11 ?_
    refine z_getN C hK (v := .int (zI (u 17 7))) inX10_falls_X2 17 (WB_17 a c u) rfl 7 (by decide) (List.mem_of_getElem? (i := 5) rfl) rfl dX10_falls_14 ?_
    refine z_iload_n C 1 dX10_falls_17 rfl ?_
    refine z_icmp_gt C 24 dX10_falls_18 (by decide) (by omega) (fun h5 => ?_) (fun h5 => ?_)
    · skip
      have hI2 : IB (up u 17 7 m) := IB.put_rope hI (by omega)
      refine z_aload_n C 0 dX10_falls_24 rfl ?_
      refine z_get C hK (v := .ref (a 17)) inX10_falls_X10 0 (WB_0 a c u) rfl 4 (by decide) (List.mem_of_getElem? (i := 1) rfl) rfl dX10_falls_25 ?_
      refine z_iload_n C 1 dX10_falls_28 rfl ?_
      refine z_putN C hK (hDD _) inX10_falls_X2 tyX2 tyX2_ok nmX2 17 (WB_17 a c u) rfl 7 (by decide) (List.mem_of_getElem? (i := 5) rfl) rfl rfl rfl (Nat.le_of_ble_eq_true rfl) (WB_17_p7 a c u m) dX10_falls_29 ?_
      refine z_aload_n C 0 dX10_falls_32 rfl ?_
      refine z_callV C hK hDD (c_X10_silentLevels (zl x) (zG x) a c ((up u 17 (7) (m)))  (hI2)) gX10_falls_X10_silentLevels rfl zy_X10_silentLevels 0 (WB_0 a c ((up u 17 (7) (m)))) rfl ⟨by omega, by decide⟩ rfl (Nat.le_of_ble_eq_true rfl) (st := []) (stk2 := fun z6 => [.int (zI z6)]) rfl (fun _ => rfl) dX10_falls_33 (fun z6 u7 h8 => ?_)
      rw [h8.1]; replace h8 := h8.2
      replace h8 : ((0 < (u 3 4) - (m) ∧ z6 = (u 3 4) - (m)) ∨ ((u 3 4) - (m) ≤ 0 ∧ z6 = 0)) := h8
      exact kret z6 ((up u 17 (7) (m))) _ _ (Or.inr (Or.inr ⟨by omega, by omega, by omega, by omega, rfl⟩)) dX10_falls_36
    · skip
      refine z_bipush C dX10_falls_21 (by decide) ?_
      exact kret (-2) u _ _ (Or.inr (Or.inl ⟨by omega, by omega, by omega, rfl, rfl⟩)) dX10_falls_23
  · skip
    refine z_iconst C dX10_falls_8 ?_
    exact kret (-1) u _ _ (Or.inl ⟨by omega, rfl, rfl⟩) dX10_falls_9
-- NoteBells.mends
theorem inX10_mends_X10 : ∀ w ∈ wsX100, w ∈ wsX10_mends := fun w h => List.mem_cons_of_mem _ (List.mem_append_left _ (List.mem_append_left _ (List.mem_append_right _ (h))))
theorem inX10_mends_X2 : ∀ w ∈ wsX20, w ∈ wsX10_mends := fun w h => List.mem_cons_of_mem _ (List.mem_append_left _ (List.mem_append_right _ (h)))
set_option maxHeartbeats 8000000 in
set_option maxRecDepth 100000 in
theorem c_X10_mends (l : Launch) (D : va_G) (a : Nat → Nat) (c : Nat → ClassId) (u : zU)  (hI : IB u) : ZM l D (zTy c) (WB a c) yX10_mends wsX10_mends 5 [.ref (a 0)] u rI (fun z u' => (u 3 4 ≤ u 17 7 ∧ z = -2 ∧ u' = u) ∨ (u 17 7 < u 3 4 ∧ z = u 3 4 - u 17 7 ∧ u' = up u 17 7 8)) := by
  refine ZM.ofI (cc := cX10_mends) (maxL := 2) [(0, .ref (a 0))] rfl (by decide +kernel) rfl (Nat.le_of_ble_eq_true rfl) (WB_addr a c) ?_
  intro x C hK _ _ hDD kret
  have hlv := hI.lev
  have hro := hI.rope
  refine z_aload_n C 0 dX10_mends_0 rfl ?_
  refine z_callV C hK hDD (c_X10_silentLevels (zl x) (zG x) a c u  (hI)) gX10_mends_X10_silentLevels rfl zy_X10_silentLevels 0 (WB_0 a c u) rfl ⟨by omega, by decide⟩ rfl (Nat.le_of_ble_eq_true rfl) (st := []) (stk2 := fun z1 => [.int (zI z1)]) rfl (fun _ => rfl) dX10_mends_1 (fun z1 u2 h3 => ?_)
  rw [h3.1]; replace h3 := h3.2
  refine z_istore_n C [(1, .int (zI z1)), (0, .ref (a 0))] dX10_mends_4 rfl (by decide) rfl ?_
  refine z_iload_n C 0 dX10_mends_5 rfl ?_
  refine z_if_ne C 12 dX10_mends_6 (by decide) (by omega) (fun h4 => ?_) (fun h4 => ?_)
  · skip
    refine z_aload_n C 1 dX10_mends_12 rfl ?_
    refine z_get C hK (v := .ref (a 17)) inX10_mends_X10 0 (WB_0 a c u) rfl 4 (by decide) (List.mem_of_getElem? (i := 1) rfl) rfl dX10_mends_13 ?_
    refine z_bipush C dX10_mends_16 (by decide) ?_
    refine z_putN C hK (hDD _) inX10_mends_X2 tyX2 tyX2_ok nmX2 17 (WB_17 a c u) rfl 7 (by decide) (List.mem_of_getElem? (i := 5) rfl) rfl rfl rfl (Nat.le_of_ble_eq_true rfl) (WB_17_p7 a c u 8) dX10_mends_18 ?_
    refine z_iload_n C 0 dX10_mends_21 rfl ?_
    exact kret z1 ((up u 17 (7) (8))) _ _ (Or.inr ⟨by omega, by omega, rfl⟩) dX10_mends_22
  · skip
    refine z_bipush C dX10_mends_9 (by decide) ?_
    exact kret (-2) u _ _ (Or.inl ⟨by omega, rfl, rfl⟩) dX10_mends_11
-- NoteBells.forget
theorem inX10_forget_X10 : ∀ w ∈ wsX100, w ∈ wsX10_forget := fun w h => List.mem_cons_of_mem _ (List.mem_append_left _ (List.mem_append_right _ (h)))
theorem inX10_forget_X2 : ∀ w ∈ wsX20, w ∈ wsX10_forget := fun w h => List.mem_cons_of_mem _ (List.mem_append_right _ (h))
set_option maxHeartbeats 8000000 in
set_option maxRecDepth 100000 in
theorem c_X10_forget (l : Launch) (D : va_G) (a : Nat → Nat) (c : Nat → ClassId) (u : zU)  (hI : IB u) : ZM l D (zTy c) (WB a c) yX10_forget wsX10_forget 5 [.ref (a 0)] u rI (fun z u' => u' = (up u 17 (8) (0)) ∧ z = u 17 8) := by
  refine ZM.ofI (cc := cX10_forget) (maxL := 2) [(0, .ref (a 0))] rfl (by decide +kernel) rfl (Nat.le_of_ble_eq_true rfl) (WB_addr a c) ?_
  intro x C hK _ _ hDD kret
  refine z_aload_n C 0 dX10_forget_0 rfl ?_
  refine z_get C hK (v := .ref (a 17)) inX10_forget_X10 0 (WB_0 a c u) rfl 4 (by decide) (List.mem_of_getElem? (i := 1) rfl) rfl dX10_forget_1 ?_
  refine z_getN C hK (v := .int (zI (u 17 8))) inX10_forget_X2 17 (WB_17 a c u) rfl 8 (by decide) (List.mem_of_getElem? (i := 8) rfl) rfl dX10_forget_4 ?_
  refine z_istore_n C [(1, .int (zI (u 17 8))), (0, .ref (a 0))] dX10_forget_7 rfl (by decide) rfl ?_
  refine z_aload_n C 1 dX10_forget_8 rfl ?_
  refine z_get C hK (v := .ref (a 17)) inX10_forget_X10 0 (WB_0 a c u) rfl 4 (by decide) (List.mem_of_getElem? (i := 1) rfl) rfl dX10_forget_9 ?_
  refine z_iconst C dX10_forget_12 ?_
  refine z_putN C hK (hDD _) inX10_forget_X2 tyX2 tyX2_ok nmX2 17 (WB_17 a c u) rfl 8 (by decide) (List.mem_of_getElem? (i := 8) rfl) rfl rfl rfl (Nat.le_of_ble_eq_true rfl) (WB_17_p8 a c u 0) dX10_forget_13 ?_
  refine z_iload_n C 0 dX10_forget_16 rfl ?_
  exact kret (u 17 8) ((up u 17 (8) (0))) _ _ (⟨rfl, rfl⟩) dX10_forget_17
-- NoteBells.hush
theorem inX10_hush_X10 : ∀ w ∈ wsX100, w ∈ wsX10_hush := fun w h => List.mem_cons_of_mem _ (List.mem_append_left _ (List.mem_append_right _ (h)))
theorem inX10_hush_X2 : ∀ w ∈ wsX20, w ∈ wsX10_hush := fun w h => List.mem_cons_of_mem _ (List.mem_append_right _ (h))
set_option maxHeartbeats 8000000 in
set_option maxRecDepth 100000 in
theorem c_X10_hush (l : Launch) (D : va_G) (a : Nat → Nat) (c : Nat → ClassId) (u : zU)  (hI : IB u) : ZM l D (zTy c) (WB a c) yX10_hush wsX10_hush 5 [.ref (a 0)] u rI (fun z u' => u' = (up u 17 (9) (0)) ∧ z = u 17 9) := by
  refine ZM.ofI (cc := cX10_hush) (maxL := 2) [(0, .ref (a 0))] rfl (by decide +kernel) rfl (Nat.le_of_ble_eq_true rfl) (WB_addr a c) ?_
  intro x C hK _ _ hDD kret
  refine z_aload_n C 0 dX10_hush_0 rfl ?_
  refine z_get C hK (v := .ref (a 17)) inX10_hush_X10 0 (WB_0 a c u) rfl 4 (by decide) (List.mem_of_getElem? (i := 1) rfl) rfl dX10_hush_1 ?_
  refine z_getN C hK (v := .int (zI (u 17 9))) inX10_hush_X2 17 (WB_17 a c u) rfl 9 (by decide) (List.mem_of_getElem? (i := 11) rfl) rfl dX10_hush_4 ?_
  refine z_istore_n C [(1, .int (zI (u 17 9))), (0, .ref (a 0))] dX10_hush_7 rfl (by decide) rfl ?_
  refine z_aload_n C 1 dX10_hush_8 rfl ?_
  refine z_get C hK (v := .ref (a 17)) inX10_hush_X10 0 (WB_0 a c u) rfl 4 (by decide) (List.mem_of_getElem? (i := 1) rfl) rfl dX10_hush_9 ?_
  refine z_iconst C dX10_hush_12 ?_
  refine z_putN C hK (hDD _) inX10_hush_X2 tyX2 tyX2_ok nmX2 17 (WB_17 a c u) rfl 9 (by decide) (List.mem_of_getElem? (i := 11) rfl) rfl rfl rfl (Nat.le_of_ble_eq_true rfl) (WB_17_p9 a c u 0) dX10_hush_13 ?_
  refine z_iload_n C 0 dX10_hush_16 rfl ?_
  exact kret (u 17 9) ((up u 17 (9) (0))) _ _ (⟨rfl, rfl⟩) dX10_hush_17
-- NoteBells.sing
theorem inX10_sing_X10 : ∀ w ∈ wsX100, w ∈ wsX10_sing := fun w h => List.mem_cons_of_mem _ (List.mem_append_left _ (List.mem_append_right _ (h)))
theorem inX10_sing_X2 : ∀ w ∈ wsX20, w ∈ wsX10_sing := fun w h => List.mem_cons_of_mem _ (List.mem_append_right _ (h))
set_option maxHeartbeats 8000000 in
set_option maxRecDepth 100000 in
theorem c_X10_sing (l : Launch) (D : va_G) (a : Nat → Nat) (c : Nat → ClassId) (u : zU) (s : Int) (hI : IB u) (b_s : -2147483648 ≤ s ∧ s < 2147483648) : ZM l D (zTy c) (WB a c) yX10_sing wsX10_sing 5 [.ref (a 0), .int (zI s)] u rI (fun z u' => (¬ (-99 ≤ s ∧ s ≤ 99) ∧ z = -1 ∧ u' = u) ∨ (-99 ≤ s ∧ s ≤ 99 ∧ 8 ≤ u 17 9 ∧ z = -3 ∧ u' = u) ∨ (-99 ≤ s ∧ s ≤ 99 ∧ u 17 9 < 8 ∧ z = u 17 9 + 1 ∧ u' = up (up u 22 (u 17 9) s) 17 9 (u 17 9 + 1))) := by
  refine ZM.ofI (cc := cX10_sing) (maxL := 2) [(0, .ref (a 0)), (1, .int (zI s))] rfl (by decide +kernel) rfl (Nat.le_of_ble_eq_true rfl) (WB_addr a c) ?_
  intro x C hK _ _ hDD kret
  have hsu := hI.sung
  refine z_iload_n C 1 dX10_sing_0 rfl ?_
  refine z_callS C hK hDD (c_X10_isNote (zl x) (zG x) ((WB a c)) (WB_addr a c) u s (by omega)) gX10_sing_X10_isNote rfl rfl zy_X10_isNote ⟨by omega, by decide⟩ rfl (Nat.le_of_ble_eq_true rfl) (st := []) (stk2 := fun z1 => [.int (zI z1)]) rfl (fun _ => rfl) dX10_sing_1 (fun z1 u2 h3 => ?_)
  rw [h3.1]; replace h3 := h3.2
  refine z_if_ne C 9 dX10_sing_4 (by decide) (by omega) (fun h4 => ?_) (fun h4 => ?_)
  · skip
    refine z_aload_n C 0 dX10_sing_9 rfl ?_
    refine z_get C hK (v := .ref (a 17)) inX10_sing_X10 0 (WB_0 a c u) rfl 4 (by decide) (List.mem_of_getElem? (i := 1) rfl) rfl dX10_sing_10 ?_
    refine z_getN C hK (v := .int (zI (u 17 9))) inX10_sing_X2 17 (WB_17 a c u) rfl 9 (by decide) (List.mem_of_getElem? (i := 11) rfl) rfl dX10_sing_13 ?_
    refine z_bipush C dX10_sing_16 (by decide) ?_
    refine z_icmp_lt C 24 dX10_sing_18 (by decide) (by omega) (fun h5 => ?_) (fun h5 => ?_)
    · skip
      refine z_aload_n C 0 dX10_sing_24 rfl ?_
      refine z_get C hK (v := .ref (a 17)) inX10_sing_X10 0 (WB_0 a c u) rfl 4 (by decide) (List.mem_of_getElem? (i := 1) rfl) rfl dX10_sing_25 ?_
      refine z_getN C hK (v := .ref (a 22)) inX10_sing_X2 17 (WB_17 a c u) rfl 4 (by decide) (List.mem_of_getElem? (i := 12) rfl) rfl dX10_sing_28 ?_
      refine z_aload_n C 0 dX10_sing_31 rfl ?_
      refine z_get C hK (v := .ref (a 17)) inX10_sing_X10 0 (WB_0 a c u) rfl 4 (by decide) (List.mem_of_getElem? (i := 1) rfl) rfl dX10_sing_32 ?_
      refine z_getN C hK (v := .int (zI (u 17 9))) inX10_sing_X2 17 (WB_17 a c u) rfl 9 (by decide) (List.mem_of_getElem? (i := 11) rfl) rfl dX10_sing_35 ?_
      refine z_iload_n C 1 dX10_sing_38 rfl ?_
      refine z_iast C hK (hDD _) 0 (g := u 22) 22 (WB_22 a c u) rfl (by decide) (by omega) (WB_22_set a c u (u 17 9) s) dX10_sing_39 ?_
      refine z_aload_n C 0 dX10_sing_40 rfl ?_
      refine z_get C hK (v := .ref (a 17)) inX10_sing_X10 0 (WB_0 a c ((up u 22 (u 17 9) (s)))) rfl 4 (by decide) (List.mem_of_getElem? (i := 1) rfl) rfl dX10_sing_41 ?_
      refine z_dup C dX10_sing_44 rfl ?_
      refine z_getN C hK (v := .int (zI (u 17 9))) inX10_sing_X2 17 (WB_17 a c ((up u 22 (u 17 9) (s)))) rfl 9 (by decide) (List.mem_of_getElem? (i := 11) rfl) rfl dX10_sing_45 ?_
      refine z_iconst C dX10_sing_48 ?_
      refine z_iadd C dX10_sing_49 ?_
      refine z_putN C hK (hDD _) inX10_sing_X2 tyX2 tyX2_ok nmX2 17 (WB_17 a c ((up u 22 (u 17 9) (s)))) rfl 9 (by decide) (List.mem_of_getElem? (i := 11) rfl) rfl rfl rfl (Nat.le_of_ble_eq_true rfl) (WB_17_p9 a c ((up u 22 (u 17 9) (s))) ((u 17 9) + 1)) dX10_sing_50 ?_
      refine z_aload_n C 0 dX10_sing_53 rfl ?_
      refine z_get C hK (v := .ref (a 17)) inX10_sing_X10 0 (WB_0 a c ((up (up u 22 (u 17 9) (s)) 17 (9) ((u 17 9) + 1)))) rfl 4 (by decide) (List.mem_of_getElem? (i := 1) rfl) rfl dX10_sing_54 ?_
      refine z_getN C hK (v := .int (zI ((u 17 9) + 1))) inX10_sing_X2 17 (WB_17 a c ((up (up u 22 (u 17 9) (s)) 17 (9) ((u 17 9) + 1)))) rfl 9 (by decide) (List.mem_of_getElem? (i := 11) rfl) rfl dX10_sing_57 ?_
      exact kret ((u 17 9) + 1) ((up (up u 22 (u 17 9) (s)) 17 (9) ((u 17 9) + 1))) _ _ (Or.inr (Or.inr ⟨by omega, by omega, by omega, rfl, rfl⟩)) dX10_sing_60
    · skip
      refine z_bipush C dX10_sing_21 (by decide) ?_
      exact kret (-3) u _ _ (Or.inr (Or.inl ⟨by omega, by omega, by omega, rfl, rfl⟩)) dX10_sing_23
  · skip
    refine z_iconst C dX10_sing_7 ?_
    exact kret (-1) u _ _ (Or.inl ⟨by omega, rfl, rfl⟩) dX10_sing_8
-- NoteBells.heard
theorem inX10_heard_X10 : ∀ w ∈ wsX100, w ∈ wsX10_heard := fun w h => List.mem_cons_of_mem _ (List.mem_append_left _ (List.mem_append_right _ (h)))
theorem inX10_heard_X2 : ∀ w ∈ wsX20, w ∈ wsX10_heard := fun w h => List.mem_cons_of_mem _ (List.mem_append_right _ (h))
set_option maxHeartbeats 8000000 in
set_option maxRecDepth 100000 in
theorem c_X10_heard (l : Launch) (D : va_G) (a : Nat → Nat) (c : Nat → ClassId) (u : zU) (t s : Int) (hI : IB u) (b_t : -2147483648 ≤ t ∧ t < 2147483648) (b_s : -2147483648 ≤ s ∧ s < 2147483648) : ZM l D (zTy c) (WB a c) yX10_heard wsX10_heard 5 [.ref (a 0), .int (zI t), .int (zI s)] u rI (fun z u' => (¬ (0 ≤ t ∧ t ≤ 99 ∧ -99 ≤ s ∧ s ≤ 99 ∧ (0 < u 17 8 → u 20 (u 17 8 - 1) ≤ t)) ∧ z = -1 ∧ u' = u) ∨ ((0 ≤ t ∧ t ≤ 99 ∧ -99 ≤ s ∧ s ≤ 99 ∧ (0 < u 17 8 → u 20 (u 17 8 - 1) ≤ t)) ∧ 6 ≤ u 17 8 ∧ z = -3 ∧ u' = u) ∨ ((0 ≤ t ∧ t ≤ 99 ∧ -99 ≤ s ∧ s ≤ 99 ∧ (0 < u 17 8 → u 20 (u 17 8 - 1) ≤ t)) ∧ u 17 8 < 6 ∧ z = u 17 8 + 1 ∧ u' = up (up (up u 20 (u 17 8) t) 21 (u 17 8) s) 17 8 (u 17 8 + 1))) := by
  refine ZM.ofI (cc := cX10_heard) (maxL := 3) [(0, .ref (a 0)), (1, .int (zI t)), (2, .int (zI s))] rfl (by decide +kernel) rfl (Nat.le_of_ble_eq_true rfl) (WB_addr a c) ?_
  intro x C hK _ _ hDD kret
  have hno := hI.notes
  refine z_iload_n C 1 dX10_heard_0 rfl ?_
  refine z_iconst C dX10_heard_1 ?_
  refine z_bipush C dX10_heard_2 (by decide) ?_
  refine z_callS C hK hDD (c_X10_isWithin (zl x) (zG x) ((WB a c)) (WB_addr a c) u t 0 99 (by omega) (by omega) (by omega)) gX10_heard_X10_isWithin rfl rfl zy_X10_isWithin ⟨by omega, by decide⟩ rfl (Nat.le_of_ble_eq_true rfl) (st := []) (stk2 := fun z1 => [.int (zI z1)]) rfl (fun _ => rfl) dX10_heard_4 (fun z1 u2 h3 => ?_)
  rw [h3.1]; replace h3 := h3.2
  refine z_if_eq C 17 dX10_heard_7 (by decide) (by omega) (fun h4 => ?_) (fun h4 => ?_)
  · skip
    refine z_iconst C dX10_heard_17 ?_
    exact kret (-1) u _ _ (Or.inl ⟨by omega, rfl, rfl⟩) dX10_heard_18
  · skip
    refine z_iload_n C 2 dX10_heard_10 rfl ?_
    refine z_callS C hK hDD (c_X10_isNote (zl x) (zG x) ((WB a c)) (WB_addr a c) u s (by omega)) gX10_heard_X10_isNote rfl rfl zy_X10_isNote ⟨by omega, by decide⟩ rfl (Nat.le_of_ble_eq_true rfl) (st := []) (stk2 := fun z5 => [.int (zI z5)]) rfl (fun _ => rfl) dX10_heard_11 (fun z5 u6 h7 => ?_)
    rw [h7.1]; replace h7 := h7.2
    refine z_if_ne C 19 dX10_heard_14 (by decide) (by omega) (fun h8 => ?_) (fun h8 => ?_)
    · skip
      refine z_aload_n C 0 dX10_heard_19 rfl ?_
      refine z_get C hK (v := .ref (a 17)) inX10_heard_X10 0 (WB_0 a c u) rfl 4 (by decide) (List.mem_of_getElem? (i := 1) rfl) rfl dX10_heard_20 ?_
      refine z_getN C hK (v := .int (zI (u 17 8))) inX10_heard_X2 17 (WB_17 a c u) rfl 8 (by decide) (List.mem_of_getElem? (i := 8) rfl) rfl dX10_heard_23 ?_
      refine z_if_le C 52 dX10_heard_26 (by decide) (by omega) (fun h9 => ?_) (fun h9 => ?_)
      · skip
        refine z_aload_n C 0 dX10_heard_52 rfl ?_
        refine z_get C hK (v := .ref (a 17)) inX10_heard_X10 0 (WB_0 a c u) rfl 4 (by decide) (List.mem_of_getElem? (i := 1) rfl) rfl dX10_heard_53 ?_
        refine z_getN C hK (v := .int (zI (u 17 8))) inX10_heard_X2 17 (WB_17 a c u) rfl 8 (by decide) (List.mem_of_getElem? (i := 8) rfl) rfl dX10_heard_56 ?_
        refine z_bipush C dX10_heard_59 (by decide) ?_
        refine z_icmp_lt C 67 dX10_heard_61 (by decide) (by omega) (fun h10 => ?_) (fun h10 => ?_)
        · skip
          refine z_aload_n C 0 dX10_heard_67 rfl ?_
          refine z_get C hK (v := .ref (a 17)) inX10_heard_X10 0 (WB_0 a c u) rfl 4 (by decide) (List.mem_of_getElem? (i := 1) rfl) rfl dX10_heard_68 ?_
          refine z_getN C hK (v := .ref (a 20)) inX10_heard_X2 17 (WB_17 a c u) rfl 2 (by decide) (List.mem_of_getElem? (i := 9) rfl) rfl dX10_heard_71 ?_
          refine z_aload_n C 0 dX10_heard_74 rfl ?_
          refine z_get C hK (v := .ref (a 17)) inX10_heard_X10 0 (WB_0 a c u) rfl 4 (by decide) (List.mem_of_getElem? (i := 1) rfl) rfl dX10_heard_75 ?_
          refine z_getN C hK (v := .int (zI (u 17 8))) inX10_heard_X2 17 (WB_17 a c u) rfl 8 (by decide) (List.mem_of_getElem? (i := 8) rfl) rfl dX10_heard_78 ?_
          refine z_iload_n C 1 dX10_heard_81 rfl ?_
          refine z_iast C hK (hDD _) 0 (g := u 20) 20 (WB_20 a c u) rfl (by decide) (by omega) (WB_20_set a c u (u 17 8) t) dX10_heard_82 ?_
          refine z_aload_n C 0 dX10_heard_83 rfl ?_
          refine z_get C hK (v := .ref (a 17)) inX10_heard_X10 0 (WB_0 a c ((up u 20 (u 17 8) (t)))) rfl 4 (by decide) (List.mem_of_getElem? (i := 1) rfl) rfl dX10_heard_84 ?_
          refine z_getN C hK (v := .ref (a 21)) inX10_heard_X2 17 (WB_17 a c ((up u 20 (u 17 8) (t)))) rfl 3 (by decide) (List.mem_of_getElem? (i := 10) rfl) rfl dX10_heard_87 ?_
          refine z_aload_n C 0 dX10_heard_90 rfl ?_
          refine z_get C hK (v := .ref (a 17)) inX10_heard_X10 0 (WB_0 a c ((up u 20 (u 17 8) (t)))) rfl 4 (by decide) (List.mem_of_getElem? (i := 1) rfl) rfl dX10_heard_91 ?_
          refine z_getN C hK (v := .int (zI (u 17 8))) inX10_heard_X2 17 (WB_17 a c ((up u 20 (u 17 8) (t)))) rfl 8 (by decide) (List.mem_of_getElem? (i := 8) rfl) rfl dX10_heard_94 ?_
          refine z_iload_n C 2 dX10_heard_97 rfl ?_
          refine z_iast C hK (hDD _) 0 (g := (up u 20 (u 17 8) (t)) 21) 21 (WB_21 a c ((up u 20 (u 17 8) (t)))) rfl (by decide) (by omega) (WB_21_set a c ((up u 20 (u 17 8) (t))) (u 17 8) s) dX10_heard_98 ?_
          refine z_aload_n C 0 dX10_heard_99 rfl ?_
          refine z_get C hK (v := .ref (a 17)) inX10_heard_X10 0 (WB_0 a c ((up (up u 20 (u 17 8) (t)) 21 (u 17 8) (s)))) rfl 4 (by decide) (List.mem_of_getElem? (i := 1) rfl) rfl dX10_heard_100 ?_
          refine z_dup C dX10_heard_103 rfl ?_
          refine z_getN C hK (v := .int (zI (u 17 8))) inX10_heard_X2 17 (WB_17 a c ((up (up u 20 (u 17 8) (t)) 21 (u 17 8) (s)))) rfl 8 (by decide) (List.mem_of_getElem? (i := 8) rfl) rfl dX10_heard_104 ?_
          refine z_iconst C dX10_heard_107 ?_
          refine z_iadd C dX10_heard_108 ?_
          refine z_putN C hK (hDD _) inX10_heard_X2 tyX2 tyX2_ok nmX2 17 (WB_17 a c ((up (up u 20 (u 17 8) (t)) 21 (u 17 8) (s)))) rfl 8 (by decide) (List.mem_of_getElem? (i := 8) rfl) rfl rfl rfl (Nat.le_of_ble_eq_true rfl) (WB_17_p8 a c ((up (up u 20 (u 17 8) (t)) 21 (u 17 8) (s))) ((u 17 8) + 1)) dX10_heard_109 ?_
          refine z_aload_n C 0 dX10_heard_112 rfl ?_
          refine z_get C hK (v := .ref (a 17)) inX10_heard_X10 0 (WB_0 a c ((up (up (up u 20 (u 17 8) (t)) 21 (u 17 8) (s)) 17 (8) ((u 17 8) + 1)))) rfl 4 (by decide) (List.mem_of_getElem? (i := 1) rfl) rfl dX10_heard_113 ?_
          refine z_getN C hK (v := .int (zI ((u 17 8) + 1))) inX10_heard_X2 17 (WB_17 a c ((up (up (up u 20 (u 17 8) (t)) 21 (u 17 8) (s)) 17 (8) ((u 17 8) + 1)))) rfl 8 (by decide) (List.mem_of_getElem? (i := 8) rfl) rfl dX10_heard_116 ?_
          exact kret ((u 17 8) + 1) ((up (up (up u 20 (u 17 8) (t)) 21 (u 17 8) (s)) 17 (8) ((u 17 8) + 1))) _ _ (Or.inr (Or.inr ⟨by omega, by omega, rfl, rfl⟩)) dX10_heard_119
        · skip
          refine z_bipush C dX10_heard_64 (by decide) ?_
          exact kret (-3) u _ _ (Or.inr (Or.inl ⟨by omega, by omega, rfl, rfl⟩)) dX10_heard_66
      · skip
        have hmi := hI.minute (u 17 8 - 1) (by omega) (by omega)
        refine z_iload_n C 1 dX10_heard_29 rfl ?_
        refine z_aload_n C 0 dX10_heard_30 rfl ?_
        refine z_get C hK (v := .ref (a 17)) inX10_heard_X10 0 (WB_0 a c u) rfl 4 (by decide) (List.mem_of_getElem? (i := 1) rfl) rfl dX10_heard_31 ?_
        refine z_getN C hK (v := .ref (a 20)) inX10_heard_X2 17 (WB_17 a c u) rfl 2 (by decide) (List.mem_of_getElem? (i := 9) rfl) rfl dX10_heard_34 ?_
        refine z_aload_n C 0 dX10_heard_37 rfl ?_
        refine z_get C hK (v := .ref (a 17)) inX10_heard_X10 0 (WB_0 a c u) rfl 4 (by decide) (List.mem_of_getElem? (i := 1) rfl) rfl dX10_heard_38 ?_
        refine z_getN C hK (v := .int (zI (u 17 8))) inX10_heard_X2 17 (WB_17 a c u) rfl 8 (by decide) (List.mem_of_getElem? (i := 8) rfl) rfl dX10_heard_41 ?_
        refine z_iconst C dX10_heard_44 ?_
        refine z_isub C dX10_heard_45 ?_
        refine z_iald C hK 0 (g := (u 20)) (i := ((u 17 8) - 1)) 20 (WB_20 a c u) rfl (by decide) (by omega) dX10_heard_46 ?_
        refine z_as (b := u 20 ((u 17 8) - 1)) rfl ?_
        refine z_icmp_ge C 52 dX10_heard_47 (by decide) (by omega) (fun h11 => ?_) (fun h11 => ?_)
        · skip
          refine z_aload_n C 0 dX10_heard_52 rfl ?_
          refine z_get C hK (v := .ref (a 17)) inX10_heard_X10 0 (WB_0 a c u) rfl 4 (by decide) (List.mem_of_getElem? (i := 1) rfl) rfl dX10_heard_53 ?_
          refine z_getN C hK (v := .int (zI (u 17 8))) inX10_heard_X2 17 (WB_17 a c u) rfl 8 (by decide) (List.mem_of_getElem? (i := 8) rfl) rfl dX10_heard_56 ?_
          refine z_bipush C dX10_heard_59 (by decide) ?_
          refine z_icmp_lt C 67 dX10_heard_61 (by decide) (by omega) (fun h12 => ?_) (fun h12 => ?_)
          · skip
            refine z_aload_n C 0 dX10_heard_67 rfl ?_
            refine z_get C hK (v := .ref (a 17)) inX10_heard_X10 0 (WB_0 a c u) rfl 4 (by decide) (List.mem_of_getElem? (i := 1) rfl) rfl dX10_heard_68 ?_
            refine z_getN C hK (v := .ref (a 20)) inX10_heard_X2 17 (WB_17 a c u) rfl 2 (by decide) (List.mem_of_getElem? (i := 9) rfl) rfl dX10_heard_71 ?_
            refine z_aload_n C 0 dX10_heard_74 rfl ?_
            refine z_get C hK (v := .ref (a 17)) inX10_heard_X10 0 (WB_0 a c u) rfl 4 (by decide) (List.mem_of_getElem? (i := 1) rfl) rfl dX10_heard_75 ?_
            refine z_getN C hK (v := .int (zI (u 17 8))) inX10_heard_X2 17 (WB_17 a c u) rfl 8 (by decide) (List.mem_of_getElem? (i := 8) rfl) rfl dX10_heard_78 ?_
            refine z_iload_n C 1 dX10_heard_81 rfl ?_
            refine z_iast C hK (hDD _) 0 (g := u 20) 20 (WB_20 a c u) rfl (by decide) (by omega) (WB_20_set a c u (u 17 8) t) dX10_heard_82 ?_
            refine z_aload_n C 0 dX10_heard_83 rfl ?_
            refine z_get C hK (v := .ref (a 17)) inX10_heard_X10 0 (WB_0 a c ((up u 20 (u 17 8) (t)))) rfl 4 (by decide) (List.mem_of_getElem? (i := 1) rfl) rfl dX10_heard_84 ?_
            refine z_getN C hK (v := .ref (a 21)) inX10_heard_X2 17 (WB_17 a c ((up u 20 (u 17 8) (t)))) rfl 3 (by decide) (List.mem_of_getElem? (i := 10) rfl) rfl dX10_heard_87 ?_
            refine z_aload_n C 0 dX10_heard_90 rfl ?_
            refine z_get C hK (v := .ref (a 17)) inX10_heard_X10 0 (WB_0 a c ((up u 20 (u 17 8) (t)))) rfl 4 (by decide) (List.mem_of_getElem? (i := 1) rfl) rfl dX10_heard_91 ?_
            refine z_getN C hK (v := .int (zI (u 17 8))) inX10_heard_X2 17 (WB_17 a c ((up u 20 (u 17 8) (t)))) rfl 8 (by decide) (List.mem_of_getElem? (i := 8) rfl) rfl dX10_heard_94 ?_
            refine z_iload_n C 2 dX10_heard_97 rfl ?_
            refine z_iast C hK (hDD _) 0 (g := (up u 20 (u 17 8) (t)) 21) 21 (WB_21 a c ((up u 20 (u 17 8) (t)))) rfl (by decide) (by omega) (WB_21_set a c ((up u 20 (u 17 8) (t))) (u 17 8) s) dX10_heard_98 ?_
            refine z_aload_n C 0 dX10_heard_99 rfl ?_
            refine z_get C hK (v := .ref (a 17)) inX10_heard_X10 0 (WB_0 a c ((up (up u 20 (u 17 8) (t)) 21 (u 17 8) (s)))) rfl 4 (by decide) (List.mem_of_getElem? (i := 1) rfl) rfl dX10_heard_100 ?_
            refine z_dup C dX10_heard_103 rfl ?_
            refine z_getN C hK (v := .int (zI (u 17 8))) inX10_heard_X2 17 (WB_17 a c ((up (up u 20 (u 17 8) (t)) 21 (u 17 8) (s)))) rfl 8 (by decide) (List.mem_of_getElem? (i := 8) rfl) rfl dX10_heard_104 ?_
            refine z_iconst C dX10_heard_107 ?_
            refine z_iadd C dX10_heard_108 ?_
            refine z_putN C hK (hDD _) inX10_heard_X2 tyX2 tyX2_ok nmX2 17 (WB_17 a c ((up (up u 20 (u 17 8) (t)) 21 (u 17 8) (s)))) rfl 8 (by decide) (List.mem_of_getElem? (i := 8) rfl) rfl rfl rfl (Nat.le_of_ble_eq_true rfl) (WB_17_p8 a c ((up (up u 20 (u 17 8) (t)) 21 (u 17 8) (s))) ((u 17 8) + 1)) dX10_heard_109 ?_
            refine z_aload_n C 0 dX10_heard_112 rfl ?_
            refine z_get C hK (v := .ref (a 17)) inX10_heard_X10 0 (WB_0 a c ((up (up (up u 20 (u 17 8) (t)) 21 (u 17 8) (s)) 17 (8) ((u 17 8) + 1)))) rfl 4 (by decide) (List.mem_of_getElem? (i := 1) rfl) rfl dX10_heard_113 ?_
            refine z_getN C hK (v := .int (zI ((u 17 8) + 1))) inX10_heard_X2 17 (WB_17 a c ((up (up (up u 20 (u 17 8) (t)) 21 (u 17 8) (s)) 17 (8) ((u 17 8) + 1)))) rfl 8 (by decide) (List.mem_of_getElem? (i := 8) rfl) rfl dX10_heard_116 ?_
            exact kret ((u 17 8) + 1) ((up (up (up u 20 (u 17 8) (t)) 21 (u 17 8) (s)) 17 (8) ((u 17 8) + 1))) _ _ (Or.inr (Or.inr ⟨by omega, by omega, rfl, rfl⟩)) dX10_heard_119
          · skip
            refine z_bipush C dX10_heard_64 (by decide) ?_
            exact kret (-3) u _ _ (Or.inr (Or.inl ⟨by omega, by omega, rfl, rfl⟩)) dX10_heard_66
        · skip
          refine z_iconst C dX10_heard_50 ?_
          exact kret (-1) u _ _ (Or.inl ⟨by omega, rfl, rfl⟩) dX10_heard_51
    · skip
      refine z_iconst C dX10_heard_17 ?_
      exact kret (-1) u _ _ (Or.inl ⟨by omega, rfl, rfl⟩) dX10_heard_18
-- NoteBells.year
theorem inX10_year_X10 : ∀ w ∈ wsX100, w ∈ wsX10_year := fun w h => List.mem_cons_of_mem _ (List.mem_append_left _ (List.mem_append_left _ (List.mem_append_right _ (h))))
theorem inX10_year_X2 : ∀ w ∈ wsX20, w ∈ wsX10_year := fun w h => List.mem_cons_of_mem _ (List.mem_append_left _ (List.mem_append_right _ (h)))
theorem inX10_year_X8 : ∀ w ∈ wsX80, w ∈ wsX10_year := fun w h => List.mem_cons_of_mem _ (List.mem_append_right _ (h))
set_option maxHeartbeats 8000000 in
set_option maxRecDepth 100000 in
theorem c_X10_year (l : Launch) (D : va_G) (a : Nat → Nat) (c : Nat → ClassId) (u : zU)  (hI : IB u) : ZM l D (zTy c) (WB a c) yX10_year wsX10_year 5 [.ref (a 0)] u rI (fun z u' => (999 ≤ u 17 5 ∧ z = -2 ∧ u' = u) ∨ (u 17 5 < 999 ∧ z = u 17 5 + 1 ∧ u' = up (us u 18 (fun j => if 0 ≤ j ∧ j < u 3 4 then wrn (u 18 j) (u 5 j) 1 else u 18 j)) 17 5 (u 17 5 + 1))) := by
  refine ZM.ofI (cc := cX10_year) (maxL := 2) [(0, .ref (a 0))] rfl (by decide +kernel) rfl (Nat.le_of_ble_eq_true rfl) (WB_addr a c) ?_
  intro x C hK _ _ hDD kret
  have hlv := hI.lev
  have hy := hI.year
  refine z_aload_n C 0 dX10_year_0 rfl ?_
  refine z_get C hK (v := .ref (a 17)) inX10_year_X10 0 (WB_0 a c u) rfl 4 (by decide) (List.mem_of_getElem? (i := 1) rfl) rfl dX10_year_1 ?_
  refine z_getN C hK (v := .int (zI (u 17 5))) inX10_year_X2 17 (WB_17 a c u) rfl 5 (by decide) (List.mem_of_getElem? (i := 6) rfl) rfl dX10_year_4 ?_
  refine z_sipush C dX10_year_7 (by decide) ?_
  refine z_icmp_lt C 16 dX10_year_10 (by decide) (by omega) (fun h1 => ?_) (fun h1 => ?_)
  · skip
    refine z_iconst C dX10_year_16 ?_
    refine z_istore_n C [(1, .int (zI 0)), (0, .ref (a 0))] dX10_year_17 rfl (by decide) rfl ?_
    have L18_2 : ∀ (fu : Nat) (i : Int) (w : Int → Int), (0 ≤ i ∧ i ≤ u 3 4) → (∀ j : Int, w j = if 0 ≤ j ∧ j < i then wrn (u 18 j) (u 5 j) 1 else u 18 j) → u 3 4 - i < (fu : Int) → Z x 0 0 (WB a c (us u 18 (w))) [(0, .ref (a 0)), (1, .int (zI i))] 18 [] := by
      intro fu
      induction fu with
      | zero => intro i w hi hw hm; exfalso; omega
      | succ fu ih18 =>
        intro i w hi hw hm
        refine z_iload_n C 1 dX10_year_18 rfl ?_
        refine z_aload_n C 0 dX10_year_19 rfl ?_
        refine z_get C hK (v := .ref (a 3)) inX10_year_X10 0 (WB_0 a c ((us u 18 (w)))) rfl 1 (by decide) (List.mem_of_getElem? (i := 2) rfl) rfl dX10_year_20 ?_
        refine z_getN C hK (v := .int (zI (u 3 4))) inX10_year_X8 3 (WB_3 a c ((us u 18 (w)))) rfl 4 (by decide) (List.mem_of_getElem? (i := 7) rfl) rfl dX10_year_23 ?_
        refine z_icmp_ge C 66 dX10_year_26 (by decide) (by omega) (fun h3 => ?_) (fun h3 => ?_)
        · skip
          refine z_aload_n C 0 dX10_year_66 rfl ?_
          refine z_get C hK (v := .ref (a 17)) inX10_year_X10 0 (WB_0 a c ((us u 18 (w)))) rfl 4 (by decide) (List.mem_of_getElem? (i := 1) rfl) rfl dX10_year_67 ?_
          refine z_dup C dX10_year_70 rfl ?_
          refine z_getN C hK (v := .int (zI (u 17 5))) inX10_year_X2 17 (WB_17 a c ((us u 18 (w)))) rfl 5 (by decide) (List.mem_of_getElem? (i := 6) rfl) rfl dX10_year_71 ?_
          refine z_iconst C dX10_year_74 ?_
          refine z_iadd C dX10_year_75 ?_
          refine z_putN C hK (hDD _) inX10_year_X2 tyX2 tyX2_ok nmX2 17 (WB_17 a c ((us u 18 (w)))) rfl 5 (by decide) (List.mem_of_getElem? (i := 6) rfl) rfl rfl rfl (Nat.le_of_ble_eq_true rfl) (WB_17_p5 a c ((us u 18 (w))) ((u 17 5) + 1)) dX10_year_76 ?_
          refine z_aload_n C 0 dX10_year_79 rfl ?_
          refine z_get C hK (v := .ref (a 17)) inX10_year_X10 0 (WB_0 a c ((up (us u 18 (w)) 17 (5) ((u 17 5) + 1)))) rfl 4 (by decide) (List.mem_of_getElem? (i := 1) rfl) rfl dX10_year_80 ?_
          refine z_getN C hK (v := .int (zI ((u 17 5) + 1))) inX10_year_X2 17 (WB_17 a c ((up (us u 18 (w)) 17 (5) ((u 17 5) + 1)))) rfl 5 (by decide) (List.mem_of_getElem? (i := 6) rfl) rfl dX10_year_83 ?_
          exact kret ((u 17 5) + 1) (up (us u 18 w) 17 5 (u 17 5 + 1)) _ _ (Or.inr ⟨by omega, rfl, by rw [show w = _ from funext hw, show i = u 3 4 by omega]⟩) dX10_year_86
        · skip
          have hp := hI.pitch i hi.1 (by omega)
          have hwr := hI.wear i hi.1 (by omega)
          have hwi : w i = u 18 i := by rw [hw, if_neg (by omega)]
          refine z_aload_n C 0 dX10_year_29 rfl ?_
          refine z_get C hK (v := .ref (a 17)) inX10_year_X10 0 (WB_0 a c ((us u 18 (w)))) rfl 4 (by decide) (List.mem_of_getElem? (i := 1) rfl) rfl dX10_year_30 ?_
          refine z_getN C hK (v := .ref (a 18)) inX10_year_X2 17 (WB_17 a c ((us u 18 (w)))) rfl 0 (by decide) (List.mem_of_getElem? (i := 0) rfl) rfl dX10_year_33 ?_
          refine z_iload_n C 1 dX10_year_36 rfl ?_
          refine z_aload_n C 0 dX10_year_37 rfl ?_
          refine z_get C hK (v := .ref (a 17)) inX10_year_X10 0 (WB_0 a c ((us u 18 (w)))) rfl 4 (by decide) (List.mem_of_getElem? (i := 1) rfl) rfl dX10_year_38 ?_
          refine z_getN C hK (v := .ref (a 18)) inX10_year_X2 17 (WB_17 a c ((us u 18 (w)))) rfl 0 (by decide) (List.mem_of_getElem? (i := 0) rfl) rfl dX10_year_41 ?_
          refine z_iload_n C 1 dX10_year_44 rfl ?_
          refine z_iald C hK 0 (g := w) (i := i) 18 (WB_18 a c ((us u 18 (w)))) rfl (by decide) (by omega) dX10_year_45 ?_
          refine z_as (b := w (i)) rfl ?_
          refine z_aload_n C 0 dX10_year_46 rfl ?_
          refine z_get C hK (v := .ref (a 3)) inX10_year_X10 0 (WB_0 a c ((us u 18 (w)))) rfl 1 (by decide) (List.mem_of_getElem? (i := 2) rfl) rfl dX10_year_47 ?_
          refine z_getN C hK (v := .ref (a 5)) inX10_year_X8 3 (WB_3 a c ((us u 18 (w)))) rfl 1 (by decide) (List.mem_of_getElem? (i := 1) rfl) rfl dX10_year_50 ?_
          refine z_iload_n C 1 dX10_year_53 rfl ?_
          refine z_iald C hK 0 (g := (u 5)) (i := i) 5 (WB_5 a c ((us u 18 (w)))) rfl (by decide) (by omega) dX10_year_54 ?_
          refine z_as (b := u 5 (i)) rfl ?_
          refine z_iconst C dX10_year_55 ?_
          refine z_callS C hK hDD (c_X10_worn (zl x) (zG x) ((WB a c)) (WB_addr a c) ((us u 18 (w))) (w (i)) (u 5 (i)) 1 (by rw [hwi]; exact hp) (by omega) (by omega)) gX10_year_X10_worn rfl rfl zy_X10_worn ⟨by omega, by decide⟩ rfl (Nat.le_of_ble_eq_true rfl) (st := [.int (zI i), .ref (a 18)]) (stk2 := fun z4 => [.int (zI z4), .int (zI i), .ref (a 18)]) rfl (fun _ => rfl) dX10_year_56 (fun z4 u5 h6 => ?_)
          rw [h6.1]; replace h6 := h6.2
          refine z_as (b := wrn (w (i)) (u 5 (i)) 1) h6 ?_
          refine z_iast C hK (hDD _) 0 (g := (us u 18 (w)) 18) 18 (WB_18 a c ((us u 18 (w)))) rfl (by decide) (by omega) (WB_18_set a c ((us u 18 (w))) i (wrn (w (i)) (u 5 (i)) 1)) dX10_year_59 ?_
          refine z_iinc C 1 [(1, .int (zI (i + 1))), (0, .ref (a 0))] dX10_year_60 rfl (by decide) rfl ?_
          refine z_goto C 18 dX10_year_63 (by decide) ?_
          refine z_lv [(0, .ref (a 0)), (1, .int (zI (i + 1)))] [1, 0] rfl ?_
          exact ih18 (i + 1) (fun j => if j = i then wrn (w i) (u 5 i) 1 else w j) (by omega) (year_step hi.1 hw) (by omega)
    refine z_lv [(0, .ref (a 0)), (1, .int (zI 0))] [1, 0] rfl ?_
    exact L18_2 (((u 3 4 - 0 : Int)).toNat + 1) 0 (u 18) (by omega) (fun j => by rw [if_neg (by omega)]) (by omega)
  · skip
    refine z_bipush C dX10_year_13 (by decide) ?_
    exact kret (-2) u _ _ (Or.inl ⟨by omega, rfl, rfl⟩) dX10_year_15
-- NoteBells.count
theorem inX10_count_X10 : ∀ w ∈ wsX100, w ∈ wsX10_count := fun w h => List.mem_cons_of_mem _ (List.mem_append_left _ (List.mem_append_left _ (List.mem_append_left _ (List.mem_append_right _ (h)))))
theorem inX10_count_X8 : ∀ w ∈ wsX80, w ∈ wsX10_count := fun w h => List.mem_cons_of_mem _ (List.mem_append_left _ (List.mem_append_left _ (List.mem_append_right _ (h))))
theorem inX10_count_X2 : ∀ w ∈ wsX20, w ∈ wsX10_count := fun w h => List.mem_cons_of_mem _ (List.mem_append_left _ (List.mem_append_right _ (h)))
theorem inX10_count_X7 : ∀ w ∈ wsX70, w ∈ wsX10_count := fun w h => List.mem_cons_of_mem _ (List.mem_append_right _ (h))
set_option maxHeartbeats 8000000 in
set_option maxRecDepth 100000 in
theorem c_X10_count (l : Launch) (D : va_G) (a : Nat → Nat) (c : Nat → ClassId) (u : zU) (k : Int) (b_k : -2147483648 ≤ k ∧ k < 2147483648) : ZM l D (zTy c) (WB a c) yX10_count wsX10_count 3 [.ref (a 0), .int (zI k)] u rI (fun z u' => u' = u ∧ ((k = 0 ∧ z = u 3 4) ∨ (k = 1 ∧ z = u 3 5) ∨ (k = 2 ∧ z = u 3 6) ∨ (k = 3 ∧ z = u 17 6) ∨ (k = 4 ∧ z = u 3 8) ∨ (k = 5 ∧ z = u 17 8) ∨ (k = 6 ∧ z = u 17 9) ∨ (k = 7 ∧ z = u 17 5) ∨ (k = 8 ∧ z = u 1 1) ∨ ((k < 0 ∨ 8 < k) ∧ z = -1))) := by
  refine ZM.ofI (cc := cX10_count) (maxL := 2) [(0, .ref (a 0)), (1, .int (zI k))] rfl (by decide +kernel) rfl (Nat.le_of_ble_eq_true rfl) (WB_addr a c) ?_
  intro x C hK _ _ hDD kret
  refine z_iload_n C 1 dX10_count_0 rfl ?_
  by_cases h1 : k < 0 ∨ 8 < k
  · refine z_tableOut C 124 dX10_count_1 (by omega) h1 (by decide) ?_
    refine z_iconst C dX10_count_124 ?_
    exact kret (-1) u _ _ (⟨rfl, Or.inr (Or.inr (Or.inr (Or.inr (Or.inr (Or.inr (Or.inr (Or.inr (Or.inr ((⟨by omega, rfl⟩))))))))))⟩) dX10_count_125
  by_cases h3 : k = 0
  · refine z_tableIn C (off := 51) 52 dX10_count_1 (by omega) ⟨by omega, by omega⟩ (by rw [h3]; rfl) (by decide) ?_
    refine z_aload_n C 0 dX10_count_52 rfl ?_
    refine z_get C hK (v := .ref (a 3)) inX10_count_X10 0 (WB_0 a c u) rfl 1 (by decide) (List.mem_of_getElem? (i := 1) rfl) rfl dX10_count_53 ?_
    refine z_getN C hK (v := .int (zI (u 3 4))) inX10_count_X8 3 (WB_3 a c u) rfl 4 (by decide) (List.mem_of_getElem? (i := 7) rfl) rfl dX10_count_56 ?_
    exact kret (u 3 4) u _ _ (⟨rfl, Or.inl (⟨by omega, rfl⟩)⟩) dX10_count_59
  by_cases h4 : k = 1
  · refine z_tableIn C (off := 59) 60 dX10_count_1 (by omega) ⟨by omega, by omega⟩ (by rw [h4]; rfl) (by decide) ?_
    refine z_aload_n C 0 dX10_count_60 rfl ?_
    refine z_get C hK (v := .ref (a 3)) inX10_count_X10 0 (WB_0 a c u) rfl 1 (by decide) (List.mem_of_getElem? (i := 1) rfl) rfl dX10_count_61 ?_
    refine z_getN C hK (v := .int (zI (u 3 5))) inX10_count_X8 3 (WB_3 a c u) rfl 5 (by decide) (List.mem_of_getElem? (i := 13) rfl) rfl dX10_count_64 ?_
    exact kret (u 3 5) u _ _ (⟨rfl, Or.inr (Or.inl (⟨by omega, rfl⟩))⟩) dX10_count_67
  by_cases h5 : k = 2
  · refine z_tableIn C (off := 67) 68 dX10_count_1 (by omega) ⟨by omega, by omega⟩ (by rw [h5]; rfl) (by decide) ?_
    refine z_aload_n C 0 dX10_count_68 rfl ?_
    refine z_get C hK (v := .ref (a 3)) inX10_count_X10 0 (WB_0 a c u) rfl 1 (by decide) (List.mem_of_getElem? (i := 1) rfl) rfl dX10_count_69 ?_
    refine z_getN C hK (v := .int (zI (u 3 6))) inX10_count_X8 3 (WB_3 a c u) rfl 6 (by decide) (List.mem_of_getElem? (i := 14) rfl) rfl dX10_count_72 ?_
    exact kret (u 3 6) u _ _ (⟨rfl, Or.inr (Or.inr (Or.inl (⟨by omega, rfl⟩)))⟩) dX10_count_75
  by_cases h6 : k = 3
  · refine z_tableIn C (off := 75) 76 dX10_count_1 (by omega) ⟨by omega, by omega⟩ (by rw [h6]; rfl) (by decide) ?_
    refine z_aload_n C 0 dX10_count_76 rfl ?_
    refine z_get C hK (v := .ref (a 17)) inX10_count_X10 0 (WB_0 a c u) rfl 4 (by decide) (List.mem_of_getElem? (i := 2) rfl) rfl dX10_count_77 ?_
    refine z_getN C hK (v := .int (zI (u 17 6))) inX10_count_X2 17 (WB_17 a c u) rfl 6 (by decide) (List.mem_of_getElem? (i := 4) rfl) rfl dX10_count_80 ?_
    exact kret (u 17 6) u _ _ (⟨rfl, Or.inr (Or.inr (Or.inr (Or.inl (⟨by omega, rfl⟩))))⟩) dX10_count_83
  by_cases h7 : k = 4
  · refine z_tableIn C (off := 83) 84 dX10_count_1 (by omega) ⟨by omega, by omega⟩ (by rw [h7]; rfl) (by decide) ?_
    refine z_aload_n C 0 dX10_count_84 rfl ?_
    refine z_get C hK (v := .ref (a 3)) inX10_count_X10 0 (WB_0 a c u) rfl 1 (by decide) (List.mem_of_getElem? (i := 1) rfl) rfl dX10_count_85 ?_
    refine z_getN C hK (v := .int (zI (u 3 8))) inX10_count_X8 3 (WB_3 a c u) rfl 8 (by decide) (List.mem_of_getElem? (i := 15) rfl) rfl dX10_count_88 ?_
    exact kret (u 3 8) u _ _ (⟨rfl, Or.inr (Or.inr (Or.inr (Or.inr (Or.inl (⟨by omega, rfl⟩)))))⟩) dX10_count_91
  by_cases h8 : k = 5
  · refine z_tableIn C (off := 91) 92 dX10_count_1 (by omega) ⟨by omega, by omega⟩ (by rw [h8]; rfl) (by decide) ?_
    refine z_aload_n C 0 dX10_count_92 rfl ?_
    refine z_get C hK (v := .ref (a 17)) inX10_count_X10 0 (WB_0 a c u) rfl 4 (by decide) (List.mem_of_getElem? (i := 2) rfl) rfl dX10_count_93 ?_
    refine z_getN C hK (v := .int (zI (u 17 8))) inX10_count_X2 17 (WB_17 a c u) rfl 8 (by decide) (List.mem_of_getElem? (i := 8) rfl) rfl dX10_count_96 ?_
    exact kret (u 17 8) u _ _ (⟨rfl, Or.inr (Or.inr (Or.inr (Or.inr (Or.inr (Or.inl (⟨by omega, rfl⟩))))))⟩) dX10_count_99
  by_cases h9 : k = 6
  · refine z_tableIn C (off := 99) 100 dX10_count_1 (by omega) ⟨by omega, by omega⟩ (by rw [h9]; rfl) (by decide) ?_
    refine z_aload_n C 0 dX10_count_100 rfl ?_
    refine z_get C hK (v := .ref (a 17)) inX10_count_X10 0 (WB_0 a c u) rfl 4 (by decide) (List.mem_of_getElem? (i := 2) rfl) rfl dX10_count_101 ?_
    refine z_getN C hK (v := .int (zI (u 17 9))) inX10_count_X2 17 (WB_17 a c u) rfl 9 (by decide) (List.mem_of_getElem? (i := 11) rfl) rfl dX10_count_104 ?_
    exact kret (u 17 9) u _ _ (⟨rfl, Or.inr (Or.inr (Or.inr (Or.inr (Or.inr (Or.inr (Or.inl (⟨by omega, rfl⟩)))))))⟩) dX10_count_107
  by_cases h10 : k = 7
  · refine z_tableIn C (off := 107) 108 dX10_count_1 (by omega) ⟨by omega, by omega⟩ (by rw [h10]; rfl) (by decide) ?_
    refine z_aload_n C 0 dX10_count_108 rfl ?_
    refine z_get C hK (v := .ref (a 17)) inX10_count_X10 0 (WB_0 a c u) rfl 4 (by decide) (List.mem_of_getElem? (i := 2) rfl) rfl dX10_count_109 ?_
    refine z_getN C hK (v := .int (zI (u 17 5))) inX10_count_X2 17 (WB_17 a c u) rfl 5 (by decide) (List.mem_of_getElem? (i := 6) rfl) rfl dX10_count_112 ?_
    exact kret (u 17 5) u _ _ (⟨rfl, Or.inr (Or.inr (Or.inr (Or.inr (Or.inr (Or.inr (Or.inr (Or.inl (⟨by omega, rfl⟩))))))))⟩) dX10_count_115
  have h11 : k = 8 := by omega
  refine z_tableIn C (off := 115) 116 dX10_count_1 (by omega) ⟨by omega, by omega⟩ (by rw [h11]; rfl) (by decide) ?_
  refine z_aload_n C 0 dX10_count_116 rfl ?_
  refine z_get C hK (v := .ref (a 1)) inX10_count_X10 0 (WB_0 a c u) rfl 0 (by decide) (List.mem_of_getElem? (i := 3) rfl) rfl dX10_count_117 ?_
  refine z_getN C hK (v := .int (zI (u 1 1))) inX10_count_X7 1 (WB_1 a c u) rfl 1 (by decide) (List.mem_of_getElem? (i := 16) rfl) rfl dX10_count_120 ?_
  exact kret (u 1 1) u _ _ (⟨rfl, Or.inr (Or.inr (Or.inr (Or.inr (Or.inr (Or.inr (Or.inr (Or.inr (Or.inl (⟨by omega, rfl⟩)))))))))⟩) dX10_count_123
-- NoteBells.trace
theorem inX10_trace_X10 : ∀ w ∈ wsX100, w ∈ wsX10_trace := fun w h => List.mem_cons_of_mem _ (List.mem_append_left _ (List.mem_append_right _ (h)))
theorem inX10_trace_X1 : ∀ w ∈ wsX10, w ∈ wsX10_trace := fun w h => List.mem_cons_of_mem _ (List.mem_append_right _ (h))
set_option maxHeartbeats 8000000 in
set_option maxRecDepth 100000 in
theorem c_X10_trace (l : Launch) (D : va_G) (a : Nat → Nat) (c : Nat → ClassId) (u : zU)   : ZM l D (zTy c) (WB a c) yX10_trace wsX10_trace 3 [.ref (a 0)] u rL (fun z u' => u' = u ∧ z = u 60 2) := by
  refine ZM.ofL (cc := cX10_trace) (maxL := 1) [(0, .ref (a 0))] rfl (by decide +kernel) rfl (Nat.le_of_ble_eq_true rfl) (WB_addr a c) ?_
  intro x C hK _ _ hDD kret
  refine z_aload_n C 0 dX10_trace_0 rfl ?_
  refine z_get C hK (v := .ref (a 60)) inX10_trace_X10 0 (WB_0 a c u) rfl 12 (by decide) (List.mem_of_getElem? (i := 1) rfl) rfl dX10_trace_1 ?_
  refine z_getN C hK (v := .long (zL (u 60 2))) inX10_trace_X1 60 (WB_60 a c u) rfl 2 (by decide) (List.mem_of_getElem? (i := 17) rfl) rfl dX10_trace_4 ?_
  exact kret (u 60 2) u _ _ (⟨rfl, rfl⟩) dX10_trace_7
-- NoteBells$Text.drop
theorem inX7_drop_X7 : ∀ w ∈ wsX70, w ∈ wsX7_drop := fun w h => List.mem_cons_of_mem _ (List.mem_append_right _ (h))
set_option maxHeartbeats 8000000 in
set_option maxRecDepth 100000 in
theorem c_X7_drop (l : Launch) (D : va_G) (a : Nat → Nat) (c : Nat → ClassId) (u : zU)   : ZM l D (zTy c) (WB a c) yX7_drop wsX7_drop 2 [.ref (a 1)] u rI (fun z u' => u' = (up u 1 (1) (0)) ∧ z = u 1 1) := by
  refine ZM.ofI (cc := cX7_drop) (maxL := 2) [(0, .ref (a 1))] rfl (by decide +kernel) rfl (Nat.le_of_ble_eq_true rfl) (WB_addr a c) ?_
  intro x C hK _ _ hDD kret
  refine z_aload_n C 0 dX7_drop_0 rfl ?_
  refine z_get C hK (v := .int (zI (u 1 1))) inX7_drop_X7 1 (WB_1 a c u) rfl 1 (by decide) (List.mem_of_getElem? (i := 1) rfl) rfl dX7_drop_1 ?_
  refine z_istore_n C [(1, .int (zI (u 1 1))), (0, .ref (a 1))] dX7_drop_4 rfl (by decide) rfl ?_
  refine z_aload_n C 1 dX7_drop_5 rfl ?_
  refine z_iconst C dX7_drop_6 ?_
  refine z_put C hK (hDD _) inX7_drop_X7 tyX7 tyX7_ok nmX7 1 (WB_1 a c u) rfl 1 (by decide) (List.mem_of_getElem? (i := 1) rfl) rfl rfl rfl (Nat.le_of_ble_eq_true rfl) (WB_1_p1 a c u 0) dX7_drop_7 ?_
  refine z_iload_n C 0 dX7_drop_10 rfl ?_
  exact kret (u 1 1) ((up u 1 (1) (0))) _ _ (⟨rfl, rfl⟩) dX7_drop_11
-- NoteBells.clear
theorem inX10_clear_X10 : ∀ w ∈ wsX100, w ∈ wsX10_clear := fun w h => List.mem_cons_of_mem _ (List.mem_append_left _ (List.mem_append_right _ (h)))
set_option maxHeartbeats 8000000 in
set_option maxRecDepth 100000 in
theorem c_X10_clear (l : Launch) (D : va_G) (a : Nat → Nat) (c : Nat → ClassId) (u : zU)   : ZM l D (zTy c) (WB a c) yX10_clear wsX10_clear 3 [.ref (a 0)] u rI (fun z u' => u' = (up u 1 (1) (0)) ∧ z = u 1 1) := by
  refine ZM.ofI (cc := cX10_clear) (maxL := 1) [(0, .ref (a 0))] rfl (by decide +kernel) rfl (Nat.le_of_ble_eq_true rfl) (WB_addr a c) ?_
  intro x C hK _ _ hDD kret
  refine z_aload_n C 0 dX10_clear_0 rfl ?_
  refine z_get C hK (v := .ref (a 1)) inX10_clear_X10 0 (WB_0 a c u) rfl 0 (by decide) (List.mem_of_getElem? (i := 1) rfl) rfl dX10_clear_1 ?_
  refine z_callVN C hK hDD (c_X7_drop (zl x) (zG x) a c u  ) ggX10_clear_X7_drop (List.mem_of_getElem? (i := 11) rfl) (List.mem_of_getElem? (i := 3) rfl) (List.mem_of_getElem? (i := 2) rfl) (List.mem_of_getElem? (i := 4) rfl) rfl zy_X7_drop 1 (WB_1 a c u) rfl ⟨by omega, by decide⟩ rfl (Nat.le_of_ble_eq_true rfl) (st := []) (stk2 := fun z1 => [.int (zI z1)]) rfl (fun _ => rfl) dX10_clear_4 (fun z1 u2 h3 => ?_)
  rw [h3.1]; replace h3 := h3.2
  change Z x 0 0 (WB a c (up u 1 (1) (0))) _ _ _
  refine z_as (b := u 1 1) h3 ?_
  exact kret (u 1 1) ((up u 1 (1) (0))) _ _ (⟨rfl, rfl⟩) dX10_clear_7
-- NoteBells$Kinds.asLevel
theorem inX1_asLevel_X1 : ∀ w ∈ wsX10, w ∈ wsX1_asLevel := fun w h => List.mem_cons_of_mem _ (List.mem_append_left _ (List.mem_append_right _ (h)))
theorem inX1_asLevel_X2 : ∀ w ∈ wsX20, w ∈ wsX1_asLevel := fun w h => List.mem_cons_of_mem _ (List.mem_append_right _ (h))
set_option maxHeartbeats 8000000 in
set_option maxRecDepth 100000 in
theorem c_X1_asLevel (l : Launch) (D : va_G) (a : Nat → Nat) (c : Nat → ClassId) (u : zU) (m : Int) (b_m : 0 ≤ m ∧ m ≤ 7) : ZM l D (zTy c) (WB a c) yX1_asLevel wsX1_asLevel 2 [.ref (a 60), .int (zI m)] u rI (fun z u' => u' = (up u 60 (2) (u 60 2 + 1)) ∧ z = u 18 m) := by
  refine ZM.ofI (cc := cX1_asLevel) (maxL := 2) [(0, .ref (a 60)), (1, .int (zI m))] rfl (by decide +kernel) rfl (Nat.le_of_ble_eq_true rfl) (WB_addr a c) ?_
  intro x C hK _ _ hDD kret
  refine z_aload_n C 0 dX1_asLevel_0 rfl ?_
  refine z_dup C dX1_asLevel_1 rfl ?_
  refine z_get C hK (v := .long (zL (u 60 2))) inX1_asLevel_X1 60 (WB_60 a c u) rfl 2 (by decide) (List.mem_of_getElem? (i := 1) rfl) rfl dX1_asLevel_2 ?_
  refine z_lconst C (z := 1) dX1_asLevel_5 (by decide) ?_
  refine z_ladd C ((u 60 2) + 1) dX1_asLevel_6 (zL_add _ _) ?_
  refine z_put C hK (hDD _) inX1_asLevel_X1 tyX1 tyX1_ok nmX1 60 (WB_60 a c u) rfl 2 (by decide) (List.mem_of_getElem? (i := 1) rfl) rfl rfl rfl (Nat.le_of_ble_eq_true rfl) (WB_60_p2 a c u ((u 60 2) + 1)) dX1_asLevel_7 ?_
  refine z_aload_n C 0 dX1_asLevel_10 rfl ?_
  refine z_get C hK (v := .ref (a 17)) inX1_asLevel_X1 60 (WB_60 a c ((up u 60 (2) ((u 60 2) + 1)))) rfl 1 (by decide) (List.mem_of_getElem? (i := 2) rfl) rfl dX1_asLevel_11 ?_
  refine z_getN C hK (v := .ref (a 18)) inX1_asLevel_X2 17 (WB_17 a c ((up u 60 (2) ((u 60 2) + 1)))) rfl 0 (by decide) (List.mem_of_getElem? (i := 22) rfl) rfl dX1_asLevel_14 ?_
  refine z_iload_n C 1 dX1_asLevel_17 rfl ?_
  refine z_iald C hK 0 (g := (u 18)) (i := m) 18 (WB_18 a c ((up u 60 (2) ((u 60 2) + 1)))) rfl (by decide) (by omega) dX1_asLevel_18 ?_
  refine z_as (b := u 18 (m)) rfl ?_
  exact kret (u 18 (m)) ((up u 60 (2) (u 60 2 + 1))) _ _ (⟨rfl, rfl⟩) dX1_asLevel_19
-- NoteBells$Kinds.asGallery
theorem inX1_asGallery_X1 : ∀ w ∈ wsX10, w ∈ wsX1_asGallery := fun w h => List.mem_cons_of_mem _ (List.mem_append_left _ (List.mem_append_left _ (List.mem_append_right _ (h))))
theorem inX1_asGallery_X8 : ∀ w ∈ wsX80, w ∈ wsX1_asGallery := fun w h => List.mem_cons_of_mem _ (List.mem_append_left _ (List.mem_append_right _ (h)))
set_option maxHeartbeats 8000000 in
set_option maxRecDepth 100000 in
theorem c_X1_asGallery (l : Launch) (D : va_G) (a : Nat → Nat) (c : Nat → ClassId) (u : zU) (m : Int) (b_m : 0 ≤ m ∧ m ≤ 7) : ZM l D (zTy c) (WB a c) yX1_asGallery wsX1_asGallery 3 [.ref (a 60), .int (zI m)] u rI (fun z u' => u' = (up u 60 (2) (u 60 2 + 11)) ∧ z = u 18 m + u 6 m) := by
  refine ZM.ofI (cc := cX1_asGallery) (maxL := 2) [(0, .ref (a 60)), (1, .int (zI m))] rfl (by decide +kernel) rfl (Nat.le_of_ble_eq_true rfl) (WB_addr a c) ?_
  intro x C hK _ _ hDD kret
  refine z_aload_n C 0 dX1_asGallery_0 rfl ?_
  refine z_dup C dX1_asGallery_1 rfl ?_
  refine z_get C hK (v := .long (zL (u 60 2))) inX1_asGallery_X1 60 (WB_60 a c u) rfl 2 (by decide) (List.mem_of_getElem? (i := 1) rfl) rfl dX1_asGallery_2 ?_
  refine z_ldc2 C (v := 10) (z := 10) (by decide) (List.mem_of_getElem? (i := 2) rfl) dX1_asGallery_5 ?_
  refine z_ladd C ((u 60 2) + 10) dX1_asGallery_8 (zL_add _ _) ?_
  refine z_put C hK (hDD _) inX1_asGallery_X1 tyX1 tyX1_ok nmX1 60 (WB_60 a c u) rfl 2 (by decide) (List.mem_of_getElem? (i := 1) rfl) rfl rfl rfl (Nat.le_of_ble_eq_true rfl) (WB_60_p2 a c u ((u 60 2) + 10)) dX1_asGallery_9 ?_
  refine z_aload_n C 0 dX1_asGallery_12 rfl ?_
  refine z_iload_n C 1 dX1_asGallery_13 rfl ?_
  refine z_callV C hK hDD (c_X1_asLevel (zl x) (zG x) a c ((up u 60 (2) ((u 60 2) + 10))) m (show 0 ≤ m ∧ m ≤ 7 by omega)) gX1_asGallery_X1_asLevel rfl zy_X1_asLevel 60 (WB_60 a c ((up u 60 (2) ((u 60 2) + 10)))) rfl ⟨by omega, by decide⟩ rfl (Nat.le_of_ble_eq_true rfl) (st := []) (stk2 := fun z1 => [.int (zI z1)]) rfl (fun _ => rfl) dX1_asGallery_14 (fun z1 u2 h3 => ?_)
  rw [h3.1]; replace h3 := h3.2
  change Z x 0 0 (WB a c (up (up u 60 (2) ((u 60 2) + 10)) 60 (2) (((u 60 2) + 10) + 1))) _ _ _
  refine z_as (b := (u 18) m) h3 ?_
  refine z_ws (ws' := (WB a c (up u 60 (2) (u 60 2 + 11)))) (by rw [up_up]; exact congrArg (fun q => WB a c (up u 60 2 q)) (by omega)) ?_
  refine z_aload_n C 0 dX1_asGallery_17 rfl ?_
  refine z_get C hK (v := .ref (a 3)) inX1_asGallery_X1 60 (WB_60 a c ((up u 60 (2) (u 60 2 + 11)))) rfl 0 (by decide) (List.mem_of_getElem? (i := 3) rfl) rfl dX1_asGallery_18 ?_
  refine z_getN C hK (v := .ref (a 6)) inX1_asGallery_X8 3 (WB_3 a c ((up u 60 (2) (u 60 2 + 11)))) rfl 2 (by decide) (List.mem_of_getElem? (i := 23) rfl) rfl dX1_asGallery_21 ?_
  refine z_iload_n C 1 dX1_asGallery_24 rfl ?_
  refine z_iald C hK 0 (g := (u 6)) (i := m) 6 (WB_6 a c ((up u 60 (2) (u 60 2 + 11)))) rfl (by decide) (by omega) dX1_asGallery_25 ?_
  refine z_as (b := u 6 (m)) rfl ?_
  refine z_iadd C dX1_asGallery_26 ?_
  exact kret (((u 18) m) + (u 6 (m))) ((up u 60 (2) (u 60 2 + 11))) _ _ (⟨rfl, rfl⟩) dX1_asGallery_27
-- NoteBells$Kinds.asSump
theorem inX1_asSump_X1 : ∀ w ∈ wsX10, w ∈ wsX1_asSump := fun w h => List.mem_cons_of_mem _ (List.mem_append_left _ (List.mem_append_right _ (h)))
theorem inX1_asSump_X2 : ∀ w ∈ wsX20, w ∈ wsX1_asSump := fun w h => List.mem_cons_of_mem _ (List.mem_append_right _ (h))
set_option maxHeartbeats 8000000 in
set_option maxRecDepth 100000 in
theorem c_X1_asSump (l : Launch) (D : va_G) (a : Nat → Nat) (c : Nat → ClassId) (u : zU) (m : Int) (b_m : 0 ≤ m ∧ m ≤ 7) : ZM l D (zTy c) (WB a c) yX1_asSump wsX1_asSump 3 [.ref (a 60), .int (zI m)] u rI (fun z u' => u' = (up u 60 (2) (u 60 2 + 101)) ∧ z = u 18 m - u 17 6) := by
  refine ZM.ofI (cc := cX1_asSump) (maxL := 2) [(0, .ref (a 60)), (1, .int (zI m))] rfl (by decide +kernel) rfl (Nat.le_of_ble_eq_true rfl) (WB_addr a c) ?_
  intro x C hK _ _ hDD kret
  refine z_aload_n C 0 dX1_asSump_0 rfl ?_
  refine z_dup C dX1_asSump_1 rfl ?_
  refine z_get C hK (v := .long (zL (u 60 2))) inX1_asSump_X1 60 (WB_60 a c u) rfl 2 (by decide) (List.mem_of_getElem? (i := 1) rfl) rfl dX1_asSump_2 ?_
  refine z_ldc2 C (v := 100) (z := 100) (by decide) (List.mem_of_getElem? (i := 2) rfl) dX1_asSump_5 ?_
  refine z_ladd C ((u 60 2) + 100) dX1_asSump_8 (zL_add _ _) ?_
  refine z_put C hK (hDD _) inX1_asSump_X1 tyX1 tyX1_ok nmX1 60 (WB_60 a c u) rfl 2 (by decide) (List.mem_of_getElem? (i := 1) rfl) rfl rfl rfl (Nat.le_of_ble_eq_true rfl) (WB_60_p2 a c u ((u 60 2) + 100)) dX1_asSump_9 ?_
  refine z_aload_n C 0 dX1_asSump_12 rfl ?_
  refine z_iload_n C 1 dX1_asSump_13 rfl ?_
  refine z_callV C hK hDD (c_X1_asLevel (zl x) (zG x) a c ((up u 60 (2) ((u 60 2) + 100))) m (show 0 ≤ m ∧ m ≤ 7 by omega)) gX1_asSump_X1_asLevel rfl zy_X1_asLevel 60 (WB_60 a c ((up u 60 (2) ((u 60 2) + 100)))) rfl ⟨by omega, by decide⟩ rfl (Nat.le_of_ble_eq_true rfl) (st := []) (stk2 := fun z1 => [.int (zI z1)]) rfl (fun _ => rfl) dX1_asSump_14 (fun z1 u2 h3 => ?_)
  rw [h3.1]; replace h3 := h3.2
  change Z x 0 0 (WB a c (up (up u 60 (2) ((u 60 2) + 100)) 60 (2) (((u 60 2) + 100) + 1))) _ _ _
  refine z_as (b := (u 18) m) h3 ?_
  refine z_ws (ws' := (WB a c (up u 60 (2) (u 60 2 + 101)))) (by rw [up_up]; exact congrArg (fun q => WB a c (up u 60 2 q)) (by omega)) ?_
  refine z_aload_n C 0 dX1_asSump_17 rfl ?_
  refine z_get C hK (v := .ref (a 17)) inX1_asSump_X1 60 (WB_60 a c ((up u 60 (2) (u 60 2 + 101)))) rfl 1 (by decide) (List.mem_of_getElem? (i := 3) rfl) rfl dX1_asSump_18 ?_
  refine z_getN C hK (v := .int (zI (u 17 6))) inX1_asSump_X2 17 (WB_17 a c ((up u 60 (2) (u 60 2 + 101)))) rfl 6 (by decide) (List.mem_of_getElem? (i := 24) rfl) rfl dX1_asSump_21 ?_
  refine z_isub C dX1_asSump_24 ?_
  exact kret (((u 18) m) - (u 17 6)) ((up u 60 (2) (u 60 2 + 101))) _ _ (⟨rfl, rfl⟩) dX1_asSump_25
-- NoteBells$Kinds.asDeep
theorem inX1_asDeep_X1 : ∀ w ∈ wsX10, w ∈ wsX1_asDeep := fun w h => List.mem_cons_of_mem _ (List.mem_append_left _ (List.mem_append_left _ (List.mem_append_right _ (h))))
set_option maxHeartbeats 8000000 in
set_option maxRecDepth 100000 in
theorem c_X1_asDeep (l : Launch) (D : va_G) (a : Nat → Nat) (c : Nat → ClassId) (u : zU) (m : Int) (b_m : 0 ≤ m ∧ m ≤ 7) : ZM l D (zTy c) (WB a c) yX1_asDeep wsX1_asDeep 4 [.ref (a 60), .int (zI m)] u rI (fun z u' => u' = (up u 60 (2) (u 60 2 + 1011)) ∧ z = (u 18 m + u 6 m) * 2) := by
  refine ZM.ofI (cc := cX1_asDeep) (maxL := 2) [(0, .ref (a 60)), (1, .int (zI m))] rfl (by decide +kernel) rfl (Nat.le_of_ble_eq_true rfl) (WB_addr a c) ?_
  intro x C hK _ _ hDD kret
  refine z_aload_n C 0 dX1_asDeep_0 rfl ?_
  refine z_dup C dX1_asDeep_1 rfl ?_
  refine z_get C hK (v := .long (zL (u 60 2))) inX1_asDeep_X1 60 (WB_60 a c u) rfl 2 (by decide) (List.mem_of_getElem? (i := 1) rfl) rfl dX1_asDeep_2 ?_
  refine z_ldc2 C (v := 1000) (z := 1000) (by decide) (List.mem_of_getElem? (i := 2) rfl) dX1_asDeep_5 ?_
  refine z_ladd C ((u 60 2) + 1000) dX1_asDeep_8 (zL_add _ _) ?_
  refine z_put C hK (hDD _) inX1_asDeep_X1 tyX1 tyX1_ok nmX1 60 (WB_60 a c u) rfl 2 (by decide) (List.mem_of_getElem? (i := 1) rfl) rfl rfl rfl (Nat.le_of_ble_eq_true rfl) (WB_60_p2 a c u ((u 60 2) + 1000)) dX1_asDeep_9 ?_
  refine z_aload_n C 0 dX1_asDeep_12 rfl ?_
  refine z_iload_n C 1 dX1_asDeep_13 rfl ?_
  refine z_callV C hK hDD (c_X1_asGallery (zl x) (zG x) a c ((up u 60 (2) ((u 60 2) + 1000))) m (show 0 ≤ m ∧ m ≤ 7 by omega)) gX1_asDeep_X1_asGallery rfl zy_X1_asGallery 60 (WB_60 a c ((up u 60 (2) ((u 60 2) + 1000)))) rfl ⟨by omega, by decide⟩ rfl (Nat.le_of_ble_eq_true rfl) (st := []) (stk2 := fun z1 => [.int (zI z1)]) rfl (fun _ => rfl) dX1_asDeep_14 (fun z1 u2 h3 => ?_)
  rw [h3.1]; replace h3 := h3.2
  change Z x 0 0 (WB a c (up (up u 60 (2) ((u 60 2) + 1000)) 60 (2) (((u 60 2) + 1000) + 11))) _ _ _
  refine z_as (b := (u 18) m + (u 6) m) h3 ?_
  refine z_ws (ws' := (WB a c (up u 60 (2) (u 60 2 + 1011)))) (by rw [up_up]; exact congrArg (fun q => WB a c (up u 60 2 q)) (by omega)) ?_
  refine z_iconst C dX1_asDeep_17 ?_
  refine z_imul C dX1_asDeep_18 ?_
  exact kret (((u 18) m + (u 6) m) * 2) ((up u 60 (2) (u 60 2 + 1011))) _ _ (⟨rfl, rfl⟩) dX1_asDeep_19
-- NoteBells$Kinds.asDrowned
theorem inX1_asDrowned_X1 : ∀ w ∈ wsX10, w ∈ wsX1_asDrowned := fun w h => List.mem_cons_of_mem _ (List.mem_append_left _ (List.mem_append_right _ (h)))
set_option maxHeartbeats 8000000 in
set_option maxRecDepth 100000 in
theorem c_X1_asDrowned (l : Launch) (D : va_G) (a : Nat → Nat) (c : Nat → ClassId) (u : zU) (m : Int) (b_m : 0 ≤ m ∧ m ≤ 7) : ZM l D (zTy c) (WB a c) yX1_asDrowned wsX1_asDrowned 4 [.ref (a 60), .int (zI m)] u rI (fun z u' => u' = (up u 60 (2) (u 60 2 + 10101)) ∧ z = u 18 m - u 17 6 + m) := by
  refine ZM.ofI (cc := cX1_asDrowned) (maxL := 2) [(0, .ref (a 60)), (1, .int (zI m))] rfl (by decide +kernel) rfl (Nat.le_of_ble_eq_true rfl) (WB_addr a c) ?_
  intro x C hK _ _ hDD kret
  refine z_aload_n C 0 dX1_asDrowned_0 rfl ?_
  refine z_dup C dX1_asDrowned_1 rfl ?_
  refine z_get C hK (v := .long (zL (u 60 2))) inX1_asDrowned_X1 60 (WB_60 a c u) rfl 2 (by decide) (List.mem_of_getElem? (i := 1) rfl) rfl dX1_asDrowned_2 ?_
  refine z_ldc2 C (v := 10000) (z := 10000) (by decide) (List.mem_of_getElem? (i := 2) rfl) dX1_asDrowned_5 ?_
  refine z_ladd C ((u 60 2) + 10000) dX1_asDrowned_8 (zL_add _ _) ?_
  refine z_put C hK (hDD _) inX1_asDrowned_X1 tyX1 tyX1_ok nmX1 60 (WB_60 a c u) rfl 2 (by decide) (List.mem_of_getElem? (i := 1) rfl) rfl rfl rfl (Nat.le_of_ble_eq_true rfl) (WB_60_p2 a c u ((u 60 2) + 10000)) dX1_asDrowned_9 ?_
  refine z_aload_n C 0 dX1_asDrowned_12 rfl ?_
  refine z_iload_n C 1 dX1_asDrowned_13 rfl ?_
  refine z_callV C hK hDD (c_X1_asSump (zl x) (zG x) a c ((up u 60 (2) ((u 60 2) + 10000))) m (show 0 ≤ m ∧ m ≤ 7 by omega)) gX1_asDrowned_X1_asSump rfl zy_X1_asSump 60 (WB_60 a c ((up u 60 (2) ((u 60 2) + 10000)))) rfl ⟨by omega, by decide⟩ rfl (Nat.le_of_ble_eq_true rfl) (st := []) (stk2 := fun z1 => [.int (zI z1)]) rfl (fun _ => rfl) dX1_asDrowned_14 (fun z1 u2 h3 => ?_)
  rw [h3.1]; replace h3 := h3.2
  change Z x 0 0 (WB a c (up (up u 60 (2) ((u 60 2) + 10000)) 60 (2) (((u 60 2) + 10000) + 101))) _ _ _
  refine z_as (b := (u 18) m - (u 17 6)) h3 ?_
  refine z_ws (ws' := (WB a c (up u 60 (2) (u 60 2 + 10101)))) (by rw [up_up]; exact congrArg (fun q => WB a c (up u 60 2 q)) (by omega)) ?_
  refine z_iload_n C 1 dX1_asDrowned_17 rfl ?_
  refine z_iadd C dX1_asDrowned_18 ?_
  exact kret (((u 18) m - (u 17 6)) + m) ((up u 60 (2) (u 60 2 + 10101))) _ _ (⟨rfl, rfl⟩) dX1_asDrowned_19
-- NoteBells$Kinds.menAt
theorem inX1_menAt_X1 : ∀ w ∈ wsX10, w ∈ wsX1_menAt := fun w h => List.mem_cons_of_mem _ (List.mem_append_left _ (List.mem_append_left _ (List.mem_append_right _ (h))))
theorem inX1_menAt_X8 : ∀ w ∈ wsX80, w ∈ wsX1_menAt := fun w h => List.mem_cons_of_mem _ (List.mem_append_left _ (List.mem_append_right _ (h)))
theorem inX1_menAt_X2 : ∀ w ∈ wsX20, w ∈ wsX1_menAt := fun w h => List.mem_cons_of_mem _ (List.mem_append_right _ (h))
set_option maxHeartbeats 8000000 in
set_option maxRecDepth 100000 in
theorem c_X1_menAt (l : Launch) (D : va_G) (a : Nat → Nat) (c : Nat → ClassId) (u : zU) (m : Int) (hI : IB u) (b_m : 0 ≤ m ∧ m ≤ 7) : ZM l D (zTy c) (WB a c) yX1_menAt wsX1_menAt 2 [.ref (a 60), .int (zI m)] u rI (fun z u' => u' = u ∧ z = cnt (u 19) m (u 3 5).toNat) := by
  refine ZM.ofI (cc := cX1_menAt) (maxL := 4) [(0, .ref (a 60)), (1, .int (zI m))] rfl (by decide +kernel) rfl (Nat.le_of_ble_eq_true rfl) (WB_addr a c) ?_
  intro x C hK _ _ hDD kret
  have hpp := hI.ppl
  refine z_iconst C dX1_menAt_0 ?_
  refine z_istore_n C [(2, .int (zI 0)), (0, .ref (a 60)), (1, .int (zI m))] dX1_menAt_1 rfl (by decide) rfl ?_
  refine z_iconst C dX1_menAt_2 ?_
  refine z_istore_n C [(3, .int (zI 0)), (2, .int (zI 0)), (0, .ref (a 60)), (1, .int (zI m))] dX1_menAt_3 rfl (by decide) rfl ?_
  have L4_1 : ∀ (fu : Nat) (i : Int) (b : Int), (0 ≤ i ∧ i ≤ u 3 5) → (b = cnt (u 19) m i.toNat) → (0 ≤ b ∧ b ≤ i) → u 3 5 - i < (fu : Int) → Z x 0 0 (WB a c u) [(0, .ref (a 60)), (1, .int (zI m)), (2, .int (zI b)), (3, .int (zI i))] 4 [] := by
    intro fu
    induction fu with
    | zero => intro i b hi hb hbb hm; exfalso; omega
    | succ fu ih4 =>
      intro i b hi hb hbb hm
      refine z_iload_n C 3 dX1_menAt_4 rfl ?_
      refine z_aload_n C 0 dX1_menAt_5 rfl ?_
      refine z_get C hK (v := .ref (a 3)) inX1_menAt_X1 60 (WB_60 a c u) rfl 0 (by decide) (List.mem_of_getElem? (i := 1) rfl) rfl dX1_menAt_6 ?_
      refine z_getN C hK (v := .int (zI (u 3 5))) inX1_menAt_X8 3 (WB_3 a c u) rfl 5 (by decide) (List.mem_of_getElem? (i := 25) rfl) rfl dX1_menAt_9 ?_
      refine z_icmp_ge C 37 dX1_menAt_12 (by decide) (by omega) (fun h2 => ?_) (fun h2 => ?_)
      · skip
        refine z_iload_n C 2 dX1_menAt_37 rfl ?_
        exact kret b u _ _ (⟨rfl, by rw [hb, show i = u 3 5 by omega]⟩) dX1_menAt_38
      · skip
        have hst := hI.stands i hi.1 (by omega)
        refine z_aload_n C 0 dX1_menAt_15 rfl ?_
        refine z_get C hK (v := .ref (a 17)) inX1_menAt_X1 60 (WB_60 a c u) rfl 1 (by decide) (List.mem_of_getElem? (i := 2) rfl) rfl dX1_menAt_16 ?_
        refine z_getN C hK (v := .ref (a 19)) inX1_menAt_X2 17 (WB_17 a c u) rfl 1 (by decide) (List.mem_of_getElem? (i := 26) rfl) rfl dX1_menAt_19 ?_
        refine z_iload_n C 3 dX1_menAt_22 rfl ?_
        refine z_iald C hK 0 (g := (u 19)) (i := i) 19 (WB_19 a c u) rfl (by decide) (by omega) dX1_menAt_23 ?_
        refine z_as (b := u 19 (i)) rfl ?_
        refine z_iload_n C 1 dX1_menAt_24 rfl ?_
        refine z_icmp_ne C 31 dX1_menAt_25 (by decide) (by omega) (fun h3 => ?_) (fun h3 => ?_)
        · skip
          refine z_iinc C 3 [(3, .int (zI (i + 1))), (0, .ref (a 60)), (1, .int (zI m)), (2, .int (zI b))] dX1_menAt_31 rfl (by decide) rfl ?_
          refine z_goto C 4 dX1_menAt_34 (by decide) ?_
          refine z_lv [(0, .ref (a 60)), (1, .int (zI m)), (2, .int (zI b)), (3, .int (zI (i + 1)))] [1, 2, 3, 0] rfl ?_
          exact ih4 (i + 1) b (by omega) (by rw [show (i + 1).toNat = i.toNat + 1 by omega, cnt, Int.toNat_of_nonneg hi.1]; first | rw [if_pos (by omega)]; omega | rw [if_neg (by omega)]; omega) (by omega) (by omega)
        · skip
          refine z_iinc C 2 [(2, .int (zI (b + 1))), (0, .ref (a 60)), (1, .int (zI m)), (3, .int (zI i))] dX1_menAt_28 rfl (by decide) rfl ?_
          refine z_iinc C 3 [(3, .int (zI (i + 1))), (2, .int (zI (b + 1))), (0, .ref (a 60)), (1, .int (zI m))] dX1_menAt_31 rfl (by decide) rfl ?_
          refine z_goto C 4 dX1_menAt_34 (by decide) ?_
          refine z_lv [(0, .ref (a 60)), (1, .int (zI m)), (2, .int (zI (b + 1))), (3, .int (zI (i + 1)))] [2, 3, 1, 0] rfl ?_
          exact ih4 (i + 1) (b + 1) (by omega) (by rw [show (i + 1).toNat = i.toNat + 1 by omega, cnt, Int.toNat_of_nonneg hi.1]; first | rw [if_pos (by omega)]; omega | rw [if_neg (by omega)]; omega) (by omega) (by omega)
  refine z_lv [(0, .ref (a 60)), (1, .int (zI m)), (2, .int (zI 0)), (3, .int (zI 0))] [2, 3, 1, 0] rfl ?_
  exact L4_1 (((u 3 5 - 0 : Int)).toNat + 1) 0 0 (by omega) (rfl) (by omega) (by omega)
-- NoteBells$Kinds.asStage
theorem inX1_asStage_X1 : ∀ w ∈ wsX10, w ∈ wsX1_asStage := fun w h => List.mem_cons_of_mem _ (List.mem_append_left _ (List.mem_append_left _ (List.mem_append_right _ (h))))
set_option maxHeartbeats 8000000 in
set_option maxRecDepth 100000 in
theorem c_X1_asStage (l : Launch) (D : va_G) (a : Nat → Nat) (c : Nat → ClassId) (u : zU) (m : Int) (hI : IB u) (b_m : 0 ≤ m ∧ m ≤ 7) : ZM l D (zTy c) (WB a c) yX1_asStage wsX1_asStage 3 [.ref (a 60), .int (zI m)] u rI (fun z u' => u' = (up u 60 (2) (u 60 2 + 100001)) ∧ z = u 18 m + cnt (u 19) m (u 3 5).toNat) := by
  refine ZM.ofI (cc := cX1_asStage) (maxL := 2) [(0, .ref (a 60)), (1, .int (zI m))] rfl (by decide +kernel) rfl (Nat.le_of_ble_eq_true rfl) (WB_addr a c) ?_
  intro x C hK _ _ hDD kret
  refine z_aload_n C 0 dX1_asStage_0 rfl ?_
  refine z_dup C dX1_asStage_1 rfl ?_
  refine z_get C hK (v := .long (zL (u 60 2))) inX1_asStage_X1 60 (WB_60 a c u) rfl 2 (by decide) (List.mem_of_getElem? (i := 1) rfl) rfl dX1_asStage_2 ?_
  refine z_ldc2 C (v := 100000) (z := 100000) (by decide) (List.mem_of_getElem? (i := 2) rfl) dX1_asStage_5 ?_
  refine z_ladd C ((u 60 2) + 100000) dX1_asStage_8 (zL_add _ _) ?_
  refine z_put C hK (hDD _) inX1_asStage_X1 tyX1 tyX1_ok nmX1 60 (WB_60 a c u) rfl 2 (by decide) (List.mem_of_getElem? (i := 1) rfl) rfl rfl rfl (Nat.le_of_ble_eq_true rfl) (WB_60_p2 a c u ((u 60 2) + 100000)) dX1_asStage_9 ?_
  refine z_aload_n C 0 dX1_asStage_12 rfl ?_
  refine z_iload_n C 1 dX1_asStage_13 rfl ?_
  refine z_callV C hK hDD (c_X1_asLevel (zl x) (zG x) a c ((up u 60 (2) ((u 60 2) + 100000))) m (show 0 ≤ m ∧ m ≤ 7 by omega)) gX1_asStage_X1_asLevel rfl zy_X1_asLevel 60 (WB_60 a c ((up u 60 (2) ((u 60 2) + 100000)))) rfl ⟨by omega, by decide⟩ rfl (Nat.le_of_ble_eq_true rfl) (st := []) (stk2 := fun z1 => [.int (zI z1)]) rfl (fun _ => rfl) dX1_asStage_14 (fun z1 u2 h3 => ?_)
  rw [h3.1]; replace h3 := h3.2
  change Z x 0 0 (WB a c (up (up u 60 (2) ((u 60 2) + 100000)) 60 (2) (((u 60 2) + 100000) + 1))) _ _ _
  refine z_as (b := (u 18) m) h3 ?_
  refine z_aload_n C 0 dX1_asStage_17 rfl ?_
  refine z_iload_n C 1 dX1_asStage_18 rfl ?_
  refine z_callV C hK hDD (c_X1_menAt (zl x) (zG x) a c ((up (up u 60 (2) ((u 60 2) + 100000)) 60 (2) (((u 60 2) + 100000) + 1))) m (hI) (show 0 ≤ m ∧ m ≤ 7 by omega)) gX1_asStage_X1_menAt rfl zy_X1_menAt 60 (WB_60 a c ((up (up u 60 (2) ((u 60 2) + 100000)) 60 (2) (((u 60 2) + 100000) + 1)))) rfl ⟨by omega, by decide⟩ rfl (Nat.le_of_ble_eq_true rfl) (st := [.int (zI ((u 18) m))]) (stk2 := fun z4 => [.int (zI z4), .int (zI ((u 18) m))]) rfl (fun _ => rfl) dX1_asStage_19 (fun z4 u5 h6 => ?_)
  rw [h6.1]; replace h6 := h6.2
  refine z_as (b := cnt ((u 19)) m ((u 3 5)).toNat) h6 ?_
  refine z_ws (ws' := (WB a c (up u 60 (2) (u 60 2 + 100001)))) (by rw [up_up]; exact congrArg (fun q => WB a c (up u 60 2 q)) (by omega)) ?_
  refine z_iadd C dX1_asStage_22 ?_
  exact kret (((u 18) m) + (cnt ((u 19)) m ((u 3 5)).toNat)) ((up u 60 (2) (u 60 2 + 100001))) _ _ (⟨rfl, rfl⟩) dX1_asStage_23
-- NoteBells$Kinds.markAs
set_option maxHeartbeats 8000000 in
set_option maxRecDepth 100000 in
theorem c_X1_markAs (l : Launch) (D : va_G) (a : Nat → Nat) (c : Nat → ClassId) (u : zU) (k m : Int) (hI : IB u) (b_m : 0 ≤ m ∧ m ≤ 7) (b_k : -2147483648 ≤ k ∧ k < 2147483648) : ZM l D (zTy c) (WB a c) yX1_markAs wsX1_markAs 5 [.ref (a 60), .int (zI k), .int (zI m)] u rI (fun z u' => (k = 0 ∧ z = u 18 m ∧ u' = up u 60 2 (u 60 2 + 1)) ∨ (k = 1 ∧ z = u 18 m + u 6 m ∧ u' = up u 60 2 (u 60 2 + 11)) ∨ (k = 2 ∧ z = u 18 m - u 17 6 ∧ u' = up u 60 2 (u 60 2 + 101)) ∨ (k = 3 ∧ z = (u 18 m + u 6 m) * 2 ∧ u' = up u 60 2 (u 60 2 + 1011)) ∨ (k = 4 ∧ z = u 18 m - u 17 6 + m ∧ u' = up u 60 2 (u 60 2 + 10101)) ∨ (k = 5 ∧ z = u 18 m + cnt (u 19) m (u 3 5).toNat ∧ u' = up u 60 2 (u 60 2 + 100001)) ∨ ((k < 0 ∨ 5 < k) ∧ z = -1000000 ∧ u' = u)) := by
  refine ZM.ofI (cc := cX1_markAs) (maxL := 3) [(0, .ref (a 60)), (1, .int (zI k)), (2, .int (zI m))] rfl (by decide +kernel) rfl (Nat.le_of_ble_eq_true rfl) (WB_addr a c) ?_
  intro x C hK _ _ hDD kret
  refine z_iload_n C 1 dX1_markAs_0 rfl ?_
  by_cases h1 : k < 0 ∨ 5 < k
  · refine z_tableOut C 76 dX1_markAs_1 (by omega) h1 (by decide) ?_
    refine z_ldc C (v := (-1000000)) (z := (-1000000)) (by decide) (List.mem_of_getElem? (i := 1) rfl) dX1_markAs_76 ?_
    exact kret (-1000000) u _ _ (Or.inr (Or.inr (Or.inr (Or.inr (Or.inr (Or.inr ((⟨by omega, rfl, rfl⟩)))))))) dX1_markAs_78
  by_cases h3 : k = 0
  · refine z_tableIn C (off := 39) 40 dX1_markAs_1 (by omega) ⟨by omega, by omega⟩ (by rw [h3]; rfl) (by decide) ?_
    refine z_aload_n C 0 dX1_markAs_40 rfl ?_
    refine z_iload_n C 2 dX1_markAs_41 rfl ?_
    refine z_callV C hK hDD (c_X1_asLevel (zl x) (zG x) a c u m (by omega)) gX1_markAs_X1_asLevel rfl zy_X1_asLevel 60 (WB_60 a c u) rfl ⟨by omega, by decide⟩ rfl (Nat.le_of_ble_eq_true rfl) (st := []) (stk2 := fun z4 => [.int (zI z4)]) rfl (fun _ => rfl) dX1_markAs_42 (fun z4 u5 h6 => ?_)
    rw [h6.1]; replace h6 := h6.2
    change Z x 0 0 (WB a c (up u 60 (2) (u 60 2 + 1))) _ _ _
    refine z_as (b := u 18 m) h6 ?_
    exact kret (u 18 m) ((up u 60 (2) (u 60 2 + 1))) _ _ (Or.inl (⟨by omega, rfl, rfl⟩)) dX1_markAs_45
  by_cases h7 : k = 1
  · refine z_tableIn C (off := 45) 46 dX1_markAs_1 (by omega) ⟨by omega, by omega⟩ (by rw [h7]; rfl) (by decide) ?_
    refine z_aload_n C 0 dX1_markAs_46 rfl ?_
    refine z_iload_n C 2 dX1_markAs_47 rfl ?_
    refine z_callV C hK hDD (c_X1_asGallery (zl x) (zG x) a c u m (by omega)) gX1_markAs_X1_asGallery rfl zy_X1_asGallery 60 (WB_60 a c u) rfl ⟨by omega, by decide⟩ rfl (Nat.le_of_ble_eq_true rfl) (st := []) (stk2 := fun z8 => [.int (zI z8)]) rfl (fun _ => rfl) dX1_markAs_48 (fun z8 u9 h10 => ?_)
    rw [h10.1]; replace h10 := h10.2
    change Z x 0 0 (WB a c (up u 60 (2) (u 60 2 + 11))) _ _ _
    refine z_as (b := u 18 m + u 6 m) h10 ?_
    exact kret (u 18 m + u 6 m) ((up u 60 (2) (u 60 2 + 11))) _ _ (Or.inr (Or.inl (⟨by omega, rfl, rfl⟩))) dX1_markAs_51
  by_cases h11 : k = 2
  · refine z_tableIn C (off := 51) 52 dX1_markAs_1 (by omega) ⟨by omega, by omega⟩ (by rw [h11]; rfl) (by decide) ?_
    refine z_aload_n C 0 dX1_markAs_52 rfl ?_
    refine z_iload_n C 2 dX1_markAs_53 rfl ?_
    refine z_callV C hK hDD (c_X1_asSump (zl x) (zG x) a c u m (by omega)) gX1_markAs_X1_asSump rfl zy_X1_asSump 60 (WB_60 a c u) rfl ⟨by omega, by decide⟩ rfl (Nat.le_of_ble_eq_true rfl) (st := []) (stk2 := fun z12 => [.int (zI z12)]) rfl (fun _ => rfl) dX1_markAs_54 (fun z12 u13 h14 => ?_)
    rw [h14.1]; replace h14 := h14.2
    change Z x 0 0 (WB a c (up u 60 (2) (u 60 2 + 101))) _ _ _
    refine z_as (b := u 18 m - u 17 6) h14 ?_
    exact kret (u 18 m - u 17 6) ((up u 60 (2) (u 60 2 + 101))) _ _ (Or.inr (Or.inr (Or.inl (⟨by omega, rfl, rfl⟩)))) dX1_markAs_57
  by_cases h15 : k = 3
  · refine z_tableIn C (off := 57) 58 dX1_markAs_1 (by omega) ⟨by omega, by omega⟩ (by rw [h15]; rfl) (by decide) ?_
    refine z_aload_n C 0 dX1_markAs_58 rfl ?_
    refine z_iload_n C 2 dX1_markAs_59 rfl ?_
    refine z_callV C hK hDD (c_X1_asDeep (zl x) (zG x) a c u m (by omega)) gX1_markAs_X1_asDeep rfl zy_X1_asDeep 60 (WB_60 a c u) rfl ⟨by omega, by decide⟩ rfl (Nat.le_of_ble_eq_true rfl) (st := []) (stk2 := fun z16 => [.int (zI z16)]) rfl (fun _ => rfl) dX1_markAs_60 (fun z16 u17 h18 => ?_)
    rw [h18.1]; replace h18 := h18.2
    change Z x 0 0 (WB a c (up u 60 (2) (u 60 2 + 1011))) _ _ _
    refine z_as (b := (u 18 m + u 6 m) * 2) h18 ?_
    exact kret ((u 18 m + u 6 m) * 2) ((up u 60 (2) (u 60 2 + 1011))) _ _ (Or.inr (Or.inr (Or.inr (Or.inl (⟨by omega, rfl, rfl⟩))))) dX1_markAs_63
  by_cases h19 : k = 4
  · refine z_tableIn C (off := 63) 64 dX1_markAs_1 (by omega) ⟨by omega, by omega⟩ (by rw [h19]; rfl) (by decide) ?_
    refine z_aload_n C 0 dX1_markAs_64 rfl ?_
    refine z_iload_n C 2 dX1_markAs_65 rfl ?_
    refine z_callV C hK hDD (c_X1_asDrowned (zl x) (zG x) a c u m (by omega)) gX1_markAs_X1_asDrowned rfl zy_X1_asDrowned 60 (WB_60 a c u) rfl ⟨by omega, by decide⟩ rfl (Nat.le_of_ble_eq_true rfl) (st := []) (stk2 := fun z20 => [.int (zI z20)]) rfl (fun _ => rfl) dX1_markAs_66 (fun z20 u21 h22 => ?_)
    rw [h22.1]; replace h22 := h22.2
    change Z x 0 0 (WB a c (up u 60 (2) (u 60 2 + 10101))) _ _ _
    refine z_as (b := u 18 m - u 17 6 + m) h22 ?_
    exact kret (u 18 m - u 17 6 + m) ((up u 60 (2) (u 60 2 + 10101))) _ _ (Or.inr (Or.inr (Or.inr (Or.inr (Or.inl (⟨by omega, rfl, rfl⟩)))))) dX1_markAs_69
  have h23 : k = 5 := by omega
  refine z_tableIn C (off := 69) 70 dX1_markAs_1 (by omega) ⟨by omega, by omega⟩ (by rw [h23]; rfl) (by decide) ?_
  refine z_aload_n C 0 dX1_markAs_70 rfl ?_
  refine z_iload_n C 2 dX1_markAs_71 rfl ?_
  refine z_callV C hK hDD (c_X1_asStage (zl x) (zG x) a c u m (hI) (by omega)) gX1_markAs_X1_asStage rfl zy_X1_asStage 60 (WB_60 a c u) rfl ⟨by omega, by decide⟩ rfl (Nat.le_of_ble_eq_true rfl) (st := []) (stk2 := fun z24 => [.int (zI z24)]) rfl (fun _ => rfl) dX1_markAs_72 (fun z24 u25 h26 => ?_)
  rw [h26.1]; replace h26 := h26.2
  change Z x 0 0 (WB a c (up u 60 (2) (u 60 2 + 100001))) _ _ _
  refine z_as (b := u 18 m + cnt (u 19) m (u 3 5).toNat) h26 ?_
  exact kret (u 18 m + cnt (u 19) m (u 3 5).toNat) ((up u 60 (2) (u 60 2 + 100001))) _ _ (Or.inr (Or.inr (Or.inr (Or.inr (Or.inr (Or.inl (⟨by omega, rfl, rfl⟩))))))) dX1_markAs_75
-- NoteBells.mark
theorem inX10_mark_X10 : ∀ w ∈ wsX100, w ∈ wsX10_mark := fun w h => List.mem_cons_of_mem _ (List.mem_append_left _ (List.mem_append_left _ (List.mem_append_left _ (List.mem_append_right _ (h)))))
set_option maxHeartbeats 8000000 in
set_option maxRecDepth 100000 in
theorem c_X10_mark (l : Launch) (D : va_G) (a : Nat → Nat) (c : Nat → ClassId) (u : zU) (k m : Int) (hI : IB u) (b_k : -2147483648 ≤ k ∧ k < 2147483648) (b_m : -2147483648 ≤ m ∧ m < 2147483648) : ZM l D (zTy c) (WB a c) yX10_mark wsX10_mark 6 [.ref (a 0), .int (zI k), .int (zI m)] u rI (fun z u' => (0 ≤ m ∧ m < u 3 4 ∧ ((k = 0 ∧ z = u 18 m ∧ u' = up u 60 2 (u 60 2 + 1)) ∨ (k = 1 ∧ z = u 18 m + u 6 m ∧ u' = up u 60 2 (u 60 2 + 11)) ∨ (k = 2 ∧ z = u 18 m - u 17 6 ∧ u' = up u 60 2 (u 60 2 + 101)) ∨ (k = 3 ∧ z = (u 18 m + u 6 m) * 2 ∧ u' = up u 60 2 (u 60 2 + 1011)) ∨ (k = 4 ∧ z = u 18 m - u 17 6 + m ∧ u' = up u 60 2 (u 60 2 + 10101)) ∨ (k = 5 ∧ z = u 18 m + cnt (u 19) m (u 3 5).toNat ∧ u' = up u 60 2 (u 60 2 + 100001)) ∨ ((k < 0 ∨ 5 < k) ∧ z = -1000000 ∧ u' = u))) ∨ (¬ (0 ≤ m ∧ m < u 3 4) ∧ z = -1000000 ∧ u' = u)) := by
  refine ZM.ofI (cc := cX10_mark) (maxL := 3) [(0, .ref (a 0)), (1, .int (zI k)), (2, .int (zI m))] rfl (by decide +kernel) rfl (Nat.le_of_ble_eq_true rfl) (WB_addr a c) ?_
  intro x C hK _ _ hDD kret
  have hlv := hI.lev
  refine z_aload_n C 0 dX10_mark_0 rfl ?_
  refine z_iload_n C 2 dX10_mark_1 rfl ?_
  refine z_callV C hK hDD (c_X10_isLevel (zl x) (zG x) a c u m (hI) (by omega)) gX10_mark_X10_isLevel rfl zy_X10_isLevel 0 (WB_0 a c u) rfl ⟨by omega, by decide⟩ rfl (Nat.le_of_ble_eq_true rfl) (st := []) (stk2 := fun z1 => [.int (zI z1)]) rfl (fun _ => rfl) dX10_mark_2 (fun z1 u2 h3 => ?_)
  rw [h3.1]; replace h3 := h3.2
  refine z_if_eq C 20 dX10_mark_5 (by decide) (by omega) (fun h4 => ?_) (fun h4 => ?_)
  · skip
    refine z_ldc C (v := (-1000000)) (z := (-1000000)) (by decide) (List.mem_of_getElem? (i := 2) rfl) dX10_mark_20 ?_
    exact kret (-1000000) u _ _ (by first | exact Or.inl ⟨by omega, by omega, HMK⟩ | exact Or.inr ⟨by omega, rfl, rfl⟩) dX10_mark_22
  · skip
    refine z_aload_n C 0 dX10_mark_8 rfl ?_
    refine z_get C hK (v := .ref (a 60)) inX10_mark_X10 0 (WB_0 a c u) rfl 12 (by decide) (List.mem_of_getElem? (i := 1) rfl) rfl dX10_mark_9 ?_
    refine z_iload_n C 1 dX10_mark_12 rfl ?_
    refine z_iload_n C 2 dX10_mark_13 rfl ?_
    refine z_callVN C hK hDD (c_X1_markAs (zl x) (zG x) a c u k m (hI) (by omega) (by omega)) ggX10_mark_X1_markAs (List.mem_of_getElem? (i := 25) rfl) (List.mem_of_getElem? (i := 13) rfl) (List.mem_of_getElem? (i := 12) rfl) (List.mem_of_getElem? (i := 14) rfl) rfl zy_X1_markAs 60 (WB_60 a c u) rfl ⟨by omega, by decide⟩ rfl (Nat.le_of_ble_eq_true rfl) (st := []) (stk2 := fun z5 => [.int (zI z5)]) rfl (fun _ => rfl) dX10_mark_14 (fun z5 u6 h7 => ?_)
    have HMK := h7
    refine z_goto C 22 dX10_mark_17 (by decide) ?_
    exact kret z5 u6 _ _ (by first | exact Or.inl ⟨by omega, by omega, HMK⟩ | exact Or.inr ⟨by omega, rfl, rfl⟩) dX10_mark_22
-- NoteBells$Now.copyFrom
theorem inX2_copyFrom_X2 : ∀ w ∈ wsX20, w ∈ wsX2_copyFrom := fun w h => List.mem_cons_of_mem _ (List.mem_append_right _ (h))
set_option maxHeartbeats 8000000 in
set_option maxRecDepth 100000 in
theorem c_X2_copyFrom_23_17 (l : Launch) (D : va_G) (a : Nat → Nat) (c : Nat → ClassId) (u : zU)   : ZM l D (zTy c) (WB a c) yX2_copyFrom wsX2_copyFrom 2 [.ref (a 23), .ref (a 17)] u rV (fun z u' => u' = (cpy 23 17 u)) := by
  refine ZM.ofV (cc := cX2_copyFrom) (maxL := 2) [(0, .ref (a 23)), (1, .ref (a 17))] rfl (by decide +kernel) rfl (Nat.le_of_ble_eq_true rfl) (WB_addr a c) ?_
  intro x C hK _ _ hDD kret
  refine z_aload_n C 1 dX2_copyFrom_0 rfl ?_
  refine z_get C hK (v := .ref (a 18)) inX2_copyFrom_X2 17 (WB_17 a c u) rfl 0 (by decide) (List.mem_of_getElem? (i := 1) rfl) rfl dX2_copyFrom_1 ?_
  refine z_iconst C dX2_copyFrom_4 ?_
  refine z_aload_n C 0 dX2_copyFrom_5 rfl ?_
  refine z_get C hK (v := .ref (a 24)) inX2_copyFrom_X2 23 (WB_23 a c u) rfl 0 (by decide) (List.mem_of_getElem? (i := 1) rfl) rfl dX2_copyFrom_6 ?_
  refine z_iconst C dX2_copyFrom_9 ?_
  refine z_bipush C dX2_copyFrom_10 (by decide) ?_
  refine z_copyi C hK (hDD _) (by omega) (List.mem_of_getElem? (i := 2) rfl) (List.mem_of_getElem? (i := 3) rfl) (List.mem_of_getElem? (i := 4) rfl) (List.mem_of_getElem? (i := 5) rfl) 0 18 24 (g0 := (u 18)) (g1 := (u 24)) (WB_18 a c u) (WB_24 a c u) rfl (by omega) (WB_24_all a c u (fun j => if j < 8 then (u 18) j else (u 24) j)) (Nat.le_of_ble_eq_true rfl) dX2_copyFrom_12 ?_
  refine z_aload_n C 1 dX2_copyFrom_15 rfl ?_
  refine z_get C hK (v := .ref (a 19)) inX2_copyFrom_X2 17 (WB_17 a c ((us u 24 (fun j => if j < 8 then (u 18) j else (u 24) j)))) rfl 1 (by decide) (List.mem_of_getElem? (i := 6) rfl) rfl dX2_copyFrom_16 ?_
  refine z_iconst C dX2_copyFrom_19 ?_
  refine z_aload_n C 0 dX2_copyFrom_20 rfl ?_
  refine z_get C hK (v := .ref (a 25)) inX2_copyFrom_X2 23 (WB_23 a c ((us u 24 (fun j => if j < 8 then (u 18) j else (u 24) j)))) rfl 1 (by decide) (List.mem_of_getElem? (i := 6) rfl) rfl dX2_copyFrom_21 ?_
  refine z_iconst C dX2_copyFrom_24 ?_
  refine z_iconst C dX2_copyFrom_25 ?_
  refine z_copyi C hK (hDD _) (by omega) (List.mem_of_getElem? (i := 2) rfl) (List.mem_of_getElem? (i := 3) rfl) (List.mem_of_getElem? (i := 4) rfl) (List.mem_of_getElem? (i := 5) rfl) 0 19 25 (g0 := (u 19)) (g1 := (u 25)) (WB_19 a c ((us u 24 (fun j => if j < 8 then (u 18) j else (u 24) j)))) (WB_25 a c ((us u 24 (fun j => if j < 8 then (u 18) j else (u 24) j)))) rfl (by omega) (WB_25_all a c ((us u 24 (fun j => if j < 8 then (u 18) j else (u 24) j))) (fun j => if j < 3 then (u 19) j else (u 25) j)) (Nat.le_of_ble_eq_true rfl) dX2_copyFrom_26 ?_
  refine z_aload_n C 1 dX2_copyFrom_29 rfl ?_
  refine z_get C hK (v := .ref (a 20)) inX2_copyFrom_X2 17 (WB_17 a c ((us (us u 24 (fun j => if j < 8 then (u 18) j else (u 24) j)) 25 (fun j => if j < 3 then (u 19) j else (u 25) j)))) rfl 2 (by decide) (List.mem_of_getElem? (i := 7) rfl) rfl dX2_copyFrom_30 ?_
  refine z_iconst C dX2_copyFrom_33 ?_
  refine z_aload_n C 0 dX2_copyFrom_34 rfl ?_
  refine z_get C hK (v := .ref (a 26)) inX2_copyFrom_X2 23 (WB_23 a c ((us (us u 24 (fun j => if j < 8 then (u 18) j else (u 24) j)) 25 (fun j => if j < 3 then (u 19) j else (u 25) j)))) rfl 2 (by decide) (List.mem_of_getElem? (i := 7) rfl) rfl dX2_copyFrom_35 ?_
  refine z_iconst C dX2_copyFrom_38 ?_
  refine z_bipush C dX2_copyFrom_39 (by decide) ?_
  refine z_copyi C hK (hDD _) (by omega) (List.mem_of_getElem? (i := 2) rfl) (List.mem_of_getElem? (i := 3) rfl) (List.mem_of_getElem? (i := 4) rfl) (List.mem_of_getElem? (i := 5) rfl) 0 20 26 (g0 := (u 20)) (g1 := (u 26)) (WB_20 a c ((us (us u 24 (fun j => if j < 8 then (u 18) j else (u 24) j)) 25 (fun j => if j < 3 then (u 19) j else (u 25) j)))) (WB_26 a c ((us (us u 24 (fun j => if j < 8 then (u 18) j else (u 24) j)) 25 (fun j => if j < 3 then (u 19) j else (u 25) j)))) rfl (by omega) (WB_26_all a c ((us (us u 24 (fun j => if j < 8 then (u 18) j else (u 24) j)) 25 (fun j => if j < 3 then (u 19) j else (u 25) j))) (fun j => if j < 6 then (u 20) j else (u 26) j)) (Nat.le_of_ble_eq_true rfl) dX2_copyFrom_41 ?_
  refine z_aload_n C 1 dX2_copyFrom_44 rfl ?_
  refine z_get C hK (v := .ref (a 21)) inX2_copyFrom_X2 17 (WB_17 a c ((us (us (us u 24 (fun j => if j < 8 then (u 18) j else (u 24) j)) 25 (fun j => if j < 3 then (u 19) j else (u 25) j)) 26 (fun j => if j < 6 then (u 20) j else (u 26) j)))) rfl 3 (by decide) (List.mem_of_getElem? (i := 8) rfl) rfl dX2_copyFrom_45 ?_
  refine z_iconst C dX2_copyFrom_48 ?_
  refine z_aload_n C 0 dX2_copyFrom_49 rfl ?_
  refine z_get C hK (v := .ref (a 27)) inX2_copyFrom_X2 23 (WB_23 a c ((us (us (us u 24 (fun j => if j < 8 then (u 18) j else (u 24) j)) 25 (fun j => if j < 3 then (u 19) j else (u 25) j)) 26 (fun j => if j < 6 then (u 20) j else (u 26) j)))) rfl 3 (by decide) (List.mem_of_getElem? (i := 8) rfl) rfl dX2_copyFrom_50 ?_
  refine z_iconst C dX2_copyFrom_53 ?_
  refine z_bipush C dX2_copyFrom_54 (by decide) ?_
  refine z_copyi C hK (hDD _) (by omega) (List.mem_of_getElem? (i := 2) rfl) (List.mem_of_getElem? (i := 3) rfl) (List.mem_of_getElem? (i := 4) rfl) (List.mem_of_getElem? (i := 5) rfl) 0 21 27 (g0 := (u 21)) (g1 := (u 27)) (WB_21 a c ((us (us (us u 24 (fun j => if j < 8 then (u 18) j else (u 24) j)) 25 (fun j => if j < 3 then (u 19) j else (u 25) j)) 26 (fun j => if j < 6 then (u 20) j else (u 26) j)))) (WB_27 a c ((us (us (us u 24 (fun j => if j < 8 then (u 18) j else (u 24) j)) 25 (fun j => if j < 3 then (u 19) j else (u 25) j)) 26 (fun j => if j < 6 then (u 20) j else (u 26) j)))) rfl (by omega) (WB_27_all a c ((us (us (us u 24 (fun j => if j < 8 then (u 18) j else (u 24) j)) 25 (fun j => if j < 3 then (u 19) j else (u 25) j)) 26 (fun j => if j < 6 then (u 20) j else (u 26) j))) (fun j => if j < 6 then (u 21) j else (u 27) j)) (Nat.le_of_ble_eq_true rfl) dX2_copyFrom_56 ?_
  refine z_aload_n C 1 dX2_copyFrom_59 rfl ?_
  refine z_get C hK (v := .ref (a 22)) inX2_copyFrom_X2 17 (WB_17 a c ((us (us (us (us u 24 (fun j => if j < 8 then (u 18) j else (u 24) j)) 25 (fun j => if j < 3 then (u 19) j else (u 25) j)) 26 (fun j => if j < 6 then (u 20) j else (u 26) j)) 27 (fun j => if j < 6 then (u 21) j else (u 27) j)))) rfl 4 (by decide) (List.mem_of_getElem? (i := 9) rfl) rfl dX2_copyFrom_60 ?_
  refine z_iconst C dX2_copyFrom_63 ?_
  refine z_aload_n C 0 dX2_copyFrom_64 rfl ?_
  refine z_get C hK (v := .ref (a 28)) inX2_copyFrom_X2 23 (WB_23 a c ((us (us (us (us u 24 (fun j => if j < 8 then (u 18) j else (u 24) j)) 25 (fun j => if j < 3 then (u 19) j else (u 25) j)) 26 (fun j => if j < 6 then (u 20) j else (u 26) j)) 27 (fun j => if j < 6 then (u 21) j else (u 27) j)))) rfl 4 (by decide) (List.mem_of_getElem? (i := 9) rfl) rfl dX2_copyFrom_65 ?_
  refine z_iconst C dX2_copyFrom_68 ?_
  refine z_bipush C dX2_copyFrom_69 (by decide) ?_
  refine z_copyi C hK (hDD _) (by omega) (List.mem_of_getElem? (i := 2) rfl) (List.mem_of_getElem? (i := 3) rfl) (List.mem_of_getElem? (i := 4) rfl) (List.mem_of_getElem? (i := 5) rfl) 0 22 28 (g0 := (u 22)) (g1 := (u 28)) (WB_22 a c ((us (us (us (us u 24 (fun j => if j < 8 then (u 18) j else (u 24) j)) 25 (fun j => if j < 3 then (u 19) j else (u 25) j)) 26 (fun j => if j < 6 then (u 20) j else (u 26) j)) 27 (fun j => if j < 6 then (u 21) j else (u 27) j)))) (WB_28 a c ((us (us (us (us u 24 (fun j => if j < 8 then (u 18) j else (u 24) j)) 25 (fun j => if j < 3 then (u 19) j else (u 25) j)) 26 (fun j => if j < 6 then (u 20) j else (u 26) j)) 27 (fun j => if j < 6 then (u 21) j else (u 27) j)))) rfl (by omega) (WB_28_all a c ((us (us (us (us u 24 (fun j => if j < 8 then (u 18) j else (u 24) j)) 25 (fun j => if j < 3 then (u 19) j else (u 25) j)) 26 (fun j => if j < 6 then (u 20) j else (u 26) j)) 27 (fun j => if j < 6 then (u 21) j else (u 27) j))) (fun j => if j < 8 then (u 22) j else (u 28) j)) (Nat.le_of_ble_eq_true rfl) dX2_copyFrom_71 ?_
  refine z_aload_n C 0 dX2_copyFrom_74 rfl ?_
  refine z_aload_n C 1 dX2_copyFrom_75 rfl ?_
  refine z_get C hK (v := .int (zI (u 17 5))) inX2_copyFrom_X2 17 (WB_17 a c ((us (us (us (us (us u 24 (fun j => if j < 8 then (u 18) j else (u 24) j)) 25 (fun j => if j < 3 then (u 19) j else (u 25) j)) 26 (fun j => if j < 6 then (u 20) j else (u 26) j)) 27 (fun j => if j < 6 then (u 21) j else (u 27) j)) 28 (fun j => if j < 8 then (u 22) j else (u 28) j)))) rfl 5 (by decide) (List.mem_of_getElem? (i := 10) rfl) rfl dX2_copyFrom_76 ?_
  refine z_put C hK (hDD _) inX2_copyFrom_X2 tyX2 tyX2_ok nmX2 23 (WB_23 a c ((us (us (us (us (us u 24 (fun j => if j < 8 then (u 18) j else (u 24) j)) 25 (fun j => if j < 3 then (u 19) j else (u 25) j)) 26 (fun j => if j < 6 then (u 20) j else (u 26) j)) 27 (fun j => if j < 6 then (u 21) j else (u 27) j)) 28 (fun j => if j < 8 then (u 22) j else (u 28) j)))) rfl 5 (by decide) (List.mem_of_getElem? (i := 10) rfl) rfl rfl rfl (Nat.le_of_ble_eq_true rfl) (WB_23_p5 a c ((us (us (us (us (us u 24 (fun j => if j < 8 then (u 18) j else (u 24) j)) 25 (fun j => if j < 3 then (u 19) j else (u 25) j)) 26 (fun j => if j < 6 then (u 20) j else (u 26) j)) 27 (fun j => if j < 6 then (u 21) j else (u 27) j)) 28 (fun j => if j < 8 then (u 22) j else (u 28) j))) (u 17 5)) dX2_copyFrom_79 ?_
  refine z_aload_n C 0 dX2_copyFrom_82 rfl ?_
  refine z_aload_n C 1 dX2_copyFrom_83 rfl ?_
  refine z_get C hK (v := .int (zI (u 17 6))) inX2_copyFrom_X2 17 (WB_17 a c ((up (us (us (us (us (us u 24 (fun j => if j < 8 then (u 18) j else (u 24) j)) 25 (fun j => if j < 3 then (u 19) j else (u 25) j)) 26 (fun j => if j < 6 then (u 20) j else (u 26) j)) 27 (fun j => if j < 6 then (u 21) j else (u 27) j)) 28 (fun j => if j < 8 then (u 22) j else (u 28) j)) 23 (5) (u 17 5)))) rfl 6 (by decide) (List.mem_of_getElem? (i := 11) rfl) rfl dX2_copyFrom_84 ?_
  refine z_put C hK (hDD _) inX2_copyFrom_X2 tyX2 tyX2_ok nmX2 23 (WB_23 a c ((up (us (us (us (us (us u 24 (fun j => if j < 8 then (u 18) j else (u 24) j)) 25 (fun j => if j < 3 then (u 19) j else (u 25) j)) 26 (fun j => if j < 6 then (u 20) j else (u 26) j)) 27 (fun j => if j < 6 then (u 21) j else (u 27) j)) 28 (fun j => if j < 8 then (u 22) j else (u 28) j)) 23 (5) (u 17 5)))) rfl 6 (by decide) (List.mem_of_getElem? (i := 11) rfl) rfl rfl rfl (Nat.le_of_ble_eq_true rfl) (WB_23_p6 a c ((up (us (us (us (us (us u 24 (fun j => if j < 8 then (u 18) j else (u 24) j)) 25 (fun j => if j < 3 then (u 19) j else (u 25) j)) 26 (fun j => if j < 6 then (u 20) j else (u 26) j)) 27 (fun j => if j < 6 then (u 21) j else (u 27) j)) 28 (fun j => if j < 8 then (u 22) j else (u 28) j)) 23 (5) (u 17 5))) (u 17 6)) dX2_copyFrom_87 ?_
  refine z_aload_n C 0 dX2_copyFrom_90 rfl ?_
  refine z_aload_n C 1 dX2_copyFrom_91 rfl ?_
  refine z_get C hK (v := .int (zI (u 17 7))) inX2_copyFrom_X2 17 (WB_17 a c ((up (up (us (us (us (us (us u 24 (fun j => if j < 8 then (u 18) j else (u 24) j)) 25 (fun j => if j < 3 then (u 19) j else (u 25) j)) 26 (fun j => if j < 6 then (u 20) j else (u 26) j)) 27 (fun j => if j < 6 then (u 21) j else (u 27) j)) 28 (fun j => if j < 8 then (u 22) j else (u 28) j)) 23 (5) (u 17 5)) 23 (6) (u 17 6)))) rfl 7 (by decide) (List.mem_of_getElem? (i := 12) rfl) rfl dX2_copyFrom_92 ?_
  refine z_put C hK (hDD _) inX2_copyFrom_X2 tyX2 tyX2_ok nmX2 23 (WB_23 a c ((up (up (us (us (us (us (us u 24 (fun j => if j < 8 then (u 18) j else (u 24) j)) 25 (fun j => if j < 3 then (u 19) j else (u 25) j)) 26 (fun j => if j < 6 then (u 20) j else (u 26) j)) 27 (fun j => if j < 6 then (u 21) j else (u 27) j)) 28 (fun j => if j < 8 then (u 22) j else (u 28) j)) 23 (5) (u 17 5)) 23 (6) (u 17 6)))) rfl 7 (by decide) (List.mem_of_getElem? (i := 12) rfl) rfl rfl rfl (Nat.le_of_ble_eq_true rfl) (WB_23_p7 a c ((up (up (us (us (us (us (us u 24 (fun j => if j < 8 then (u 18) j else (u 24) j)) 25 (fun j => if j < 3 then (u 19) j else (u 25) j)) 26 (fun j => if j < 6 then (u 20) j else (u 26) j)) 27 (fun j => if j < 6 then (u 21) j else (u 27) j)) 28 (fun j => if j < 8 then (u 22) j else (u 28) j)) 23 (5) (u 17 5)) 23 (6) (u 17 6))) (u 17 7)) dX2_copyFrom_95 ?_
  refine z_aload_n C 0 dX2_copyFrom_98 rfl ?_
  refine z_aload_n C 1 dX2_copyFrom_99 rfl ?_
  refine z_get C hK (v := .int (zI (u 17 8))) inX2_copyFrom_X2 17 (WB_17 a c ((up (up (up (us (us (us (us (us u 24 (fun j => if j < 8 then (u 18) j else (u 24) j)) 25 (fun j => if j < 3 then (u 19) j else (u 25) j)) 26 (fun j => if j < 6 then (u 20) j else (u 26) j)) 27 (fun j => if j < 6 then (u 21) j else (u 27) j)) 28 (fun j => if j < 8 then (u 22) j else (u 28) j)) 23 (5) (u 17 5)) 23 (6) (u 17 6)) 23 (7) (u 17 7)))) rfl 8 (by decide) (List.mem_of_getElem? (i := 13) rfl) rfl dX2_copyFrom_100 ?_
  refine z_put C hK (hDD _) inX2_copyFrom_X2 tyX2 tyX2_ok nmX2 23 (WB_23 a c ((up (up (up (us (us (us (us (us u 24 (fun j => if j < 8 then (u 18) j else (u 24) j)) 25 (fun j => if j < 3 then (u 19) j else (u 25) j)) 26 (fun j => if j < 6 then (u 20) j else (u 26) j)) 27 (fun j => if j < 6 then (u 21) j else (u 27) j)) 28 (fun j => if j < 8 then (u 22) j else (u 28) j)) 23 (5) (u 17 5)) 23 (6) (u 17 6)) 23 (7) (u 17 7)))) rfl 8 (by decide) (List.mem_of_getElem? (i := 13) rfl) rfl rfl rfl (Nat.le_of_ble_eq_true rfl) (WB_23_p8 a c ((up (up (up (us (us (us (us (us u 24 (fun j => if j < 8 then (u 18) j else (u 24) j)) 25 (fun j => if j < 3 then (u 19) j else (u 25) j)) 26 (fun j => if j < 6 then (u 20) j else (u 26) j)) 27 (fun j => if j < 6 then (u 21) j else (u 27) j)) 28 (fun j => if j < 8 then (u 22) j else (u 28) j)) 23 (5) (u 17 5)) 23 (6) (u 17 6)) 23 (7) (u 17 7))) (u 17 8)) dX2_copyFrom_103 ?_
  refine z_aload_n C 0 dX2_copyFrom_106 rfl ?_
  refine z_aload_n C 1 dX2_copyFrom_107 rfl ?_
  refine z_get C hK (v := .int (zI (u 17 9))) inX2_copyFrom_X2 17 (WB_17 a c ((up (up (up (up (us (us (us (us (us u 24 (fun j => if j < 8 then (u 18) j else (u 24) j)) 25 (fun j => if j < 3 then (u 19) j else (u 25) j)) 26 (fun j => if j < 6 then (u 20) j else (u 26) j)) 27 (fun j => if j < 6 then (u 21) j else (u 27) j)) 28 (fun j => if j < 8 then (u 22) j else (u 28) j)) 23 (5) (u 17 5)) 23 (6) (u 17 6)) 23 (7) (u 17 7)) 23 (8) (u 17 8)))) rfl 9 (by decide) (List.mem_of_getElem? (i := 14) rfl) rfl dX2_copyFrom_108 ?_
  refine z_put C hK (hDD _) inX2_copyFrom_X2 tyX2 tyX2_ok nmX2 23 (WB_23 a c ((up (up (up (up (us (us (us (us (us u 24 (fun j => if j < 8 then (u 18) j else (u 24) j)) 25 (fun j => if j < 3 then (u 19) j else (u 25) j)) 26 (fun j => if j < 6 then (u 20) j else (u 26) j)) 27 (fun j => if j < 6 then (u 21) j else (u 27) j)) 28 (fun j => if j < 8 then (u 22) j else (u 28) j)) 23 (5) (u 17 5)) 23 (6) (u 17 6)) 23 (7) (u 17 7)) 23 (8) (u 17 8)))) rfl 9 (by decide) (List.mem_of_getElem? (i := 14) rfl) rfl rfl rfl (Nat.le_of_ble_eq_true rfl) (WB_23_p9 a c ((up (up (up (up (us (us (us (us (us u 24 (fun j => if j < 8 then (u 18) j else (u 24) j)) 25 (fun j => if j < 3 then (u 19) j else (u 25) j)) 26 (fun j => if j < 6 then (u 20) j else (u 26) j)) 27 (fun j => if j < 6 then (u 21) j else (u 27) j)) 28 (fun j => if j < 8 then (u 22) j else (u 28) j)) 23 (5) (u 17 5)) 23 (6) (u 17 6)) 23 (7) (u 17 7)) 23 (8) (u 17 8))) (u 17 9)) dX2_copyFrom_111 ?_
  exact kret 0 ((cpy 23 17 u)) _ _ (rfl) dX2_copyFrom_114
-- NoteBells$Now.copyFrom
set_option maxHeartbeats 8000000 in
set_option maxRecDepth 100000 in
theorem c_X2_copyFrom_29_17 (l : Launch) (D : va_G) (a : Nat → Nat) (c : Nat → ClassId) (u : zU)   : ZM l D (zTy c) (WB a c) yX2_copyFrom wsX2_copyFrom 2 [.ref (a 29), .ref (a 17)] u rV (fun z u' => u' = (cpy 29 17 u)) := by
  refine ZM.ofV (cc := cX2_copyFrom) (maxL := 2) [(0, .ref (a 29)), (1, .ref (a 17))] rfl (by decide +kernel) rfl (Nat.le_of_ble_eq_true rfl) (WB_addr a c) ?_
  intro x C hK _ _ hDD kret
  refine z_aload_n C 1 dX2_copyFrom_0 rfl ?_
  refine z_get C hK (v := .ref (a 18)) inX2_copyFrom_X2 17 (WB_17 a c u) rfl 0 (by decide) (List.mem_of_getElem? (i := 1) rfl) rfl dX2_copyFrom_1 ?_
  refine z_iconst C dX2_copyFrom_4 ?_
  refine z_aload_n C 0 dX2_copyFrom_5 rfl ?_
  refine z_get C hK (v := .ref (a 30)) inX2_copyFrom_X2 29 (WB_29 a c u) rfl 0 (by decide) (List.mem_of_getElem? (i := 1) rfl) rfl dX2_copyFrom_6 ?_
  refine z_iconst C dX2_copyFrom_9 ?_
  refine z_bipush C dX2_copyFrom_10 (by decide) ?_
  refine z_copyi C hK (hDD _) (by omega) (List.mem_of_getElem? (i := 2) rfl) (List.mem_of_getElem? (i := 3) rfl) (List.mem_of_getElem? (i := 4) rfl) (List.mem_of_getElem? (i := 5) rfl) 0 18 30 (g0 := (u 18)) (g1 := (u 30)) (WB_18 a c u) (WB_30 a c u) rfl (by omega) (WB_30_all a c u (fun j => if j < 8 then (u 18) j else (u 30) j)) (Nat.le_of_ble_eq_true rfl) dX2_copyFrom_12 ?_
  refine z_aload_n C 1 dX2_copyFrom_15 rfl ?_
  refine z_get C hK (v := .ref (a 19)) inX2_copyFrom_X2 17 (WB_17 a c ((us u 30 (fun j => if j < 8 then (u 18) j else (u 30) j)))) rfl 1 (by decide) (List.mem_of_getElem? (i := 6) rfl) rfl dX2_copyFrom_16 ?_
  refine z_iconst C dX2_copyFrom_19 ?_
  refine z_aload_n C 0 dX2_copyFrom_20 rfl ?_
  refine z_get C hK (v := .ref (a 31)) inX2_copyFrom_X2 29 (WB_29 a c ((us u 30 (fun j => if j < 8 then (u 18) j else (u 30) j)))) rfl 1 (by decide) (List.mem_of_getElem? (i := 6) rfl) rfl dX2_copyFrom_21 ?_
  refine z_iconst C dX2_copyFrom_24 ?_
  refine z_iconst C dX2_copyFrom_25 ?_
  refine z_copyi C hK (hDD _) (by omega) (List.mem_of_getElem? (i := 2) rfl) (List.mem_of_getElem? (i := 3) rfl) (List.mem_of_getElem? (i := 4) rfl) (List.mem_of_getElem? (i := 5) rfl) 0 19 31 (g0 := (u 19)) (g1 := (u 31)) (WB_19 a c ((us u 30 (fun j => if j < 8 then (u 18) j else (u 30) j)))) (WB_31 a c ((us u 30 (fun j => if j < 8 then (u 18) j else (u 30) j)))) rfl (by omega) (WB_31_all a c ((us u 30 (fun j => if j < 8 then (u 18) j else (u 30) j))) (fun j => if j < 3 then (u 19) j else (u 31) j)) (Nat.le_of_ble_eq_true rfl) dX2_copyFrom_26 ?_
  refine z_aload_n C 1 dX2_copyFrom_29 rfl ?_
  refine z_get C hK (v := .ref (a 20)) inX2_copyFrom_X2 17 (WB_17 a c ((us (us u 30 (fun j => if j < 8 then (u 18) j else (u 30) j)) 31 (fun j => if j < 3 then (u 19) j else (u 31) j)))) rfl 2 (by decide) (List.mem_of_getElem? (i := 7) rfl) rfl dX2_copyFrom_30 ?_
  refine z_iconst C dX2_copyFrom_33 ?_
  refine z_aload_n C 0 dX2_copyFrom_34 rfl ?_
  refine z_get C hK (v := .ref (a 32)) inX2_copyFrom_X2 29 (WB_29 a c ((us (us u 30 (fun j => if j < 8 then (u 18) j else (u 30) j)) 31 (fun j => if j < 3 then (u 19) j else (u 31) j)))) rfl 2 (by decide) (List.mem_of_getElem? (i := 7) rfl) rfl dX2_copyFrom_35 ?_
  refine z_iconst C dX2_copyFrom_38 ?_
  refine z_bipush C dX2_copyFrom_39 (by decide) ?_
  refine z_copyi C hK (hDD _) (by omega) (List.mem_of_getElem? (i := 2) rfl) (List.mem_of_getElem? (i := 3) rfl) (List.mem_of_getElem? (i := 4) rfl) (List.mem_of_getElem? (i := 5) rfl) 0 20 32 (g0 := (u 20)) (g1 := (u 32)) (WB_20 a c ((us (us u 30 (fun j => if j < 8 then (u 18) j else (u 30) j)) 31 (fun j => if j < 3 then (u 19) j else (u 31) j)))) (WB_32 a c ((us (us u 30 (fun j => if j < 8 then (u 18) j else (u 30) j)) 31 (fun j => if j < 3 then (u 19) j else (u 31) j)))) rfl (by omega) (WB_32_all a c ((us (us u 30 (fun j => if j < 8 then (u 18) j else (u 30) j)) 31 (fun j => if j < 3 then (u 19) j else (u 31) j))) (fun j => if j < 6 then (u 20) j else (u 32) j)) (Nat.le_of_ble_eq_true rfl) dX2_copyFrom_41 ?_
  refine z_aload_n C 1 dX2_copyFrom_44 rfl ?_
  refine z_get C hK (v := .ref (a 21)) inX2_copyFrom_X2 17 (WB_17 a c ((us (us (us u 30 (fun j => if j < 8 then (u 18) j else (u 30) j)) 31 (fun j => if j < 3 then (u 19) j else (u 31) j)) 32 (fun j => if j < 6 then (u 20) j else (u 32) j)))) rfl 3 (by decide) (List.mem_of_getElem? (i := 8) rfl) rfl dX2_copyFrom_45 ?_
  refine z_iconst C dX2_copyFrom_48 ?_
  refine z_aload_n C 0 dX2_copyFrom_49 rfl ?_
  refine z_get C hK (v := .ref (a 33)) inX2_copyFrom_X2 29 (WB_29 a c ((us (us (us u 30 (fun j => if j < 8 then (u 18) j else (u 30) j)) 31 (fun j => if j < 3 then (u 19) j else (u 31) j)) 32 (fun j => if j < 6 then (u 20) j else (u 32) j)))) rfl 3 (by decide) (List.mem_of_getElem? (i := 8) rfl) rfl dX2_copyFrom_50 ?_
  refine z_iconst C dX2_copyFrom_53 ?_
  refine z_bipush C dX2_copyFrom_54 (by decide) ?_
  refine z_copyi C hK (hDD _) (by omega) (List.mem_of_getElem? (i := 2) rfl) (List.mem_of_getElem? (i := 3) rfl) (List.mem_of_getElem? (i := 4) rfl) (List.mem_of_getElem? (i := 5) rfl) 0 21 33 (g0 := (u 21)) (g1 := (u 33)) (WB_21 a c ((us (us (us u 30 (fun j => if j < 8 then (u 18) j else (u 30) j)) 31 (fun j => if j < 3 then (u 19) j else (u 31) j)) 32 (fun j => if j < 6 then (u 20) j else (u 32) j)))) (WB_33 a c ((us (us (us u 30 (fun j => if j < 8 then (u 18) j else (u 30) j)) 31 (fun j => if j < 3 then (u 19) j else (u 31) j)) 32 (fun j => if j < 6 then (u 20) j else (u 32) j)))) rfl (by omega) (WB_33_all a c ((us (us (us u 30 (fun j => if j < 8 then (u 18) j else (u 30) j)) 31 (fun j => if j < 3 then (u 19) j else (u 31) j)) 32 (fun j => if j < 6 then (u 20) j else (u 32) j))) (fun j => if j < 6 then (u 21) j else (u 33) j)) (Nat.le_of_ble_eq_true rfl) dX2_copyFrom_56 ?_
  refine z_aload_n C 1 dX2_copyFrom_59 rfl ?_
  refine z_get C hK (v := .ref (a 22)) inX2_copyFrom_X2 17 (WB_17 a c ((us (us (us (us u 30 (fun j => if j < 8 then (u 18) j else (u 30) j)) 31 (fun j => if j < 3 then (u 19) j else (u 31) j)) 32 (fun j => if j < 6 then (u 20) j else (u 32) j)) 33 (fun j => if j < 6 then (u 21) j else (u 33) j)))) rfl 4 (by decide) (List.mem_of_getElem? (i := 9) rfl) rfl dX2_copyFrom_60 ?_
  refine z_iconst C dX2_copyFrom_63 ?_
  refine z_aload_n C 0 dX2_copyFrom_64 rfl ?_
  refine z_get C hK (v := .ref (a 34)) inX2_copyFrom_X2 29 (WB_29 a c ((us (us (us (us u 30 (fun j => if j < 8 then (u 18) j else (u 30) j)) 31 (fun j => if j < 3 then (u 19) j else (u 31) j)) 32 (fun j => if j < 6 then (u 20) j else (u 32) j)) 33 (fun j => if j < 6 then (u 21) j else (u 33) j)))) rfl 4 (by decide) (List.mem_of_getElem? (i := 9) rfl) rfl dX2_copyFrom_65 ?_
  refine z_iconst C dX2_copyFrom_68 ?_
  refine z_bipush C dX2_copyFrom_69 (by decide) ?_
  refine z_copyi C hK (hDD _) (by omega) (List.mem_of_getElem? (i := 2) rfl) (List.mem_of_getElem? (i := 3) rfl) (List.mem_of_getElem? (i := 4) rfl) (List.mem_of_getElem? (i := 5) rfl) 0 22 34 (g0 := (u 22)) (g1 := (u 34)) (WB_22 a c ((us (us (us (us u 30 (fun j => if j < 8 then (u 18) j else (u 30) j)) 31 (fun j => if j < 3 then (u 19) j else (u 31) j)) 32 (fun j => if j < 6 then (u 20) j else (u 32) j)) 33 (fun j => if j < 6 then (u 21) j else (u 33) j)))) (WB_34 a c ((us (us (us (us u 30 (fun j => if j < 8 then (u 18) j else (u 30) j)) 31 (fun j => if j < 3 then (u 19) j else (u 31) j)) 32 (fun j => if j < 6 then (u 20) j else (u 32) j)) 33 (fun j => if j < 6 then (u 21) j else (u 33) j)))) rfl (by omega) (WB_34_all a c ((us (us (us (us u 30 (fun j => if j < 8 then (u 18) j else (u 30) j)) 31 (fun j => if j < 3 then (u 19) j else (u 31) j)) 32 (fun j => if j < 6 then (u 20) j else (u 32) j)) 33 (fun j => if j < 6 then (u 21) j else (u 33) j))) (fun j => if j < 8 then (u 22) j else (u 34) j)) (Nat.le_of_ble_eq_true rfl) dX2_copyFrom_71 ?_
  refine z_aload_n C 0 dX2_copyFrom_74 rfl ?_
  refine z_aload_n C 1 dX2_copyFrom_75 rfl ?_
  refine z_get C hK (v := .int (zI (u 17 5))) inX2_copyFrom_X2 17 (WB_17 a c ((us (us (us (us (us u 30 (fun j => if j < 8 then (u 18) j else (u 30) j)) 31 (fun j => if j < 3 then (u 19) j else (u 31) j)) 32 (fun j => if j < 6 then (u 20) j else (u 32) j)) 33 (fun j => if j < 6 then (u 21) j else (u 33) j)) 34 (fun j => if j < 8 then (u 22) j else (u 34) j)))) rfl 5 (by decide) (List.mem_of_getElem? (i := 10) rfl) rfl dX2_copyFrom_76 ?_
  refine z_put C hK (hDD _) inX2_copyFrom_X2 tyX2 tyX2_ok nmX2 29 (WB_29 a c ((us (us (us (us (us u 30 (fun j => if j < 8 then (u 18) j else (u 30) j)) 31 (fun j => if j < 3 then (u 19) j else (u 31) j)) 32 (fun j => if j < 6 then (u 20) j else (u 32) j)) 33 (fun j => if j < 6 then (u 21) j else (u 33) j)) 34 (fun j => if j < 8 then (u 22) j else (u 34) j)))) rfl 5 (by decide) (List.mem_of_getElem? (i := 10) rfl) rfl rfl rfl (Nat.le_of_ble_eq_true rfl) (WB_29_p5 a c ((us (us (us (us (us u 30 (fun j => if j < 8 then (u 18) j else (u 30) j)) 31 (fun j => if j < 3 then (u 19) j else (u 31) j)) 32 (fun j => if j < 6 then (u 20) j else (u 32) j)) 33 (fun j => if j < 6 then (u 21) j else (u 33) j)) 34 (fun j => if j < 8 then (u 22) j else (u 34) j))) (u 17 5)) dX2_copyFrom_79 ?_
  refine z_aload_n C 0 dX2_copyFrom_82 rfl ?_
  refine z_aload_n C 1 dX2_copyFrom_83 rfl ?_
  refine z_get C hK (v := .int (zI (u 17 6))) inX2_copyFrom_X2 17 (WB_17 a c ((up (us (us (us (us (us u 30 (fun j => if j < 8 then (u 18) j else (u 30) j)) 31 (fun j => if j < 3 then (u 19) j else (u 31) j)) 32 (fun j => if j < 6 then (u 20) j else (u 32) j)) 33 (fun j => if j < 6 then (u 21) j else (u 33) j)) 34 (fun j => if j < 8 then (u 22) j else (u 34) j)) 29 (5) (u 17 5)))) rfl 6 (by decide) (List.mem_of_getElem? (i := 11) rfl) rfl dX2_copyFrom_84 ?_
  refine z_put C hK (hDD _) inX2_copyFrom_X2 tyX2 tyX2_ok nmX2 29 (WB_29 a c ((up (us (us (us (us (us u 30 (fun j => if j < 8 then (u 18) j else (u 30) j)) 31 (fun j => if j < 3 then (u 19) j else (u 31) j)) 32 (fun j => if j < 6 then (u 20) j else (u 32) j)) 33 (fun j => if j < 6 then (u 21) j else (u 33) j)) 34 (fun j => if j < 8 then (u 22) j else (u 34) j)) 29 (5) (u 17 5)))) rfl 6 (by decide) (List.mem_of_getElem? (i := 11) rfl) rfl rfl rfl (Nat.le_of_ble_eq_true rfl) (WB_29_p6 a c ((up (us (us (us (us (us u 30 (fun j => if j < 8 then (u 18) j else (u 30) j)) 31 (fun j => if j < 3 then (u 19) j else (u 31) j)) 32 (fun j => if j < 6 then (u 20) j else (u 32) j)) 33 (fun j => if j < 6 then (u 21) j else (u 33) j)) 34 (fun j => if j < 8 then (u 22) j else (u 34) j)) 29 (5) (u 17 5))) (u 17 6)) dX2_copyFrom_87 ?_
  refine z_aload_n C 0 dX2_copyFrom_90 rfl ?_
  refine z_aload_n C 1 dX2_copyFrom_91 rfl ?_
  refine z_get C hK (v := .int (zI (u 17 7))) inX2_copyFrom_X2 17 (WB_17 a c ((up (up (us (us (us (us (us u 30 (fun j => if j < 8 then (u 18) j else (u 30) j)) 31 (fun j => if j < 3 then (u 19) j else (u 31) j)) 32 (fun j => if j < 6 then (u 20) j else (u 32) j)) 33 (fun j => if j < 6 then (u 21) j else (u 33) j)) 34 (fun j => if j < 8 then (u 22) j else (u 34) j)) 29 (5) (u 17 5)) 29 (6) (u 17 6)))) rfl 7 (by decide) (List.mem_of_getElem? (i := 12) rfl) rfl dX2_copyFrom_92 ?_
  refine z_put C hK (hDD _) inX2_copyFrom_X2 tyX2 tyX2_ok nmX2 29 (WB_29 a c ((up (up (us (us (us (us (us u 30 (fun j => if j < 8 then (u 18) j else (u 30) j)) 31 (fun j => if j < 3 then (u 19) j else (u 31) j)) 32 (fun j => if j < 6 then (u 20) j else (u 32) j)) 33 (fun j => if j < 6 then (u 21) j else (u 33) j)) 34 (fun j => if j < 8 then (u 22) j else (u 34) j)) 29 (5) (u 17 5)) 29 (6) (u 17 6)))) rfl 7 (by decide) (List.mem_of_getElem? (i := 12) rfl) rfl rfl rfl (Nat.le_of_ble_eq_true rfl) (WB_29_p7 a c ((up (up (us (us (us (us (us u 30 (fun j => if j < 8 then (u 18) j else (u 30) j)) 31 (fun j => if j < 3 then (u 19) j else (u 31) j)) 32 (fun j => if j < 6 then (u 20) j else (u 32) j)) 33 (fun j => if j < 6 then (u 21) j else (u 33) j)) 34 (fun j => if j < 8 then (u 22) j else (u 34) j)) 29 (5) (u 17 5)) 29 (6) (u 17 6))) (u 17 7)) dX2_copyFrom_95 ?_
  refine z_aload_n C 0 dX2_copyFrom_98 rfl ?_
  refine z_aload_n C 1 dX2_copyFrom_99 rfl ?_
  refine z_get C hK (v := .int (zI (u 17 8))) inX2_copyFrom_X2 17 (WB_17 a c ((up (up (up (us (us (us (us (us u 30 (fun j => if j < 8 then (u 18) j else (u 30) j)) 31 (fun j => if j < 3 then (u 19) j else (u 31) j)) 32 (fun j => if j < 6 then (u 20) j else (u 32) j)) 33 (fun j => if j < 6 then (u 21) j else (u 33) j)) 34 (fun j => if j < 8 then (u 22) j else (u 34) j)) 29 (5) (u 17 5)) 29 (6) (u 17 6)) 29 (7) (u 17 7)))) rfl 8 (by decide) (List.mem_of_getElem? (i := 13) rfl) rfl dX2_copyFrom_100 ?_
  refine z_put C hK (hDD _) inX2_copyFrom_X2 tyX2 tyX2_ok nmX2 29 (WB_29 a c ((up (up (up (us (us (us (us (us u 30 (fun j => if j < 8 then (u 18) j else (u 30) j)) 31 (fun j => if j < 3 then (u 19) j else (u 31) j)) 32 (fun j => if j < 6 then (u 20) j else (u 32) j)) 33 (fun j => if j < 6 then (u 21) j else (u 33) j)) 34 (fun j => if j < 8 then (u 22) j else (u 34) j)) 29 (5) (u 17 5)) 29 (6) (u 17 6)) 29 (7) (u 17 7)))) rfl 8 (by decide) (List.mem_of_getElem? (i := 13) rfl) rfl rfl rfl (Nat.le_of_ble_eq_true rfl) (WB_29_p8 a c ((up (up (up (us (us (us (us (us u 30 (fun j => if j < 8 then (u 18) j else (u 30) j)) 31 (fun j => if j < 3 then (u 19) j else (u 31) j)) 32 (fun j => if j < 6 then (u 20) j else (u 32) j)) 33 (fun j => if j < 6 then (u 21) j else (u 33) j)) 34 (fun j => if j < 8 then (u 22) j else (u 34) j)) 29 (5) (u 17 5)) 29 (6) (u 17 6)) 29 (7) (u 17 7))) (u 17 8)) dX2_copyFrom_103 ?_
  refine z_aload_n C 0 dX2_copyFrom_106 rfl ?_
  refine z_aload_n C 1 dX2_copyFrom_107 rfl ?_
  refine z_get C hK (v := .int (zI (u 17 9))) inX2_copyFrom_X2 17 (WB_17 a c ((up (up (up (up (us (us (us (us (us u 30 (fun j => if j < 8 then (u 18) j else (u 30) j)) 31 (fun j => if j < 3 then (u 19) j else (u 31) j)) 32 (fun j => if j < 6 then (u 20) j else (u 32) j)) 33 (fun j => if j < 6 then (u 21) j else (u 33) j)) 34 (fun j => if j < 8 then (u 22) j else (u 34) j)) 29 (5) (u 17 5)) 29 (6) (u 17 6)) 29 (7) (u 17 7)) 29 (8) (u 17 8)))) rfl 9 (by decide) (List.mem_of_getElem? (i := 14) rfl) rfl dX2_copyFrom_108 ?_
  refine z_put C hK (hDD _) inX2_copyFrom_X2 tyX2 tyX2_ok nmX2 29 (WB_29 a c ((up (up (up (up (us (us (us (us (us u 30 (fun j => if j < 8 then (u 18) j else (u 30) j)) 31 (fun j => if j < 3 then (u 19) j else (u 31) j)) 32 (fun j => if j < 6 then (u 20) j else (u 32) j)) 33 (fun j => if j < 6 then (u 21) j else (u 33) j)) 34 (fun j => if j < 8 then (u 22) j else (u 34) j)) 29 (5) (u 17 5)) 29 (6) (u 17 6)) 29 (7) (u 17 7)) 29 (8) (u 17 8)))) rfl 9 (by decide) (List.mem_of_getElem? (i := 14) rfl) rfl rfl rfl (Nat.le_of_ble_eq_true rfl) (WB_29_p9 a c ((up (up (up (up (us (us (us (us (us u 30 (fun j => if j < 8 then (u 18) j else (u 30) j)) 31 (fun j => if j < 3 then (u 19) j else (u 31) j)) 32 (fun j => if j < 6 then (u 20) j else (u 32) j)) 33 (fun j => if j < 6 then (u 21) j else (u 33) j)) 34 (fun j => if j < 8 then (u 22) j else (u 34) j)) 29 (5) (u 17 5)) 29 (6) (u 17 6)) 29 (7) (u 17 7)) 29 (8) (u 17 8))) (u 17 9)) dX2_copyFrom_111 ?_
  exact kret 0 ((cpy 29 17 u)) _ _ (rfl) dX2_copyFrom_114
-- NoteBells$Now.copyFrom
set_option maxHeartbeats 8000000 in
set_option maxRecDepth 100000 in
theorem c_X2_copyFrom_17_23 (l : Launch) (D : va_G) (a : Nat → Nat) (c : Nat → ClassId) (u : zU)   : ZM l D (zTy c) (WB a c) yX2_copyFrom wsX2_copyFrom 2 [.ref (a 17), .ref (a 23)] u rV (fun z u' => u' = (cpy 17 23 u)) := by
  refine ZM.ofV (cc := cX2_copyFrom) (maxL := 2) [(0, .ref (a 17)), (1, .ref (a 23))] rfl (by decide +kernel) rfl (Nat.le_of_ble_eq_true rfl) (WB_addr a c) ?_
  intro x C hK _ _ hDD kret
  refine z_aload_n C 1 dX2_copyFrom_0 rfl ?_
  refine z_get C hK (v := .ref (a 24)) inX2_copyFrom_X2 23 (WB_23 a c u) rfl 0 (by decide) (List.mem_of_getElem? (i := 1) rfl) rfl dX2_copyFrom_1 ?_
  refine z_iconst C dX2_copyFrom_4 ?_
  refine z_aload_n C 0 dX2_copyFrom_5 rfl ?_
  refine z_get C hK (v := .ref (a 18)) inX2_copyFrom_X2 17 (WB_17 a c u) rfl 0 (by decide) (List.mem_of_getElem? (i := 1) rfl) rfl dX2_copyFrom_6 ?_
  refine z_iconst C dX2_copyFrom_9 ?_
  refine z_bipush C dX2_copyFrom_10 (by decide) ?_
  refine z_copyi C hK (hDD _) (by omega) (List.mem_of_getElem? (i := 2) rfl) (List.mem_of_getElem? (i := 3) rfl) (List.mem_of_getElem? (i := 4) rfl) (List.mem_of_getElem? (i := 5) rfl) 0 24 18 (g0 := (u 24)) (g1 := (u 18)) (WB_24 a c u) (WB_18 a c u) rfl (by omega) (WB_18_all a c u (fun j => if j < 8 then (u 24) j else (u 18) j)) (Nat.le_of_ble_eq_true rfl) dX2_copyFrom_12 ?_
  refine z_aload_n C 1 dX2_copyFrom_15 rfl ?_
  refine z_get C hK (v := .ref (a 25)) inX2_copyFrom_X2 23 (WB_23 a c ((us u 18 (fun j => if j < 8 then (u 24) j else (u 18) j)))) rfl 1 (by decide) (List.mem_of_getElem? (i := 6) rfl) rfl dX2_copyFrom_16 ?_
  refine z_iconst C dX2_copyFrom_19 ?_
  refine z_aload_n C 0 dX2_copyFrom_20 rfl ?_
  refine z_get C hK (v := .ref (a 19)) inX2_copyFrom_X2 17 (WB_17 a c ((us u 18 (fun j => if j < 8 then (u 24) j else (u 18) j)))) rfl 1 (by decide) (List.mem_of_getElem? (i := 6) rfl) rfl dX2_copyFrom_21 ?_
  refine z_iconst C dX2_copyFrom_24 ?_
  refine z_iconst C dX2_copyFrom_25 ?_
  refine z_copyi C hK (hDD _) (by omega) (List.mem_of_getElem? (i := 2) rfl) (List.mem_of_getElem? (i := 3) rfl) (List.mem_of_getElem? (i := 4) rfl) (List.mem_of_getElem? (i := 5) rfl) 0 25 19 (g0 := (u 25)) (g1 := (u 19)) (WB_25 a c ((us u 18 (fun j => if j < 8 then (u 24) j else (u 18) j)))) (WB_19 a c ((us u 18 (fun j => if j < 8 then (u 24) j else (u 18) j)))) rfl (by omega) (WB_19_all a c ((us u 18 (fun j => if j < 8 then (u 24) j else (u 18) j))) (fun j => if j < 3 then (u 25) j else (u 19) j)) (Nat.le_of_ble_eq_true rfl) dX2_copyFrom_26 ?_
  refine z_aload_n C 1 dX2_copyFrom_29 rfl ?_
  refine z_get C hK (v := .ref (a 26)) inX2_copyFrom_X2 23 (WB_23 a c ((us (us u 18 (fun j => if j < 8 then (u 24) j else (u 18) j)) 19 (fun j => if j < 3 then (u 25) j else (u 19) j)))) rfl 2 (by decide) (List.mem_of_getElem? (i := 7) rfl) rfl dX2_copyFrom_30 ?_
  refine z_iconst C dX2_copyFrom_33 ?_
  refine z_aload_n C 0 dX2_copyFrom_34 rfl ?_
  refine z_get C hK (v := .ref (a 20)) inX2_copyFrom_X2 17 (WB_17 a c ((us (us u 18 (fun j => if j < 8 then (u 24) j else (u 18) j)) 19 (fun j => if j < 3 then (u 25) j else (u 19) j)))) rfl 2 (by decide) (List.mem_of_getElem? (i := 7) rfl) rfl dX2_copyFrom_35 ?_
  refine z_iconst C dX2_copyFrom_38 ?_
  refine z_bipush C dX2_copyFrom_39 (by decide) ?_
  refine z_copyi C hK (hDD _) (by omega) (List.mem_of_getElem? (i := 2) rfl) (List.mem_of_getElem? (i := 3) rfl) (List.mem_of_getElem? (i := 4) rfl) (List.mem_of_getElem? (i := 5) rfl) 0 26 20 (g0 := (u 26)) (g1 := (u 20)) (WB_26 a c ((us (us u 18 (fun j => if j < 8 then (u 24) j else (u 18) j)) 19 (fun j => if j < 3 then (u 25) j else (u 19) j)))) (WB_20 a c ((us (us u 18 (fun j => if j < 8 then (u 24) j else (u 18) j)) 19 (fun j => if j < 3 then (u 25) j else (u 19) j)))) rfl (by omega) (WB_20_all a c ((us (us u 18 (fun j => if j < 8 then (u 24) j else (u 18) j)) 19 (fun j => if j < 3 then (u 25) j else (u 19) j))) (fun j => if j < 6 then (u 26) j else (u 20) j)) (Nat.le_of_ble_eq_true rfl) dX2_copyFrom_41 ?_
  refine z_aload_n C 1 dX2_copyFrom_44 rfl ?_
  refine z_get C hK (v := .ref (a 27)) inX2_copyFrom_X2 23 (WB_23 a c ((us (us (us u 18 (fun j => if j < 8 then (u 24) j else (u 18) j)) 19 (fun j => if j < 3 then (u 25) j else (u 19) j)) 20 (fun j => if j < 6 then (u 26) j else (u 20) j)))) rfl 3 (by decide) (List.mem_of_getElem? (i := 8) rfl) rfl dX2_copyFrom_45 ?_
  refine z_iconst C dX2_copyFrom_48 ?_
  refine z_aload_n C 0 dX2_copyFrom_49 rfl ?_
  refine z_get C hK (v := .ref (a 21)) inX2_copyFrom_X2 17 (WB_17 a c ((us (us (us u 18 (fun j => if j < 8 then (u 24) j else (u 18) j)) 19 (fun j => if j < 3 then (u 25) j else (u 19) j)) 20 (fun j => if j < 6 then (u 26) j else (u 20) j)))) rfl 3 (by decide) (List.mem_of_getElem? (i := 8) rfl) rfl dX2_copyFrom_50 ?_
  refine z_iconst C dX2_copyFrom_53 ?_
  refine z_bipush C dX2_copyFrom_54 (by decide) ?_
  refine z_copyi C hK (hDD _) (by omega) (List.mem_of_getElem? (i := 2) rfl) (List.mem_of_getElem? (i := 3) rfl) (List.mem_of_getElem? (i := 4) rfl) (List.mem_of_getElem? (i := 5) rfl) 0 27 21 (g0 := (u 27)) (g1 := (u 21)) (WB_27 a c ((us (us (us u 18 (fun j => if j < 8 then (u 24) j else (u 18) j)) 19 (fun j => if j < 3 then (u 25) j else (u 19) j)) 20 (fun j => if j < 6 then (u 26) j else (u 20) j)))) (WB_21 a c ((us (us (us u 18 (fun j => if j < 8 then (u 24) j else (u 18) j)) 19 (fun j => if j < 3 then (u 25) j else (u 19) j)) 20 (fun j => if j < 6 then (u 26) j else (u 20) j)))) rfl (by omega) (WB_21_all a c ((us (us (us u 18 (fun j => if j < 8 then (u 24) j else (u 18) j)) 19 (fun j => if j < 3 then (u 25) j else (u 19) j)) 20 (fun j => if j < 6 then (u 26) j else (u 20) j))) (fun j => if j < 6 then (u 27) j else (u 21) j)) (Nat.le_of_ble_eq_true rfl) dX2_copyFrom_56 ?_
  refine z_aload_n C 1 dX2_copyFrom_59 rfl ?_
  refine z_get C hK (v := .ref (a 28)) inX2_copyFrom_X2 23 (WB_23 a c ((us (us (us (us u 18 (fun j => if j < 8 then (u 24) j else (u 18) j)) 19 (fun j => if j < 3 then (u 25) j else (u 19) j)) 20 (fun j => if j < 6 then (u 26) j else (u 20) j)) 21 (fun j => if j < 6 then (u 27) j else (u 21) j)))) rfl 4 (by decide) (List.mem_of_getElem? (i := 9) rfl) rfl dX2_copyFrom_60 ?_
  refine z_iconst C dX2_copyFrom_63 ?_
  refine z_aload_n C 0 dX2_copyFrom_64 rfl ?_
  refine z_get C hK (v := .ref (a 22)) inX2_copyFrom_X2 17 (WB_17 a c ((us (us (us (us u 18 (fun j => if j < 8 then (u 24) j else (u 18) j)) 19 (fun j => if j < 3 then (u 25) j else (u 19) j)) 20 (fun j => if j < 6 then (u 26) j else (u 20) j)) 21 (fun j => if j < 6 then (u 27) j else (u 21) j)))) rfl 4 (by decide) (List.mem_of_getElem? (i := 9) rfl) rfl dX2_copyFrom_65 ?_
  refine z_iconst C dX2_copyFrom_68 ?_
  refine z_bipush C dX2_copyFrom_69 (by decide) ?_
  refine z_copyi C hK (hDD _) (by omega) (List.mem_of_getElem? (i := 2) rfl) (List.mem_of_getElem? (i := 3) rfl) (List.mem_of_getElem? (i := 4) rfl) (List.mem_of_getElem? (i := 5) rfl) 0 28 22 (g0 := (u 28)) (g1 := (u 22)) (WB_28 a c ((us (us (us (us u 18 (fun j => if j < 8 then (u 24) j else (u 18) j)) 19 (fun j => if j < 3 then (u 25) j else (u 19) j)) 20 (fun j => if j < 6 then (u 26) j else (u 20) j)) 21 (fun j => if j < 6 then (u 27) j else (u 21) j)))) (WB_22 a c ((us (us (us (us u 18 (fun j => if j < 8 then (u 24) j else (u 18) j)) 19 (fun j => if j < 3 then (u 25) j else (u 19) j)) 20 (fun j => if j < 6 then (u 26) j else (u 20) j)) 21 (fun j => if j < 6 then (u 27) j else (u 21) j)))) rfl (by omega) (WB_22_all a c ((us (us (us (us u 18 (fun j => if j < 8 then (u 24) j else (u 18) j)) 19 (fun j => if j < 3 then (u 25) j else (u 19) j)) 20 (fun j => if j < 6 then (u 26) j else (u 20) j)) 21 (fun j => if j < 6 then (u 27) j else (u 21) j))) (fun j => if j < 8 then (u 28) j else (u 22) j)) (Nat.le_of_ble_eq_true rfl) dX2_copyFrom_71 ?_
  refine z_aload_n C 0 dX2_copyFrom_74 rfl ?_
  refine z_aload_n C 1 dX2_copyFrom_75 rfl ?_
  refine z_get C hK (v := .int (zI (u 23 5))) inX2_copyFrom_X2 23 (WB_23 a c ((us (us (us (us (us u 18 (fun j => if j < 8 then (u 24) j else (u 18) j)) 19 (fun j => if j < 3 then (u 25) j else (u 19) j)) 20 (fun j => if j < 6 then (u 26) j else (u 20) j)) 21 (fun j => if j < 6 then (u 27) j else (u 21) j)) 22 (fun j => if j < 8 then (u 28) j else (u 22) j)))) rfl 5 (by decide) (List.mem_of_getElem? (i := 10) rfl) rfl dX2_copyFrom_76 ?_
  refine z_put C hK (hDD _) inX2_copyFrom_X2 tyX2 tyX2_ok nmX2 17 (WB_17 a c ((us (us (us (us (us u 18 (fun j => if j < 8 then (u 24) j else (u 18) j)) 19 (fun j => if j < 3 then (u 25) j else (u 19) j)) 20 (fun j => if j < 6 then (u 26) j else (u 20) j)) 21 (fun j => if j < 6 then (u 27) j else (u 21) j)) 22 (fun j => if j < 8 then (u 28) j else (u 22) j)))) rfl 5 (by decide) (List.mem_of_getElem? (i := 10) rfl) rfl rfl rfl (Nat.le_of_ble_eq_true rfl) (WB_17_p5 a c ((us (us (us (us (us u 18 (fun j => if j < 8 then (u 24) j else (u 18) j)) 19 (fun j => if j < 3 then (u 25) j else (u 19) j)) 20 (fun j => if j < 6 then (u 26) j else (u 20) j)) 21 (fun j => if j < 6 then (u 27) j else (u 21) j)) 22 (fun j => if j < 8 then (u 28) j else (u 22) j))) (u 23 5)) dX2_copyFrom_79 ?_
  refine z_aload_n C 0 dX2_copyFrom_82 rfl ?_
  refine z_aload_n C 1 dX2_copyFrom_83 rfl ?_
  refine z_get C hK (v := .int (zI (u 23 6))) inX2_copyFrom_X2 23 (WB_23 a c ((up (us (us (us (us (us u 18 (fun j => if j < 8 then (u 24) j else (u 18) j)) 19 (fun j => if j < 3 then (u 25) j else (u 19) j)) 20 (fun j => if j < 6 then (u 26) j else (u 20) j)) 21 (fun j => if j < 6 then (u 27) j else (u 21) j)) 22 (fun j => if j < 8 then (u 28) j else (u 22) j)) 17 (5) (u 23 5)))) rfl 6 (by decide) (List.mem_of_getElem? (i := 11) rfl) rfl dX2_copyFrom_84 ?_
  refine z_put C hK (hDD _) inX2_copyFrom_X2 tyX2 tyX2_ok nmX2 17 (WB_17 a c ((up (us (us (us (us (us u 18 (fun j => if j < 8 then (u 24) j else (u 18) j)) 19 (fun j => if j < 3 then (u 25) j else (u 19) j)) 20 (fun j => if j < 6 then (u 26) j else (u 20) j)) 21 (fun j => if j < 6 then (u 27) j else (u 21) j)) 22 (fun j => if j < 8 then (u 28) j else (u 22) j)) 17 (5) (u 23 5)))) rfl 6 (by decide) (List.mem_of_getElem? (i := 11) rfl) rfl rfl rfl (Nat.le_of_ble_eq_true rfl) (WB_17_p6 a c ((up (us (us (us (us (us u 18 (fun j => if j < 8 then (u 24) j else (u 18) j)) 19 (fun j => if j < 3 then (u 25) j else (u 19) j)) 20 (fun j => if j < 6 then (u 26) j else (u 20) j)) 21 (fun j => if j < 6 then (u 27) j else (u 21) j)) 22 (fun j => if j < 8 then (u 28) j else (u 22) j)) 17 (5) (u 23 5))) (u 23 6)) dX2_copyFrom_87 ?_
  refine z_aload_n C 0 dX2_copyFrom_90 rfl ?_
  refine z_aload_n C 1 dX2_copyFrom_91 rfl ?_
  refine z_get C hK (v := .int (zI (u 23 7))) inX2_copyFrom_X2 23 (WB_23 a c ((up (up (us (us (us (us (us u 18 (fun j => if j < 8 then (u 24) j else (u 18) j)) 19 (fun j => if j < 3 then (u 25) j else (u 19) j)) 20 (fun j => if j < 6 then (u 26) j else (u 20) j)) 21 (fun j => if j < 6 then (u 27) j else (u 21) j)) 22 (fun j => if j < 8 then (u 28) j else (u 22) j)) 17 (5) (u 23 5)) 17 (6) (u 23 6)))) rfl 7 (by decide) (List.mem_of_getElem? (i := 12) rfl) rfl dX2_copyFrom_92 ?_
  refine z_put C hK (hDD _) inX2_copyFrom_X2 tyX2 tyX2_ok nmX2 17 (WB_17 a c ((up (up (us (us (us (us (us u 18 (fun j => if j < 8 then (u 24) j else (u 18) j)) 19 (fun j => if j < 3 then (u 25) j else (u 19) j)) 20 (fun j => if j < 6 then (u 26) j else (u 20) j)) 21 (fun j => if j < 6 then (u 27) j else (u 21) j)) 22 (fun j => if j < 8 then (u 28) j else (u 22) j)) 17 (5) (u 23 5)) 17 (6) (u 23 6)))) rfl 7 (by decide) (List.mem_of_getElem? (i := 12) rfl) rfl rfl rfl (Nat.le_of_ble_eq_true rfl) (WB_17_p7 a c ((up (up (us (us (us (us (us u 18 (fun j => if j < 8 then (u 24) j else (u 18) j)) 19 (fun j => if j < 3 then (u 25) j else (u 19) j)) 20 (fun j => if j < 6 then (u 26) j else (u 20) j)) 21 (fun j => if j < 6 then (u 27) j else (u 21) j)) 22 (fun j => if j < 8 then (u 28) j else (u 22) j)) 17 (5) (u 23 5)) 17 (6) (u 23 6))) (u 23 7)) dX2_copyFrom_95 ?_
  refine z_aload_n C 0 dX2_copyFrom_98 rfl ?_
  refine z_aload_n C 1 dX2_copyFrom_99 rfl ?_
  refine z_get C hK (v := .int (zI (u 23 8))) inX2_copyFrom_X2 23 (WB_23 a c ((up (up (up (us (us (us (us (us u 18 (fun j => if j < 8 then (u 24) j else (u 18) j)) 19 (fun j => if j < 3 then (u 25) j else (u 19) j)) 20 (fun j => if j < 6 then (u 26) j else (u 20) j)) 21 (fun j => if j < 6 then (u 27) j else (u 21) j)) 22 (fun j => if j < 8 then (u 28) j else (u 22) j)) 17 (5) (u 23 5)) 17 (6) (u 23 6)) 17 (7) (u 23 7)))) rfl 8 (by decide) (List.mem_of_getElem? (i := 13) rfl) rfl dX2_copyFrom_100 ?_
  refine z_put C hK (hDD _) inX2_copyFrom_X2 tyX2 tyX2_ok nmX2 17 (WB_17 a c ((up (up (up (us (us (us (us (us u 18 (fun j => if j < 8 then (u 24) j else (u 18) j)) 19 (fun j => if j < 3 then (u 25) j else (u 19) j)) 20 (fun j => if j < 6 then (u 26) j else (u 20) j)) 21 (fun j => if j < 6 then (u 27) j else (u 21) j)) 22 (fun j => if j < 8 then (u 28) j else (u 22) j)) 17 (5) (u 23 5)) 17 (6) (u 23 6)) 17 (7) (u 23 7)))) rfl 8 (by decide) (List.mem_of_getElem? (i := 13) rfl) rfl rfl rfl (Nat.le_of_ble_eq_true rfl) (WB_17_p8 a c ((up (up (up (us (us (us (us (us u 18 (fun j => if j < 8 then (u 24) j else (u 18) j)) 19 (fun j => if j < 3 then (u 25) j else (u 19) j)) 20 (fun j => if j < 6 then (u 26) j else (u 20) j)) 21 (fun j => if j < 6 then (u 27) j else (u 21) j)) 22 (fun j => if j < 8 then (u 28) j else (u 22) j)) 17 (5) (u 23 5)) 17 (6) (u 23 6)) 17 (7) (u 23 7))) (u 23 8)) dX2_copyFrom_103 ?_
  refine z_aload_n C 0 dX2_copyFrom_106 rfl ?_
  refine z_aload_n C 1 dX2_copyFrom_107 rfl ?_
  refine z_get C hK (v := .int (zI (u 23 9))) inX2_copyFrom_X2 23 (WB_23 a c ((up (up (up (up (us (us (us (us (us u 18 (fun j => if j < 8 then (u 24) j else (u 18) j)) 19 (fun j => if j < 3 then (u 25) j else (u 19) j)) 20 (fun j => if j < 6 then (u 26) j else (u 20) j)) 21 (fun j => if j < 6 then (u 27) j else (u 21) j)) 22 (fun j => if j < 8 then (u 28) j else (u 22) j)) 17 (5) (u 23 5)) 17 (6) (u 23 6)) 17 (7) (u 23 7)) 17 (8) (u 23 8)))) rfl 9 (by decide) (List.mem_of_getElem? (i := 14) rfl) rfl dX2_copyFrom_108 ?_
  refine z_put C hK (hDD _) inX2_copyFrom_X2 tyX2 tyX2_ok nmX2 17 (WB_17 a c ((up (up (up (up (us (us (us (us (us u 18 (fun j => if j < 8 then (u 24) j else (u 18) j)) 19 (fun j => if j < 3 then (u 25) j else (u 19) j)) 20 (fun j => if j < 6 then (u 26) j else (u 20) j)) 21 (fun j => if j < 6 then (u 27) j else (u 21) j)) 22 (fun j => if j < 8 then (u 28) j else (u 22) j)) 17 (5) (u 23 5)) 17 (6) (u 23 6)) 17 (7) (u 23 7)) 17 (8) (u 23 8)))) rfl 9 (by decide) (List.mem_of_getElem? (i := 14) rfl) rfl rfl rfl (Nat.le_of_ble_eq_true rfl) (WB_17_p9 a c ((up (up (up (up (us (us (us (us (us u 18 (fun j => if j < 8 then (u 24) j else (u 18) j)) 19 (fun j => if j < 3 then (u 25) j else (u 19) j)) 20 (fun j => if j < 6 then (u 26) j else (u 20) j)) 21 (fun j => if j < 6 then (u 27) j else (u 21) j)) 22 (fun j => if j < 8 then (u 28) j else (u 22) j)) 17 (5) (u 23 5)) 17 (6) (u 23 6)) 17 (7) (u 23 7)) 17 (8) (u 23 8))) (u 23 9)) dX2_copyFrom_111 ?_
  exact kret 0 ((cpy 17 23 u)) _ _ (rfl) dX2_copyFrom_114
-- NoteBells$Now.copyFrom
set_option maxHeartbeats 8000000 in
set_option maxRecDepth 100000 in
theorem c_X2_copyFrom_17_29 (l : Launch) (D : va_G) (a : Nat → Nat) (c : Nat → ClassId) (u : zU)   : ZM l D (zTy c) (WB a c) yX2_copyFrom wsX2_copyFrom 2 [.ref (a 17), .ref (a 29)] u rV (fun z u' => u' = (cpy 17 29 u)) := by
  refine ZM.ofV (cc := cX2_copyFrom) (maxL := 2) [(0, .ref (a 17)), (1, .ref (a 29))] rfl (by decide +kernel) rfl (Nat.le_of_ble_eq_true rfl) (WB_addr a c) ?_
  intro x C hK _ _ hDD kret
  refine z_aload_n C 1 dX2_copyFrom_0 rfl ?_
  refine z_get C hK (v := .ref (a 30)) inX2_copyFrom_X2 29 (WB_29 a c u) rfl 0 (by decide) (List.mem_of_getElem? (i := 1) rfl) rfl dX2_copyFrom_1 ?_
  refine z_iconst C dX2_copyFrom_4 ?_
  refine z_aload_n C 0 dX2_copyFrom_5 rfl ?_
  refine z_get C hK (v := .ref (a 18)) inX2_copyFrom_X2 17 (WB_17 a c u) rfl 0 (by decide) (List.mem_of_getElem? (i := 1) rfl) rfl dX2_copyFrom_6 ?_
  refine z_iconst C dX2_copyFrom_9 ?_
  refine z_bipush C dX2_copyFrom_10 (by decide) ?_
  refine z_copyi C hK (hDD _) (by omega) (List.mem_of_getElem? (i := 2) rfl) (List.mem_of_getElem? (i := 3) rfl) (List.mem_of_getElem? (i := 4) rfl) (List.mem_of_getElem? (i := 5) rfl) 0 30 18 (g0 := (u 30)) (g1 := (u 18)) (WB_30 a c u) (WB_18 a c u) rfl (by omega) (WB_18_all a c u (fun j => if j < 8 then (u 30) j else (u 18) j)) (Nat.le_of_ble_eq_true rfl) dX2_copyFrom_12 ?_
  refine z_aload_n C 1 dX2_copyFrom_15 rfl ?_
  refine z_get C hK (v := .ref (a 31)) inX2_copyFrom_X2 29 (WB_29 a c ((us u 18 (fun j => if j < 8 then (u 30) j else (u 18) j)))) rfl 1 (by decide) (List.mem_of_getElem? (i := 6) rfl) rfl dX2_copyFrom_16 ?_
  refine z_iconst C dX2_copyFrom_19 ?_
  refine z_aload_n C 0 dX2_copyFrom_20 rfl ?_
  refine z_get C hK (v := .ref (a 19)) inX2_copyFrom_X2 17 (WB_17 a c ((us u 18 (fun j => if j < 8 then (u 30) j else (u 18) j)))) rfl 1 (by decide) (List.mem_of_getElem? (i := 6) rfl) rfl dX2_copyFrom_21 ?_
  refine z_iconst C dX2_copyFrom_24 ?_
  refine z_iconst C dX2_copyFrom_25 ?_
  refine z_copyi C hK (hDD _) (by omega) (List.mem_of_getElem? (i := 2) rfl) (List.mem_of_getElem? (i := 3) rfl) (List.mem_of_getElem? (i := 4) rfl) (List.mem_of_getElem? (i := 5) rfl) 0 31 19 (g0 := (u 31)) (g1 := (u 19)) (WB_31 a c ((us u 18 (fun j => if j < 8 then (u 30) j else (u 18) j)))) (WB_19 a c ((us u 18 (fun j => if j < 8 then (u 30) j else (u 18) j)))) rfl (by omega) (WB_19_all a c ((us u 18 (fun j => if j < 8 then (u 30) j else (u 18) j))) (fun j => if j < 3 then (u 31) j else (u 19) j)) (Nat.le_of_ble_eq_true rfl) dX2_copyFrom_26 ?_
  refine z_aload_n C 1 dX2_copyFrom_29 rfl ?_
  refine z_get C hK (v := .ref (a 32)) inX2_copyFrom_X2 29 (WB_29 a c ((us (us u 18 (fun j => if j < 8 then (u 30) j else (u 18) j)) 19 (fun j => if j < 3 then (u 31) j else (u 19) j)))) rfl 2 (by decide) (List.mem_of_getElem? (i := 7) rfl) rfl dX2_copyFrom_30 ?_
  refine z_iconst C dX2_copyFrom_33 ?_
  refine z_aload_n C 0 dX2_copyFrom_34 rfl ?_
  refine z_get C hK (v := .ref (a 20)) inX2_copyFrom_X2 17 (WB_17 a c ((us (us u 18 (fun j => if j < 8 then (u 30) j else (u 18) j)) 19 (fun j => if j < 3 then (u 31) j else (u 19) j)))) rfl 2 (by decide) (List.mem_of_getElem? (i := 7) rfl) rfl dX2_copyFrom_35 ?_
  refine z_iconst C dX2_copyFrom_38 ?_
  refine z_bipush C dX2_copyFrom_39 (by decide) ?_
  refine z_copyi C hK (hDD _) (by omega) (List.mem_of_getElem? (i := 2) rfl) (List.mem_of_getElem? (i := 3) rfl) (List.mem_of_getElem? (i := 4) rfl) (List.mem_of_getElem? (i := 5) rfl) 0 32 20 (g0 := (u 32)) (g1 := (u 20)) (WB_32 a c ((us (us u 18 (fun j => if j < 8 then (u 30) j else (u 18) j)) 19 (fun j => if j < 3 then (u 31) j else (u 19) j)))) (WB_20 a c ((us (us u 18 (fun j => if j < 8 then (u 30) j else (u 18) j)) 19 (fun j => if j < 3 then (u 31) j else (u 19) j)))) rfl (by omega) (WB_20_all a c ((us (us u 18 (fun j => if j < 8 then (u 30) j else (u 18) j)) 19 (fun j => if j < 3 then (u 31) j else (u 19) j))) (fun j => if j < 6 then (u 32) j else (u 20) j)) (Nat.le_of_ble_eq_true rfl) dX2_copyFrom_41 ?_
  refine z_aload_n C 1 dX2_copyFrom_44 rfl ?_
  refine z_get C hK (v := .ref (a 33)) inX2_copyFrom_X2 29 (WB_29 a c ((us (us (us u 18 (fun j => if j < 8 then (u 30) j else (u 18) j)) 19 (fun j => if j < 3 then (u 31) j else (u 19) j)) 20 (fun j => if j < 6 then (u 32) j else (u 20) j)))) rfl 3 (by decide) (List.mem_of_getElem? (i := 8) rfl) rfl dX2_copyFrom_45 ?_
  refine z_iconst C dX2_copyFrom_48 ?_
  refine z_aload_n C 0 dX2_copyFrom_49 rfl ?_
  refine z_get C hK (v := .ref (a 21)) inX2_copyFrom_X2 17 (WB_17 a c ((us (us (us u 18 (fun j => if j < 8 then (u 30) j else (u 18) j)) 19 (fun j => if j < 3 then (u 31) j else (u 19) j)) 20 (fun j => if j < 6 then (u 32) j else (u 20) j)))) rfl 3 (by decide) (List.mem_of_getElem? (i := 8) rfl) rfl dX2_copyFrom_50 ?_
  refine z_iconst C dX2_copyFrom_53 ?_
  refine z_bipush C dX2_copyFrom_54 (by decide) ?_
  refine z_copyi C hK (hDD _) (by omega) (List.mem_of_getElem? (i := 2) rfl) (List.mem_of_getElem? (i := 3) rfl) (List.mem_of_getElem? (i := 4) rfl) (List.mem_of_getElem? (i := 5) rfl) 0 33 21 (g0 := (u 33)) (g1 := (u 21)) (WB_33 a c ((us (us (us u 18 (fun j => if j < 8 then (u 30) j else (u 18) j)) 19 (fun j => if j < 3 then (u 31) j else (u 19) j)) 20 (fun j => if j < 6 then (u 32) j else (u 20) j)))) (WB_21 a c ((us (us (us u 18 (fun j => if j < 8 then (u 30) j else (u 18) j)) 19 (fun j => if j < 3 then (u 31) j else (u 19) j)) 20 (fun j => if j < 6 then (u 32) j else (u 20) j)))) rfl (by omega) (WB_21_all a c ((us (us (us u 18 (fun j => if j < 8 then (u 30) j else (u 18) j)) 19 (fun j => if j < 3 then (u 31) j else (u 19) j)) 20 (fun j => if j < 6 then (u 32) j else (u 20) j))) (fun j => if j < 6 then (u 33) j else (u 21) j)) (Nat.le_of_ble_eq_true rfl) dX2_copyFrom_56 ?_
  refine z_aload_n C 1 dX2_copyFrom_59 rfl ?_
  refine z_get C hK (v := .ref (a 34)) inX2_copyFrom_X2 29 (WB_29 a c ((us (us (us (us u 18 (fun j => if j < 8 then (u 30) j else (u 18) j)) 19 (fun j => if j < 3 then (u 31) j else (u 19) j)) 20 (fun j => if j < 6 then (u 32) j else (u 20) j)) 21 (fun j => if j < 6 then (u 33) j else (u 21) j)))) rfl 4 (by decide) (List.mem_of_getElem? (i := 9) rfl) rfl dX2_copyFrom_60 ?_
  refine z_iconst C dX2_copyFrom_63 ?_
  refine z_aload_n C 0 dX2_copyFrom_64 rfl ?_
  refine z_get C hK (v := .ref (a 22)) inX2_copyFrom_X2 17 (WB_17 a c ((us (us (us (us u 18 (fun j => if j < 8 then (u 30) j else (u 18) j)) 19 (fun j => if j < 3 then (u 31) j else (u 19) j)) 20 (fun j => if j < 6 then (u 32) j else (u 20) j)) 21 (fun j => if j < 6 then (u 33) j else (u 21) j)))) rfl 4 (by decide) (List.mem_of_getElem? (i := 9) rfl) rfl dX2_copyFrom_65 ?_
  refine z_iconst C dX2_copyFrom_68 ?_
  refine z_bipush C dX2_copyFrom_69 (by decide) ?_
  refine z_copyi C hK (hDD _) (by omega) (List.mem_of_getElem? (i := 2) rfl) (List.mem_of_getElem? (i := 3) rfl) (List.mem_of_getElem? (i := 4) rfl) (List.mem_of_getElem? (i := 5) rfl) 0 34 22 (g0 := (u 34)) (g1 := (u 22)) (WB_34 a c ((us (us (us (us u 18 (fun j => if j < 8 then (u 30) j else (u 18) j)) 19 (fun j => if j < 3 then (u 31) j else (u 19) j)) 20 (fun j => if j < 6 then (u 32) j else (u 20) j)) 21 (fun j => if j < 6 then (u 33) j else (u 21) j)))) (WB_22 a c ((us (us (us (us u 18 (fun j => if j < 8 then (u 30) j else (u 18) j)) 19 (fun j => if j < 3 then (u 31) j else (u 19) j)) 20 (fun j => if j < 6 then (u 32) j else (u 20) j)) 21 (fun j => if j < 6 then (u 33) j else (u 21) j)))) rfl (by omega) (WB_22_all a c ((us (us (us (us u 18 (fun j => if j < 8 then (u 30) j else (u 18) j)) 19 (fun j => if j < 3 then (u 31) j else (u 19) j)) 20 (fun j => if j < 6 then (u 32) j else (u 20) j)) 21 (fun j => if j < 6 then (u 33) j else (u 21) j))) (fun j => if j < 8 then (u 34) j else (u 22) j)) (Nat.le_of_ble_eq_true rfl) dX2_copyFrom_71 ?_
  refine z_aload_n C 0 dX2_copyFrom_74 rfl ?_
  refine z_aload_n C 1 dX2_copyFrom_75 rfl ?_
  refine z_get C hK (v := .int (zI (u 29 5))) inX2_copyFrom_X2 29 (WB_29 a c ((us (us (us (us (us u 18 (fun j => if j < 8 then (u 30) j else (u 18) j)) 19 (fun j => if j < 3 then (u 31) j else (u 19) j)) 20 (fun j => if j < 6 then (u 32) j else (u 20) j)) 21 (fun j => if j < 6 then (u 33) j else (u 21) j)) 22 (fun j => if j < 8 then (u 34) j else (u 22) j)))) rfl 5 (by decide) (List.mem_of_getElem? (i := 10) rfl) rfl dX2_copyFrom_76 ?_
  refine z_put C hK (hDD _) inX2_copyFrom_X2 tyX2 tyX2_ok nmX2 17 (WB_17 a c ((us (us (us (us (us u 18 (fun j => if j < 8 then (u 30) j else (u 18) j)) 19 (fun j => if j < 3 then (u 31) j else (u 19) j)) 20 (fun j => if j < 6 then (u 32) j else (u 20) j)) 21 (fun j => if j < 6 then (u 33) j else (u 21) j)) 22 (fun j => if j < 8 then (u 34) j else (u 22) j)))) rfl 5 (by decide) (List.mem_of_getElem? (i := 10) rfl) rfl rfl rfl (Nat.le_of_ble_eq_true rfl) (WB_17_p5 a c ((us (us (us (us (us u 18 (fun j => if j < 8 then (u 30) j else (u 18) j)) 19 (fun j => if j < 3 then (u 31) j else (u 19) j)) 20 (fun j => if j < 6 then (u 32) j else (u 20) j)) 21 (fun j => if j < 6 then (u 33) j else (u 21) j)) 22 (fun j => if j < 8 then (u 34) j else (u 22) j))) (u 29 5)) dX2_copyFrom_79 ?_
  refine z_aload_n C 0 dX2_copyFrom_82 rfl ?_
  refine z_aload_n C 1 dX2_copyFrom_83 rfl ?_
  refine z_get C hK (v := .int (zI (u 29 6))) inX2_copyFrom_X2 29 (WB_29 a c ((up (us (us (us (us (us u 18 (fun j => if j < 8 then (u 30) j else (u 18) j)) 19 (fun j => if j < 3 then (u 31) j else (u 19) j)) 20 (fun j => if j < 6 then (u 32) j else (u 20) j)) 21 (fun j => if j < 6 then (u 33) j else (u 21) j)) 22 (fun j => if j < 8 then (u 34) j else (u 22) j)) 17 (5) (u 29 5)))) rfl 6 (by decide) (List.mem_of_getElem? (i := 11) rfl) rfl dX2_copyFrom_84 ?_
  refine z_put C hK (hDD _) inX2_copyFrom_X2 tyX2 tyX2_ok nmX2 17 (WB_17 a c ((up (us (us (us (us (us u 18 (fun j => if j < 8 then (u 30) j else (u 18) j)) 19 (fun j => if j < 3 then (u 31) j else (u 19) j)) 20 (fun j => if j < 6 then (u 32) j else (u 20) j)) 21 (fun j => if j < 6 then (u 33) j else (u 21) j)) 22 (fun j => if j < 8 then (u 34) j else (u 22) j)) 17 (5) (u 29 5)))) rfl 6 (by decide) (List.mem_of_getElem? (i := 11) rfl) rfl rfl rfl (Nat.le_of_ble_eq_true rfl) (WB_17_p6 a c ((up (us (us (us (us (us u 18 (fun j => if j < 8 then (u 30) j else (u 18) j)) 19 (fun j => if j < 3 then (u 31) j else (u 19) j)) 20 (fun j => if j < 6 then (u 32) j else (u 20) j)) 21 (fun j => if j < 6 then (u 33) j else (u 21) j)) 22 (fun j => if j < 8 then (u 34) j else (u 22) j)) 17 (5) (u 29 5))) (u 29 6)) dX2_copyFrom_87 ?_
  refine z_aload_n C 0 dX2_copyFrom_90 rfl ?_
  refine z_aload_n C 1 dX2_copyFrom_91 rfl ?_
  refine z_get C hK (v := .int (zI (u 29 7))) inX2_copyFrom_X2 29 (WB_29 a c ((up (up (us (us (us (us (us u 18 (fun j => if j < 8 then (u 30) j else (u 18) j)) 19 (fun j => if j < 3 then (u 31) j else (u 19) j)) 20 (fun j => if j < 6 then (u 32) j else (u 20) j)) 21 (fun j => if j < 6 then (u 33) j else (u 21) j)) 22 (fun j => if j < 8 then (u 34) j else (u 22) j)) 17 (5) (u 29 5)) 17 (6) (u 29 6)))) rfl 7 (by decide) (List.mem_of_getElem? (i := 12) rfl) rfl dX2_copyFrom_92 ?_
  refine z_put C hK (hDD _) inX2_copyFrom_X2 tyX2 tyX2_ok nmX2 17 (WB_17 a c ((up (up (us (us (us (us (us u 18 (fun j => if j < 8 then (u 30) j else (u 18) j)) 19 (fun j => if j < 3 then (u 31) j else (u 19) j)) 20 (fun j => if j < 6 then (u 32) j else (u 20) j)) 21 (fun j => if j < 6 then (u 33) j else (u 21) j)) 22 (fun j => if j < 8 then (u 34) j else (u 22) j)) 17 (5) (u 29 5)) 17 (6) (u 29 6)))) rfl 7 (by decide) (List.mem_of_getElem? (i := 12) rfl) rfl rfl rfl (Nat.le_of_ble_eq_true rfl) (WB_17_p7 a c ((up (up (us (us (us (us (us u 18 (fun j => if j < 8 then (u 30) j else (u 18) j)) 19 (fun j => if j < 3 then (u 31) j else (u 19) j)) 20 (fun j => if j < 6 then (u 32) j else (u 20) j)) 21 (fun j => if j < 6 then (u 33) j else (u 21) j)) 22 (fun j => if j < 8 then (u 34) j else (u 22) j)) 17 (5) (u 29 5)) 17 (6) (u 29 6))) (u 29 7)) dX2_copyFrom_95 ?_
  refine z_aload_n C 0 dX2_copyFrom_98 rfl ?_
  refine z_aload_n C 1 dX2_copyFrom_99 rfl ?_
  refine z_get C hK (v := .int (zI (u 29 8))) inX2_copyFrom_X2 29 (WB_29 a c ((up (up (up (us (us (us (us (us u 18 (fun j => if j < 8 then (u 30) j else (u 18) j)) 19 (fun j => if j < 3 then (u 31) j else (u 19) j)) 20 (fun j => if j < 6 then (u 32) j else (u 20) j)) 21 (fun j => if j < 6 then (u 33) j else (u 21) j)) 22 (fun j => if j < 8 then (u 34) j else (u 22) j)) 17 (5) (u 29 5)) 17 (6) (u 29 6)) 17 (7) (u 29 7)))) rfl 8 (by decide) (List.mem_of_getElem? (i := 13) rfl) rfl dX2_copyFrom_100 ?_
  refine z_put C hK (hDD _) inX2_copyFrom_X2 tyX2 tyX2_ok nmX2 17 (WB_17 a c ((up (up (up (us (us (us (us (us u 18 (fun j => if j < 8 then (u 30) j else (u 18) j)) 19 (fun j => if j < 3 then (u 31) j else (u 19) j)) 20 (fun j => if j < 6 then (u 32) j else (u 20) j)) 21 (fun j => if j < 6 then (u 33) j else (u 21) j)) 22 (fun j => if j < 8 then (u 34) j else (u 22) j)) 17 (5) (u 29 5)) 17 (6) (u 29 6)) 17 (7) (u 29 7)))) rfl 8 (by decide) (List.mem_of_getElem? (i := 13) rfl) rfl rfl rfl (Nat.le_of_ble_eq_true rfl) (WB_17_p8 a c ((up (up (up (us (us (us (us (us u 18 (fun j => if j < 8 then (u 30) j else (u 18) j)) 19 (fun j => if j < 3 then (u 31) j else (u 19) j)) 20 (fun j => if j < 6 then (u 32) j else (u 20) j)) 21 (fun j => if j < 6 then (u 33) j else (u 21) j)) 22 (fun j => if j < 8 then (u 34) j else (u 22) j)) 17 (5) (u 29 5)) 17 (6) (u 29 6)) 17 (7) (u 29 7))) (u 29 8)) dX2_copyFrom_103 ?_
  refine z_aload_n C 0 dX2_copyFrom_106 rfl ?_
  refine z_aload_n C 1 dX2_copyFrom_107 rfl ?_
  refine z_get C hK (v := .int (zI (u 29 9))) inX2_copyFrom_X2 29 (WB_29 a c ((up (up (up (up (us (us (us (us (us u 18 (fun j => if j < 8 then (u 30) j else (u 18) j)) 19 (fun j => if j < 3 then (u 31) j else (u 19) j)) 20 (fun j => if j < 6 then (u 32) j else (u 20) j)) 21 (fun j => if j < 6 then (u 33) j else (u 21) j)) 22 (fun j => if j < 8 then (u 34) j else (u 22) j)) 17 (5) (u 29 5)) 17 (6) (u 29 6)) 17 (7) (u 29 7)) 17 (8) (u 29 8)))) rfl 9 (by decide) (List.mem_of_getElem? (i := 14) rfl) rfl dX2_copyFrom_108 ?_
  refine z_put C hK (hDD _) inX2_copyFrom_X2 tyX2 tyX2_ok nmX2 17 (WB_17 a c ((up (up (up (up (us (us (us (us (us u 18 (fun j => if j < 8 then (u 30) j else (u 18) j)) 19 (fun j => if j < 3 then (u 31) j else (u 19) j)) 20 (fun j => if j < 6 then (u 32) j else (u 20) j)) 21 (fun j => if j < 6 then (u 33) j else (u 21) j)) 22 (fun j => if j < 8 then (u 34) j else (u 22) j)) 17 (5) (u 29 5)) 17 (6) (u 29 6)) 17 (7) (u 29 7)) 17 (8) (u 29 8)))) rfl 9 (by decide) (List.mem_of_getElem? (i := 14) rfl) rfl rfl rfl (Nat.le_of_ble_eq_true rfl) (WB_17_p9 a c ((up (up (up (up (us (us (us (us (us u 18 (fun j => if j < 8 then (u 30) j else (u 18) j)) 19 (fun j => if j < 3 then (u 31) j else (u 19) j)) 20 (fun j => if j < 6 then (u 32) j else (u 20) j)) 21 (fun j => if j < 6 then (u 33) j else (u 21) j)) 22 (fun j => if j < 8 then (u 34) j else (u 22) j)) 17 (5) (u 29 5)) 17 (6) (u 29 6)) 17 (7) (u 29 7)) 17 (8) (u 29 8))) (u 29 9)) dX2_copyFrom_111 ?_
  exact kret 0 ((cpy 17 29 u)) _ _ (rfl) dX2_copyFrom_114
-- NoteBells$Now.begin
theorem inX2_begin_X8 : ∀ w ∈ wsX80, w ∈ wsX2_begin := fun w h => List.mem_cons_of_mem _ (List.mem_append_left _ (List.mem_append_right _ (h)))
theorem inX2_begin_X2 : ∀ w ∈ wsX20, w ∈ wsX2_begin := fun w h => List.mem_cons_of_mem _ (List.mem_append_right _ (h))
set_option maxHeartbeats 8000000 in
set_option maxRecDepth 100000 in
theorem c_X2_begin (l : Launch) (D : va_G) (a : Nat → Nat) (c : Nat → ClassId) (u : zU)   : ZM l D (zTy c) (WB a c) yX2_begin wsX2_begin 2 [.ref (a 17), .ref (a 3)] u rV (fun z u' => u' = (bgN u)) := by
  refine ZM.ofV (cc := cX2_begin) (maxL := 2) [(0, .ref (a 17)), (1, .ref (a 3))] rfl (by decide +kernel) rfl (Nat.le_of_ble_eq_true rfl) (WB_addr a c) ?_
  intro x C hK _ _ hDD kret
  refine z_aload_n C 1 dX2_begin_0 rfl ?_
  refine z_getN C hK (v := .ref (a 4)) inX2_begin_X8 3 (WB_3 a c u) rfl 0 (by decide) (List.mem_of_getElem? (i := 27) rfl) rfl dX2_begin_1 ?_
  refine z_iconst C dX2_begin_4 ?_
  refine z_aload_n C 0 dX2_begin_5 rfl ?_
  refine z_get C hK (v := .ref (a 18)) inX2_begin_X2 17 (WB_17 a c u) rfl 0 (by decide) (List.mem_of_getElem? (i := 1) rfl) rfl dX2_begin_6 ?_
  refine z_iconst C dX2_begin_9 ?_
  refine z_bipush C dX2_begin_10 (by decide) ?_
  refine z_copyi C hK (hDD _) (by omega) (List.mem_of_getElem? (i := 2) rfl) (List.mem_of_getElem? (i := 3) rfl) (List.mem_of_getElem? (i := 4) rfl) (List.mem_of_getElem? (i := 5) rfl) 0 4 18 (g0 := (u 4)) (g1 := (u 18)) (WB_4 a c u) (WB_18 a c u) rfl (by omega) (WB_18_all a c u (fun j => if j < 8 then (u 4) j else (u 18) j)) (Nat.le_of_ble_eq_true rfl) dX2_begin_12 ?_
  refine z_aload_n C 1 dX2_begin_15 rfl ?_
  refine z_getN C hK (v := .ref (a 7)) inX2_begin_X8 3 (WB_3 a c ((us u 18 (fun j => if j < 8 then (u 4) j else (u 18) j)))) rfl 3 (by decide) (List.mem_of_getElem? (i := 28) rfl) rfl dX2_begin_16 ?_
  refine z_iconst C dX2_begin_19 ?_
  refine z_aload_n C 0 dX2_begin_20 rfl ?_
  refine z_get C hK (v := .ref (a 19)) inX2_begin_X2 17 (WB_17 a c ((us u 18 (fun j => if j < 8 then (u 4) j else (u 18) j)))) rfl 1 (by decide) (List.mem_of_getElem? (i := 6) rfl) rfl dX2_begin_21 ?_
  refine z_iconst C dX2_begin_24 ?_
  refine z_iconst C dX2_begin_25 ?_
  refine z_copyi C hK (hDD _) (by omega) (List.mem_of_getElem? (i := 2) rfl) (List.mem_of_getElem? (i := 3) rfl) (List.mem_of_getElem? (i := 4) rfl) (List.mem_of_getElem? (i := 5) rfl) 0 7 19 (g0 := (u 7)) (g1 := (u 19)) (WB_7 a c ((us u 18 (fun j => if j < 8 then (u 4) j else (u 18) j)))) (WB_19 a c ((us u 18 (fun j => if j < 8 then (u 4) j else (u 18) j)))) rfl (by omega) (WB_19_all a c ((us u 18 (fun j => if j < 8 then (u 4) j else (u 18) j))) (fun j => if j < 3 then (u 7) j else (u 19) j)) (Nat.le_of_ble_eq_true rfl) dX2_begin_26 ?_
  refine z_aload_n C 0 dX2_begin_29 rfl ?_
  refine z_iconst C dX2_begin_30 ?_
  refine z_put C hK (hDD _) inX2_begin_X2 tyX2 tyX2_ok nmX2 17 (WB_17 a c ((us (us u 18 (fun j => if j < 8 then (u 4) j else (u 18) j)) 19 (fun j => if j < 3 then (u 7) j else (u 19) j)))) rfl 5 (by decide) (List.mem_of_getElem? (i := 7) rfl) rfl rfl rfl (Nat.le_of_ble_eq_true rfl) (WB_17_p5 a c ((us (us u 18 (fun j => if j < 8 then (u 4) j else (u 18) j)) 19 (fun j => if j < 3 then (u 7) j else (u 19) j))) 0) dX2_begin_31 ?_
  refine z_aload_n C 0 dX2_begin_34 rfl ?_
  refine z_aload_n C 1 dX2_begin_35 rfl ?_
  refine z_getN C hK (v := .int (zI (u 3 7))) inX2_begin_X8 3 (WB_3 a c ((up (us (us u 18 (fun j => if j < 8 then (u 4) j else (u 18) j)) 19 (fun j => if j < 3 then (u 7) j else (u 19) j)) 17 (5) (0)))) rfl 7 (by decide) (List.mem_of_getElem? (i := 29) rfl) rfl dX2_begin_36 ?_
  refine z_put C hK (hDD _) inX2_begin_X2 tyX2 tyX2_ok nmX2 17 (WB_17 a c ((up (us (us u 18 (fun j => if j < 8 then (u 4) j else (u 18) j)) 19 (fun j => if j < 3 then (u 7) j else (u 19) j)) 17 (5) (0)))) rfl 6 (by decide) (List.mem_of_getElem? (i := 8) rfl) rfl rfl rfl (Nat.le_of_ble_eq_true rfl) (WB_17_p6 a c ((up (us (us u 18 (fun j => if j < 8 then (u 4) j else (u 18) j)) 19 (fun j => if j < 3 then (u 7) j else (u 19) j)) 17 (5) (0))) (u 3 7)) dX2_begin_39 ?_
  refine z_aload_n C 0 dX2_begin_42 rfl ?_
  refine z_bipush C dX2_begin_43 (by decide) ?_
  refine z_put C hK (hDD _) inX2_begin_X2 tyX2 tyX2_ok nmX2 17 (WB_17 a c ((up (up (us (us u 18 (fun j => if j < 8 then (u 4) j else (u 18) j)) 19 (fun j => if j < 3 then (u 7) j else (u 19) j)) 17 (5) (0)) 17 (6) (u 3 7)))) rfl 7 (by decide) (List.mem_of_getElem? (i := 9) rfl) rfl rfl rfl (Nat.le_of_ble_eq_true rfl) (WB_17_p7 a c ((up (up (us (us u 18 (fun j => if j < 8 then (u 4) j else (u 18) j)) 19 (fun j => if j < 3 then (u 7) j else (u 19) j)) 17 (5) (0)) 17 (6) (u 3 7))) 8) dX2_begin_45 ?_
  refine z_aload_n C 0 dX2_begin_48 rfl ?_
  refine z_iconst C dX2_begin_49 ?_
  refine z_put C hK (hDD _) inX2_begin_X2 tyX2 tyX2_ok nmX2 17 (WB_17 a c ((up (up (up (us (us u 18 (fun j => if j < 8 then (u 4) j else (u 18) j)) 19 (fun j => if j < 3 then (u 7) j else (u 19) j)) 17 (5) (0)) 17 (6) (u 3 7)) 17 (7) (8)))) rfl 8 (by decide) (List.mem_of_getElem? (i := 10) rfl) rfl rfl rfl (Nat.le_of_ble_eq_true rfl) (WB_17_p8 a c ((up (up (up (us (us u 18 (fun j => if j < 8 then (u 4) j else (u 18) j)) 19 (fun j => if j < 3 then (u 7) j else (u 19) j)) 17 (5) (0)) 17 (6) (u 3 7)) 17 (7) (8))) 0) dX2_begin_50 ?_
  refine z_aload_n C 0 dX2_begin_53 rfl ?_
  refine z_iconst C dX2_begin_54 ?_
  refine z_put C hK (hDD _) inX2_begin_X2 tyX2 tyX2_ok nmX2 17 (WB_17 a c ((up (up (up (up (us (us u 18 (fun j => if j < 8 then (u 4) j else (u 18) j)) 19 (fun j => if j < 3 then (u 7) j else (u 19) j)) 17 (5) (0)) 17 (6) (u 3 7)) 17 (7) (8)) 17 (8) (0)))) rfl 9 (by decide) (List.mem_of_getElem? (i := 11) rfl) rfl rfl rfl (Nat.le_of_ble_eq_true rfl) (WB_17_p9 a c ((up (up (up (up (us (us u 18 (fun j => if j < 8 then (u 4) j else (u 18) j)) 19 (fun j => if j < 3 then (u 7) j else (u 19) j)) 17 (5) (0)) 17 (6) (u 3 7)) 17 (7) (8)) 17 (8) (0))) 0) dX2_begin_55 ?_
  exact kret 0 ((bgN u)) _ _ (rfl) dX2_begin_58
-- NoteBells$Told.copyFrom
theorem inX8_copyFrom_X8 : ∀ w ∈ wsX80, w ∈ wsX8_copyFrom := fun w h => List.mem_cons_of_mem _ (List.mem_append_right _ (h))
set_option maxHeartbeats 8000000 in
set_option maxRecDepth 100000 in
theorem c_X8_copyFrom (l : Launch) (D : va_G) (a : Nat → Nat) (c : Nat → ClassId) (u : zU)   : ZM l D (zTy c) (WB a c) yX8_copyFrom wsX8_copyFrom 2 [.ref (a 3), .ref (a 8)] u rV (fun z u' => u' = (cpT u)) := by
  refine ZM.ofV (cc := cX8_copyFrom) (maxL := 2) [(0, .ref (a 3)), (1, .ref (a 8))] rfl (by decide +kernel) rfl (Nat.le_of_ble_eq_true rfl) (WB_addr a c) ?_
  intro x C hK _ _ hDD kret
  refine z_aload_n C 1 dX8_copyFrom_0 rfl ?_
  refine z_get C hK (v := .ref (a 9)) inX8_copyFrom_X8 8 (WB_8 a c u) rfl 0 (by decide) (List.mem_of_getElem? (i := 1) rfl) rfl dX8_copyFrom_1 ?_
  refine z_iconst C dX8_copyFrom_4 ?_
  refine z_aload_n C 0 dX8_copyFrom_5 rfl ?_
  refine z_get C hK (v := .ref (a 4)) inX8_copyFrom_X8 3 (WB_3 a c u) rfl 0 (by decide) (List.mem_of_getElem? (i := 1) rfl) rfl dX8_copyFrom_6 ?_
  refine z_iconst C dX8_copyFrom_9 ?_
  refine z_bipush C dX8_copyFrom_10 (by decide) ?_
  refine z_copyi C hK (hDD _) (by omega) (List.mem_of_getElem? (i := 2) rfl) (List.mem_of_getElem? (i := 3) rfl) (List.mem_of_getElem? (i := 4) rfl) (List.mem_of_getElem? (i := 5) rfl) 0 9 4 (g0 := (u 9)) (g1 := (u 4)) (WB_9 a c u) (WB_4 a c u) rfl (by omega) (WB_4_all a c u (fun j => if j < 8 then (u 9) j else (u 4) j)) (Nat.le_of_ble_eq_true rfl) dX8_copyFrom_12 ?_
  refine z_aload_n C 1 dX8_copyFrom_15 rfl ?_
  refine z_get C hK (v := .ref (a 10)) inX8_copyFrom_X8 8 (WB_8 a c ((us u 4 (fun j => if j < 8 then (u 9) j else (u 4) j)))) rfl 1 (by decide) (List.mem_of_getElem? (i := 6) rfl) rfl dX8_copyFrom_16 ?_
  refine z_iconst C dX8_copyFrom_19 ?_
  refine z_aload_n C 0 dX8_copyFrom_20 rfl ?_
  refine z_get C hK (v := .ref (a 5)) inX8_copyFrom_X8 3 (WB_3 a c ((us u 4 (fun j => if j < 8 then (u 9) j else (u 4) j)))) rfl 1 (by decide) (List.mem_of_getElem? (i := 6) rfl) rfl dX8_copyFrom_21 ?_
  refine z_iconst C dX8_copyFrom_24 ?_
  refine z_bipush C dX8_copyFrom_25 (by decide) ?_
  refine z_copyi C hK (hDD _) (by omega) (List.mem_of_getElem? (i := 2) rfl) (List.mem_of_getElem? (i := 3) rfl) (List.mem_of_getElem? (i := 4) rfl) (List.mem_of_getElem? (i := 5) rfl) 0 10 5 (g0 := (u 10)) (g1 := (u 5)) (WB_10 a c ((us u 4 (fun j => if j < 8 then (u 9) j else (u 4) j)))) (WB_5 a c ((us u 4 (fun j => if j < 8 then (u 9) j else (u 4) j)))) rfl (by omega) (WB_5_all a c ((us u 4 (fun j => if j < 8 then (u 9) j else (u 4) j))) (fun j => if j < 8 then (u 10) j else (u 5) j)) (Nat.le_of_ble_eq_true rfl) dX8_copyFrom_27 ?_
  refine z_aload_n C 1 dX8_copyFrom_30 rfl ?_
  refine z_get C hK (v := .ref (a 11)) inX8_copyFrom_X8 8 (WB_8 a c ((us (us u 4 (fun j => if j < 8 then (u 9) j else (u 4) j)) 5 (fun j => if j < 8 then (u 10) j else (u 5) j)))) rfl 2 (by decide) (List.mem_of_getElem? (i := 7) rfl) rfl dX8_copyFrom_31 ?_
  refine z_iconst C dX8_copyFrom_34 ?_
  refine z_aload_n C 0 dX8_copyFrom_35 rfl ?_
  refine z_get C hK (v := .ref (a 6)) inX8_copyFrom_X8 3 (WB_3 a c ((us (us u 4 (fun j => if j < 8 then (u 9) j else (u 4) j)) 5 (fun j => if j < 8 then (u 10) j else (u 5) j)))) rfl 2 (by decide) (List.mem_of_getElem? (i := 7) rfl) rfl dX8_copyFrom_36 ?_
  refine z_iconst C dX8_copyFrom_39 ?_
  refine z_bipush C dX8_copyFrom_40 (by decide) ?_
  refine z_copyi C hK (hDD _) (by omega) (List.mem_of_getElem? (i := 2) rfl) (List.mem_of_getElem? (i := 3) rfl) (List.mem_of_getElem? (i := 4) rfl) (List.mem_of_getElem? (i := 5) rfl) 0 11 6 (g0 := (u 11)) (g1 := (u 6)) (WB_11 a c ((us (us u 4 (fun j => if j < 8 then (u 9) j else (u 4) j)) 5 (fun j => if j < 8 then (u 10) j else (u 5) j)))) (WB_6 a c ((us (us u 4 (fun j => if j < 8 then (u 9) j else (u 4) j)) 5 (fun j => if j < 8 then (u 10) j else (u 5) j)))) rfl (by omega) (WB_6_all a c ((us (us u 4 (fun j => if j < 8 then (u 9) j else (u 4) j)) 5 (fun j => if j < 8 then (u 10) j else (u 5) j))) (fun j => if j < 8 then (u 11) j else (u 6) j)) (Nat.le_of_ble_eq_true rfl) dX8_copyFrom_42 ?_
  refine z_aload_n C 1 dX8_copyFrom_45 rfl ?_
  refine z_get C hK (v := .ref (a 12)) inX8_copyFrom_X8 8 (WB_8 a c ((us (us (us u 4 (fun j => if j < 8 then (u 9) j else (u 4) j)) 5 (fun j => if j < 8 then (u 10) j else (u 5) j)) 6 (fun j => if j < 8 then (u 11) j else (u 6) j)))) rfl 3 (by decide) (List.mem_of_getElem? (i := 8) rfl) rfl dX8_copyFrom_46 ?_
  refine z_iconst C dX8_copyFrom_49 ?_
  refine z_aload_n C 0 dX8_copyFrom_50 rfl ?_
  refine z_get C hK (v := .ref (a 7)) inX8_copyFrom_X8 3 (WB_3 a c ((us (us (us u 4 (fun j => if j < 8 then (u 9) j else (u 4) j)) 5 (fun j => if j < 8 then (u 10) j else (u 5) j)) 6 (fun j => if j < 8 then (u 11) j else (u 6) j)))) rfl 3 (by decide) (List.mem_of_getElem? (i := 8) rfl) rfl dX8_copyFrom_51 ?_
  refine z_iconst C dX8_copyFrom_54 ?_
  refine z_iconst C dX8_copyFrom_55 ?_
  refine z_copyi C hK (hDD _) (by omega) (List.mem_of_getElem? (i := 2) rfl) (List.mem_of_getElem? (i := 3) rfl) (List.mem_of_getElem? (i := 4) rfl) (List.mem_of_getElem? (i := 5) rfl) 0 12 7 (g0 := (u 12)) (g1 := (u 7)) (WB_12 a c ((us (us (us u 4 (fun j => if j < 8 then (u 9) j else (u 4) j)) 5 (fun j => if j < 8 then (u 10) j else (u 5) j)) 6 (fun j => if j < 8 then (u 11) j else (u 6) j)))) (WB_7 a c ((us (us (us u 4 (fun j => if j < 8 then (u 9) j else (u 4) j)) 5 (fun j => if j < 8 then (u 10) j else (u 5) j)) 6 (fun j => if j < 8 then (u 11) j else (u 6) j)))) rfl (by omega) (WB_7_all a c ((us (us (us u 4 (fun j => if j < 8 then (u 9) j else (u 4) j)) 5 (fun j => if j < 8 then (u 10) j else (u 5) j)) 6 (fun j => if j < 8 then (u 11) j else (u 6) j))) (fun j => if j < 3 then (u 12) j else (u 7) j)) (Nat.le_of_ble_eq_true rfl) dX8_copyFrom_56 ?_
  refine z_aload_n C 0 dX8_copyFrom_59 rfl ?_
  refine z_aload_n C 1 dX8_copyFrom_60 rfl ?_
  refine z_get C hK (v := .int (zI (u 8 4))) inX8_copyFrom_X8 8 (WB_8 a c ((us (us (us (us u 4 (fun j => if j < 8 then (u 9) j else (u 4) j)) 5 (fun j => if j < 8 then (u 10) j else (u 5) j)) 6 (fun j => if j < 8 then (u 11) j else (u 6) j)) 7 (fun j => if j < 3 then (u 12) j else (u 7) j)))) rfl 4 (by decide) (List.mem_of_getElem? (i := 9) rfl) rfl dX8_copyFrom_61 ?_
  refine z_put C hK (hDD _) inX8_copyFrom_X8 tyX8 tyX8_ok nmX8 3 (WB_3 a c ((us (us (us (us u 4 (fun j => if j < 8 then (u 9) j else (u 4) j)) 5 (fun j => if j < 8 then (u 10) j else (u 5) j)) 6 (fun j => if j < 8 then (u 11) j else (u 6) j)) 7 (fun j => if j < 3 then (u 12) j else (u 7) j)))) rfl 4 (by decide) (List.mem_of_getElem? (i := 9) rfl) rfl rfl rfl (Nat.le_of_ble_eq_true rfl) (WB_3_p4 a c ((us (us (us (us u 4 (fun j => if j < 8 then (u 9) j else (u 4) j)) 5 (fun j => if j < 8 then (u 10) j else (u 5) j)) 6 (fun j => if j < 8 then (u 11) j else (u 6) j)) 7 (fun j => if j < 3 then (u 12) j else (u 7) j))) (u 8 4)) dX8_copyFrom_64 ?_
  refine z_aload_n C 0 dX8_copyFrom_67 rfl ?_
  refine z_aload_n C 1 dX8_copyFrom_68 rfl ?_
  refine z_get C hK (v := .int (zI (u 8 5))) inX8_copyFrom_X8 8 (WB_8 a c ((up (us (us (us (us u 4 (fun j => if j < 8 then (u 9) j else (u 4) j)) 5 (fun j => if j < 8 then (u 10) j else (u 5) j)) 6 (fun j => if j < 8 then (u 11) j else (u 6) j)) 7 (fun j => if j < 3 then (u 12) j else (u 7) j)) 3 (4) (u 8 4)))) rfl 5 (by decide) (List.mem_of_getElem? (i := 10) rfl) rfl dX8_copyFrom_69 ?_
  refine z_put C hK (hDD _) inX8_copyFrom_X8 tyX8 tyX8_ok nmX8 3 (WB_3 a c ((up (us (us (us (us u 4 (fun j => if j < 8 then (u 9) j else (u 4) j)) 5 (fun j => if j < 8 then (u 10) j else (u 5) j)) 6 (fun j => if j < 8 then (u 11) j else (u 6) j)) 7 (fun j => if j < 3 then (u 12) j else (u 7) j)) 3 (4) (u 8 4)))) rfl 5 (by decide) (List.mem_of_getElem? (i := 10) rfl) rfl rfl rfl (Nat.le_of_ble_eq_true rfl) (WB_3_p5 a c ((up (us (us (us (us u 4 (fun j => if j < 8 then (u 9) j else (u 4) j)) 5 (fun j => if j < 8 then (u 10) j else (u 5) j)) 6 (fun j => if j < 8 then (u 11) j else (u 6) j)) 7 (fun j => if j < 3 then (u 12) j else (u 7) j)) 3 (4) (u 8 4))) (u 8 5)) dX8_copyFrom_72 ?_
  refine z_aload_n C 0 dX8_copyFrom_75 rfl ?_
  refine z_aload_n C 1 dX8_copyFrom_76 rfl ?_
  refine z_get C hK (v := .int (zI (u 8 6))) inX8_copyFrom_X8 8 (WB_8 a c ((up (up (us (us (us (us u 4 (fun j => if j < 8 then (u 9) j else (u 4) j)) 5 (fun j => if j < 8 then (u 10) j else (u 5) j)) 6 (fun j => if j < 8 then (u 11) j else (u 6) j)) 7 (fun j => if j < 3 then (u 12) j else (u 7) j)) 3 (4) (u 8 4)) 3 (5) (u 8 5)))) rfl 6 (by decide) (List.mem_of_getElem? (i := 11) rfl) rfl dX8_copyFrom_77 ?_
  refine z_put C hK (hDD _) inX8_copyFrom_X8 tyX8 tyX8_ok nmX8 3 (WB_3 a c ((up (up (us (us (us (us u 4 (fun j => if j < 8 then (u 9) j else (u 4) j)) 5 (fun j => if j < 8 then (u 10) j else (u 5) j)) 6 (fun j => if j < 8 then (u 11) j else (u 6) j)) 7 (fun j => if j < 3 then (u 12) j else (u 7) j)) 3 (4) (u 8 4)) 3 (5) (u 8 5)))) rfl 6 (by decide) (List.mem_of_getElem? (i := 11) rfl) rfl rfl rfl (Nat.le_of_ble_eq_true rfl) (WB_3_p6 a c ((up (up (us (us (us (us u 4 (fun j => if j < 8 then (u 9) j else (u 4) j)) 5 (fun j => if j < 8 then (u 10) j else (u 5) j)) 6 (fun j => if j < 8 then (u 11) j else (u 6) j)) 7 (fun j => if j < 3 then (u 12) j else (u 7) j)) 3 (4) (u 8 4)) 3 (5) (u 8 5))) (u 8 6)) dX8_copyFrom_80 ?_
  refine z_aload_n C 0 dX8_copyFrom_83 rfl ?_
  refine z_aload_n C 1 dX8_copyFrom_84 rfl ?_
  refine z_get C hK (v := .int (zI (u 8 7))) inX8_copyFrom_X8 8 (WB_8 a c ((up (up (up (us (us (us (us u 4 (fun j => if j < 8 then (u 9) j else (u 4) j)) 5 (fun j => if j < 8 then (u 10) j else (u 5) j)) 6 (fun j => if j < 8 then (u 11) j else (u 6) j)) 7 (fun j => if j < 3 then (u 12) j else (u 7) j)) 3 (4) (u 8 4)) 3 (5) (u 8 5)) 3 (6) (u 8 6)))) rfl 7 (by decide) (List.mem_of_getElem? (i := 12) rfl) rfl dX8_copyFrom_85 ?_
  refine z_put C hK (hDD _) inX8_copyFrom_X8 tyX8 tyX8_ok nmX8 3 (WB_3 a c ((up (up (up (us (us (us (us u 4 (fun j => if j < 8 then (u 9) j else (u 4) j)) 5 (fun j => if j < 8 then (u 10) j else (u 5) j)) 6 (fun j => if j < 8 then (u 11) j else (u 6) j)) 7 (fun j => if j < 3 then (u 12) j else (u 7) j)) 3 (4) (u 8 4)) 3 (5) (u 8 5)) 3 (6) (u 8 6)))) rfl 7 (by decide) (List.mem_of_getElem? (i := 12) rfl) rfl rfl rfl (Nat.le_of_ble_eq_true rfl) (WB_3_p7 a c ((up (up (up (us (us (us (us u 4 (fun j => if j < 8 then (u 9) j else (u 4) j)) 5 (fun j => if j < 8 then (u 10) j else (u 5) j)) 6 (fun j => if j < 8 then (u 11) j else (u 6) j)) 7 (fun j => if j < 3 then (u 12) j else (u 7) j)) 3 (4) (u 8 4)) 3 (5) (u 8 5)) 3 (6) (u 8 6))) (u 8 7)) dX8_copyFrom_88 ?_
  refine z_aload_n C 0 dX8_copyFrom_91 rfl ?_
  refine z_aload_n C 1 dX8_copyFrom_92 rfl ?_
  refine z_get C hK (v := .int (zI (u 8 8))) inX8_copyFrom_X8 8 (WB_8 a c ((up (up (up (up (us (us (us (us u 4 (fun j => if j < 8 then (u 9) j else (u 4) j)) 5 (fun j => if j < 8 then (u 10) j else (u 5) j)) 6 (fun j => if j < 8 then (u 11) j else (u 6) j)) 7 (fun j => if j < 3 then (u 12) j else (u 7) j)) 3 (4) (u 8 4)) 3 (5) (u 8 5)) 3 (6) (u 8 6)) 3 (7) (u 8 7)))) rfl 8 (by decide) (List.mem_of_getElem? (i := 13) rfl) rfl dX8_copyFrom_93 ?_
  refine z_put C hK (hDD _) inX8_copyFrom_X8 tyX8 tyX8_ok nmX8 3 (WB_3 a c ((up (up (up (up (us (us (us (us u 4 (fun j => if j < 8 then (u 9) j else (u 4) j)) 5 (fun j => if j < 8 then (u 10) j else (u 5) j)) 6 (fun j => if j < 8 then (u 11) j else (u 6) j)) 7 (fun j => if j < 3 then (u 12) j else (u 7) j)) 3 (4) (u 8 4)) 3 (5) (u 8 5)) 3 (6) (u 8 6)) 3 (7) (u 8 7)))) rfl 8 (by decide) (List.mem_of_getElem? (i := 13) rfl) rfl rfl rfl (Nat.le_of_ble_eq_true rfl) (WB_3_p8 a c ((up (up (up (up (us (us (us (us u 4 (fun j => if j < 8 then (u 9) j else (u 4) j)) 5 (fun j => if j < 8 then (u 10) j else (u 5) j)) 6 (fun j => if j < 8 then (u 11) j else (u 6) j)) 7 (fun j => if j < 3 then (u 12) j else (u 7) j)) 3 (4) (u 8 4)) 3 (5) (u 8 5)) 3 (6) (u 8 6)) 3 (7) (u 8 7))) (u 8 8)) dX8_copyFrom_96 ?_
  exact kret 0 ((cpT u)) _ _ (rfl) dX8_copyFrom_99
-- NoteBells$Told.reset
theorem inX8_reset_X8 : ∀ w ∈ wsX80, w ∈ wsX8_reset := fun w h => List.mem_cons_of_mem _ (List.mem_append_right _ (h))
set_option maxHeartbeats 8000000 in
set_option maxRecDepth 100000 in
theorem c_X8_reset (l : Launch) (D : va_G) (a : Nat → Nat) (c : Nat → ClassId) (u : zU)   : ZM l D (zTy c) (WB a c) yX8_reset wsX8_reset 2 [.ref (a 8)] u rV (fun z u' => u' = (up (up (up (up (up u 8 (4) (0)) 8 (5) (0)) 8 (6) (0)) 8 (7) (0)) 8 (8) (1))) := by
  refine ZM.ofV (cc := cX8_reset) (maxL := 1) [(0, .ref (a 8))] rfl (by decide +kernel) rfl (Nat.le_of_ble_eq_true rfl) (WB_addr a c) ?_
  intro x C hK _ _ hDD kret
  refine z_aload_n C 0 dX8_reset_0 rfl ?_
  refine z_iconst C dX8_reset_1 ?_
  refine z_put C hK (hDD _) inX8_reset_X8 tyX8 tyX8_ok nmX8 8 (WB_8 a c u) rfl 4 (by decide) (List.mem_of_getElem? (i := 1) rfl) rfl rfl rfl (Nat.le_of_ble_eq_true rfl) (WB_8_p4 a c u 0) dX8_reset_2 ?_
  refine z_aload_n C 0 dX8_reset_5 rfl ?_
  refine z_iconst C dX8_reset_6 ?_
  refine z_put C hK (hDD _) inX8_reset_X8 tyX8 tyX8_ok nmX8 8 (WB_8 a c ((up u 8 (4) (0)))) rfl 5 (by decide) (List.mem_of_getElem? (i := 2) rfl) rfl rfl rfl (Nat.le_of_ble_eq_true rfl) (WB_8_p5 a c ((up u 8 (4) (0))) 0) dX8_reset_7 ?_
  refine z_aload_n C 0 dX8_reset_10 rfl ?_
  refine z_iconst C dX8_reset_11 ?_
  refine z_put C hK (hDD _) inX8_reset_X8 tyX8 tyX8_ok nmX8 8 (WB_8 a c ((up (up u 8 (4) (0)) 8 (5) (0)))) rfl 6 (by decide) (List.mem_of_getElem? (i := 3) rfl) rfl rfl rfl (Nat.le_of_ble_eq_true rfl) (WB_8_p6 a c ((up (up u 8 (4) (0)) 8 (5) (0))) 0) dX8_reset_12 ?_
  refine z_aload_n C 0 dX8_reset_15 rfl ?_
  refine z_iconst C dX8_reset_16 ?_
  refine z_put C hK (hDD _) inX8_reset_X8 tyX8 tyX8_ok nmX8 8 (WB_8 a c ((up (up (up u 8 (4) (0)) 8 (5) (0)) 8 (6) (0)))) rfl 7 (by decide) (List.mem_of_getElem? (i := 4) rfl) rfl rfl rfl (Nat.le_of_ble_eq_true rfl) (WB_8_p7 a c ((up (up (up u 8 (4) (0)) 8 (5) (0)) 8 (6) (0))) 0) dX8_reset_17 ?_
  refine z_aload_n C 0 dX8_reset_20 rfl ?_
  refine z_iconst C dX8_reset_21 ?_
  refine z_put C hK (hDD _) inX8_reset_X8 tyX8 tyX8_ok nmX8 8 (WB_8 a c ((up (up (up (up u 8 (4) (0)) 8 (5) (0)) 8 (6) (0)) 8 (7) (0)))) rfl 8 (by decide) (List.mem_of_getElem? (i := 5) rfl) rfl rfl rfl (Nat.le_of_ble_eq_true rfl) (WB_8_p8 a c ((up (up (up (up u 8 (4) (0)) 8 (5) (0)) 8 (6) (0)) 8 (7) (0))) 1) dX8_reset_22 ?_
  exact kret 0 ((up (up (up (up (up u 8 (4) (0)) 8 (5) (0)) 8 (6) (0)) 8 (7) (0)) 8 (8) (1))) _ _ (rfl) dX8_reset_25
-- NoteBells$Told.echoLevels
theorem inX8_echoLevels_X8 : ∀ w ∈ wsX80, w ∈ wsX8_echoLevels := fun w h => List.mem_cons_of_mem _ (List.mem_append_right _ (h))
set_option maxHeartbeats 8000000 in
set_option maxRecDepth 100000 in
theorem c_X8_echoLevels (l : Launch) (D : va_G) (a : Nat → Nat) (c : Nat → ClassId) (u : zU)  (hI : IB u) : ZM l D (zTy c) (WB a c) yX8_echoLevels wsX8_echoLevels 1 [.ref (a 3)] u rI (fun z u' => u' = u ∧ z = ((bn (fun q => decide (u 6 q = 1)) (u 3 4).toNat : Nat) : Int)) := by
  refine ZM.ofI (cc := cX8_echoLevels) (maxL := 3) [(0, .ref (a 3))] rfl (by decide +kernel) rfl (Nat.le_of_ble_eq_true rfl) (WB_addr a c) ?_
  intro x C hK _ _ hDD kret
  have hlv := hI.lev
  refine z_iconst C dX8_echoLevels_0 ?_
  refine z_istore_n C [(1, .int (zI 0)), (0, .ref (a 3))] dX8_echoLevels_1 rfl (by decide) rfl ?_
  refine z_iconst C dX8_echoLevels_2 ?_
  refine z_istore_n C [(2, .int (zI 0)), (1, .int (zI 0)), (0, .ref (a 3))] dX8_echoLevels_3 rfl (by decide) rfl ?_
  have L4_1 : ∀ (fu : Nat) (i : Int) (b : Int), (0 ≤ i ∧ i ≤ u 3 4) → (b = ((bn (fun q => decide (u 6 q = 1)) i.toNat : Nat) : Int)) → u 3 4 - i < (fu : Int) → Z x 0 0 (WB a c u) [(0, .ref (a 3)), (1, .int (zI b)), (2, .int (zI i))] 4 [] := by
    intro fu
    induction fu with
    | zero => intro i b hi hb hm; exfalso; omega
    | succ fu ih4 =>
      intro i b hi hb hm
      refine z_iload_n C 2 dX8_echoLevels_4 rfl ?_
      refine z_aload_n C 0 dX8_echoLevels_5 rfl ?_
      refine z_get C hK (v := .int (zI (u 3 4))) inX8_echoLevels_X8 3 (WB_3 a c u) rfl 4 (by decide) (List.mem_of_getElem? (i := 1) rfl) rfl dX8_echoLevels_6 ?_
      refine z_icmp_ge C 29 dX8_echoLevels_9 (by decide) (by omega) (fun h2 => ?_) (fun h2 => ?_)
      · skip
        refine z_iload_n C 1 dX8_echoLevels_29 rfl ?_
        exact kret b u _ _ (⟨rfl, by rw [hb, show i = u 3 4 by omega]⟩) dX8_echoLevels_30
      · skip
        have he := hI.echo i hi.1 (by omega)
        refine z_iload_n C 1 dX8_echoLevels_12 rfl ?_
        refine z_aload_n C 0 dX8_echoLevels_13 rfl ?_
        refine z_get C hK (v := .ref (a 6)) inX8_echoLevels_X8 3 (WB_3 a c u) rfl 2 (by decide) (List.mem_of_getElem? (i := 2) rfl) rfl dX8_echoLevels_14 ?_
        refine z_iload_n C 2 dX8_echoLevels_17 rfl ?_
        refine z_iald C hK 0 (g := (u 6)) (i := i) 6 (WB_6 a c u) rfl (by decide) (by omega) dX8_echoLevels_18 ?_
        refine z_as (b := u 6 (i)) rfl ?_
        refine z_iload_n C 2 dX8_echoLevels_19 rfl ?_
        refine z_ishl C (((if u 6 i = 1 then 2 ^ i.toNat else 0 : Nat) : Int)) dX8_echoLevels_20 (echo_shl he (by omega)) ?_
        refine z_ior C (((bn (fun q => decide (u 6 q = 1)) i.toNat ||| (if u 6 i = 1 then 2 ^ i.toNat else 0) : Nat) : Int)) dX8_echoLevels_21 (by rw [hb]; exact zI_or _ _) ?_
        refine z_istore_n C [(1, .int (zI (((bn (fun q => decide (u 6 q = 1)) i.toNat ||| (if u 6 i = 1 then 2 ^ i.toNat else 0) : Nat) : Int)))), (0, .ref (a 3)), (2, .int (zI i))] dX8_echoLevels_22 rfl (by decide) rfl ?_
        refine z_iinc C 2 [(2, .int (zI (i + 1))), (1, .int (zI (((bn (fun q => decide (u 6 q = 1)) i.toNat ||| (if u 6 i = 1 then 2 ^ i.toNat else 0) : Nat) : Int)))), (0, .ref (a 3))] dX8_echoLevels_23 rfl (by decide) rfl ?_
        refine z_goto C 4 dX8_echoLevels_26 (by decide) ?_
        refine z_lv [(0, .ref (a 3)), (1, .int (zI (((bn (fun q => decide (u 6 q = 1)) i.toNat ||| (if u 6 i = 1 then 2 ^ i.toNat else 0) : Nat) : Int)))), (2, .int (zI (i + 1)))] [2, 1, 0] rfl ?_
        exact ih4 (i + 1) (((bn (fun q => decide (u 6 q = 1)) i.toNat ||| (if u 6 i = 1 then 2 ^ i.toNat else 0) : Nat) : Int)) (by omega) (echo_step hi.1 he) (by omega)
  refine z_lv [(0, .ref (a 3)), (1, .int (zI 0)), (2, .int (zI 0))] [2, 1, 0] rfl ?_
  exact L4_1 (((u 3 4 - 0 : Int)).toNat + 1) 0 0 (by omega) (rfl) (by omega)
-- NoteBells.keep
theorem inX10_keep_X10 : ∀ w ∈ wsX100, w ∈ wsX10_keep := fun w h => List.mem_cons_of_mem _ (List.mem_append_left _ (List.mem_append_right _ (h)))
theorem inX10_keep_X2 : ∀ w ∈ wsX20, w ∈ wsX10_keep := fun w h => List.mem_cons_of_mem _ (List.mem_append_right _ (h))
set_option maxHeartbeats 8000000 in
set_option maxRecDepth 100000 in
theorem c_X10_keep (l : Launch) (D : va_G) (a : Nat → Nat) (c : Nat → ClassId) (u : zU) (k : Int) (b_k : -2147483648 ≤ k ∧ k < 2147483648) : ZM l D (zTy c) (WB a c) yX10_keep wsX10_keep 4 [.ref (a 0), .int (zI k)] u rI (fun z u' => (¬ (0 ≤ k ∧ k ≤ 1) ∧ z = -1 ∧ u' = u) ∨ (k = 0 ∧ z = u 17 5 ∧ u' = up (cpy 23 17 u) 36 0 1) ∨ (k = 1 ∧ z = u 17 5 ∧ u' = up (cpy 29 17 u) 36 1 1)) := by
  refine ZM.ofI (cc := cX10_keep) (maxL := 2) [(0, .ref (a 0)), (1, .int (zI k))] rfl (by decide +kernel) rfl (Nat.le_of_ble_eq_true rfl) (WB_addr a c) ?_
  intro x C hK _ _ hDD kret
  refine z_iload_n C 1 dX10_keep_0 rfl ?_
  refine z_iconst C dX10_keep_1 ?_
  refine z_iconst C dX10_keep_2 ?_
  refine z_callS C hK hDD (c_X10_isWithin (zl x) (zG x) ((WB a c)) (WB_addr a c) u k 0 1 (by omega) (by omega) (by omega)) gX10_keep_X10_isWithin rfl rfl zy_X10_isWithin ⟨by omega, by decide⟩ rfl (Nat.le_of_ble_eq_true rfl) (st := []) (stk2 := fun z1 => [.int (zI z1)]) rfl (fun _ => rfl) dX10_keep_3 (fun z1 u2 h3 => ?_)
  rw [h3.1]; replace h3 := h3.2
  refine z_if_ne C 11 dX10_keep_6 (by decide) (by omega) (fun h4 => ?_) (fun h4 => ?_)
  · skip
    rcases (by omega : k = 0 ∨ k = 1) with hs5 | hs5
    · subst hs5
      refine z_aload_n C 0 dX10_keep_11 rfl ?_
      refine z_get C hK (v := .ref (a 35)) inX10_keep_X10 0 (WB_0 a c u) rfl 5 (by decide) (List.mem_of_getElem? (i := 1) rfl) rfl dX10_keep_12 ?_
      refine z_iload_n C 1 dX10_keep_15 rfl ?_
      refine z_aaldN C hK 2 (b := a 23) 35 (WB_35 a c u) rfl (by decide) (by omega) (rfl) dX10_keep_16 ?_
      refine z_aload_n C 0 dX10_keep_17 rfl ?_
      refine z_get C hK (v := .ref (a 17)) inX10_keep_X10 0 (WB_0 a c u) rfl 4 (by decide) (List.mem_of_getElem? (i := 2) rfl) rfl dX10_keep_18 ?_
      refine z_callVN C hK hDD (c_X2_copyFrom_23_17 (zl x) (zG x) a c u  ) ggX10_keep_X2_copyFrom (List.mem_of_getElem? (i := 26) rfl) (List.mem_of_getElem? (i := 9) rfl) (List.mem_of_getElem? (i := 8) rfl) (List.mem_of_getElem? (i := 10) rfl) rfl zy_X2_copyFrom 23 (WB_23 a c u) rfl ⟨by omega, by decide⟩ rfl (Nat.le_of_ble_eq_true rfl) (st := []) (stk2 := fun _ => []) rfl (fun _ => rfl) dX10_keep_21 (fun z6 u7 h8 => ?_)
      rw [h8]
      change Z x 0 0 (WB a c (cpy 23 17 u)) _ _ _
      refine z_aload_n C 0 dX10_keep_24 rfl ?_
      refine z_get C hK (v := .ref (a 36)) inX10_keep_X10 0 (WB_0 a c ((cpy 23 17 u))) rfl 6 (by decide) (List.mem_of_getElem? (i := 3) rfl) rfl dX10_keep_25 ?_
      refine z_iload_n C 1 dX10_keep_28 rfl ?_
      refine z_iconst C dX10_keep_29 ?_
      refine z_zast C hK (hDD _) 1 (g := (cpy 23 17 u) 36) 36 (WB_36 a c ((cpy 23 17 u))) rfl (by decide) (by omega) (by omega) (WB_36_set a c ((cpy 23 17 u)) 0 1) dX10_keep_30 ?_
      refine z_aload_n C 0 dX10_keep_31 rfl ?_
      refine z_get C hK (v := .ref (a 17)) inX10_keep_X10 0 (WB_0 a c ((up (cpy 23 17 u) 36 (0) (1)))) rfl 4 (by decide) (List.mem_of_getElem? (i := 2) rfl) rfl dX10_keep_32 ?_
      refine z_getN C hK (v := .int (zI (u 17 5))) inX10_keep_X2 17 (WB_17 a c ((up (cpy 23 17 u) 36 (0) (1)))) rfl 5 (by decide) (List.mem_of_getElem? (i := 6) rfl) rfl dX10_keep_35 ?_
      exact kret (u 17 5) ((up (cpy 23 17 u) 36 (0) (1))) _ _ (by first | exact Or.inr (Or.inl ⟨rfl, rfl, rfl⟩) | exact Or.inr (Or.inr ⟨rfl, rfl, rfl⟩)) dX10_keep_38
    · subst hs5
      refine z_aload_n C 0 dX10_keep_11 rfl ?_
      refine z_get C hK (v := .ref (a 35)) inX10_keep_X10 0 (WB_0 a c u) rfl 5 (by decide) (List.mem_of_getElem? (i := 1) rfl) rfl dX10_keep_12 ?_
      refine z_iload_n C 1 dX10_keep_15 rfl ?_
      refine z_aaldN C hK 2 (b := a 29) 35 (WB_35 a c u) rfl (by decide) (by omega) (rfl) dX10_keep_16 ?_
      refine z_aload_n C 0 dX10_keep_17 rfl ?_
      refine z_get C hK (v := .ref (a 17)) inX10_keep_X10 0 (WB_0 a c u) rfl 4 (by decide) (List.mem_of_getElem? (i := 2) rfl) rfl dX10_keep_18 ?_
      refine z_callVN C hK hDD (c_X2_copyFrom_29_17 (zl x) (zG x) a c u  ) ggX10_keep_X2_copyFrom (List.mem_of_getElem? (i := 26) rfl) (List.mem_of_getElem? (i := 9) rfl) (List.mem_of_getElem? (i := 8) rfl) (List.mem_of_getElem? (i := 10) rfl) rfl zy_X2_copyFrom 29 (WB_29 a c u) rfl ⟨by omega, by decide⟩ rfl (Nat.le_of_ble_eq_true rfl) (st := []) (stk2 := fun _ => []) rfl (fun _ => rfl) dX10_keep_21 (fun z9 u10 h11 => ?_)
      rw [h11]
      change Z x 0 0 (WB a c (cpy 29 17 u)) _ _ _
      refine z_aload_n C 0 dX10_keep_24 rfl ?_
      refine z_get C hK (v := .ref (a 36)) inX10_keep_X10 0 (WB_0 a c ((cpy 29 17 u))) rfl 6 (by decide) (List.mem_of_getElem? (i := 3) rfl) rfl dX10_keep_25 ?_
      refine z_iload_n C 1 dX10_keep_28 rfl ?_
      refine z_iconst C dX10_keep_29 ?_
      refine z_zast C hK (hDD _) 1 (g := (cpy 29 17 u) 36) 36 (WB_36 a c ((cpy 29 17 u))) rfl (by decide) (by omega) (by omega) (WB_36_set a c ((cpy 29 17 u)) 1 1) dX10_keep_30 ?_
      refine z_aload_n C 0 dX10_keep_31 rfl ?_
      refine z_get C hK (v := .ref (a 17)) inX10_keep_X10 0 (WB_0 a c ((up (cpy 29 17 u) 36 (1) (1)))) rfl 4 (by decide) (List.mem_of_getElem? (i := 2) rfl) rfl dX10_keep_32 ?_
      refine z_getN C hK (v := .int (zI (u 17 5))) inX10_keep_X2 17 (WB_17 a c ((up (cpy 29 17 u) 36 (1) (1)))) rfl 5 (by decide) (List.mem_of_getElem? (i := 6) rfl) rfl dX10_keep_35 ?_
      exact kret (u 17 5) ((up (cpy 29 17 u) 36 (1) (1))) _ _ (by first | exact Or.inr (Or.inl ⟨rfl, rfl, rfl⟩) | exact Or.inr (Or.inr ⟨rfl, rfl, rfl⟩)) dX10_keep_38
  · skip
    refine z_iconst C dX10_keep_9 ?_
    exact kret (-1) u _ _ (Or.inl ⟨by omega, rfl, rfl⟩) dX10_keep_10
-- NoteBells.back
theorem inX10_back_X10 : ∀ w ∈ wsX100, w ∈ wsX10_back := fun w h => List.mem_cons_of_mem _ (List.mem_append_left _ (List.mem_append_right _ (h)))
theorem inX10_back_X2 : ∀ w ∈ wsX20, w ∈ wsX10_back := fun w h => List.mem_cons_of_mem _ (List.mem_append_right _ (h))
set_option maxHeartbeats 8000000 in
set_option maxRecDepth 100000 in
theorem c_X10_back (l : Launch) (D : va_G) (a : Nat → Nat) (c : Nat → ClassId) (u : zU) (k : Int) (hI : IB u) (b_k : -2147483648 ≤ k ∧ k < 2147483648) : ZM l D (zTy c) (WB a c) yX10_back wsX10_back 4 [.ref (a 0), .int (zI k)] u rI (fun z u' => (¬ (0 ≤ k ∧ k ≤ 1) ∧ z = -1 ∧ u' = u) ∨ (k = 0 ∧ u 36 0 = 0 ∧ z = -2 ∧ u' = u) ∨ (k = 1 ∧ u 36 1 = 0 ∧ z = -2 ∧ u' = u) ∨ (k = 0 ∧ u 36 0 = 1 ∧ z = u 23 5 ∧ u' = cpy 17 23 u) ∨ (k = 1 ∧ u 36 1 = 1 ∧ z = u 29 5 ∧ u' = cpy 17 29 u)) := by
  refine ZM.ofI (cc := cX10_back) (maxL := 2) [(0, .ref (a 0)), (1, .int (zI k))] rfl (by decide +kernel) rfl (Nat.le_of_ble_eq_true rfl) (WB_addr a c) ?_
  intro x C hK _ _ hDD kret
  have h36 := hI.has
  refine z_iload_n C 1 dX10_back_0 rfl ?_
  refine z_iconst C dX10_back_1 ?_
  refine z_iconst C dX10_back_2 ?_
  refine z_callS C hK hDD (c_X10_isWithin (zl x) (zG x) ((WB a c)) (WB_addr a c) u k 0 1 (by omega) (by omega) (by omega)) gX10_back_X10_isWithin rfl rfl zy_X10_isWithin ⟨by omega, by decide⟩ rfl (Nat.le_of_ble_eq_true rfl) (st := []) (stk2 := fun z1 => [.int (zI z1)]) rfl (fun _ => rfl) dX10_back_3 (fun z1 u2 h3 => ?_)
  rw [h3.1]; replace h3 := h3.2
  refine z_if_ne C 11 dX10_back_6 (by decide) (by omega) (fun h4 => ?_) (fun h4 => ?_)
  · skip
    rcases (by omega : k = 0 ∨ k = 1) with hs5 | hs5
    · subst hs5
      refine z_aload_n C 0 dX10_back_11 rfl ?_
      refine z_get C hK (v := .ref (a 36)) inX10_back_X10 0 (WB_0 a c u) rfl 6 (by decide) (List.mem_of_getElem? (i := 1) rfl) rfl dX10_back_12 ?_
      refine z_iload_n C 1 dX10_back_15 rfl ?_
      refine z_zald C hK 1 (g := (u 36)) (i := 0) 36 (WB_36 a c u) rfl (by decide) (by omega) dX10_back_16 ?_
      refine z_as (b := u 36 0) rfl ?_
      refine z_if_ne C 23 dX10_back_17 (by decide) (by omega) (fun h6 => ?_) (fun h6 => ?_)
      · skip
        refine z_aload_n C 0 dX10_back_23 rfl ?_
        refine z_get C hK (v := .ref (a 17)) inX10_back_X10 0 (WB_0 a c u) rfl 4 (by decide) (List.mem_of_getElem? (i := 2) rfl) rfl dX10_back_24 ?_
        refine z_aload_n C 0 dX10_back_27 rfl ?_
        refine z_get C hK (v := .ref (a 35)) inX10_back_X10 0 (WB_0 a c u) rfl 5 (by decide) (List.mem_of_getElem? (i := 3) rfl) rfl dX10_back_28 ?_
        refine z_iload_n C 1 dX10_back_31 rfl ?_
        refine z_aaldN C hK 2 (b := a 23) 35 (WB_35 a c u) rfl (by decide) (by omega) (rfl) dX10_back_32 ?_
        refine z_callVN C hK hDD (c_X2_copyFrom_17_23 (zl x) (zG x) a c u  ) ggX10_back_X2_copyFrom (List.mem_of_getElem? (i := 26) rfl) (List.mem_of_getElem? (i := 9) rfl) (List.mem_of_getElem? (i := 8) rfl) (List.mem_of_getElem? (i := 10) rfl) rfl zy_X2_copyFrom 17 (WB_17 a c u) rfl ⟨by omega, by decide⟩ rfl (Nat.le_of_ble_eq_true rfl) (st := []) (stk2 := fun _ => []) rfl (fun _ => rfl) dX10_back_33 (fun z7 u8 h9 => ?_)
        rw [h9]
        change Z x 0 0 (WB a c (cpy 17 23 u)) _ _ _
        refine z_aload_n C 0 dX10_back_36 rfl ?_
        refine z_get C hK (v := .ref (a 17)) inX10_back_X10 0 (WB_0 a c ((cpy 17 23 u))) rfl 4 (by decide) (List.mem_of_getElem? (i := 2) rfl) rfl dX10_back_37 ?_
        refine z_getN C hK (v := .int (zI ((cpy 17 23 u) 17 5))) inX10_back_X2 17 (WB_17 a c ((cpy 17 23 u))) rfl 5 (by decide) (List.mem_of_getElem? (i := 6) rfl) rfl dX10_back_40 ?_
        exact kret ((cpy 17 23 u) 17 5) ((cpy 17 23 u)) _ _ (by first | exact Or.inr (Or.inr (Or.inr (Or.inl ⟨rfl, by omega, rfl, rfl⟩))) | exact Or.inr (Or.inr (Or.inr (Or.inr ⟨rfl, by omega, rfl, rfl⟩)))) dX10_back_43
      · skip
        refine z_bipush C dX10_back_20 (by decide) ?_
        exact kret (-2) u _ _ (by first | exact Or.inr (Or.inl ⟨rfl, by omega, rfl, rfl⟩) | exact Or.inr (Or.inr (Or.inl ⟨rfl, by omega, rfl, rfl⟩))) dX10_back_22
    · subst hs5
      refine z_aload_n C 0 dX10_back_11 rfl ?_
      refine z_get C hK (v := .ref (a 36)) inX10_back_X10 0 (WB_0 a c u) rfl 6 (by decide) (List.mem_of_getElem? (i := 1) rfl) rfl dX10_back_12 ?_
      refine z_iload_n C 1 dX10_back_15 rfl ?_
      refine z_zald C hK 1 (g := (u 36)) (i := 1) 36 (WB_36 a c u) rfl (by decide) (by omega) dX10_back_16 ?_
      refine z_as (b := u 36 1) rfl ?_
      refine z_if_ne C 23 dX10_back_17 (by decide) (by omega) (fun h10 => ?_) (fun h10 => ?_)
      · skip
        refine z_aload_n C 0 dX10_back_23 rfl ?_
        refine z_get C hK (v := .ref (a 17)) inX10_back_X10 0 (WB_0 a c u) rfl 4 (by decide) (List.mem_of_getElem? (i := 2) rfl) rfl dX10_back_24 ?_
        refine z_aload_n C 0 dX10_back_27 rfl ?_
        refine z_get C hK (v := .ref (a 35)) inX10_back_X10 0 (WB_0 a c u) rfl 5 (by decide) (List.mem_of_getElem? (i := 3) rfl) rfl dX10_back_28 ?_
        refine z_iload_n C 1 dX10_back_31 rfl ?_
        refine z_aaldN C hK 2 (b := a 29) 35 (WB_35 a c u) rfl (by decide) (by omega) (rfl) dX10_back_32 ?_
        refine z_callVN C hK hDD (c_X2_copyFrom_17_29 (zl x) (zG x) a c u  ) ggX10_back_X2_copyFrom (List.mem_of_getElem? (i := 26) rfl) (List.mem_of_getElem? (i := 9) rfl) (List.mem_of_getElem? (i := 8) rfl) (List.mem_of_getElem? (i := 10) rfl) rfl zy_X2_copyFrom 17 (WB_17 a c u) rfl ⟨by omega, by decide⟩ rfl (Nat.le_of_ble_eq_true rfl) (st := []) (stk2 := fun _ => []) rfl (fun _ => rfl) dX10_back_33 (fun z11 u12 h13 => ?_)
        rw [h13]
        change Z x 0 0 (WB a c (cpy 17 29 u)) _ _ _
        refine z_aload_n C 0 dX10_back_36 rfl ?_
        refine z_get C hK (v := .ref (a 17)) inX10_back_X10 0 (WB_0 a c ((cpy 17 29 u))) rfl 4 (by decide) (List.mem_of_getElem? (i := 2) rfl) rfl dX10_back_37 ?_
        refine z_getN C hK (v := .int (zI ((cpy 17 29 u) 17 5))) inX10_back_X2 17 (WB_17 a c ((cpy 17 29 u))) rfl 5 (by decide) (List.mem_of_getElem? (i := 6) rfl) rfl dX10_back_40 ?_
        exact kret ((cpy 17 29 u) 17 5) ((cpy 17 29 u)) _ _ (by first | exact Or.inr (Or.inr (Or.inr (Or.inl ⟨rfl, by omega, rfl, rfl⟩))) | exact Or.inr (Or.inr (Or.inr (Or.inr ⟨rfl, by omega, rfl, rfl⟩)))) dX10_back_43
      · skip
        refine z_bipush C dX10_back_20 (by decide) ?_
        exact kret (-2) u _ _ (by first | exact Or.inr (Or.inl ⟨rfl, by omega, rfl, rfl⟩) | exact Or.inr (Or.inr (Or.inl ⟨rfl, by omega, rfl, rfl⟩))) dX10_back_22
  · skip
    refine z_iconst C dX10_back_9 ?_
    exact kret (-1) u _ _ (Or.inl ⟨by omega, rfl, rfl⟩) dX10_back_10
-- NoteBells$Text.append
theorem inX7_append_X7 : ∀ w ∈ wsX70, w ∈ wsX7_append := fun w h => List.mem_cons_of_mem _ (List.mem_append_right _ (h))
set_option maxHeartbeats 8000000 in
set_option maxRecDepth 100000 in
theorem c_X7_append (l : Launch) (D : va_G) (a : Nat → Nat) (c : Nat → ClassId) (u : zU) (V n : Int) (hI : IB u) (b_V : -9223372036854775808 ≤ V ∧ V < 9223372036854775808) (b_n : -2147483648 ≤ n ∧ n < 2147483648) : ZM l D (zTy c) (WB a c) yX7_append wsX7_append 2 [.ref (a 1), .long (zL V), .int (zI n)] u rI (fun z u' => (¬ (1 ≤ n ∧ n ≤ 8) ∧ z = -1 ∧ u' = u) ∨ (1 ≤ n ∧ n ≤ 8 ∧ 200 < u 1 1 + n ∧ z = -3 ∧ u' = u) ∨ (1 ≤ n ∧ n ≤ 8 ∧ u 1 1 + n ≤ 200 ∧ z = u 1 1 + n ∧ u' = up (us u 2 (tyf (u 2) (u 1 1) V n)) 1 1 (u 1 1 + n))) := by
  refine ZM.ofI (cc := cX7_append) (maxL := 5) [(0, .ref (a 1)), (1, .long (zL V)), (3, .int (zI n))] rfl (by decide +kernel) rfl (Nat.le_of_ble_eq_true rfl) (WB_addr a c) ?_
  intro x C hK _ _ hDD kret
  have htl := hI.tlen
  refine z_iload_n C 2 dX7_append_0 rfl ?_
  refine z_iconst C dX7_append_1 ?_
  refine z_bipush C dX7_append_2 (by decide) ?_
  refine z_callSN C hK hDD (c_X10_isWithin (zl x) (zG x) ((WB a c)) (WB_addr a c) u n 1 8 (by omega) (by omega) (by omega)) ggX7_append_X10_isWithin (List.mem_of_getElem? (i := 36) rfl) (List.mem_of_getElem? (i := 4) rfl) (List.mem_of_getElem? (i := 3) rfl) rfl zy_X10_isWithin ⟨by omega, by decide⟩ rfl (Nat.le_of_ble_eq_true rfl) (st := []) (stk2 := fun z1 => [.int (zI z1)]) rfl (fun _ => rfl) dX7_append_4 (fun z1 u2 h3 => ?_)
  rw [h3.1]; replace h3 := h3.2
  refine z_if_ne C 12 dX7_append_7 (by decide) (by omega) (fun h4 => ?_) (fun h4 => ?_)
  · skip
    refine z_aload_n C 0 dX7_append_12 rfl ?_
    refine z_get C hK (v := .int (zI (u 1 1))) inX7_append_X7 1 (WB_1 a c u) rfl 1 (by decide) (List.mem_of_getElem? (i := 1) rfl) rfl dX7_append_13 ?_
    refine z_iload_n C 2 dX7_append_16 rfl ?_
    refine z_iadd C dX7_append_17 ?_
    refine z_sipush C dX7_append_18 (by decide) ?_
    refine z_icmp_le C 27 dX7_append_21 (by decide) (by omega) (fun h5 => ?_) (fun h5 => ?_)
    · skip
      refine z_iload_n C 2 dX7_append_27 rfl ?_
      refine z_iconst C dX7_append_28 ?_
      refine z_isub C dX7_append_29 ?_
      refine z_istore C [(4, .int (zI (n - 1))), (0, .ref (a 1)), (1, .long (zL V)), (3, .int (zI n))] dX7_append_30 (by decide) rfl ?_
      have L32_6 : ∀ (fu : Nat) (i : Int) (w : Int → Int) (t : Int), (-1 ≤ i ∧ i < n) → (t = u 1 1 + (n - 1 - i)) → (∀ j : Int, w j = if u 1 1 ≤ j ∧ j < t then byt V (n - 1 - (j - u 1 1)) else u 2 j) → i + 1 < (fu : Int) → Z x 0 0 (WB a c (up (us u 2 (w)) 1 (1) (t))) [(0, .ref (a 1)), (1, .long (zL V)), (3, .int (zI n)), (4, .int (zI i))] 32 [] := by
        intro fu
        induction fu with
        | zero => intro i w t hi ht hw hm; exfalso; omega
        | succ fu ih32 =>
          intro i w t hi ht hw hm
          refine z_iload C 3 dX7_append_32 rfl ?_
          refine z_if_lt C 74 dX7_append_34 (by decide) (by omega) (fun h7 => ?_) (fun h7 => ?_)
          · skip
            refine z_aload_n C 0 dX7_append_74 rfl ?_
            refine z_get C hK (v := .int (zI t)) inX7_append_X7 1 (WB_1 a c ((up (us u 2 (w)) 1 (1) (t)))) rfl 1 (by decide) (List.mem_of_getElem? (i := 1) rfl) rfl dX7_append_75 ?_
            exact kret t (up (us u 2 w) 1 1 t) _ _ (Or.inr (Or.inr ⟨by omega, by omega, by omega, by omega, by rw [type_end (i := i) (by omega) (by omega) hw, show t = u 1 1 + n by omega]⟩)) dX7_append_78
          · skip
            refine z_aload_n C 0 dX7_append_37 rfl ?_
            refine z_get C hK (v := .ref (a 2)) inX7_append_X7 1 (WB_1 a c ((up (us u 2 (w)) 1 (1) (t)))) rfl 0 (by decide) (List.mem_of_getElem? (i := 2) rfl) rfl dX7_append_38 ?_
            refine z_aload_n C 0 dX7_append_41 rfl ?_
            refine z_get C hK (v := .int (zI t)) inX7_append_X7 1 (WB_1 a c ((up (us u 2 (w)) 1 (1) (t)))) rfl 1 (by decide) (List.mem_of_getElem? (i := 1) rfl) rfl dX7_append_42 ?_
            refine z_lload_n C 1 dX7_append_45 rfl ?_
            refine z_bipush C dX7_append_46 (by decide) ?_
            refine z_iload C 3 dX7_append_48 rfl ?_
            refine z_imul C dX7_append_50 ?_
            refine z_lushr C ((((zL V).toUInt64 >>> ((zI (8 * i)).toInt64.toUInt64 &&& Int64.toUInt64 63)).toInt64)) dX7_append_51 (rfl) ?_
            refine z_l2i C (((((zL V).toUInt64 >>> ((zI (8 * i)).toInt64.toUInt64 &&& Int64.toUInt64 63)).toInt64).toInt32).toInt) dX7_append_52 (zI_of _) ?_
            refine z_sipush C dX7_append_53 (by decide) ?_
            refine z_iand C (byt V i) dX7_append_56 (byt_u (by omega)) ?_
            refine z_iast C hK (hDD _) 0 (g := (up (us u 2 (w)) 1 (1) (t)) 2) 2 (WB_2 a c ((up (us u 2 (w)) 1 (1) (t)))) rfl (by decide) (by omega) (WB_2_set a c ((up (us u 2 (w)) 1 (1) (t))) t (byt V i)) dX7_append_57 ?_
            refine z_aload_n C 0 dX7_append_58 rfl ?_
            refine z_dup C dX7_append_59 rfl ?_
            refine z_get C hK (v := .int (zI t)) inX7_append_X7 1 (WB_1 a c ((up (up (us u 2 (w)) 1 (1) (t)) 2 (t) (byt V i)))) rfl 1 (by decide) (List.mem_of_getElem? (i := 1) rfl) rfl dX7_append_60 ?_
            refine z_iconst C dX7_append_63 ?_
            refine z_iadd C dX7_append_64 ?_
            refine z_put C hK (hDD _) inX7_append_X7 tyX7 tyX7_ok nmX7 1 (WB_1 a c ((up (up (us u 2 (w)) 1 (1) (t)) 2 (t) (byt V i)))) rfl 1 (by decide) (List.mem_of_getElem? (i := 1) rfl) rfl rfl rfl (Nat.le_of_ble_eq_true rfl) (WB_1_p1 a c ((up (up (us u 2 (w)) 1 (1) (t)) 2 (t) (byt V i))) (t + 1)) dX7_append_65 ?_
            refine z_iinc C 3 [(4, .int (zI (i + (-1)))), (0, .ref (a 1)), (1, .long (zL V)), (3, .int (zI n))] dX7_append_68 rfl (by decide) rfl ?_
            refine z_goto C 32 dX7_append_71 (by decide) ?_
            refine z_lv [(0, .ref (a 1)), (1, .long (zL V)), (3, .int (zI n)), (4, .int (zI (i + (-1))))] [1, 2, 3, 0] rfl ?_
            exact ih32 (i + (-1)) (fun j => if j = t then byt V i else w j) (t + 1) (by omega) (by omega) (type_step hi ht hw) (by omega)
      refine z_lv [(0, .ref (a 1)), (1, .long (zL V)), (3, .int (zI n)), (4, .int (zI (n - 1)))] [1, 2, 3, 0] rfl ?_
      exact L32_6 ((((n - 1) + 1 : Int)).toNat + 1) (n - 1) (u 2) (u 1 1) (by omega) (by omega) (fun j => by rw [if_neg (by omega)]) (by omega)
    · skip
      refine z_bipush C dX7_append_24 (by decide) ?_
      exact kret (-3) u _ _ (Or.inr (Or.inl ⟨by omega, by omega, by omega, rfl, rfl⟩)) dX7_append_26
  · skip
    refine z_iconst C dX7_append_10 ?_
    exact kret (-1) u _ _ (Or.inl ⟨by omega, rfl, rfl⟩) dX7_append_11
-- NoteBells.type
theorem inX10_type_X10 : ∀ w ∈ wsX100, w ∈ wsX10_type := fun w h => List.mem_cons_of_mem _ (List.mem_append_left _ (List.mem_append_right _ (h)))
set_option maxHeartbeats 8000000 in
set_option maxRecDepth 100000 in
theorem c_X10_type (l : Launch) (D : va_G) (a : Nat → Nat) (c : Nat → ClassId) (u : zU) (V n : Int) (hI : IB u) (b_V : -9223372036854775808 ≤ V ∧ V < 9223372036854775808) (b_n : -2147483648 ≤ n ∧ n < 2147483648) : ZM l D (zTy c) (WB a c) yX10_type wsX10_type 3 [.ref (a 0), .long (zL V), .int (zI n)] u rI (fun z u' => (¬ (1 ≤ n ∧ n ≤ 8) ∧ z = -1 ∧ u' = u) ∨ (1 ≤ n ∧ n ≤ 8 ∧ 200 < u 1 1 + n ∧ z = -3 ∧ u' = u) ∨ (1 ≤ n ∧ n ≤ 8 ∧ u 1 1 + n ≤ 200 ∧ z = u 1 1 + n ∧ u' = up (us u 2 (tyf (u 2) (u 1 1) V n)) 1 1 (u 1 1 + n))) := by
  refine ZM.ofI (cc := cX10_type) (maxL := 4) [(0, .ref (a 0)), (1, .long (zL V)), (3, .int (zI n))] rfl (by decide +kernel) rfl (Nat.le_of_ble_eq_true rfl) (WB_addr a c) ?_
  intro x C hK _ _ hDD kret
  refine z_aload_n C 0 dX10_type_0 rfl ?_
  refine z_get C hK (v := .ref (a 1)) inX10_type_X10 0 (WB_0 a c u) rfl 0 (by decide) (List.mem_of_getElem? (i := 1) rfl) rfl dX10_type_1 ?_
  refine z_lload_n C 1 dX10_type_4 rfl ?_
  refine z_iload_n C 2 dX10_type_5 rfl ?_
  refine z_callVN C hK hDD (c_X7_append (zl x) (zG x) a c u V n (hI) (by omega) (by omega)) ggX10_type_X7_append (List.mem_of_getElem? (i := 10) rfl) (List.mem_of_getElem? (i := 3) rfl) (List.mem_of_getElem? (i := 2) rfl) (List.mem_of_getElem? (i := 4) rfl) rfl zy_X7_append 1 (WB_1 a c u) rfl ⟨by omega, by decide⟩ rfl (Nat.le_of_ble_eq_true rfl) (st := []) (stk2 := fun z1 => [.int (zI z1)]) rfl (fun _ => rfl) dX10_type_6 (fun z1 u2 h3 => ?_)
  have HMK := h3
  exact kret z1 u2 _ _ (HMK) dX10_type_9
