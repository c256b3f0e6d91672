/-! ===== contracts: one man, tuning ===== -/
theorem bc_of {bx : Nat} (hx : bx < 256) : (zI (((zI (((zI (((bx : Nat) : Int) - (zI ((((zI (((bx : Nat) : Int))).toUInt32 >>> ((zI 1).toUInt32 &&& Int32.toUInt32 31)).toInt32).toInt) &&& zI 1431655765).toInt) &&& zI 858993459).toInt + (zI ((((zI ((((bx : Nat) : Int) - (zI ((((zI (((bx : Nat) : Int))).toUInt32 >>> ((zI 1).toUInt32 &&& Int32.toUInt32 31)).toInt32).toInt) &&& zI 1431655765).toInt))).toUInt32 >>> ((zI 2).toUInt32 &&& Int32.toUInt32 31)).toInt32).toInt) &&& zI 858993459).toInt) + (((zI (((zI (((bx : Nat) : Int) - (zI ((((zI (((bx : Nat) : Int))).toUInt32 >>> ((zI 1).toUInt32 &&& Int32.toUInt32 31)).toInt32).toInt) &&& zI 1431655765).toInt) &&& zI 858993459).toInt + (zI ((((zI ((((bx : Nat) : Int) - (zI ((((zI (((bx : Nat) : Int))).toUInt32 >>> ((zI 1).toUInt32 &&& Int32.toUInt32 31)).toInt32).toInt) &&& zI 1431655765).toInt))).toUInt32 >>> ((zI 2).toUInt32 &&& Int32.toUInt32 31)).toInt32).toInt) &&& zI 858993459).toInt))).toUInt32 >>> ((zI 4).toUInt32 &&& Int32.toUInt32 31)).toInt32).toInt) &&& zI 252645135).toInt + (((zI ((zI (((zI (((bx : Nat) : Int) - (zI ((((zI (((bx : Nat) : Int))).toUInt32 >>> ((zI 1).toUInt32 &&& Int32.toUInt32 31)).toInt32).toInt) &&& zI 1431655765).toInt) &&& zI 858993459).toInt + (zI ((((zI ((((bx : Nat) : Int) - (zI ((((zI (((bx : Nat) : Int))).toUInt32 >>> ((zI 1).toUInt32 &&& Int32.toUInt32 31)).toInt32).toInt) &&& zI 1431655765).toInt))).toUInt32 >>> ((zI 2).toUInt32 &&& Int32.toUInt32 31)).toInt32).toInt) &&& zI 858993459).toInt) + (((zI (((zI (((bx : Nat) : Int) - (zI ((((zI (((bx : Nat) : Int))).toUInt32 >>> ((zI 1).toUInt32 &&& Int32.toUInt32 31)).toInt32).toInt) &&& zI 1431655765).toInt) &&& zI 858993459).toInt + (zI ((((zI ((((bx : Nat) : Int) - (zI ((((zI (((bx : Nat) : Int))).toUInt32 >>> ((zI 1).toUInt32 &&& Int32.toUInt32 31)).toInt32).toInt) &&& zI 1431655765).toInt))).toUInt32 >>> ((zI 2).toUInt32 &&& Int32.toUInt32 31)).toInt32).toInt) &&& zI 858993459).toInt))).toUInt32 >>> ((zI 4).toUInt32 &&& Int32.toUInt32 31)).toInt32).toInt) &&& zI 252645135).toInt)).toUInt32 >>> ((zI 8).toUInt32 &&& Int32.toUInt32 31)).toInt32).toInt) + (((zI (((zI (((zI (((bx : Nat) : Int) - (zI ((((zI (((bx : Nat) : Int))).toUInt32 >>> ((zI 1).toUInt32 &&& Int32.toUInt32 31)).toInt32).toInt) &&& zI 1431655765).toInt) &&& zI 858993459).toInt + (zI ((((zI ((((bx : Nat) : Int) - (zI ((((zI (((bx : Nat) : Int))).toUInt32 >>> ((zI 1).toUInt32 &&& Int32.toUInt32 31)).toInt32).toInt) &&& zI 1431655765).toInt))).toUInt32 >>> ((zI 2).toUInt32 &&& Int32.toUInt32 31)).toInt32).toInt) &&& zI 858993459).toInt) + (((zI (((zI (((bx : Nat) : Int) - (zI ((((zI (((bx : Nat) : Int))).toUInt32 >>> ((zI 1).toUInt32 &&& Int32.toUInt32 31)).toInt32).toInt) &&& zI 1431655765).toInt) &&& zI 858993459).toInt + (zI ((((zI ((((bx : Nat) : Int) - (zI ((((zI (((bx : Nat) : Int))).toUInt32 >>> ((zI 1).toUInt32 &&& Int32.toUInt32 31)).toInt32).toInt) &&& zI 1431655765).toInt))).toUInt32 >>> ((zI 2).toUInt32 &&& Int32.toUInt32 31)).toInt32).toInt) &&& zI 858993459).toInt))).toUInt32 >>> ((zI 4).toUInt32 &&& Int32.toUInt32 31)).toInt32).toInt) &&& zI 252645135).toInt + (((zI ((zI (((zI (((bx : Nat) : Int) - (zI ((((zI (((bx : Nat) : Int))).toUInt32 >>> ((zI 1).toUInt32 &&& Int32.toUInt32 31)).toInt32).toInt) &&& zI 1431655765).toInt) &&& zI 858993459).toInt + (zI ((((zI ((((bx : Nat) : Int) - (zI ((((zI (((bx : Nat) : Int))).toUInt32 >>> ((zI 1).toUInt32 &&& Int32.toUInt32 31)).toInt32).toInt) &&& zI 1431655765).toInt))).toUInt32 >>> ((zI 2).toUInt32 &&& Int32.toUInt32 31)).toInt32).toInt) &&& zI 858993459).toInt) + (((zI (((zI (((bx : Nat) : Int) - (zI ((((zI (((bx : Nat) : Int))).toUInt32 >>> ((zI 1).toUInt32 &&& Int32.toUInt32 31)).toInt32).toInt) &&& zI 1431655765).toInt) &&& zI 858993459).toInt + (zI ((((zI ((((bx : Nat) : Int) - (zI ((((zI (((bx : Nat) : Int))).toUInt32 >>> ((zI 1).toUInt32 &&& Int32.toUInt32 31)).toInt32).toInt) &&& zI 1431655765).toInt))).toUInt32 >>> ((zI 2).toUInt32 &&& Int32.toUInt32 31)).toInt32).toInt) &&& zI 858993459).toInt))).toUInt32 >>> ((zI 4).toUInt32 &&& Int32.toUInt32 31)).toInt32).toInt) &&& zI 252645135).toInt)).toUInt32 >>> ((zI 8).toUInt32 &&& Int32.toUInt32 31)).toInt32).toInt))).toUInt32 >>> ((zI 16).toUInt32 &&& Int32.toUInt32 31)).toInt32).toInt) &&& zI 63).toInt = pcn bx := by
  have h : ∀ x : Fin 256, (fun bx : Nat => (zI (((zI (((zI (((bx : Nat) : Int) - (zI ((((zI (((bx : Nat) : Int))).toUInt32 >>> ((zI 1).toUInt32 &&& Int32.toUInt32 31)).toInt32).toInt) &&& zI 1431655765).toInt) &&& zI 858993459).toInt + (zI ((((zI ((((bx : Nat) : Int) - (zI ((((zI (((bx : Nat) : Int))).toUInt32 >>> ((zI 1).toUInt32 &&& Int32.toUInt32 31)).toInt32).toInt) &&& zI 1431655765).toInt))).toUInt32 >>> ((zI 2).toUInt32 &&& Int32.toUInt32 31)).toInt32).toInt) &&& zI 858993459).toInt) + (((zI (((zI (((bx : Nat) : Int) - (zI ((((zI (((bx : Nat) : Int))).toUInt32 >>> ((zI 1).toUInt32 &&& Int32.toUInt32 31)).toInt32).toInt) &&& zI 1431655765).toInt) &&& zI 858993459).toInt + (zI ((((zI ((((bx : Nat) : Int) - (zI ((((zI (((bx : Nat) : Int))).toUInt32 >>> ((zI 1).toUInt32 &&& Int32.toUInt32 31)).toInt32).toInt) &&& zI 1431655765).toInt))).toUInt32 >>> ((zI 2).toUInt32 &&& Int32.toUInt32 31)).toInt32).toInt) &&& zI 858993459).toInt))).toUInt32 >>> ((zI 4).toUInt32 &&& Int32.toUInt32 31)).toInt32).toInt) &&& zI 252645135).toInt + (((zI ((zI (((zI (((bx : Nat) : Int) - (zI ((((zI (((bx : Nat) : Int))).toUInt32 >>> ((zI 1).toUInt32 &&& Int32.toUInt32 31)).toInt32).toInt) &&& zI 1431655765).toInt) &&& zI 858993459).toInt + (zI ((((zI ((((bx : Nat) : Int) - (zI ((((zI (((bx : Nat) : Int))).toUInt32 >>> ((zI 1).toUInt32 &&& Int32.toUInt32 31)).toInt32).toInt) &&& zI 1431655765).toInt))).toUInt32 >>> ((zI 2).toUInt32 &&& Int32.toUInt32 31)).toInt32).toInt) &&& zI 858993459).toInt) + (((zI (((zI (((bx : Nat) : Int) - (zI ((((zI (((bx : Nat) : Int))).toUInt32 >>> ((zI 1).toUInt32 &&& Int32.toUInt32 31)).toInt32).toInt) &&& zI 1431655765).toInt) &&& zI 858993459).toInt + (zI ((((zI ((((bx : Nat) : Int) - (zI ((((zI (((bx : Nat) : Int))).toUInt32 >>> ((zI 1).toUInt32 &&& Int32.toUInt32 31)).toInt32).toInt) &&& zI 1431655765).toInt))).toUInt32 >>> ((zI 2).toUInt32 &&& Int32.toUInt32 31)).toInt32).toInt) &&& zI 858993459).toInt))).toUInt32 >>> ((zI 4).toUInt32 &&& Int32.toUInt32 31)).toInt32).toInt) &&& zI 252645135).toInt)).toUInt32 >>> ((zI 8).toUInt32 &&& Int32.toUInt32 31)).toInt32).toInt) + (((zI (((zI (((zI (((bx : Nat) : Int) - (zI ((((zI (((bx : Nat) : Int))).toUInt32 >>> ((zI 1).toUInt32 &&& Int32.toUInt32 31)).toInt32).toInt) &&& zI 1431655765).toInt) &&& zI 858993459).toInt + (zI ((((zI ((((bx : Nat) : Int) - (zI ((((zI (((bx : Nat) : Int))).toUInt32 >>> ((zI 1).toUInt32 &&& Int32.toUInt32 31)).toInt32).toInt) &&& zI 1431655765).toInt))).toUInt32 >>> ((zI 2).toUInt32 &&& Int32.toUInt32 31)).toInt32).toInt) &&& zI 858993459).toInt) + (((zI (((zI (((bx : Nat) : Int) - (zI ((((zI (((bx : Nat) : Int))).toUInt32 >>> ((zI 1).toUInt32 &&& Int32.toUInt32 31)).toInt32).toInt) &&& zI 1431655765).toInt) &&& zI 858993459).toInt + (zI ((((zI ((((bx : Nat) : Int) - (zI ((((zI (((bx : Nat) : Int))).toUInt32 >>> ((zI 1).toUInt32 &&& Int32.toUInt32 31)).toInt32).toInt) &&& zI 1431655765).toInt))).toUInt32 >>> ((zI 2).toUInt32 &&& Int32.toUInt32 31)).toInt32).toInt) &&& zI 858993459).toInt))).toUInt32 >>> ((zI 4).toUInt32 &&& Int32.toUInt32 31)).toInt32).toInt) &&& zI 252645135).toInt + (((zI ((zI (((zI (((bx : Nat) : Int) - (zI ((((zI (((bx : Nat) : Int))).toUInt32 >>> ((zI 1).toUInt32 &&& Int32.toUInt32 31)).toInt32).toInt) &&& zI 1431655765).toInt) &&& zI 858993459).toInt + (zI ((((zI ((((bx : Nat) : Int) - (zI ((((zI (((bx : Nat) : Int))).toUInt32 >>> ((zI 1).toUInt32 &&& Int32.toUInt32 31)).toInt32).toInt) &&& zI 1431655765).toInt))).toUInt32 >>> ((zI 2).toUInt32 &&& Int32.toUInt32 31)).toInt32).toInt) &&& zI 858993459).toInt) + (((zI (((zI (((bx : Nat) : Int) - (zI ((((zI (((bx : Nat) : Int))).toUInt32 >>> ((zI 1).toUInt32 &&& Int32.toUInt32 31)).toInt32).toInt) &&& zI 1431655765).toInt) &&& zI 858993459).toInt + (zI ((((zI ((((bx : Nat) : Int) - (zI ((((zI (((bx : Nat) : Int))).toUInt32 >>> ((zI 1).toUInt32 &&& Int32.toUInt32 31)).toInt32).toInt) &&& zI 1431655765).toInt))).toUInt32 >>> ((zI 2).toUInt32 &&& Int32.toUInt32 31)).toInt32).toInt) &&& zI 858993459).toInt))).toUInt32 >>> ((zI 4).toUInt32 &&& Int32.toUInt32 31)).toInt32).toInt) &&& zI 252645135).toInt)).toUInt32 >>> ((zI 8).toUInt32 &&& Int32.toUInt32 31)).toInt32).toInt))).toUInt32 >>> ((zI 16).toUInt32 &&& Int32.toUInt32 31)).toInt32).toInt) &&& zI 63).toInt = pcn bx) x.val := by decide +kernel
  exact h ⟨bx, hx⟩
theorem zy_X10_spread : zY yX10_spread 2 := ⟨by decide +kernel, by decide +kernel, by decide +kernel⟩
theorem zy_X3_stepsBetween : zY yX3_stepsBetween 2 := ⟨by decide +kernel, by decide +kernel, by decide +kernel⟩
theorem zy_X3_waysWithin : zY yX3_waysWithin 2 := ⟨by decide +kernel, by decide +kernel, by decide +kernel⟩
theorem zy_X3_stepTo : zY yX3_stepTo 1 := ⟨by decide +kernel, by decide +kernel, by decide +kernel⟩
theorem zy_X3_countTracks : zY yX3_countTracks 0 := ⟨by decide +kernel, by decide +kernel, by decide +kernel⟩
theorem zy_X10_tracks : zY yX10_tracks 0 := ⟨by decide +kernel, by decide +kernel, by decide +kernel⟩
theorem zy_X3_levelsBy : zY yX3_levelsBy 1 := ⟨by decide +kernel, by decide +kernel, by decide +kernel⟩
theorem zy_X10_where : zY yX10_where 1 := ⟨by decide +kernel, by decide +kernel, by decide +kernel⟩
theorem zy_X9_soundAlike : zY yX9_soundAlike 5 := ⟨by decide +kernel, by decide +kernel, by decide +kernel⟩
theorem zy_X9_clashAtSomeWet : zY yX9_clashAtSomeWet 2 := ⟨by decide +kernel, by decide +kernel, by decide +kernel⟩
theorem zy_X9_findClashes : zY yX9_findClashes 0 := ⟨by decide +kernel, by decide +kernel, by decide +kernel⟩
theorem zy_X9_isClear : zY yX9_isClear 1 := ⟨by decide +kernel, by decide +kernel, by decide +kernel⟩
theorem zy_J6_bitCount_0f7a4 : zY yJ6_bitCount_0f7a4 1 := ⟨by decide +kernel, by decide +kernel, by decide +kernel⟩
theorem zy_X9_largestSet : zY yX9_largestSet 0 := ⟨by decide +kernel, by decide +kernel, by decide +kernel⟩
theorem zy_X9_yearsToMeet : zY yX9_yearsToMeet 2 := ⟨by decide +kernel, by decide +kernel, by decide +kernel⟩
theorem zy_X9_earliestPair : zY yX9_earliestPair 0 := ⟨by decide +kernel, by decide +kernel, by decide +kernel⟩
theorem zy_X10_meet : zY yX10_meet 2 := ⟨by decide +kernel, by decide +kernel, by decide +kernel⟩
theorem zy_X10_first : zY yX10_first 0 := ⟨by decide +kernel, by decide +kernel, by decide +kernel⟩
theorem zy_X10_keeps : zY yX10_keeps 1 := ⟨by decide +kernel, by decide +kernel, by decide +kernel⟩
-- NoteBells.spread
set_option maxHeartbeats 8000000 in
set_option maxRecDepth 100000 in
theorem c_X10_spread (l : Launch) (D : va_G) {tys : List (ClassId × FieldType)} {S : Type} (WW : S → va_W) (hWW : ∀ u u' : S, (WW u).map (fun q => q.1) = (WW u').map (fun q => q.1)) (u : S) (f : Nat → Bool) (s : Int) (b_s : 0 ≤ s ∧ s ≤ 100000) : ZM l D tys WW yX10_spread wsX10_spread 1 [.int (zI (((bn f 8 : Nat) : Int))), .int (zI s)] u rI (fun z u' => u' = u ∧ z = ((bn (sprd f s) 8 : Nat) : Int)) := by
  refine ZM.ofI (cc := cX10_spread) (maxL := 5) [(0, .int (zI (((bn f 8 : Nat) : Int)))), (1, .int (zI s))] rfl (by decide +kernel) rfl (Nat.le_of_ble_eq_true rfl) hWW ?_
  intro x C hK _ _ hDD kret
  refine z_iload_n C 0 dX10_spread_0 rfl ?_
  refine z_as (b := ((bn (sprd f 0) 8 : Nat) : Int)) (congrArg (fun q : Nat => (q : Int)) (sprd_0 f)) ?_
  refine z_istore_n C [(2, .int (zI (((bn (sprd f 0) 8 : Nat) : Int)))), (0, .int (zI (((bn f 8 : Nat) : Int)))), (1, .int (zI s))] dX10_spread_1 rfl (by decide) rfl ?_
  refine z_iload_n C 2 dX10_spread_2 rfl ?_
  refine z_bipush C dX10_spread_3 (by decide) ?_
  refine z_min C (by omega) (List.mem_of_getElem? (i := 1) rfl) (List.mem_of_getElem? (i := 2) rfl) (List.mem_of_getElem? (i := 3) rfl) (List.mem_of_getElem? (i := 4) rfl) (Nat.le_of_ble_eq_true rfl) (by omega) dX10_spread_5 (fun r1 h2 => ?_)
  refine z_istore_n C [(3, .int (zI r1)), (2, .int (zI (((bn (sprd f 0) 8 : Nat) : Int)))), (0, .int (zI (((bn f 8 : Nat) : Int)))), (1, .int (zI s))] dX10_spread_8 rfl (by decide) rfl ?_
  refine z_iconst C dX10_spread_9 ?_
  refine z_istore C [(4, .int (zI 0)), (3, .int (zI r1)), (2, .int (zI (((bn (sprd f 0) 8 : Nat) : Int)))), (0, .int (zI (((bn f 8 : Nat) : Int)))), (1, .int (zI s))] dX10_spread_10 (by decide) rfl ?_
  have L12_3 : ∀ (fu : Nat) (i : Int) (r : Int), ((7 < s ∧ r = 7) ∨ (s ≤ 7 ∧ r = s)) → (0 ≤ i ∧ i ≤ r) → r - i < (fu : Int) → Z x 0 0 (WW u) [(1, .int (zI s)), (2, .int (zI (((bn (sprd f i) 8 : Nat) : Int)))), (3, .int (zI r)), (4, .int (zI i))] 12 [] := by
    intro fu
    induction fu with
    | zero => intro i r hr hi hm; exfalso; omega
    | succ fu ih12 =>
      intro i r hr hi hm
      refine z_iload C 3 dX10_spread_12 rfl ?_
      refine z_iload_n C 2 dX10_spread_14 rfl ?_
      refine z_icmp_ge C 38 dX10_spread_15 (by decide) (by omega) (fun h4 => ?_) (fun h4 => ?_)
      · skip
        refine z_iload_n C 1 dX10_spread_38 rfl ?_
        exact kret (((bn (sprd f i) 8 : Nat) : Int)) u _ _ (⟨rfl, congrArg (fun q : Nat => (q : Int)) (spr_fin hr hi.2 (by omega))⟩) dX10_spread_39
      · skip
        refine z_iload_n C 1 dX10_spread_18 rfl ?_
        refine z_iload_n C 1 dX10_spread_19 rfl ?_
        refine z_iconst C dX10_spread_20 ?_
        refine z_ishl C (((bn (sprd f i) 8 * 2 : Nat) : Int)) dX10_spread_21 (zI_shl1 _) ?_
        refine z_ior C (((bn (sprd f i) 8 ||| bn (sprd f i) 8 * 2 : Nat) : Int)) dX10_spread_22 (zI_or _ _) ?_
        refine z_iload_n C 1 dX10_spread_23 rfl ?_
        refine z_iconst C dX10_spread_24 ?_
        refine z_ishr C (((bn (sprd f i) 8 / 2 : Nat) : Int)) dX10_spread_25 (zI_shr1 (by have := bn_8 (sprd f i) (n := 8) (by omega); omega)) ?_
        refine z_ior C ((((bn (sprd f i) 8 ||| bn (sprd f i) 8 * 2) ||| bn (sprd f i) 8 / 2 : Nat) : Int)) dX10_spread_26 (zI_or _ _) ?_
        refine z_sipush C dX10_spread_27 (by decide) ?_
        refine z_iand C (((bn (sprd f (i + 1)) 8 : Nat) : Int)) dX10_spread_30 (by rw [← sprd_next f hi.1]; exact zI_and _ 255) ?_
        refine z_istore_n C [(2, .int (zI (((bn (sprd f (i + 1)) 8 : Nat) : Int)))), (1, .int (zI s)), (3, .int (zI r)), (4, .int (zI i))] dX10_spread_31 rfl (by decide) rfl ?_
        refine z_iinc C 3 [(4, .int (zI (i + 1))), (2, .int (zI (((bn (sprd f (i + 1)) 8 : Nat) : Int)))), (1, .int (zI s)), (3, .int (zI r))] dX10_spread_32 rfl (by decide) rfl ?_
        refine z_goto C 12 dX10_spread_35 (by decide) ?_
        refine z_lv [(1, .int (zI s)), (2, .int (zI (((bn (sprd f (i + 1)) 8 : Nat) : Int)))), (3, .int (zI r)), (4, .int (zI (i + 1)))] [2, 1, 3, 0] rfl ?_
        exact ih12 (i + 1) r (by omega) (by omega) (by omega)
  refine z_lv [(1, .int (zI s)), (2, .int (zI (((bn (sprd f 0) 8 : Nat) : Int)))), (3, .int (zI r1)), (4, .int (zI 0))] [4, 2, 1, 0] rfl ?_
  exact L12_3 (((r1 - 0 : Int)).toNat + 1) 0 r1 (by omega) (by omega) (by omega)
-- NoteBells$OneMan.stepsBetween
theorem inX3_stepsBetween_X3 : ∀ w ∈ wsX30, w ∈ wsX3_stepsBetween := fun w h => List.mem_cons_of_mem _ (List.mem_append_left _ (List.mem_append_left _ (List.mem_append_right _ (h))))
theorem inX3_stepsBetween_X8 : ∀ w ∈ wsX80, w ∈ wsX3_stepsBetween := fun w h => List.mem_cons_of_mem _ (List.mem_append_left _ (List.mem_append_right _ (h)))
theorem inX3_stepsBetween_X2 : ∀ w ∈ wsX20, w ∈ wsX3_stepsBetween := fun w h => List.mem_cons_of_mem _ (List.mem_append_right _ (h))
set_option maxHeartbeats 8000000 in
set_option maxRecDepth 100000 in
theorem c_X3_stepsBetween (l : Launch) (D : va_G) (a : Nat → Nat) (c : Nat → ClassId) (u : zU) (m k : Int) (b_m : 0 ≤ m ∧ m < 6) (b_k : 0 ≤ k ∧ k < 6) : ZM l D (zTy c) (WB a c) yX3_stepsBetween wsX3_stepsBetween 1 [.ref (a 38), .int (zI m), .int (zI k)] u rI (fun z u' => u' = u ∧ z = u 3 8 * (u 20 k - u 20 m)) := by
  refine ZM.ofI (cc := cX3_stepsBetween) (maxL := 3) [(0, .ref (a 38)), (1, .int (zI m)), (2, .int (zI k))] rfl (by decide +kernel) rfl (Nat.le_of_ble_eq_true rfl) (WB_addr a c) ?_
  intro x C hK _ _ hDD kret
  refine z_aload_n C 0 dX3_stepsBetween_0 rfl ?_
  refine z_get C hK (v := .ref (a 3)) inX3_stepsBetween_X3 38 (WB_38 a c u) rfl 0 (by decide) (List.mem_of_getElem? (i := 1) rfl) rfl dX3_stepsBetween_1 ?_
  refine z_getN C hK (v := .int (zI (u 3 8))) inX3_stepsBetween_X8 3 (WB_3 a c u) rfl 8 (by decide) (List.mem_of_getElem? (i := 32) rfl) rfl dX3_stepsBetween_4 ?_
  refine z_aload_n C 0 dX3_stepsBetween_7 rfl ?_
  refine z_get C hK (v := .ref (a 17)) inX3_stepsBetween_X3 38 (WB_38 a c u) rfl 1 (by decide) (List.mem_of_getElem? (i := 2) rfl) rfl dX3_stepsBetween_8 ?_
  refine z_getN C hK (v := .ref (a 20)) inX3_stepsBetween_X2 17 (WB_17 a c u) rfl 2 (by decide) (List.mem_of_getElem? (i := 33) rfl) rfl dX3_stepsBetween_11 ?_
  refine z_iload_n C 2 dX3_stepsBetween_14 rfl ?_
  refine z_iald C hK 0 (g := (u 20)) (i := k) 20 (WB_20 a c u) rfl (by decide) (by omega) dX3_stepsBetween_15 ?_
  refine z_as (b := u 20 (k)) rfl ?_
  refine z_aload_n C 0 dX3_stepsBetween_16 rfl ?_
  refine z_get C hK (v := .ref (a 17)) inX3_stepsBetween_X3 38 (WB_38 a c u) rfl 1 (by decide) (List.mem_of_getElem? (i := 2) rfl) rfl dX3_stepsBetween_17 ?_
  refine z_getN C hK (v := .ref (a 20)) inX3_stepsBetween_X2 17 (WB_17 a c u) rfl 2 (by decide) (List.mem_of_getElem? (i := 33) rfl) rfl dX3_stepsBetween_20 ?_
  refine z_iload_n C 1 dX3_stepsBetween_23 rfl ?_
  refine z_iald C hK 0 (g := (u 20)) (i := m) 20 (WB_20 a c u) rfl (by decide) (by omega) dX3_stepsBetween_24 ?_
  refine z_as (b := u 20 (m)) rfl ?_
  refine z_isub C dX3_stepsBetween_25 ?_
  refine z_imul C dX3_stepsBetween_26 ?_
  exact kret ((u 3 8) * ((u 20 (k)) - (u 20 (m)))) u _ _ (⟨rfl, rfl⟩) dX3_stepsBetween_27
-- NoteBells$OneMan.waysWithin
theorem inX3_waysWithin_X3 : ∀ w ∈ wsX30, w ∈ wsX3_waysWithin := fun w h => List.mem_cons_of_mem _ (List.mem_append_right _ (h))
set_option maxHeartbeats 8000000 in
set_option maxRecDepth 100000 in
theorem c_X3_waysWithin (l : Launch) (D : va_G) (a : Nat → Nat) (c : Nat → ClassId) (u : zU) (m s : Int) (b_m : 0 ≤ m ∧ m < 8) (b_s : -1000 ≤ s ∧ s ≤ 1000) : ZM l D (zTy c) (WB a c) yX3_waysWithin wsX3_waysWithin 2 [.ref (a 38), .int (zI m), .int (zI s)] u rI (fun z u' => u' = u ∧ z = sm (fun o => if near s o m = true then u 40 o else 0) 8) := by
  refine ZM.ofI (cc := cX3_waysWithin) (maxL := 5) [(0, .ref (a 38)), (1, .int (zI m)), (2, .int (zI s))] rfl (by decide +kernel) rfl (Nat.le_of_ble_eq_true rfl) (WB_addr a c) ?_
  intro x C hK _ _ hDD kret
  refine z_iconst C dX3_waysWithin_0 ?_
  refine z_istore_n C [(3, .int (zI 0)), (0, .ref (a 38)), (1, .int (zI m)), (2, .int (zI s))] dX3_waysWithin_1 rfl (by decide) rfl ?_
  refine z_iconst C dX3_waysWithin_2 ?_
  refine z_istore C [(4, .int (zI 0)), (3, .int (zI 0)), (0, .ref (a 38)), (1, .int (zI m)), (2, .int (zI s))] dX3_waysWithin_3 (by decide) rfl ?_
  have L5_1 : ∀ (fu : Nat) (i : Int) (b : Int), (0 ≤ i ∧ i ≤ 8) → (b = sm (fun o => if near s o m = true then u 40 o else 0) i.toNat) → 8 - i < (fu : Int) → Z x 0 0 (WB a c u) [(0, .ref (a 38)), (1, .int (zI m)), (2, .int (zI s)), (3, .int (zI b)), (4, .int (zI i))] 5 [] := by
    intro fu
    induction fu with
    | zero => intro i b hi hb hm; exfalso; omega
    | succ fu ih5 =>
      intro i b hi hb hm
      refine z_iload C 4 dX3_waysWithin_5 rfl ?_
      refine z_bipush C dX3_waysWithin_7 (by decide) ?_
      refine z_icmp_ge C 39 dX3_waysWithin_9 (by decide) (by omega) (fun h2 => ?_) (fun h2 => ?_)
      · skip
        refine z_iload_n C 3 dX3_waysWithin_39 rfl ?_
        exact kret b u _ _ (⟨rfl, by rw [hb, show i = 8 by omega]; rfl⟩) dX3_waysWithin_40
      · skip
        refine z_iload C 4 dX3_waysWithin_12 rfl ?_
        refine z_iload_n C 1 dX3_waysWithin_14 rfl ?_
        refine z_isub C dX3_waysWithin_15 ?_
        refine z_abs C (by omega) (List.mem_of_getElem? (i := 1) rfl) (List.mem_of_getElem? (i := 2) rfl) (List.mem_of_getElem? (i := 3) rfl) (List.mem_of_getElem? (i := 4) rfl) (Nat.le_of_ble_eq_true rfl) (by omega) dX3_waysWithin_16 (fun r3 h4 => ?_)
        refine z_iload_n C 2 dX3_waysWithin_19 rfl ?_
        refine z_icmp_gt C 33 dX3_waysWithin_20 (by decide) (by omega) (fun h5 => ?_) (fun h5 => ?_)
        · skip
          refine z_iinc C 4 [(4, .int (zI (i + 1))), (0, .ref (a 38)), (1, .int (zI m)), (2, .int (zI s)), (3, .int (zI b))] dX3_waysWithin_33 rfl (by decide) rfl ?_
          refine z_goto C 5 dX3_waysWithin_36 (by decide) ?_
          refine z_lv [(0, .ref (a 38)), (1, .int (zI m)), (2, .int (zI s)), (3, .int (zI b)), (4, .int (zI (i + 1)))] [1, 2, 3, 4, 0] rfl ?_
          exact ih5 (i + 1) b (by omega) (by rw [sm_stepI hi.1, hb]; first | rw [if_pos (near_t (by omega))] | rw [if_neg (by rw [near_f (by omega)]; decide), Int.add_zero]) (by omega)
        · skip
          refine z_iload_n C 3 dX3_waysWithin_23 rfl ?_
          refine z_aload_n C 0 dX3_waysWithin_24 rfl ?_
          refine z_get C hK (v := .ref (a 40)) inX3_waysWithin_X3 38 (WB_38 a c u) rfl 4 (by decide) (List.mem_of_getElem? (i := 5) rfl) rfl dX3_waysWithin_25 ?_
          refine z_iload C 4 dX3_waysWithin_28 rfl ?_
          refine z_iald C hK 0 (g := (u 40)) (i := i) 40 (WB_40 a c u) rfl (by decide) (by omega) dX3_waysWithin_30 ?_
          refine z_as (b := u 40 (i)) rfl ?_
          refine z_iadd C dX3_waysWithin_31 ?_
          refine z_istore_n C [(3, .int (zI (b + (u 40 (i))))), (0, .ref (a 38)), (1, .int (zI m)), (2, .int (zI s)), (4, .int (zI i))] dX3_waysWithin_32 rfl (by decide) rfl ?_
          refine z_iinc C 4 [(4, .int (zI (i + 1))), (3, .int (zI (b + (u 40 (i))))), (0, .ref (a 38)), (1, .int (zI m)), (2, .int (zI s))] dX3_waysWithin_33 rfl (by decide) rfl ?_
          refine z_goto C 5 dX3_waysWithin_36 (by decide) ?_
          refine z_lv [(0, .ref (a 38)), (1, .int (zI m)), (2, .int (zI s)), (3, .int (zI (b + (u 40 (i))))), (4, .int (zI (i + 1)))] [2, 3, 4, 1, 0] rfl ?_
          exact ih5 (i + 1) (b + (u 40 (i))) (by omega) (by rw [sm_stepI hi.1, hb]; first | rw [if_pos (near_t (by omega))] | rw [if_neg (by rw [near_f (by omega)]; decide), Int.add_zero]) (by omega)
  refine z_lv [(0, .ref (a 38)), (1, .int (zI m)), (2, .int (zI s)), (3, .int (zI 0)), (4, .int (zI 0))] [2, 3, 4, 1, 0] rfl ?_
  exact L5_1 (((8 - 0 : Int)).toNat + 1) 0 0 (by omega) (rfl) (by omega)
-- NoteBells$OneMan.stepTo
theorem inX3_stepTo_X3 : ∀ w ∈ wsX30, w ∈ wsX3_stepTo := fun w h => List.mem_cons_of_mem _ (List.mem_append_left _ (List.mem_append_left _ (List.mem_append_left _ (List.mem_append_right _ (h)))))
theorem inX3_stepTo_X2 : ∀ w ∈ wsX20, w ∈ wsX3_stepTo := fun w h => List.mem_cons_of_mem _ (List.mem_append_left _ (List.mem_append_left _ (List.mem_append_right _ (h))))
set_option maxHeartbeats 8000000 in
set_option maxRecDepth 100000 in
theorem c_X3_stepTo (l : Launch) (D : va_G) (a : Nat → Nat) (c : Nat → ClassId) (u : zU) (k : Int) (hI : IB u) (b_k : 1 ≤ k ∧ k < u 17 8) : ZM l D (zTy c) (WB a c) yX3_stepTo wsX3_stepTo 6 [.ref (a 38), .int (zI k)] u rV (fun z u' => ∃ w v : Int → Int, u' = us (us u 40 v) 39 w ∧ ∀ j : Int, 0 ≤ j → j < 8 → w j = if ulw u k j = true then sm (fun o => if near (udt u k) o j = true then u 39 o else 0) 8 else 0) := by
  refine ZM.ofV (cc := cX3_stepTo) (maxL := 5) [(0, .ref (a 38)), (1, .int (zI k))] rfl (by decide +kernel) rfl (Nat.le_of_ble_eq_true rfl) (WB_addr a c) ?_
  intro x C hK _ _ hDD kret
  have hno := hI.notes
  have hpc := hI.pace
  have hnn := hI.note k (by omega) (by omega)
  have hm1 := hI.minute k (by omega) (by omega)
  have hm2 := hI.minute (k - 1) (by omega) (by omega)
  have hst := pc_bd hpc hm2 hm1
  refine z_aload_n C 0 dX3_stepTo_0 rfl ?_
  refine z_get C hK (v := .ref (a 39)) inX3_stepTo_X3 38 (WB_38 a c u) rfl 3 (by decide) (List.mem_of_getElem? (i := 1) rfl) rfl dX3_stepTo_1 ?_
  refine z_iconst C dX3_stepTo_4 ?_
  refine z_aload_n C 0 dX3_stepTo_5 rfl ?_
  refine z_get C hK (v := .ref (a 40)) inX3_stepTo_X3 38 (WB_38 a c u) rfl 4 (by decide) (List.mem_of_getElem? (i := 2) rfl) rfl dX3_stepTo_6 ?_
  refine z_iconst C dX3_stepTo_9 ?_
  refine z_bipush C dX3_stepTo_10 (by decide) ?_
  refine z_copyi C hK (hDD _) (by omega) (List.mem_of_getElem? (i := 3) rfl) (List.mem_of_getElem? (i := 4) rfl) (List.mem_of_getElem? (i := 5) rfl) (List.mem_of_getElem? (i := 6) rfl) 0 39 40 (g0 := (u 39)) (g1 := (u 40)) (WB_39 a c u) (WB_40 a c u) rfl (by omega) (WB_40_all a c u (fun j => if j < 8 then (u 39) j else (u 40) j)) (Nat.le_of_ble_eq_true rfl) dX3_stepTo_12 ?_
  refine z_aload_n C 0 dX3_stepTo_15 rfl ?_
  refine z_get C hK (v := .ref (a 37)) inX3_stepTo_X3 38 (WB_38 a c ((us u 40 (fun j => if j < 8 then (u 39) j else (u 40) j)))) rfl 2 (by decide) (List.mem_of_getElem? (i := 7) rfl) rfl dX3_stepTo_16 ?_
  refine z_aload_n C 0 dX3_stepTo_19 rfl ?_
  refine z_get C hK (v := .ref (a 17)) inX3_stepTo_X3 38 (WB_38 a c ((us u 40 (fun j => if j < 8 then (u 39) j else (u 40) j)))) rfl 1 (by decide) (List.mem_of_getElem? (i := 8) rfl) rfl dX3_stepTo_20 ?_
  refine z_getN C hK (v := .ref (a 21)) inX3_stepTo_X2 17 (WB_17 a c ((us u 40 (fun j => if j < 8 then (u 39) j else (u 40) j)))) rfl 3 (by decide) (List.mem_of_getElem? (i := 31) rfl) rfl dX3_stepTo_23 ?_
  refine z_iload_n C 1 dX3_stepTo_26 rfl ?_
  refine z_iald C hK 0 (g := (u 21)) (i := k) 21 (WB_21 a c ((us u 40 (fun j => if j < 8 then (u 39) j else (u 40) j)))) rfl (by decide) (by omega) dX3_stepTo_27 ?_
  refine z_as (b := u 21 (k)) rfl ?_
  refine z_callVN C hK hDD (c_X6_likeSound (zl x) (zG x) a c ((us u 40 (fun j => if j < 8 then (u 39) j else (u 40) j))) (u 21 (k)) (hI) (show -200 ≤ (u 21 (k)) ∧ (u 21 (k)) ≤ 200 by omega)) ggX3_stepTo_X6_likeSound (List.mem_of_getElem? (i := 28) rfl) (List.mem_of_getElem? (i := 10) rfl) (List.mem_of_getElem? (i := 9) rfl) (List.mem_of_getElem? (i := 11) rfl) rfl zy_X6_likeSound 37 (WB_37 a c ((us u 40 (fun j => if j < 8 then (u 39) j else (u 40) j)))) rfl ⟨by omega, by decide⟩ rfl (Nat.le_of_ble_eq_true rfl) (st := []) (stk2 := fun z1 => [.int (zI z1)]) rfl (fun _ => rfl) dX3_stepTo_28 (fun z1 u2 h3 => ?_)
  rw [h3.1]; replace h3 := h3.2
  refine z_as (b := ((like ((u 18)) ((u 17 6)) ((u 3 6)) ((u 3 4)) (u 21 (k)) : Nat) : Int)) h3 ?_
  refine z_istore_n C [(2, .int (zI (((like ((u 18)) ((u 17 6)) ((u 3 6)) ((u 3 4)) (u 21 (k)) : Nat) : Int)))), (0, .ref (a 38)), (1, .int (zI k))] dX3_stepTo_31 rfl (by decide) rfl ?_
  refine z_aload_n C 1 dX3_stepTo_32 rfl ?_
  refine z_iload_n C 2 dX3_stepTo_33 rfl ?_
  refine z_iconst C dX3_stepTo_34 ?_
  refine z_isub C dX3_stepTo_35 ?_
  refine z_iload_n C 2 dX3_stepTo_36 rfl ?_
  refine z_callV C hK hDD (c_X3_stepsBetween (zl x) (zG x) a c ((us u 40 (fun j => if j < 8 then (u 39) j else (u 40) j))) (k - 1) k (show 0 ≤ (k - 1) ∧ (k - 1) < 6 by omega) (show 0 ≤ k ∧ k < 6 by omega)) gX3_stepTo_X3_stepsBetween rfl zy_X3_stepsBetween 38 (WB_38 a c ((us u 40 (fun j => if j < 8 then (u 39) j else (u 40) j)))) rfl ⟨by omega, by decide⟩ rfl (Nat.le_of_ble_eq_true rfl) (st := []) (stk2 := fun z4 => [.int (zI z4)]) rfl (fun _ => rfl) dX3_stepTo_37 (fun z4 u5 h6 => ?_)
  rw [h6.1]; replace h6 := h6.2
  refine z_as (b := (u 3 8) * ((u 20) k - (u 20) (k - 1))) h6 ?_
  refine z_istore_n C [(3, .int (zI ((u 3 8) * ((u 20) k - (u 20) (k - 1))))), (2, .int (zI (((like ((u 18)) ((u 17 6)) ((u 3 6)) ((u 3 4)) (u 21 (k)) : Nat) : Int)))), (0, .ref (a 38)), (1, .int (zI k))] dX3_stepTo_40 rfl (by decide) rfl ?_
  refine z_iconst C dX3_stepTo_41 ?_
  refine z_istore C [(4, .int (zI 0)), (3, .int (zI ((u 3 8) * ((u 20) k - (u 20) (k - 1))))), (2, .int (zI (((like ((u 18)) ((u 17 6)) ((u 3 6)) ((u 3 4)) (u 21 (k)) : Nat) : Int)))), (0, .ref (a 38)), (1, .int (zI k))] dX3_stepTo_42 (by decide) rfl ?_
  have L44_7 : ∀ (fu : Nat) (i : Int) (w : Int → Int), (0 ≤ i ∧ i ≤ 8) → (∀ j : Int, 0 ≤ j → j < i → w j = if ulw u k j = true then sm (fun o => if near (udt u k) o j = true then u 39 o else 0) 8 else 0) → 8 - i < (fu : Int) → Z x 0 0 (WB a c (us (us u 40 ((fun j => if j < 8 then u 39 j else u 40 j))) 39 (w))) [(0, .ref (a 38)), (1, .int (zI k)), (2, .int (zI (((like (u 18) (u 17 6) (u 3 6) (u 3 4) (u 21 k) : Nat) : Int)))), (3, .int (zI (u 3 8 * (u 20 k - u 20 (k - 1))))), (4, .int (zI i))] 44 [] := by
    intro fu
    induction fu with
    | zero => intro i w hi hw hm; exfalso; omega
    | succ fu ih44 =>
      intro i w hi hw hm
      refine z_iload C 4 dX3_stepTo_44 rfl ?_
      refine z_bipush C dX3_stepTo_46 (by decide) ?_
      refine z_icmp_ge C 84 dX3_stepTo_48 (by decide) (by omega) (fun h8 => ?_) (fun h8 => ?_)
      · skip
        exact kret 0 (us (us u 40 (fun j => if j < 8 then u 39 j else u 40 j)) 39 w) _ _ (⟨w, _, rfl, fun j h0 h1 => hw j h0 (by omega)⟩) dX3_stepTo_84
      · skip
        refine z_aload_n C 0 dX3_stepTo_51 rfl ?_
        refine z_get C hK (v := .ref (a 39)) inX3_stepTo_X3 38 (WB_38 a c ((us (us u 40 ((fun j => if j < 8 then u 39 j else u 40 j))) 39 (w)))) rfl 3 (by decide) (List.mem_of_getElem? (i := 1) rfl) rfl dX3_stepTo_52 ?_
        refine z_iload C 4 dX3_stepTo_55 rfl ?_
        refine z_iload_n C 2 dX3_stepTo_57 rfl ?_
        refine z_iload C 4 dX3_stepTo_58 rfl ?_
        refine z_ishr C (((like (u 18) (u 17 6) (u 3 6) (u 3 4) (u 21 k) >>> i.toNat : Nat) : Int)) dX3_stepTo_60 (zI_shrN (by have := like_lt (u 18) (u 17 6) (u 3 6) (u 3 4) (u 21 k); omega) (by omega)) ?_
        refine z_iconst C dX3_stepTo_61 ?_
        refine z_iand C ((if ulw u k i = true then 1 else 0)) dX3_stepTo_62 (like_bitZ (by omega)) ?_
        refine z_if_ne C 70 dX3_stepTo_63 (by decide) (by split <;> omega) (fun h9 => ?_) (fun h9 => ?_)
        · have hA := ite01_ne h9
          refine z_aload_n C 0 dX3_stepTo_70 rfl ?_
          refine z_iload C 4 dX3_stepTo_71 rfl ?_
          refine z_iload_n C 3 dX3_stepTo_73 rfl ?_
          refine z_callV C hK hDD (c_X3_waysWithin (zl x) (zG x) a c ((us (us u 40 ((fun j => if j < 8 then u 39 j else u 40 j))) 39 (w))) i (u 3 8 * (u 20 k - u 20 (k - 1))) (show 0 ≤ i ∧ i < 8 by omega) (show -1000 ≤ (u 3 8 * (u 20 k - u 20 (k - 1))) ∧ (u 3 8 * (u 20 k - u 20 (k - 1))) ≤ 1000 by omega)) gX3_stepTo_X3_waysWithin rfl zy_X3_waysWithin 38 (WB_38 a c ((us (us u 40 ((fun j => if j < 8 then u 39 j else u 40 j))) 39 (w)))) rfl ⟨by omega, by decide⟩ rfl (Nat.le_of_ble_eq_true rfl) (st := [.int (zI i), .ref (a 39)]) (stk2 := fun z10 => [.int (zI z10), .int (zI i), .ref (a 39)]) rfl (fun _ => rfl) dX3_stepTo_74 (fun z10 u11 h12 => ?_)
          rw [h12.1]; replace h12 := h12.2
          refine z_as (b := sm (fun o => if near (u 3 8 * (u 20 k - u 20 (k - 1))) o i = true then ((fun j => if j < 8 then u 39 j else u 40 j)) o else 0) 8) h12 ?_
          refine z_iast C hK (hDD _) 0 (g := (us (us u 40 ((fun j => if j < 8 then u 39 j else u 40 j))) 39 (w)) 39) 39 (WB_39 a c ((us (us u 40 ((fun j => if j < 8 then u 39 j else u 40 j))) 39 (w)))) rfl (by decide) (by omega) (WB_39_set a c ((us (us u 40 ((fun j => if j < 8 then u 39 j else u 40 j))) 39 (w))) i (sm (fun o => if near (u 3 8 * (u 20 k - u 20 (k - 1))) o i = true then ((fun j => if j < 8 then u 39 j else u 40 j)) o else 0) 8)) dX3_stepTo_77 ?_
          refine z_iinc C 4 [(4, .int (zI (i + 1))), (0, .ref (a 38)), (1, .int (zI k)), (2, .int (zI (((like (u 18) (u 17 6) (u 3 6) (u 3 4) (u 21 k) : Nat) : Int)))), (3, .int (zI (u 3 8 * (u 20 k - u 20 (k - 1)))))] dX3_stepTo_78 rfl (by decide) rfl ?_
          refine z_goto C 44 dX3_stepTo_81 (by decide) ?_
          refine z_lv [(0, .ref (a 38)), (1, .int (zI k)), (2, .int (zI (((like (u 18) (u 17 6) (u 3 6) (u 3 4) (u 21 k) : Nat) : Int)))), (3, .int (zI (u 3 8 * (u 20 k - u 20 (k - 1))))), (4, .int (zI (i + 1)))] [1, 2, 3, 4, 0] rfl ?_
          exact ih44 (i + 1) (fun j => if j = i then sm (fun o => if near (u 3 8 * (u 20 k - u 20 (k - 1))) o i = true then ((fun j => if j < 8 then u 39 j else u 40 j)) o else 0) 8 else w j) (by omega) (ways_step hw (by first | (rw [if_pos hA]; exact ways_v) | rw [if_neg (by rw [hA]; decide)])) (by omega)
        · have hA := ite01_eq h9
          refine z_iconst C dX3_stepTo_66 ?_
          refine z_goto C 77 dX3_stepTo_67 (by decide) ?_
          refine z_iast C hK (hDD _) 0 (g := (us (us u 40 ((fun j => if j < 8 then u 39 j else u 40 j))) 39 (w)) 39) 39 (WB_39 a c ((us (us u 40 ((fun j => if j < 8 then u 39 j else u 40 j))) 39 (w)))) rfl (by decide) (by omega) (WB_39_set a c ((us (us u 40 ((fun j => if j < 8 then u 39 j else u 40 j))) 39 (w))) i 0) dX3_stepTo_77 ?_
          refine z_iinc C 4 [(4, .int (zI (i + 1))), (0, .ref (a 38)), (1, .int (zI k)), (2, .int (zI (((like (u 18) (u 17 6) (u 3 6) (u 3 4) (u 21 k) : Nat) : Int)))), (3, .int (zI (u 3 8 * (u 20 k - u 20 (k - 1)))))] dX3_stepTo_78 rfl (by decide) rfl ?_
          refine z_goto C 44 dX3_stepTo_81 (by decide) ?_
          refine z_lv [(0, .ref (a 38)), (1, .int (zI k)), (2, .int (zI (((like (u 18) (u 17 6) (u 3 6) (u 3 4) (u 21 k) : Nat) : Int)))), (3, .int (zI (u 3 8 * (u 20 k - u 20 (k - 1))))), (4, .int (zI (i + 1)))] [1, 2, 3, 4, 0] rfl ?_
          exact ih44 (i + 1) (fun j => if j = i then 0 else w j) (by omega) (ways_step hw (by first | (rw [if_pos hA]; exact ways_v) | rw [if_neg (by rw [hA]; decide)])) (by omega)
  refine z_lv [(0, .ref (a 38)), (1, .int (zI k)), (2, .int (zI (((like ((u 18)) ((u 17 6)) ((u 3 6)) ((u 3 4)) (u 21 (k)) : Nat) : Int)))), (3, .int (zI ((u 3 8) * ((u 20) k - (u 20) (k - 1))))), (4, .int (zI 0))] [3, 4, 2, 1, 0] rfl ?_
  exact L44_7 (((8 - 0 : Int)).toNat + 1) 0 (u 39) (by omega) (fun j h0 h1 => absurd h1 (by omega)) (by omega)
-- NoteBells$OneMan.countTracks
theorem inX3_countTracks_X3 : ∀ w ∈ wsX30, w ∈ wsX3_countTracks := fun w h => List.mem_cons_of_mem _ (List.mem_append_left _ (List.mem_append_left _ (List.mem_append_left _ (List.mem_append_right _ (h)))))
theorem inX3_countTracks_X2 : ∀ w ∈ wsX20, w ∈ wsX3_countTracks := fun w h => List.mem_cons_of_mem _ (List.mem_append_left _ (List.mem_append_left _ (List.mem_append_right _ (h))))
set_option maxHeartbeats 8000000 in
set_option maxRecDepth 100000 in
theorem c_X3_countTracks (l : Launch) (D : va_G) (a : Nat → Nat) (c : Nat → ClassId) (u : zU)  (hI : IB u) : ZM l D (zTy c) (WB a c) yX3_countTracks wsX3_countTracks 7 [.ref (a 38)] u rI (fun z u' => (∃ w v : Int → Int, u' = us (us u 40 v) 39 w) ∧ z = trk (ulw u) (udt u) (u 17 8)) := by
  refine ZM.ofI (cc := cX3_countTracks) (maxL := 4) [(0, .ref (a 38))] rfl (by decide +kernel) rfl (Nat.le_of_ble_eq_true rfl) (WB_addr a c) ?_
  intro x C hK _ _ hDD kret
  have hno := hI.notes
  refine z_aload_n C 0 dX3_countTracks_0 rfl ?_
  refine z_get C hK (v := .ref (a 17)) inX3_countTracks_X3 38 (WB_38 a c u) rfl 1 (by decide) (List.mem_of_getElem? (i := 1) rfl) rfl dX3_countTracks_1 ?_
  refine z_getN C hK (v := .int (zI (u 17 8))) inX3_countTracks_X2 17 (WB_17 a c u) rfl 8 (by decide) (List.mem_of_getElem? (i := 30) rfl) rfl dX3_countTracks_4 ?_
  refine z_if_ne C 12 dX3_countTracks_7 (by decide) (by omega) (fun h1 => ?_) (fun h1 => ?_)
  · skip
    have hn0 := hI.note 0 (by omega) (by omega)
    refine z_aload_n C 0 dX3_countTracks_12 rfl ?_
    refine z_get C hK (v := .ref (a 37)) inX3_countTracks_X3 38 (WB_38 a c u) rfl 2 (by decide) (List.mem_of_getElem? (i := 2) rfl) rfl dX3_countTracks_13 ?_
    refine z_aload_n C 0 dX3_countTracks_16 rfl ?_
    refine z_get C hK (v := .ref (a 17)) inX3_countTracks_X3 38 (WB_38 a c u) rfl 1 (by decide) (List.mem_of_getElem? (i := 1) rfl) rfl dX3_countTracks_17 ?_
    refine z_getN C hK (v := .ref (a 21)) inX3_countTracks_X2 17 (WB_17 a c u) rfl 3 (by decide) (List.mem_of_getElem? (i := 31) rfl) rfl dX3_countTracks_20 ?_
    refine z_iconst C dX3_countTracks_23 ?_
    refine z_iald C hK 0 (g := (u 21)) (i := 0) 21 (WB_21 a c u) rfl (by decide) (by omega) dX3_countTracks_24 ?_
    refine z_as (b := u 21 0) rfl ?_
    refine z_callVN C hK hDD (c_X6_likeSound (zl x) (zG x) a c u (u 21 0) (hI) (by omega)) ggX3_countTracks_X6_likeSound (List.mem_of_getElem? (i := 28) rfl) (List.mem_of_getElem? (i := 5) rfl) (List.mem_of_getElem? (i := 4) rfl) (List.mem_of_getElem? (i := 6) rfl) rfl zy_X6_likeSound 37 (WB_37 a c u) rfl ⟨by omega, by decide⟩ rfl (Nat.le_of_ble_eq_true rfl) (st := []) (stk2 := fun z2 => [.int (zI z2)]) rfl (fun _ => rfl) dX3_countTracks_25 (fun z2 u3 h4 => ?_)
    rw [h4.1]; replace h4 := h4.2
    refine z_as (b := ((like (u 18) (u 17 6) (u 3 6) (u 3 4) (u 21 0) : Nat) : Int)) h4 ?_
    refine z_istore_n C [(1, .int (zI (((like (u 18) (u 17 6) (u 3 6) (u 3 4) (u 21 0) : Nat) : Int)))), (0, .ref (a 38))] dX3_countTracks_28 rfl (by decide) rfl ?_
    refine z_iconst C dX3_countTracks_29 ?_
    refine z_istore_n C [(2, .int (zI 0)), (1, .int (zI (((like (u 18) (u 17 6) (u 3 6) (u 3 4) (u 21 0) : Nat) : Int)))), (0, .ref (a 38))] dX3_countTracks_30 rfl (by decide) rfl ?_
    have L31_5 : ∀ (fu : Nat) (i : Int) (w : Int → Int), (0 ≤ i ∧ i ≤ 8) → (∀ j : Int, 0 ≤ j → j < i → w j = fw (ulw u) (udt u) 0 j) → 8 - i < (fu : Int) → Z x 0 0 (WB a c (us u 39 (w))) [(0, .ref (a 38)), (1, .int (zI (((like (u 18) (u 17 6) (u 3 6) (u 3 4) (u 21 0) : Nat) : Int)))), (2, .int (zI i))] 31 [] := by
      intro fu
      induction fu with
      | zero => intro i w hi hw hm; exfalso; omega
      | succ fu ih31 =>
        intro i w hi hw hm
        refine z_iload_n C 2 dX3_countTracks_31 rfl ?_
        refine z_bipush C dX3_countTracks_32 (by decide) ?_
        refine z_icmp_ge C 54 dX3_countTracks_34 (by decide) (by omega) (fun h6 => ?_) (fun h6 => ?_)
        · skip
          refine z_iconst C dX3_countTracks_54 ?_
          refine z_istore_n C [(2, .int (zI 1)), (0, .ref (a 38)), (1, .int (zI (((like (u 18) (u 17 6) (u 3 6) (u 3 4) (u 21 0) : Nat) : Int))))] dX3_countTracks_55 rfl (by decide) rfl ?_
          have L56_7 : ∀ (fu : Nat) (k : Int) (w : Int → Int) (v : Int → Int), (1 ≤ k ∧ k ≤ u 17 8) → (∀ j : Int, 0 ≤ j → j < 8 → w j = fw (ulw u) (udt u) (k - 1).toNat j) → u 17 8 - k < (fu : Int) → Z x 0 0 (WB a c (us (us u 40 (v)) 39 (w))) [(0, .ref (a 38)), (2, .int (zI k))] 56 [] := by
            intro fu
            induction fu with
            | zero => intro k w v hk hw hm; exfalso; omega
            | succ fu ih56 =>
              intro k w v hk hw hm
              refine z_iload_n C 1 dX3_countTracks_56 rfl ?_
              refine z_aload_n C 0 dX3_countTracks_57 rfl ?_
              refine z_get C hK (v := .ref (a 17)) inX3_countTracks_X3 38 (WB_38 a c ((us (us u 40 (v)) 39 (w)))) rfl 1 (by decide) (List.mem_of_getElem? (i := 1) rfl) rfl dX3_countTracks_58 ?_
              refine z_getN C hK (v := .int (zI (u 17 8))) inX3_countTracks_X2 17 (WB_17 a c ((us (us u 40 (v)) 39 (w)))) rfl 8 (by decide) (List.mem_of_getElem? (i := 30) rfl) rfl dX3_countTracks_61 ?_
              refine z_icmp_ge C 78 dX3_countTracks_64 (by decide) (by omega) (fun h8 => ?_) (fun h8 => ?_)
              · skip
                refine z_iconst C dX3_countTracks_78 ?_
                refine z_istore_n C [(2, .int (zI 0)), (0, .ref (a 38))] dX3_countTracks_79 rfl (by decide) rfl ?_
                refine z_iconst C dX3_countTracks_80 ?_
                refine z_istore_n C [(3, .int (zI 0)), (2, .int (zI 0)), (0, .ref (a 38))] dX3_countTracks_81 rfl (by decide) rfl ?_
                have L82_9 : ∀ (fu : Nat) (i : Int) (b : Int), (0 ≤ i ∧ i ≤ 8) → (b = sm w i.toNat) → 8 - i < (fu : Int) → Z x 0 0 (WB a c (us (us u 40 (v)) 39 (w))) [(0, .ref (a 38)), (2, .int (zI b)), (3, .int (zI i))] 82 [] := by
                  intro fu
                  induction fu with
                  | zero => intro i b hi hb hm; exfalso; omega
                  | succ fu ih82 =>
                    intro i b hi hb hm
                    refine z_iload_n C 2 dX3_countTracks_82 rfl ?_
                    refine z_bipush C dX3_countTracks_83 (by decide) ?_
                    refine z_icmp_ge C 103 dX3_countTracks_85 (by decide) (by omega) (fun h10 => ?_) (fun h10 => ?_)
                    · skip
                      refine z_iload_n C 1 dX3_countTracks_103 rfl ?_
                      exact kret b (us (us u 40 v) 39 w) _ _ (⟨⟨_, _, rfl⟩, by unfold trk; rw [if_neg (by omega), hb, show i = 8 by omega]; exact sm_congr 8 (fun j h0 h1 => by rw [hw j h0 h1, show k = u 17 8 by omega])⟩) dX3_countTracks_104
                    · skip
                      refine z_iload_n C 1 dX3_countTracks_88 rfl ?_
                      refine z_aload_n C 0 dX3_countTracks_89 rfl ?_
                      refine z_get C hK (v := .ref (a 39)) inX3_countTracks_X3 38 (WB_38 a c ((us (us u 40 (v)) 39 (w)))) rfl 3 (by decide) (List.mem_of_getElem? (i := 3) rfl) rfl dX3_countTracks_90 ?_
                      refine z_iload_n C 2 dX3_countTracks_93 rfl ?_
                      refine z_iald C hK 0 (g := w) (i := i) 39 (WB_39 a c ((us (us u 40 (v)) 39 (w)))) rfl (by decide) (by omega) dX3_countTracks_94 ?_
                      refine z_as (b := w (i)) rfl ?_
                      refine z_iadd C dX3_countTracks_95 ?_
                      refine z_istore_n C [(2, .int (zI (b + (w (i))))), (0, .ref (a 38)), (3, .int (zI i))] dX3_countTracks_96 rfl (by decide) rfl ?_
                      refine z_iinc C 2 [(3, .int (zI (i + 1))), (2, .int (zI (b + (w (i))))), (0, .ref (a 38))] dX3_countTracks_97 rfl (by decide) rfl ?_
                      refine z_goto C 82 dX3_countTracks_100 (by decide) ?_
                      refine z_lv [(0, .ref (a 38)), (2, .int (zI (b + (w (i))))), (3, .int (zI (i + 1)))] [2, 1, 0] rfl ?_
                      exact ih82 (i + 1) (b + (w (i))) (by omega) (by rw [sm_stepI hi.1, hb]) (by omega)
                refine z_lv [(0, .ref (a 38)), (2, .int (zI 0)), (3, .int (zI 0))] [2, 1, 0] rfl ?_
                exact L82_9 (((8 - 0 : Int)).toNat + 1) 0 0 (by omega) (rfl) (by omega)
              · skip
                refine z_aload_n C 0 dX3_countTracks_67 rfl ?_
                refine z_iload_n C 1 dX3_countTracks_68 rfl ?_
                refine z_callV C hK hDD (c_X3_stepTo (zl x) (zG x) a c ((us (us u 40 (v)) 39 (w))) k (hI) (show 1 ≤ k ∧ k < (u 17 8) by omega)) gX3_countTracks_X3_stepTo rfl zy_X3_stepTo 38 (WB_38 a c ((us (us u 40 (v)) 39 (w)))) rfl ⟨by omega, by decide⟩ rfl (Nat.le_of_ble_eq_true rfl) (st := []) (stk2 := fun _ => []) rfl (fun _ => rfl) dX3_countTracks_69 (fun z11 u12 h13 => ?_)
                obtain ⟨w1, v1, e1, hw1⟩ := h13
                rw [e1]
                replace hw1 : ∀ j : Int, 0 ≤ j → j < 8 → w1 j = if ulw u k j = true then sm (fun o => if near (udt u k) o j = true then w o else 0) 8 else 0 := hw1
                change Z x 0 0 (WB a c (us (us u 40 (v1)) 39 (w1))) _ _ _
                refine z_iinc C 1 [(2, .int (zI (k + 1))), (0, .ref (a 38))] dX3_countTracks_72 rfl (by decide) rfl ?_
                refine z_goto C 56 dX3_countTracks_75 (by decide) ?_
                refine z_lv [(0, .ref (a 38)), (2, .int (zI (k + 1)))] [1, 0] rfl ?_
                exact ih56 (k + 1) w1 v1 (by omega) (fun j h0 h1 => (hw1 j h0 h1).trans (fw_next hk.1 hw j)) (by omega)
          refine z_lv [(0, .ref (a 38)), (2, .int (zI 1))] [1, 0] rfl ?_
          exact L56_7 (((u 17 8 - 1 : Int)).toNat + 1) 1 w (u 40) (by omega) (fun j h0 h1 => hw j h0 (by omega)) (by omega)
        · skip
          refine z_aload_n C 0 dX3_countTracks_37 rfl ?_
          refine z_get C hK (v := .ref (a 39)) inX3_countTracks_X3 38 (WB_38 a c ((us u 39 (w)))) rfl 3 (by decide) (List.mem_of_getElem? (i := 3) rfl) rfl dX3_countTracks_38 ?_
          refine z_iload_n C 2 dX3_countTracks_41 rfl ?_
          refine z_iload_n C 1 dX3_countTracks_42 rfl ?_
          refine z_iload_n C 2 dX3_countTracks_43 rfl ?_
          refine z_ishr C (((like (u 18) (u 17 6) (u 3 6) (u 3 4) (u 21 0) >>> i.toNat : Nat) : Int)) dX3_countTracks_44 (zI_shrN (by have := like_lt (u 18) (u 17 6) (u 3 6) (u 3 4) (u 21 0); omega) (by omega)) ?_
          refine z_iconst C dX3_countTracks_45 ?_
          refine z_iand C ((if ulw u 0 i = true then 1 else 0)) dX3_countTracks_46 (like_bitZ (by omega)) ?_
          refine z_iast C hK (hDD _) 0 (g := (us u 39 (w)) 39) 39 (WB_39 a c ((us u 39 (w)))) rfl (by decide) (by omega) (WB_39_set a c ((us u 39 (w))) i ((if ulw u 0 i = true then 1 else 0))) dX3_countTracks_47 ?_
          refine z_iinc C 2 [(2, .int (zI (i + 1))), (0, .ref (a 38)), (1, .int (zI (((like (u 18) (u 17 6) (u 3 6) (u 3 4) (u 21 0) : Nat) : Int))))] dX3_countTracks_48 rfl (by decide) rfl ?_
          refine z_goto C 31 dX3_countTracks_51 (by decide) ?_
          refine z_lv [(0, .ref (a 38)), (1, .int (zI (((like (u 18) (u 17 6) (u 3 6) (u 3 4) (u 21 0) : Nat) : Int)))), (2, .int (zI (i + 1)))] [1, 2, 0] rfl ?_
          exact ih31 (i + 1) (fun j => if j = i then (if ulw u 0 i = true then 1 else 0) else w j) (by omega) (ways_step hw rfl) (by omega)
    refine z_lv [(0, .ref (a 38)), (1, .int (zI (((like (u 18) (u 17 6) (u 3 6) (u 3 4) (u 21 0) : Nat) : Int)))), (2, .int (zI 0))] [2, 1, 0] rfl ?_
    exact L31_5 (((8 - 0 : Int)).toNat + 1) 0 (u 39) (by omega) (fun j h0 h1 => absurd h1 (by omega)) (by omega)
  · skip
    refine z_iconst C dX3_countTracks_10 ?_
    exact kret 1 (us (us u 40 (u 40)) 39 (u 39)) _ _ (⟨⟨_, _, rfl⟩, by unfold trk; rw [if_pos (by omega)]⟩) dX3_countTracks_11
-- NoteBells.tracks
theorem inX10_tracks_X10 : ∀ w ∈ wsX100, w ∈ wsX10_tracks := fun w h => List.mem_cons_of_mem _ (List.mem_append_left _ (List.mem_append_left _ (List.mem_append_left _ (List.mem_append_left _ (List.mem_append_right _ (h))))))
set_option maxHeartbeats 8000000 in
set_option maxRecDepth 100000 in
theorem c_X10_tracks (l : Launch) (D : va_G) (a : Nat → Nat) (c : Nat → ClassId) (u : zU)  (hI : IB u) : ZM l D (zTy c) (WB a c) yX10_tracks wsX10_tracks 8 [.ref (a 0)] u rI (fun z u' => (∃ w v : Int → Int, u' = us (us u 40 v) 39 w) ∧ z = trk (ulw u) (udt u) (u 17 8)) := by
  refine ZM.ofI (cc := cX10_tracks) (maxL := 1) [(0, .ref (a 0))] rfl (by decide +kernel) rfl (Nat.le_of_ble_eq_true rfl) (WB_addr a c) ?_
  intro x C hK _ _ hDD kret
  refine z_aload_n C 0 dX10_tracks_0 rfl ?_
  refine z_get C hK (v := .ref (a 38)) inX10_tracks_X10 0 (WB_0 a c u) rfl 8 (by decide) (List.mem_of_getElem? (i := 1) rfl) rfl dX10_tracks_1 ?_
  refine z_callVN C hK hDD (c_X3_countTracks (zl x) (zG x) a c u  (hI)) ggX10_tracks_X3_countTracks (List.mem_of_getElem? (i := 17) rfl) (List.mem_of_getElem? (i := 3) rfl) (List.mem_of_getElem? (i := 2) rfl) (List.mem_of_getElem? (i := 4) rfl) rfl zy_X3_countTracks 38 (WB_38 a c u) rfl ⟨by omega, by decide⟩ rfl (Nat.le_of_ble_eq_true rfl) (st := []) (stk2 := fun z1 => [.int (zI z1)]) rfl (fun _ => rfl) dX10_tracks_4 (fun z1 u2 h3 => ?_)
  have HMK := h3
  exact kret z1 u2 _ _ (HMK) dX10_tracks_7
-- NoteBells$OneMan.levelsBy
theorem inX3_levelsBy_X3 : ∀ w ∈ wsX30, w ∈ wsX3_levelsBy := fun w h => List.mem_cons_of_mem _ (List.mem_append_left _ (List.mem_append_left _ (List.mem_append_left _ (List.mem_append_right _ (h)))))
theorem inX3_levelsBy_X2 : ∀ w ∈ wsX20, w ∈ wsX3_levelsBy := fun w h => List.mem_cons_of_mem _ (List.mem_append_left _ (List.mem_append_left _ (List.mem_append_right _ (h))))
set_option maxHeartbeats 8000000 in
set_option maxRecDepth 100000 in
theorem c_X3_levelsBy (l : Launch) (D : va_G) (a : Nat → Nat) (c : Nat → ClassId) (u : zU) (k : Int) (hI : IB u) (b_k : 0 ≤ k ∧ k < u 17 8) : ZM l D (zTy c) (WB a c) yX3_levelsBy wsX3_levelsBy 6 [.ref (a 38), .int (zI k)] u rI (fun z u' => u' = u ∧ z = ((whr (ulw u) (udt u) (u 17 8) k : Nat) : Int)) := by
  refine ZM.ofI (cc := cX3_levelsBy) (maxL := 5) [(0, .ref (a 38)), (1, .int (zI k))] rfl (by decide +kernel) rfl (Nat.le_of_ble_eq_true rfl) (WB_addr a c) ?_
  intro x C hK _ _ hDD kret
  have hno := hI.notes
  have hpc := hI.pace
  have hn0 := hI.note 0 (by omega) (by omega)
  have hnl := hI.note (u 17 8 - 1) (by omega) (by omega)
  refine z_aload_n C 0 dX3_levelsBy_0 rfl ?_
  refine z_get C hK (v := .ref (a 37)) inX3_levelsBy_X3 38 (WB_38 a c u) rfl 2 (by decide) (List.mem_of_getElem? (i := 1) rfl) rfl dX3_levelsBy_1 ?_
  refine z_aload_n C 0 dX3_levelsBy_4 rfl ?_
  refine z_get C hK (v := .ref (a 17)) inX3_levelsBy_X3 38 (WB_38 a c u) rfl 1 (by decide) (List.mem_of_getElem? (i := 2) rfl) rfl dX3_levelsBy_5 ?_
  refine z_getN C hK (v := .ref (a 21)) inX3_levelsBy_X2 17 (WB_17 a c u) rfl 3 (by decide) (List.mem_of_getElem? (i := 31) rfl) rfl dX3_levelsBy_8 ?_
  refine z_iconst C dX3_levelsBy_11 ?_
  refine z_iald C hK 0 (g := (u 21)) (i := 0) 21 (WB_21 a c u) rfl (by decide) (by omega) dX3_levelsBy_12 ?_
  refine z_as (b := u 21 0) rfl ?_
  refine z_callVN C hK hDD (c_X6_likeSound (zl x) (zG x) a c u (u 21 0) (hI) (by omega)) ggX3_levelsBy_X6_likeSound (List.mem_of_getElem? (i := 28) rfl) (List.mem_of_getElem? (i := 4) rfl) (List.mem_of_getElem? (i := 3) rfl) (List.mem_of_getElem? (i := 5) rfl) rfl zy_X6_likeSound 37 (WB_37 a c u) rfl ⟨by omega, by decide⟩ rfl (Nat.le_of_ble_eq_true rfl) (st := []) (stk2 := fun z1 => [.int (zI z1)]) rfl (fun _ => rfl) dX3_levelsBy_13 (fun z1 u2 h3 => ?_)
  rw [h3.1]; replace h3 := h3.2
  refine z_as (b := ((like (u 18) (u 17 6) (u 3 6) (u 3 4) (u 21 0) : Nat) : Int)) h3 ?_
  refine z_istore_n C [(2, .int (zI (((like (u 18) (u 17 6) (u 3 6) (u 3 4) (u 21 0) : Nat) : Int)))), (0, .ref (a 38)), (1, .int (zI k))] dX3_levelsBy_16 rfl (by decide) rfl ?_
  refine z_iconst C dX3_levelsBy_17 ?_
  refine z_istore_n C [(3, .int (zI 1)), (2, .int (zI (((like (u 18) (u 17 6) (u 3 6) (u 3 4) (u 21 0) : Nat) : Int)))), (0, .ref (a 38)), (1, .int (zI k))] dX3_levelsBy_18 rfl (by decide) rfl ?_
  have L19_4 : ∀ (fu : Nat) (i : Int) (f : Nat → Bool), (1 ≤ i ∧ i ≤ k + 1) → (∀ l : Nat, l < 8 → (f l = true ↔ 0 < fw (ulw u) (udt u) (i - 1).toNat l)) → k + 1 - i < (fu : Int) → Z x 0 0 (WB a c u) [(0, .ref (a 38)), (1, .int (zI k)), (2, .int (zI (((bn f 8 : Nat) : Int)))), (3, .int (zI i))] 19 [] := by
    intro fu
    induction fu with
    | zero => intro i f hi hf hm; exfalso; omega
    | succ fu ih19 =>
      intro i f hi hf hm
      refine z_iload_n C 3 dX3_levelsBy_19 rfl ?_
      refine z_iload_n C 1 dX3_levelsBy_20 rfl ?_
      refine z_icmp_gt C 60 dX3_levelsBy_21 (by decide) (by omega) (fun h5 => ?_) (fun h5 => ?_)
      · skip
        refine z_aload_n C 0 dX3_levelsBy_60 rfl ?_
        refine z_get C hK (v := .ref (a 37)) inX3_levelsBy_X3 38 (WB_38 a c u) rfl 2 (by decide) (List.mem_of_getElem? (i := 1) rfl) rfl dX3_levelsBy_61 ?_
        refine z_aload_n C 0 dX3_levelsBy_64 rfl ?_
        refine z_get C hK (v := .ref (a 17)) inX3_levelsBy_X3 38 (WB_38 a c u) rfl 1 (by decide) (List.mem_of_getElem? (i := 2) rfl) rfl dX3_levelsBy_65 ?_
        refine z_getN C hK (v := .ref (a 21)) inX3_levelsBy_X2 17 (WB_17 a c u) rfl 3 (by decide) (List.mem_of_getElem? (i := 31) rfl) rfl dX3_levelsBy_68 ?_
        refine z_aload_n C 0 dX3_levelsBy_71 rfl ?_
        refine z_get C hK (v := .ref (a 17)) inX3_levelsBy_X3 38 (WB_38 a c u) rfl 1 (by decide) (List.mem_of_getElem? (i := 2) rfl) rfl dX3_levelsBy_72 ?_
        refine z_getN C hK (v := .int (zI (u 17 8))) inX3_levelsBy_X2 17 (WB_17 a c u) rfl 8 (by decide) (List.mem_of_getElem? (i := 30) rfl) rfl dX3_levelsBy_75 ?_
        refine z_iconst C dX3_levelsBy_78 ?_
        refine z_isub C dX3_levelsBy_79 ?_
        refine z_iald C hK 0 (g := (u 21)) (i := ((u 17 8) - 1)) 21 (WB_21 a c u) rfl (by decide) (by omega) dX3_levelsBy_80 ?_
        refine z_as (b := u 21 ((u 17 8) - 1)) rfl ?_
        refine z_callVN C hK hDD (c_X6_likeSound (zl x) (zG x) a c u (u 21 ((u 17 8) - 1)) (hI) (by omega)) ggX3_levelsBy_X6_likeSound (List.mem_of_getElem? (i := 28) rfl) (List.mem_of_getElem? (i := 4) rfl) (List.mem_of_getElem? (i := 3) rfl) (List.mem_of_getElem? (i := 5) rfl) rfl zy_X6_likeSound 37 (WB_37 a c u) rfl ⟨by omega, by decide⟩ rfl (Nat.le_of_ble_eq_true rfl) (st := []) (stk2 := fun z6 => [.int (zI z6)]) rfl (fun _ => rfl) dX3_levelsBy_81 (fun z6 u7 h8 => ?_)
        rw [h8.1]; replace h8 := h8.2
        refine z_as (b := ((like (u 18) (u 17 6) (u 3 6) (u 3 4) (u 21 ((u 17 8) - 1)) : Nat) : Int)) h8 ?_
        refine z_istore_n C [(3, .int (zI (((like (u 18) (u 17 6) (u 3 6) (u 3 4) (u 21 ((u 17 8) - 1)) : Nat) : Int)))), (0, .ref (a 38)), (1, .int (zI k)), (2, .int (zI (((bn f 8 : Nat) : Int))))] dX3_levelsBy_84 rfl (by decide) rfl ?_
        refine z_aload_n C 1 dX3_levelsBy_85 rfl ?_
        refine z_get C hK (v := .ref (a 17)) inX3_levelsBy_X3 38 (WB_38 a c u) rfl 1 (by decide) (List.mem_of_getElem? (i := 2) rfl) rfl dX3_levelsBy_86 ?_
        refine z_getN C hK (v := .int (zI (u 17 8))) inX3_levelsBy_X2 17 (WB_17 a c u) rfl 8 (by decide) (List.mem_of_getElem? (i := 30) rfl) rfl dX3_levelsBy_89 ?_
        refine z_iconst C dX3_levelsBy_92 ?_
        refine z_isub C dX3_levelsBy_93 ?_
        refine z_istore C [(4, .int (zI ((u 17 8) - 2))), (3, .int (zI (((like (u 18) (u 17 6) (u 3 6) (u 3 4) (u 21 ((u 17 8) - 1)) : Nat) : Int)))), (0, .ref (a 38)), (1, .int (zI k)), (2, .int (zI (((bn f 8 : Nat) : Int))))] dX3_levelsBy_94 (by decide) rfl ?_
        have L96_9 : ∀ (fu : Nat) (j : Int) (g : Nat → Bool), (k - 1 ≤ j ∧ j ≤ u 17 8 - 2) → (∀ l : Nat, l < 8 → (g l = true ↔ 0 < bw (ulw u) (udt u) (u 17 8) (u 17 8 - 2 - j).toNat l)) → j - k + 1 < (fu : Int) → Z x 0 0 (WB a c u) [(0, .ref (a 38)), (1, .int (zI k)), (2, .int (zI (((bn f 8 : Nat) : Int)))), (3, .int (zI (((bn g 8 : Nat) : Int)))), (4, .int (zI j))] 96 [] := by
          intro fu
          induction fu with
          | zero => intro j g hj hg hm; exfalso; omega
          | succ fu ih96 =>
            intro j g hj hg hm
            refine z_iload C 4 dX3_levelsBy_96 rfl ?_
            refine z_iload_n C 1 dX3_levelsBy_98 rfl ?_
            refine z_icmp_lt C 141 dX3_levelsBy_99 (by decide) (by omega) (fun h10 => ?_) (fun h10 => ?_)
            · skip
              refine z_iload_n C 2 dX3_levelsBy_141 rfl ?_
              refine z_iload_n C 3 dX3_levelsBy_142 rfl ?_
              refine z_iand C (((bn (fun q : Nat => f q && g q) 8 : Nat) : Int)) dX3_levelsBy_143 ((zI_and _ _).trans (congrArg (fun q : Nat => zI (q : Int)) (bn_and _ _ 8))) ?_
              exact kret (((bn (fun q : Nat => f q && g q) 8 : Nat) : Int)) u _ _ (⟨rfl, congrArg (fun q : Nat => (q : Int)) (whr_of (fun l hl => by have q := hf l hl; rw [show (i - 1).toNat = k.toNat by omega] at q; exact q) (fun l hl => by have q := hg l hl; rw [show (u 17 8 - 2 - j).toNat = (u 17 8 - 1 - k).toNat by omega] at q; exact q))⟩) dX3_levelsBy_144
            · skip
              have hni := hI.note j (by omega) (by omega)
              have hma := hI.minute (j + 1) (by omega) (by omega)
              have hmb := hI.minute j (by omega) (by omega)
              have hmo := hI.mono j (j + 1) (by omega) (by omega) (by omega)
              have hst := pc_bd hpc hmb hma
              have hs0 := pc_nn hpc hmo
              refine z_iload_n C 3 dX3_levelsBy_102 rfl ?_
              refine z_aload_n C 0 dX3_levelsBy_103 rfl ?_
              refine z_iload C 4 dX3_levelsBy_104 rfl ?_
              refine z_iload C 4 dX3_levelsBy_106 rfl ?_
              refine z_iconst C dX3_levelsBy_108 ?_
              refine z_iadd C dX3_levelsBy_109 ?_
              refine z_callV C hK hDD (c_X3_stepsBetween (zl x) (zG x) a c u j (j + 1) (by omega) (by omega)) gX3_levelsBy_X3_stepsBetween rfl zy_X3_stepsBetween 38 (WB_38 a c u) rfl ⟨by omega, by decide⟩ rfl (Nat.le_of_ble_eq_true rfl) (st := [.int (zI (((bn g 8 : Nat) : Int)))]) (stk2 := fun z11 => [.int (zI z11), .int (zI (((bn g 8 : Nat) : Int)))]) rfl (fun _ => rfl) dX3_levelsBy_110 (fun z11 u12 h13 => ?_)
              rw [h13.1]; replace h13 := h13.2
              refine z_as (b := u 3 8 * (u 20 (j + 1) - u 20 j)) h13 ?_
              refine z_callSN C hK hDD (c_X10_spread (zl x) (zG x) ((WB a c)) (WB_addr a c) u g (u 3 8 * (u 20 (j + 1) - u 20 j)) (by omega)) ggX3_levelsBy_X10_spread (List.mem_of_getElem? (i := 29) rfl) (List.mem_of_getElem? (i := 18) rfl) (List.mem_of_getElem? (i := 26) rfl) rfl zy_X10_spread ⟨by omega, by decide⟩ rfl (Nat.le_of_ble_eq_true rfl) (st := []) (stk2 := fun z14 => [.int (zI z14)]) rfl (fun _ => rfl) dX3_levelsBy_113 (fun z14 u15 h16 => ?_)
              rw [h16.1]; replace h16 := h16.2
              refine z_as (b := ((bn (sprd g (u 3 8 * (u 20 (j + 1) - u 20 j))) 8 : Nat) : Int)) h16 ?_
              refine z_aload_n C 0 dX3_levelsBy_116 rfl ?_
              refine z_get C hK (v := .ref (a 37)) inX3_levelsBy_X3 38 (WB_38 a c u) rfl 2 (by decide) (List.mem_of_getElem? (i := 1) rfl) rfl dX3_levelsBy_117 ?_
              refine z_aload_n C 0 dX3_levelsBy_120 rfl ?_
              refine z_get C hK (v := .ref (a 17)) inX3_levelsBy_X3 38 (WB_38 a c u) rfl 1 (by decide) (List.mem_of_getElem? (i := 2) rfl) rfl dX3_levelsBy_121 ?_
              refine z_getN C hK (v := .ref (a 21)) inX3_levelsBy_X2 17 (WB_17 a c u) rfl 3 (by decide) (List.mem_of_getElem? (i := 31) rfl) rfl dX3_levelsBy_124 ?_
              refine z_iload C 4 dX3_levelsBy_127 rfl ?_
              refine z_iald C hK 0 (g := (u 21)) (i := j) 21 (WB_21 a c u) rfl (by decide) (by omega) dX3_levelsBy_129 ?_
              refine z_as (b := u 21 (j)) rfl ?_
              refine z_callVN C hK hDD (c_X6_likeSound (zl x) (zG x) a c u (u 21 (j)) (hI) (by omega)) ggX3_levelsBy_X6_likeSound (List.mem_of_getElem? (i := 28) rfl) (List.mem_of_getElem? (i := 4) rfl) (List.mem_of_getElem? (i := 3) rfl) (List.mem_of_getElem? (i := 5) rfl) rfl zy_X6_likeSound 37 (WB_37 a c u) rfl ⟨by omega, by decide⟩ rfl (Nat.le_of_ble_eq_true rfl) (st := [.int (zI (((bn (sprd g (u 3 8 * (u 20 (j + 1) - u 20 j))) 8 : Nat) : Int)))]) (stk2 := fun z17 => [.int (zI z17), .int (zI (((bn (sprd g (u 3 8 * (u 20 (j + 1) - u 20 j))) 8 : Nat) : Int)))]) rfl (fun _ => rfl) dX3_levelsBy_130 (fun z17 u18 h19 => ?_)
              rw [h19.1]; replace h19 := h19.2
              refine z_as (b := ((like (u 18) (u 17 6) (u 3 6) (u 3 4) (u 21 (j)) : Nat) : Int)) h19 ?_
              refine z_iand C (((bn (fun q : Nat => sprd g (u 3 8 * (u 20 (j + 1) - u 20 j)) q && ulw u j q) 8 : Nat) : Int)) dX3_levelsBy_133 ((zI_and _ _).trans (congrArg (fun q : Nat => zI (q : Int)) (bn_and _ _ 8))) ?_
              refine z_istore_n C [(3, .int (zI (((bn (fun q : Nat => sprd g (u 3 8 * (u 20 (j + 1) - u 20 j)) q && ulw u j q) 8 : Nat) : Int)))), (0, .ref (a 38)), (1, .int (zI k)), (2, .int (zI (((bn f 8 : Nat) : Int)))), (4, .int (zI j))] dX3_levelsBy_134 rfl (by decide) rfl ?_
              refine z_iinc C 4 [(4, .int (zI (j + (-1)))), (3, .int (zI (((bn (fun q : Nat => sprd g (u 3 8 * (u 20 (j + 1) - u 20 j)) q && ulw u j q) 8 : Nat) : Int)))), (0, .ref (a 38)), (1, .int (zI k)), (2, .int (zI (((bn f 8 : Nat) : Int))))] dX3_levelsBy_135 rfl (by decide) rfl ?_
              refine z_goto C 96 dX3_levelsBy_138 (by decide) ?_
              refine z_lv [(0, .ref (a 38)), (1, .int (zI k)), (2, .int (zI (((bn f 8 : Nat) : Int)))), (3, .int (zI (((bn (fun q : Nat => sprd g (u 3 8 * (u 20 (j + 1) - u 20 j)) q && ulw u j q) 8 : Nat) : Int)))), (4, .int (zI (j + (-1))))] [2, 3, 4, 1, 0] rfl ?_
              exact ih96 (j + (-1)) (fun q : Nat => sprd g (u 3 8 * (u 20 (j + 1) - u 20 j)) q && ulw u j q) (by omega) (back_next (by omega) (by unfold udt; rw [show j + 1 - 1 = j by omega]) hg) (by omega)
        refine z_lv [(0, .ref (a 38)), (1, .int (zI k)), (2, .int (zI (((bn f 8 : Nat) : Int)))), (3, .int (zI (((like (u 18) (u 17 6) (u 3 6) (u 3 4) (u 21 ((u 17 8) - 1)) : Nat) : Int)))), (4, .int (zI ((u 17 8) - 2)))] [2, 3, 4, 1, 0] rfl ?_
        exact L96_9 (((((u 17 8) - 2) - k + 1 : Int)).toNat + 1) ((u 17 8) - 2) (fun q : Nat => ulw u (u 17 8 - 1) q) (by omega) (fun l hl => by rw [show (u 17 8 - 2 - (u 17 8 - 2)).toNat = 0 by omega]; show ulw u (u 17 8 - 1) l = true ↔ 0 < (if ulw u (u 17 8 - 1) l = true then (1 : Int) else 0); split <;> simp_all) (by omega)
      · skip
        have hni := hI.note i (by omega) (by omega)
        have hma := hI.minute i (by omega) (by omega)
        have hmb := hI.minute (i - 1) (by omega) (by omega)
        have hmo := hI.mono (i - 1) i (by omega) (by omega) (by omega)
        have hst := pc_bd hpc hmb hma
        have hs0 := pc_nn hpc hmo
        refine z_iload_n C 2 dX3_levelsBy_24 rfl ?_
        refine z_aload_n C 0 dX3_levelsBy_25 rfl ?_
        refine z_iload_n C 3 dX3_levelsBy_26 rfl ?_
        refine z_iconst C dX3_levelsBy_27 ?_
        refine z_isub C dX3_levelsBy_28 ?_
        refine z_iload_n C 3 dX3_levelsBy_29 rfl ?_
        refine z_callV C hK hDD (c_X3_stepsBetween (zl x) (zG x) a c u (i - 1) i (by omega) (by omega)) gX3_levelsBy_X3_stepsBetween rfl zy_X3_stepsBetween 38 (WB_38 a c u) rfl ⟨by omega, by decide⟩ rfl (Nat.le_of_ble_eq_true rfl) (st := [.int (zI (((bn f 8 : Nat) : Int)))]) (stk2 := fun z20 => [.int (zI z20), .int (zI (((bn f 8 : Nat) : Int)))]) rfl (fun _ => rfl) dX3_levelsBy_30 (fun z20 u21 h22 => ?_)
        rw [h22.1]; replace h22 := h22.2
        refine z_as (b := u 3 8 * (u 20 i - u 20 (i - 1))) h22 ?_
        refine z_callSN C hK hDD (c_X10_spread (zl x) (zG x) ((WB a c)) (WB_addr a c) u f (u 3 8 * (u 20 i - u 20 (i - 1))) (by omega)) ggX3_levelsBy_X10_spread (List.mem_of_getElem? (i := 29) rfl) (List.mem_of_getElem? (i := 18) rfl) (List.mem_of_getElem? (i := 26) rfl) rfl zy_X10_spread ⟨by omega, by decide⟩ rfl (Nat.le_of_ble_eq_true rfl) (st := []) (stk2 := fun z23 => [.int (zI z23)]) rfl (fun _ => rfl) dX3_levelsBy_33 (fun z23 u24 h25 => ?_)
        rw [h25.1]; replace h25 := h25.2
        refine z_as (b := ((bn (sprd f (u 3 8 * (u 20 i - u 20 (i - 1)))) 8 : Nat) : Int)) h25 ?_
        refine z_aload_n C 0 dX3_levelsBy_36 rfl ?_
        refine z_get C hK (v := .ref (a 37)) inX3_levelsBy_X3 38 (WB_38 a c u) rfl 2 (by decide) (List.mem_of_getElem? (i := 1) rfl) rfl dX3_levelsBy_37 ?_
        refine z_aload_n C 0 dX3_levelsBy_40 rfl ?_
        refine z_get C hK (v := .ref (a 17)) inX3_levelsBy_X3 38 (WB_38 a c u) rfl 1 (by decide) (List.mem_of_getElem? (i := 2) rfl) rfl dX3_levelsBy_41 ?_
        refine z_getN C hK (v := .ref (a 21)) inX3_levelsBy_X2 17 (WB_17 a c u) rfl 3 (by decide) (List.mem_of_getElem? (i := 31) rfl) rfl dX3_levelsBy_44 ?_
        refine z_iload_n C 3 dX3_levelsBy_47 rfl ?_
        refine z_iald C hK 0 (g := (u 21)) (i := i) 21 (WB_21 a c u) rfl (by decide) (by omega) dX3_levelsBy_48 ?_
        refine z_as (b := u 21 (i)) rfl ?_
        refine z_callVN C hK hDD (c_X6_likeSound (zl x) (zG x) a c u (u 21 (i)) (hI) (by omega)) ggX3_levelsBy_X6_likeSound (List.mem_of_getElem? (i := 28) rfl) (List.mem_of_getElem? (i := 4) rfl) (List.mem_of_getElem? (i := 3) rfl) (List.mem_of_getElem? (i := 5) rfl) rfl zy_X6_likeSound 37 (WB_37 a c u) rfl ⟨by omega, by decide⟩ rfl (Nat.le_of_ble_eq_true rfl) (st := [.int (zI (((bn (sprd f (u 3 8 * (u 20 i - u 20 (i - 1)))) 8 : Nat) : Int)))]) (stk2 := fun z26 => [.int (zI z26), .int (zI (((bn (sprd f (u 3 8 * (u 20 i - u 20 (i - 1)))) 8 : Nat) : Int)))]) rfl (fun _ => rfl) dX3_levelsBy_49 (fun z26 u27 h28 => ?_)
        rw [h28.1]; replace h28 := h28.2
        refine z_as (b := ((like (u 18) (u 17 6) (u 3 6) (u 3 4) (u 21 (i)) : Nat) : Int)) h28 ?_
        refine z_iand C (((bn (fun q : Nat => sprd f (u 3 8 * (u 20 i - u 20 (i - 1))) q && ulw u i q) 8 : Nat) : Int)) dX3_levelsBy_52 ((zI_and _ _).trans (congrArg (fun q : Nat => zI (q : Int)) (bn_and _ _ 8))) ?_
        refine z_istore_n C [(2, .int (zI (((bn (fun q : Nat => sprd f (u 3 8 * (u 20 i - u 20 (i - 1))) q && ulw u i q) 8 : Nat) : Int)))), (0, .ref (a 38)), (1, .int (zI k)), (3, .int (zI i))] dX3_levelsBy_53 rfl (by decide) rfl ?_
        refine z_iinc C 3 [(3, .int (zI (i + 1))), (2, .int (zI (((bn (fun q : Nat => sprd f (u 3 8 * (u 20 i - u 20 (i - 1))) q && ulw u i q) 8 : Nat) : Int)))), (0, .ref (a 38)), (1, .int (zI k))] dX3_levelsBy_54 rfl (by decide) rfl ?_
        refine z_goto C 19 dX3_levelsBy_57 (by decide) ?_
        refine z_lv [(0, .ref (a 38)), (1, .int (zI k)), (2, .int (zI (((bn (fun q : Nat => sprd f (u 3 8 * (u 20 i - u 20 (i - 1))) q && ulw u i q) 8 : Nat) : Int)))), (3, .int (zI (i + 1)))] [2, 3, 1, 0] rfl ?_
        exact ih19 (i + 1) (fun q : Nat => sprd f (u 3 8 * (u 20 i - u 20 (i - 1))) q && ulw u i q) (by omega) (reach_next hi.1 rfl hf) (by omega)
  refine z_lv [(0, .ref (a 38)), (1, .int (zI k)), (2, .int (zI (((like (u 18) (u 17 6) (u 3 6) (u 3 4) (u 21 0) : Nat) : Int)))), (3, .int (zI 1))] [2, 3, 1, 0] rfl ?_
  exact L19_4 (((k + 1 - 1 : Int)).toNat + 1) 1 (fun q : Nat => ulw u 0 q) (by omega) (fun l hl => by show ulw u 0 l = true ↔ 0 < (if ulw u 0 l = true then (1 : Int) else 0); split <;> simp_all) (by omega)
-- NoteBells.where
theorem inX10_where_X10 : ∀ w ∈ wsX100, w ∈ wsX10_where := fun w h => List.mem_cons_of_mem _ (List.mem_append_left _ (List.mem_append_left _ (List.mem_append_left _ (List.mem_append_left _ (List.mem_append_right _ (h))))))
theorem inX10_where_X2 : ∀ w ∈ wsX20, w ∈ wsX10_where := fun w h => List.mem_cons_of_mem _ (List.mem_append_left _ (List.mem_append_left _ (List.mem_append_left _ (List.mem_append_right _ (h)))))
set_option maxHeartbeats 8000000 in
set_option maxRecDepth 100000 in
theorem c_X10_where (l : Launch) (D : va_G) (a : Nat → Nat) (c : Nat → ClassId) (u : zU) (k : Int) (hI : IB u) (b_k : -2147483648 ≤ k ∧ k < 2147483648) : ZM l D (zTy c) (WB a c) yX10_where wsX10_where 8 [.ref (a 0), .int (zI k)] u rI (fun z u' => u' = u ∧ ((0 ≤ k ∧ k < u 17 8 ∧ z = ((whr (ulw u) (udt u) (u 17 8) k : Nat) : Int)) ∨ (¬ (0 ≤ k ∧ k < u 17 8) ∧ z = -1))) := by
  refine ZM.ofI (cc := cX10_where) (maxL := 2) [(0, .ref (a 0)), (1, .int (zI k))] rfl (by decide +kernel) rfl (Nat.le_of_ble_eq_true rfl) (WB_addr a c) ?_
  intro x C hK _ _ hDD kret
  have hno := hI.notes
  refine z_iload_n C 1 dX10_where_0 rfl ?_
  refine z_iconst C dX10_where_1 ?_
  refine z_aload_n C 0 dX10_where_2 rfl ?_
  refine z_get C hK (v := .ref (a 17)) inX10_where_X10 0 (WB_0 a c u) rfl 4 (by decide) (List.mem_of_getElem? (i := 1) rfl) rfl dX10_where_3 ?_
  refine z_getN C hK (v := .int (zI (u 17 8))) inX10_where_X2 17 (WB_17 a c u) rfl 8 (by decide) (List.mem_of_getElem? (i := 8) rfl) rfl dX10_where_6 ?_
  refine z_iconst C dX10_where_9 ?_
  refine z_isub C dX10_where_10 ?_
  refine z_callS C hK hDD (c_X10_isWithin (zl x) (zG x) ((WB a c)) (WB_addr a c) u k 0 ((u 17 8) - 1) (by omega) (by omega) (by omega)) gX10_where_X10_isWithin rfl rfl zy_X10_isWithin ⟨by omega, by decide⟩ rfl (Nat.le_of_ble_eq_true rfl) (st := []) (stk2 := fun z1 => [.int (zI z1)]) rfl (fun _ => rfl) dX10_where_11 (fun z1 u2 h3 => ?_)
  rw [h3.1]; replace h3 := h3.2
  refine z_if_eq C 28 dX10_where_14 (by decide) (by omega) (fun h4 => ?_) (fun h4 => ?_)
  · skip
    refine z_iconst C dX10_where_28 ?_
    exact kret (-1) u _ _ (⟨rfl, by first | exact Or.inl ⟨by omega, by omega, rfl⟩ | exact Or.inr ⟨by omega, rfl⟩⟩) dX10_where_29
  · skip
    refine z_aload_n C 0 dX10_where_17 rfl ?_
    refine z_get C hK (v := .ref (a 38)) inX10_where_X10 0 (WB_0 a c u) rfl 8 (by decide) (List.mem_of_getElem? (i := 2) rfl) rfl dX10_where_18 ?_
    refine z_iload_n C 1 dX10_where_21 rfl ?_
    refine z_callVN C hK hDD (c_X3_levelsBy (zl x) (zG x) a c u k (hI) (by omega)) ggX10_where_X3_levelsBy (List.mem_of_getElem? (i := 18) rfl) (List.mem_of_getElem? (i := 8) rfl) (List.mem_of_getElem? (i := 7) rfl) (List.mem_of_getElem? (i := 9) rfl) rfl zy_X3_levelsBy 38 (WB_38 a c u) rfl ⟨by omega, by decide⟩ rfl (Nat.le_of_ble_eq_true rfl) (st := []) (stk2 := fun z5 => [.int (zI z5)]) rfl (fun _ => rfl) dX10_where_22 (fun z5 u6 h7 => ?_)
    rw [h7.1]; replace h7 := h7.2
    refine z_as (b := ((whr (ulw u) (udt u) (u 17 8) k : Nat) : Int)) h7 ?_
    refine z_goto C 29 dX10_where_25 (by decide) ?_
    exact kret (((whr (ulw u) (udt u) (u 17 8) k : Nat) : Int)) u _ _ (⟨rfl, by first | exact Or.inl ⟨by omega, by omega, rfl⟩ | exact Or.inr ⟨by omega, rfl⟩⟩) dX10_where_29
-- NoteBells$Tuning.soundAlike
theorem inX9_soundAlike_X9 : ∀ w ∈ wsX90, w ∈ wsX9_soundAlike := fun w h => List.mem_cons_of_mem _ (List.mem_append_left _ (List.mem_append_right _ (h)))
theorem inX9_soundAlike_X8 : ∀ w ∈ wsX80, w ∈ wsX9_soundAlike := fun w h => List.mem_cons_of_mem _ (List.mem_append_right _ (h))
set_option maxHeartbeats 8000000 in
set_option maxRecDepth 100000 in
theorem c_X9_soundAlike (l : Launch) (D : va_G) (a : Nat → Nat) (c : Nat → ClassId) (u : zU) (m p k q w : Int) (hI : IB u) (b_m : 0 ≤ m ∧ m ≤ 7) (b_p : 0 ≤ p ∧ p ≤ 60) (b_k : 0 ≤ k ∧ k ≤ 7) (b_q : 0 ≤ q ∧ q ≤ 60) (b_w : 0 ≤ w ∧ w ≤ 9) : ZM l D (zTy c) (WB a c) yX9_soundAlike wsX9_soundAlike 3 [.ref (a 46), .int (zI m), .int (zI p), .int (zI k), .int (zI q), .int (zI w)] u rI (fun z u' => u' = u ∧ ((z = 1 ∧ (snd p w m - snd q w k ≤ u 3 6 ∧ snd q w k - snd p w m ≤ u 3 6)) ∨ (z = 0 ∧ ¬ ((snd p w m - snd q w k ≤ u 3 6 ∧ snd q w k - snd p w m ≤ u 3 6))))) := by
  refine ZM.ofZ (cc := cX9_soundAlike) (maxL := 6) [(0, .ref (a 46)), (1, .int (zI m)), (2, .int (zI p)), (3, .int (zI k)), (4, .int (zI q)), (5, .int (zI w))] rfl (by decide +kernel) rfl (Nat.le_of_ble_eq_true rfl) (WB_addr a c) ?_
  intro x C hK _ _ hDD kret
  have he := hI.ear
  have hs1 := snd_bd b_p b_w b_m
  have hs2 := snd_bd b_q b_w b_k
  refine z_iload_n C 2 dX9_soundAlike_0 rfl ?_
  refine z_iload_n C 1 dX9_soundAlike_1 rfl ?_
  refine z_iload C 5 dX9_soundAlike_2 rfl ?_
  refine z_callSN C hK hDD (c_X10_soundAt (zl x) (zG x) ((WB a c)) (WB_addr a c) u p m w (by omega) (by omega) (by omega)) ggX9_soundAlike_X10_soundAt (List.mem_of_getElem? (i := 37) rfl) (List.mem_of_getElem? (i := 7) rfl) (List.mem_of_getElem? (i := 6) rfl) rfl zy_X10_soundAt ⟨by omega, by decide⟩ rfl (Nat.le_of_ble_eq_true rfl) (st := []) (stk2 := fun z1 => [.int (zI z1)]) rfl (fun _ => rfl) dX9_soundAlike_4 (fun z1 u2 h3 => ?_)
  rw [h3.1]; replace h3 := h3.2
  refine z_as (b := snd p w m) h3 ?_
  refine z_iload C 4 dX9_soundAlike_7 rfl ?_
  refine z_iload_n C 3 dX9_soundAlike_9 rfl ?_
  refine z_iload C 5 dX9_soundAlike_10 rfl ?_
  refine z_callSN C hK hDD (c_X10_soundAt (zl x) (zG x) ((WB a c)) (WB_addr a c) u q k w (by omega) (by omega) (by omega)) ggX9_soundAlike_X10_soundAt (List.mem_of_getElem? (i := 37) rfl) (List.mem_of_getElem? (i := 7) rfl) (List.mem_of_getElem? (i := 6) rfl) rfl zy_X10_soundAt ⟨by omega, by decide⟩ rfl (Nat.le_of_ble_eq_true rfl) (st := [.int (zI (snd p w m))]) (stk2 := fun z4 => [.int (zI z4), .int (zI (snd p w m))]) rfl (fun _ => rfl) dX9_soundAlike_12 (fun z4 u5 h6 => ?_)
  rw [h6.1]; replace h6 := h6.2
  refine z_as (b := snd q w k) h6 ?_
  refine z_isub C dX9_soundAlike_15 ?_
  refine z_abs C (by omega) (List.mem_of_getElem? (i := 1) rfl) (List.mem_of_getElem? (i := 2) rfl) (List.mem_of_getElem? (i := 3) rfl) (List.mem_of_getElem? (i := 4) rfl) (Nat.le_of_ble_eq_true rfl) (by omega) dX9_soundAlike_16 (fun r7 h8 => ?_)
  refine z_aload_n C 0 dX9_soundAlike_19 rfl ?_
  refine z_get C hK (v := .ref (a 3)) inX9_soundAlike_X9 46 (WB_46 a c u) rfl 0 (by decide) (List.mem_of_getElem? (i := 5) rfl) rfl dX9_soundAlike_20 ?_
  refine z_getN C hK (v := .int (zI (u 3 6))) inX9_soundAlike_X8 3 (WB_3 a c u) rfl 6 (by decide) (List.mem_of_getElem? (i := 55) rfl) rfl dX9_soundAlike_23 ?_
  refine z_icmp_gt C 33 dX9_soundAlike_26 (by decide) (by omega) (fun h9 => ?_) (fun h9 => ?_)
  · skip
    refine z_iconst C dX9_soundAlike_33 ?_
    exact kret 0 u _ _ (⟨rfl, by omega⟩) (by omega) dX9_soundAlike_34
  · skip
    refine z_iconst C dX9_soundAlike_29 ?_
    refine z_goto C 34 dX9_soundAlike_30 (by decide) ?_
    exact kret 1 u _ _ (⟨rfl, by omega⟩) (by omega) dX9_soundAlike_34
-- NoteBells$Tuning.clashAtSomeWet
theorem inX9_clashAtSomeWet_X9 : ∀ w ∈ wsX90, w ∈ wsX9_clashAtSomeWet := fun w h => List.mem_cons_of_mem _ (List.mem_append_left _ (List.mem_append_left _ (List.mem_append_right _ (h))))
theorem inX9_clashAtSomeWet_X2 : ∀ w ∈ wsX20, w ∈ wsX9_clashAtSomeWet := fun w h => List.mem_cons_of_mem _ (List.mem_append_left _ (List.mem_append_right _ (h)))
set_option maxHeartbeats 8000000 in
set_option maxRecDepth 100000 in
theorem c_X9_clashAtSomeWet (l : Launch) (D : va_G) (a : Nat → Nat) (c : Nat → ClassId) (u : zU) (m k : Int) (hI : IB u) (b_m : 0 ≤ m ∧ m ≤ 7) (b_k : 0 ≤ k ∧ k ≤ 7) : ZM l D (zTy c) (WB a c) yX9_clashAtSomeWet wsX9_clashAtSomeWet 4 [.ref (a 46), .int (zI m), .int (zI k)] u rI (fun z u' => u' = u ∧ ((z = 1 ∧ clsh (u 18) (u 3 6) m k = true) ∨ (z = 0 ∧ clsh (u 18) (u 3 6) m k = false))) := by
  refine ZM.ofZ (cc := cX9_clashAtSomeWet) (maxL := 4) [(0, .ref (a 46)), (1, .int (zI m)), (2, .int (zI k))] rfl (by decide +kernel) rfl (Nat.le_of_ble_eq_true rfl) (WB_addr a c) ?_
  intro x C hK _ _ hDD kret
  have hp1 := hI.pitch m b_m.1 (by omega)
  have hp2 := hI.pitch k b_k.1 (by omega)
  refine z_iconst C dX9_clashAtSomeWet_0 ?_
  refine z_istore_n C [(3, .int (zI 0)), (0, .ref (a 46)), (1, .int (zI m)), (2, .int (zI k))] dX9_clashAtSomeWet_1 rfl (by decide) rfl ?_
  have L2_1 : ∀ (fu : Nat) (i : Int), (0 ≤ i ∧ i ≤ 10) → (∀ w : Int, 0 ≤ w → w < i → ¬ (snd (u 18 m) w m - snd (u 18 k) w k ≤ u 3 6 ∧ snd (u 18 k) w k - snd (u 18 m) w m ≤ u 3 6)) → 10 - i < (fu : Int) → Z x 0 0 (WB a c u) [(0, .ref (a 46)), (1, .int (zI m)), (2, .int (zI k)), (3, .int (zI i))] 2 [] := by
    intro fu
    induction fu with
    | zero => intro i hi hn hm; exfalso; omega
    | succ fu ih2 =>
      intro i hi hn hm
      refine z_iload_n C 3 dX9_clashAtSomeWet_2 rfl ?_
      refine z_bipush C dX9_clashAtSomeWet_3 (by decide) ?_
      refine z_icmp_gt C 44 dX9_clashAtSomeWet_5 (by decide) (by omega) (fun h2 => ?_) (fun h2 => ?_)
      · skip
        refine z_iconst C dX9_clashAtSomeWet_44 ?_
        exact kret 0 u _ _ (⟨rfl, Or.inr ⟨rfl, clsh_f (fun w h0 h1 => hn w h0 (by omega))⟩⟩) (by omega) dX9_clashAtSomeWet_45
      · skip
        refine z_aload_n C 0 dX9_clashAtSomeWet_8 rfl ?_
        refine z_iload_n C 1 dX9_clashAtSomeWet_9 rfl ?_
        refine z_aload_n C 0 dX9_clashAtSomeWet_10 rfl ?_
        refine z_get C hK (v := .ref (a 17)) inX9_clashAtSomeWet_X9 46 (WB_46 a c u) rfl 1 (by decide) (List.mem_of_getElem? (i := 1) rfl) rfl dX9_clashAtSomeWet_11 ?_
        refine z_getN C hK (v := .ref (a 18)) inX9_clashAtSomeWet_X2 17 (WB_17 a c u) rfl 0 (by decide) (List.mem_of_getElem? (i := 54) rfl) rfl dX9_clashAtSomeWet_14 ?_
        refine z_iload_n C 1 dX9_clashAtSomeWet_17 rfl ?_
        refine z_iald C hK 0 (g := (u 18)) (i := m) 18 (WB_18 a c u) rfl (by decide) (by omega) dX9_clashAtSomeWet_18 ?_
        refine z_as (b := u 18 (m)) rfl ?_
        refine z_iload_n C 2 dX9_clashAtSomeWet_19 rfl ?_
        refine z_aload_n C 0 dX9_clashAtSomeWet_20 rfl ?_
        refine z_get C hK (v := .ref (a 17)) inX9_clashAtSomeWet_X9 46 (WB_46 a c u) rfl 1 (by decide) (List.mem_of_getElem? (i := 1) rfl) rfl dX9_clashAtSomeWet_21 ?_
        refine z_getN C hK (v := .ref (a 18)) inX9_clashAtSomeWet_X2 17 (WB_17 a c u) rfl 0 (by decide) (List.mem_of_getElem? (i := 54) rfl) rfl dX9_clashAtSomeWet_24 ?_
        refine z_iload_n C 2 dX9_clashAtSomeWet_27 rfl ?_
        refine z_iald C hK 0 (g := (u 18)) (i := k) 18 (WB_18 a c u) rfl (by decide) (by omega) dX9_clashAtSomeWet_28 ?_
        refine z_as (b := u 18 (k)) rfl ?_
        refine z_iload_n C 3 dX9_clashAtSomeWet_29 rfl ?_
        refine z_callV C hK hDD (c_X9_soundAlike (zl x) (zG x) a c u m (u 18 (m)) k (u 18 (k)) i (hI) (by omega) (by omega) (by omega) (by omega) (by omega)) gX9_clashAtSomeWet_X9_soundAlike rfl zy_X9_soundAlike 46 (WB_46 a c u) rfl ⟨by omega, by decide⟩ rfl (Nat.le_of_ble_eq_true rfl) (st := []) (stk2 := fun z3 => [.int (zI z3)]) rfl (fun _ => rfl) dX9_clashAtSomeWet_30 (fun z3 u4 h5 => ?_)
        rw [h5.1]; replace h5 := h5.2
        refine z_if_eq C 38 dX9_clashAtSomeWet_33 (by decide) (by omega) (fun h6 => ?_) (fun h6 => ?_)
        · skip
          refine z_iinc C 3 [(3, .int (zI (i + 1))), (0, .ref (a 46)), (1, .int (zI m)), (2, .int (zI k))] dX9_clashAtSomeWet_38 rfl (by decide) rfl ?_
          refine z_goto C 2 dX9_clashAtSomeWet_41 (by decide) ?_
          refine z_lv [(0, .ref (a 46)), (1, .int (zI m)), (2, .int (zI k)), (3, .int (zI (i + 1)))] [1, 2, 3, 0] rfl ?_
          exact ih2 (i + 1) (by omega) (fun w h0 h1 => by by_cases e : w = i; rw [e]; omega; exact hn w h0 (by omega)) (by omega)
        · skip
          refine z_iconst C dX9_clashAtSomeWet_36 ?_
          exact kret 1 u _ _ (⟨rfl, Or.inl ⟨rfl, clsh_t (w := i) (by omega) (by omega)⟩⟩) (by omega) dX9_clashAtSomeWet_37
  refine z_lv [(0, .ref (a 46)), (1, .int (zI m)), (2, .int (zI k)), (3, .int (zI 0))] [1, 2, 3, 0] rfl ?_
  exact L2_1 (((10 - 0 : Int)).toNat + 1) 0 (by omega) (fun w h0 h1 => absurd h1 (by omega)) (by omega)
-- NoteBells$Tuning.findClashes
theorem inX9_findClashes_X9 : ∀ w ∈ wsX90, w ∈ wsX9_findClashes := fun w h => List.mem_cons_of_mem _ (List.mem_append_left _ (List.mem_append_left _ (List.mem_append_right _ (h))))
theorem inX9_findClashes_X8 : ∀ w ∈ wsX80, w ∈ wsX9_findClashes := fun w h => List.mem_cons_of_mem _ (List.mem_append_left _ (List.mem_append_right _ (h)))
set_option maxHeartbeats 8000000 in
set_option maxRecDepth 100000 in
theorem c_X9_findClashes (l : Launch) (D : va_G) (a : Nat → Nat) (c : Nat → ClassId) (u : zU)  (hI : IB u) : ZM l D (zTy c) (WB a c) yX9_findClashes wsX9_findClashes 5 [.ref (a 46)] u rV (fun z u' => ∃ w : Int → Int, u' = us u 47 w ∧ ∀ j : Int, 0 ≤ j → j < u 3 4 → w j = ((bn (ckf (u 18) (u 3 6) (u 3 4) j) 8 : Nat) : Int)) := by
  refine ZM.ofV (cc := cX9_findClashes) (maxL := 3) [(0, .ref (a 46))] rfl (by decide +kernel) rfl (Nat.le_of_ble_eq_true rfl) (WB_addr a c) ?_
  intro x C hK _ _ hDD kret
  have hlv := hI.lev
  refine z_iconst C dX9_findClashes_0 ?_
  refine z_istore_n C [(1, .int (zI 0)), (0, .ref (a 46))] dX9_findClashes_1 rfl (by decide) rfl ?_
  have L2_1 : ∀ (fu : Nat) (i : Int) (w : Int → Int), (0 ≤ i ∧ i ≤ u 3 4) → (∀ j : Int, 0 ≤ j → j < i → w j = ((bn (ckf (u 18) (u 3 6) (u 3 4) j) 8 : Nat) : Int)) → u 3 4 - i < (fu : Int) → Z x 0 0 (WB a c (us u 47 (w))) [(0, .ref (a 46)), (1, .int (zI i))] 2 [] := by
    intro fu
    induction fu with
    | zero => intro i w hi hw hm; exfalso; omega
    | succ fu ih2 =>
      intro i w hi hw hm
      refine z_iload_n C 1 dX9_findClashes_2 rfl ?_
      refine z_aload_n C 0 dX9_findClashes_3 rfl ?_
      refine z_get C hK (v := .ref (a 3)) inX9_findClashes_X9 46 (WB_46 a c ((us u 47 (w)))) rfl 0 (by decide) (List.mem_of_getElem? (i := 1) rfl) rfl dX9_findClashes_4 ?_
      refine z_getN C hK (v := .int (zI (u 3 4))) inX9_findClashes_X8 3 (WB_3 a c ((us u 47 (w)))) rfl 4 (by decide) (List.mem_of_getElem? (i := 53) rfl) rfl dX9_findClashes_7 ?_
      refine z_icmp_ge C 71 dX9_findClashes_10 (by decide) (by omega) (fun h2 => ?_) (fun h2 => ?_)
      · skip
        exact kret 0 (us u 47 w) _ _ (⟨w, rfl, fun j h0 h1 => hw j h0 (by omega)⟩) dX9_findClashes_71
      · skip
        refine z_aload_n C 0 dX9_findClashes_13 rfl ?_
        refine z_get C hK (v := .ref (a 47)) inX9_findClashes_X9 46 (WB_46 a c ((us u 47 (w)))) rfl 2 (by decide) (List.mem_of_getElem? (i := 2) rfl) rfl dX9_findClashes_14 ?_
        refine z_iload_n C 1 dX9_findClashes_17 rfl ?_
        refine z_iconst C dX9_findClashes_18 ?_
        refine z_iast C hK (hDD _) 0 (g := (us u 47 (w)) 47) 47 (WB_47 a c ((us u 47 (w)))) rfl (by decide) (by omega) (WB_47_set a c ((us u 47 (w))) i 0) dX9_findClashes_19 ?_
        refine z_iconst C dX9_findClashes_20 ?_
        refine z_istore_n C [(2, .int (zI 0)), (0, .ref (a 46)), (1, .int (zI i))] dX9_findClashes_21 rfl (by decide) rfl ?_
        have L22_3 : ∀ (fu : Nat) (k : Int) (v : Int → Int), (0 ≤ k ∧ k ≤ u 3 4) → (∀ j : Int, 0 ≤ j → j < i → v j = ((bn (ckf (u 18) (u 3 6) (u 3 4) j) 8 : Nat) : Int)) → (v i = ((bn (ckf (u 18) (u 3 6) (u 3 4) i) k.toNat : Nat) : Int)) → u 3 4 - k < (fu : Int) → Z x 0 0 (WB a c (us u 47 (v))) [(0, .ref (a 46)), (1, .int (zI i)), (2, .int (zI k))] 22 [] := by
          intro fu
          induction fu with
          | zero => intro k v hk hv hvi hm; exfalso; omega
          | succ fu ih22 =>
            intro k v hk hv hvi hm
            refine z_iload_n C 2 dX9_findClashes_22 rfl ?_
            refine z_aload_n C 0 dX9_findClashes_23 rfl ?_
            refine z_get C hK (v := .ref (a 3)) inX9_findClashes_X9 46 (WB_46 a c ((us u 47 (v)))) rfl 0 (by decide) (List.mem_of_getElem? (i := 1) rfl) rfl dX9_findClashes_24 ?_
            refine z_getN C hK (v := .int (zI (u 3 4))) inX9_findClashes_X8 3 (WB_3 a c ((us u 47 (v)))) rfl 4 (by decide) (List.mem_of_getElem? (i := 53) rfl) rfl dX9_findClashes_27 ?_
            refine z_icmp_ge C 65 dX9_findClashes_30 (by decide) (by omega) (fun h4 => ?_) (fun h4 => ?_)
            · skip
              refine z_iinc C 1 [(1, .int (zI (i + 1))), (0, .ref (a 46)), (2, .int (zI k))] dX9_findClashes_65 rfl (by decide) rfl ?_
              refine z_goto C 2 dX9_findClashes_68 (by decide) ?_
              refine z_lv [(0, .ref (a 46)), (1, .int (zI (i + 1)))] [1, 0] rfl ?_
              exact ih2 (i + 1) v (by omega) (fun j h0 h1 => by by_cases e : j = i; rw [e, hvi, show k = u 3 4 by omega, ck_end hlv]; exact hv j h0 (by omega)) (by omega)
            · skip
              refine z_iload_n C 1 dX9_findClashes_33 rfl ?_
              refine z_iload_n C 2 dX9_findClashes_34 rfl ?_
              refine z_icmp_eq C 59 dX9_findClashes_35 (by decide) (by omega) (fun h5 => ?_) (fun h5 => ?_)
              · have hcf : ckf (u 18) (u 3 6) (u 3 4) i k.toNat = false := ckf_eq hk.1 h5
                refine z_iinc C 2 [(2, .int (zI (k + 1))), (0, .ref (a 46)), (1, .int (zI i))] dX9_findClashes_59 rfl (by decide) rfl ?_
                refine z_goto C 22 dX9_findClashes_62 (by decide) ?_
                refine z_lv [(0, .ref (a 46)), (1, .int (zI i)), (2, .int (zI (k + 1)))] [1, 2, 0] rfl ?_
                exact ih22 (k + 1) v (by omega) (by first | exact hv | exact fun j h0 h1 => by show (if j = i then _ else v j) = _; rw [if_neg (by omega)]; exact hv j h0 h1) (by first | exact hvi.trans (bn_skipI hk.1 hcf) | (show (if i = i then _ else v i) = _; rw [if_pos rfl]; exact bn_stepI hk.1 hct)) (by omega)
              · skip
                refine z_aload_n C 0 dX9_findClashes_38 rfl ?_
                refine z_iload_n C 1 dX9_findClashes_39 rfl ?_
                refine z_iload_n C 2 dX9_findClashes_40 rfl ?_
                refine z_callV C hK hDD (c_X9_clashAtSomeWet (zl x) (zG x) a c ((us u 47 (v))) i k (hI) (show 0 ≤ i ∧ i ≤ 7 by omega) (show 0 ≤ k ∧ k ≤ 7 by omega)) gX9_findClashes_X9_clashAtSomeWet rfl zy_X9_clashAtSomeWet 46 (WB_46 a c ((us u 47 (v)))) rfl ⟨by omega, by decide⟩ rfl (Nat.le_of_ble_eq_true rfl) (st := []) (stk2 := fun z6 => [.int (zI z6)]) rfl (fun _ => rfl) dX9_findClashes_41 (fun z6 u7 h8 => ?_)
                rw [h8.1]; replace h8 := h8.2
                replace h8 : ((z6 = 1 ∧ clsh ((u 18)) ((u 3 6)) i k = true) ∨ (z6 = 0 ∧ clsh ((u 18)) ((u 3 6)) i k = false)) := h8
                have KCL := h8
                refine z_if_eq C 59 dX9_findClashes_44 (by decide) (by omega) (fun h9 => ?_) (fun h9 => ?_)
                · have hcf : ckf (u 18) (u 3 6) (u 3 4) i k.toNat = false := ckf_cl hk.1 (KCL.elim (fun q => absurd q.1 (by omega)) (fun q => q.2))
                  refine z_iinc C 2 [(2, .int (zI (k + 1))), (0, .ref (a 46)), (1, .int (zI i))] dX9_findClashes_59 rfl (by decide) rfl ?_
                  refine z_goto C 22 dX9_findClashes_62 (by decide) ?_
                  refine z_lv [(0, .ref (a 46)), (1, .int (zI i)), (2, .int (zI (k + 1)))] [1, 2, 0] rfl ?_
                  exact ih22 (k + 1) v (by omega) (by first | exact hv | exact fun j h0 h1 => by show (if j = i then _ else v j) = _; rw [if_neg (by omega)]; exact hv j h0 h1) (by first | exact hvi.trans (bn_skipI hk.1 hcf) | (show (if i = i then _ else v i) = _; rw [if_pos rfl]; exact bn_stepI hk.1 hct)) (by omega)
                · have hct : ckf (u 18) (u 3 6) (u 3 4) i k.toNat = true := ckf_t hk.1 (by omega) (by omega) (KCL.elim (fun q => q.2) (fun q => absurd q.1 (by omega)))
                  refine z_aload_n C 0 dX9_findClashes_47 rfl ?_
                  refine z_get C hK (v := .ref (a 47)) inX9_findClashes_X9 46 (WB_46 a c ((us u 47 (v)))) rfl 2 (by decide) (List.mem_of_getElem? (i := 2) rfl) rfl dX9_findClashes_48 ?_
                  refine z_iload_n C 1 dX9_findClashes_51 rfl ?_
                  refine z_dup2 C dX9_findClashes_52 rfl rfl ?_
                  refine z_iald C hK 0 (g := v) (i := i) 47 (WB_47 a c ((us u 47 (v)))) rfl (by decide) (by omega) dX9_findClashes_53 ?_
                  refine z_as (b := v (i)) rfl ?_
                  refine z_as (b := ((bn (ckf (u 18) (u 3 6) (u 3 4) i) k.toNat : Nat) : Int)) (hvi) ?_
                  refine z_iconst C dX9_findClashes_54 ?_
                  refine z_iload_n C 2 dX9_findClashes_55 rfl ?_
                  refine z_ishl C (((2 ^ k.toNat : Nat) : Int)) dX9_findClashes_56 (zI_1shl (by omega)) ?_
                  refine z_ior C (((bn (ckf (u 18) (u 3 6) (u 3 4) i) k.toNat ||| 2 ^ k.toNat : Nat) : Int)) dX9_findClashes_57 (zI_or _ _) ?_
                  refine z_iast C hK (hDD _) 0 (g := (us u 47 (v)) 47) 47 (WB_47 a c ((us u 47 (v)))) rfl (by decide) (by omega) (WB_47_set a c ((us u 47 (v))) i (((bn (ckf (u 18) (u 3 6) (u 3 4) i) k.toNat ||| 2 ^ k.toNat : Nat) : Int))) dX9_findClashes_58 ?_
                  refine z_iinc C 2 [(2, .int (zI (k + 1))), (0, .ref (a 46)), (1, .int (zI i))] dX9_findClashes_59 rfl (by decide) rfl ?_
                  refine z_goto C 22 dX9_findClashes_62 (by decide) ?_
                  refine z_lv [(0, .ref (a 46)), (1, .int (zI i)), (2, .int (zI (k + 1)))] [1, 2, 0] rfl ?_
                  exact ih22 (k + 1) (fun j => if j = i then ((bn (ckf (u 18) (u 3 6) (u 3 4) i) k.toNat ||| 2 ^ k.toNat : Nat) : Int) else v j) (by omega) (by first | exact hv | exact fun j h0 h1 => by show (if j = i then _ else v j) = _; rw [if_neg (by omega)]; exact hv j h0 h1) (by first | exact hvi.trans (bn_skipI hk.1 hcf) | (show (if i = i then _ else v i) = _; rw [if_pos rfl]; exact bn_stepI hk.1 hct)) (by omega)
        refine z_lv [(0, .ref (a 46)), (1, .int (zI i)), (2, .int (zI 0))] [1, 2, 0] rfl ?_
        exact L22_3 (((u 3 4 - 0 : Int)).toNat + 1) 0 (fun j => if j = i then 0 else w j) (by omega) (fun j h0 h1 => by show (if j = i then 0 else w j) = _; rw [if_neg (by omega)]; exact hw j h0 h1) (by show (if i = i then (0 : Int) else w i) = _; rw [if_pos rfl]; rfl) (by omega)
  refine z_lv [(0, .ref (a 46)), (1, .int (zI 0))] [1, 0] rfl ?_
  exact L2_1 (((u 3 4 - 0 : Int)).toNat + 1) 0 (u 47) (by omega) (fun j h0 h1 => absurd h1 (by omega)) (by omega)
-- NoteBells$Tuning.isClear
theorem inX9_isClear_X9 : ∀ w ∈ wsX90, w ∈ wsX9_isClear := fun w h => List.mem_cons_of_mem _ (List.mem_append_left _ (List.mem_append_right _ (h)))
theorem inX9_isClear_X8 : ∀ w ∈ wsX80, w ∈ wsX9_isClear := fun w h => List.mem_cons_of_mem _ (List.mem_append_right _ (h))
set_option maxHeartbeats 8000000 in
set_option maxRecDepth 100000 in
theorem c_X9_isClear (l : Launch) (D : va_G) (a : Nat → Nat) (c : Nat → ClassId) (u : zU) (bx : Nat) (hI : IB u) (hx : bx < 256) (hw : ∀ j : Int, 0 ≤ j → j < u 3 4 → u 47 j = ((bn (ckf (u 18) (u 3 6) (u 3 4) j) 8 : Nat) : Int)) : ZM l D (zTy c) (WB a c) yX9_isClear wsX9_isClear 1 [.ref (a 46), .int (zI (((bx : Nat) : Int)))] u rI (fun z u' => u' = u ∧ ((z = 1 ∧ free (u 18) (u 3 6) (u 3 4) bx = true) ∨ (z = 0 ∧ free (u 18) (u 3 6) (u 3 4) bx = false))) := by
  refine ZM.ofZ (cc := cX9_isClear) (maxL := 3) [(0, .ref (a 46)), (1, .int (zI (((bx : Nat) : Int))))] rfl (by decide +kernel) rfl (Nat.le_of_ble_eq_true rfl) (WB_addr a c) ?_
  intro x C hK _ _ hDD kret
  have hlv := hI.lev
  refine z_iconst C dX9_isClear_0 ?_
  refine z_istore_n C [(2, .int (zI 0)), (0, .ref (a 46)), (1, .int (zI (((bx : Nat) : Int))))] dX9_isClear_1 rfl (by decide) rfl ?_
  have L2_1 : ∀ (fu : Nat) (i : Int), (0 ≤ i ∧ i ≤ u 3 4) → (clr (u 18) (u 3 6) (u 3 4) bx i) → u 3 4 - i < (fu : Int) → Z x 0 0 (WB a c u) [(0, .ref (a 46)), (1, .int (zI (((bx : Nat) : Int)))), (2, .int (zI i))] 2 [] := by
    intro fu
    induction fu with
    | zero => intro i hi hn hm; exfalso; omega
    | succ fu ih2 =>
      intro i hi hn hm
      refine z_iload_n C 2 dX9_isClear_2 rfl ?_
      refine z_aload_n C 0 dX9_isClear_3 rfl ?_
      refine z_get C hK (v := .ref (a 3)) inX9_isClear_X9 46 (WB_46 a c u) rfl 0 (by decide) (List.mem_of_getElem? (i := 1) rfl) rfl dX9_isClear_4 ?_
      refine z_getN C hK (v := .int (zI (u 3 4))) inX9_isClear_X8 3 (WB_3 a c u) rfl 4 (by decide) (List.mem_of_getElem? (i := 53) rfl) rfl dX9_isClear_7 ?_
      refine z_icmp_ge C 41 dX9_isClear_10 (by decide) (by omega) (fun h2 => ?_) (fun h2 => ?_)
      · skip
        refine z_iconst C dX9_isClear_41 ?_
        exact kret 1 u _ _ (⟨rfl, Or.inl ⟨rfl, clr_end hn (by omega)⟩⟩) (by omega) dX9_isClear_42
      · skip
        refine z_iload_n C 1 dX9_isClear_13 rfl ?_
        refine z_iload_n C 2 dX9_isClear_14 rfl ?_
        refine z_ishr C (((bx >>> i.toNat : Nat) : Int)) dX9_isClear_15 (zI_shrN (by omega) (by omega)) ?_
        refine z_iconst C dX9_isClear_16 ?_
        refine z_iand C ((if bx.testBit i.toNat = true then 1 else 0)) dX9_isClear_17 (tb_bit hi.1) ?_
        refine z_iconst C dX9_isClear_18 ?_
        refine z_icmp_ne C 35 dX9_isClear_19 (by decide) (by split <;> omega) (fun h3 => ?_) (fun h3 => ?_)
        · have htb := ite01_n1 h3
          refine z_iinc C 2 [(2, .int (zI (i + 1))), (0, .ref (a 46)), (1, .int (zI (((bx : Nat) : Int))))] dX9_isClear_35 rfl (by decide) rfl ?_
          refine z_goto C 2 dX9_isClear_38 (by decide) ?_
          refine z_lv [(0, .ref (a 46)), (1, .int (zI (((bx : Nat) : Int)))), (2, .int (zI (i + 1)))] [1, 2, 0] rfl ?_
          exact ih2 (i + 1) (by omega) (clr_step hi.1 hn (by first | exact fun q => absurd (htb.symm.trans q) (by decide) | exact fun _ => (ck_and hx).mp (by omega))) (by omega)
        · have htb1 := ite01_1 h3
          refine z_aload_n C 0 dX9_isClear_22 rfl ?_
          refine z_get C hK (v := .ref (a 47)) inX9_isClear_X9 46 (WB_46 a c u) rfl 2 (by decide) (List.mem_of_getElem? (i := 2) rfl) rfl dX9_isClear_23 ?_
          refine z_iload_n C 2 dX9_isClear_26 rfl ?_
          refine z_iald C hK 0 (g := (u 47)) (i := i) 47 (WB_47 a c u) rfl (by decide) (by omega) dX9_isClear_27 ?_
          refine z_as (b := u 47 (i)) rfl ?_
          refine z_as (b := ((bn (ckf (u 18) (u 3 6) (u 3 4) i) 8 : Nat) : Int)) (hw i hi.1 (by omega)) ?_
          refine z_iload_n C 1 dX9_isClear_28 rfl ?_
          refine z_iand C (((bn (ckf (u 18) (u 3 6) (u 3 4) i) 8 &&& bx : Nat) : Int)) dX9_isClear_29 (zI_and _ _) ?_
          refine z_if_eq C 35 dX9_isClear_30 (by decide) (by have := @Nat.and_le_right (bn (ckf (u 18) (u 3 6) (u 3 4) i) 8) bx; omega) (fun h4 => ?_) (fun h4 => ?_)
          · skip
            refine z_iinc C 2 [(2, .int (zI (i + 1))), (0, .ref (a 46)), (1, .int (zI (((bx : Nat) : Int))))] dX9_isClear_35 rfl (by decide) rfl ?_
            refine z_goto C 2 dX9_isClear_38 (by decide) ?_
            refine z_lv [(0, .ref (a 46)), (1, .int (zI (((bx : Nat) : Int)))), (2, .int (zI (i + 1)))] [1, 2, 0] rfl ?_
            exact ih2 (i + 1) (by omega) (clr_step hi.1 hn (by first | exact fun q => absurd (htb.symm.trans q) (by decide) | exact fun _ => (ck_and hx).mp (by omega))) (by omega)
          · have HLAST := h4
            refine z_iconst C dX9_isClear_33 ?_
            exact kret 0 u _ _ (⟨rfl, Or.inr ⟨rfl, clr_no hx (by omega) htb1 HLAST⟩⟩) (by omega) dX9_isClear_34
  refine z_lv [(0, .ref (a 46)), (1, .int (zI (((bx : Nat) : Int)))), (2, .int (zI 0))] [1, 2, 0] rfl ?_
  exact L2_1 (((u 3 4 - 0 : Int)).toNat + 1) 0 (by omega) (fun a ha => absurd ha (by omega)) (by omega)
-- java/lang/Integer.bitCount
set_option maxHeartbeats 8000000 in
set_option maxRecDepth 100000 in
theorem c_J6_bitCount_0f7a4 (l : Launch) (D : va_G) {tys : List (ClassId × FieldType)} {S : Type} (WW : S → va_W) (hWW : ∀ u u' : S, (WW u).map (fun q => q.1) = (WW u').map (fun q => q.1)) (u : S) (bx : Nat) (hx : bx < 256) : ZM l D tys WW yJ6_bitCount_0f7a4 wsJ6_bitCount_0f7a4 1 [.int (zI (((bx : Nat) : Int)))] u rI (fun z u' => u' = u ∧ z = pcn bx) := by
  refine ZM.ofI (cc := cJ6_bitCount_0f7a4) (maxL := 1) [(0, .int (zI (((bx : Nat) : Int))))] rfl (by decide +kernel) rfl (Nat.le_of_ble_eq_true rfl) hWW ?_
  intro x C hK _ _ hDD kret
  refine z_iload_n C 0 dJ6_bitCount_0f7a4_0 rfl ?_
  refine z_iload_n C 0 dJ6_bitCount_0f7a4_1 rfl ?_
  refine z_iconst C dJ6_bitCount_0f7a4_2 ?_
  refine z_iushr C ((((zI (((bx : Nat) : Int))).toUInt32 >>> ((zI 1).toUInt32 &&& Int32.toUInt32 31)).toInt32).toInt) dJ6_bitCount_0f7a4_3 (zI_of _) ?_
  refine z_ldcw C (v := 1431655765) (z := 1431655765) (by decide) (List.mem_of_getElem? (i := 1) rfl) dJ6_bitCount_0f7a4_4 ?_
  refine z_iand C ((zI ((((zI (((bx : Nat) : Int))).toUInt32 >>> ((zI 1).toUInt32 &&& Int32.toUInt32 31)).toInt32).toInt) &&& zI 1431655765).toInt) dJ6_bitCount_0f7a4_7 (zI_of _) ?_
  refine z_isub C dJ6_bitCount_0f7a4_8 ?_
  refine z_istore_n C [(0, .int (zI ((((bx : Nat) : Int)) - ((zI ((((zI (((bx : Nat) : Int))).toUInt32 >>> ((zI 1).toUInt32 &&& Int32.toUInt32 31)).toInt32).toInt) &&& zI 1431655765).toInt))))] dJ6_bitCount_0f7a4_9 rfl (by decide) rfl ?_
  refine z_iload_n C 0 dJ6_bitCount_0f7a4_10 rfl ?_
  refine z_ldcw C (v := 858993459) (z := 858993459) (by decide) (List.mem_of_getElem? (i := 2) rfl) dJ6_bitCount_0f7a4_11 ?_
  refine z_iand C ((zI ((((bx : Nat) : Int)) - ((zI ((((zI (((bx : Nat) : Int))).toUInt32 >>> ((zI 1).toUInt32 &&& Int32.toUInt32 31)).toInt32).toInt) &&& zI 1431655765).toInt)) &&& zI 858993459).toInt) dJ6_bitCount_0f7a4_14 (zI_of _) ?_
  refine z_iload_n C 0 dJ6_bitCount_0f7a4_15 rfl ?_
  refine z_iconst C dJ6_bitCount_0f7a4_16 ?_
  refine z_iushr C ((((zI ((((bx : Nat) : Int)) - ((zI ((((zI (((bx : Nat) : Int))).toUInt32 >>> ((zI 1).toUInt32 &&& Int32.toUInt32 31)).toInt32).toInt) &&& zI 1431655765).toInt))).toUInt32 >>> ((zI 2).toUInt32 &&& Int32.toUInt32 31)).toInt32).toInt) dJ6_bitCount_0f7a4_17 (zI_of _) ?_
  refine z_ldcw C (v := 858993459) (z := 858993459) (by decide) (List.mem_of_getElem? (i := 2) rfl) dJ6_bitCount_0f7a4_18 ?_
  refine z_iand C ((zI ((((zI ((((bx : Nat) : Int)) - ((zI ((((zI (((bx : Nat) : Int))).toUInt32 >>> ((zI 1).toUInt32 &&& Int32.toUInt32 31)).toInt32).toInt) &&& zI 1431655765).toInt))).toUInt32 >>> ((zI 2).toUInt32 &&& Int32.toUInt32 31)).toInt32).toInt) &&& zI 858993459).toInt) dJ6_bitCount_0f7a4_21 (zI_of _) ?_
  refine z_iadd C dJ6_bitCount_0f7a4_22 ?_
  refine z_istore_n C [(0, .int (zI (((zI ((((bx : Nat) : Int)) - ((zI ((((zI (((bx : Nat) : Int))).toUInt32 >>> ((zI 1).toUInt32 &&& Int32.toUInt32 31)).toInt32).toInt) &&& zI 1431655765).toInt)) &&& zI 858993459).toInt) + ((zI ((((zI ((((bx : Nat) : Int)) - ((zI ((((zI (((bx : Nat) : Int))).toUInt32 >>> ((zI 1).toUInt32 &&& Int32.toUInt32 31)).toInt32).toInt) &&& zI 1431655765).toInt))).toUInt32 >>> ((zI 2).toUInt32 &&& Int32.toUInt32 31)).toInt32).toInt) &&& zI 858993459).toInt))))] dJ6_bitCount_0f7a4_23 rfl (by decide) rfl ?_
  refine z_iload_n C 0 dJ6_bitCount_0f7a4_24 rfl ?_
  refine z_iload_n C 0 dJ6_bitCount_0f7a4_25 rfl ?_
  refine z_iconst C dJ6_bitCount_0f7a4_26 ?_
  refine z_iushr C ((((zI (((zI ((((bx : Nat) : Int)) - ((zI ((((zI (((bx : Nat) : Int))).toUInt32 >>> ((zI 1).toUInt32 &&& Int32.toUInt32 31)).toInt32).toInt) &&& zI 1431655765).toInt)) &&& zI 858993459).toInt) + ((zI ((((zI ((((bx : Nat) : Int)) - ((zI ((((zI (((bx : Nat) : Int))).toUInt32 >>> ((zI 1).toUInt32 &&& Int32.toUInt32 31)).toInt32).toInt) &&& zI 1431655765).toInt))).toUInt32 >>> ((zI 2).toUInt32 &&& Int32.toUInt32 31)).toInt32).toInt) &&& zI 858993459).toInt))).toUInt32 >>> ((zI 4).toUInt32 &&& Int32.toUInt32 31)).toInt32).toInt) dJ6_bitCount_0f7a4_27 (zI_of _) ?_
  refine z_iadd C dJ6_bitCount_0f7a4_28 ?_
  refine z_ldcw C (v := 252645135) (z := 252645135) (by decide) (List.mem_of_getElem? (i := 3) rfl) dJ6_bitCount_0f7a4_29 ?_
  refine z_iand C ((zI ((((zI ((((bx : Nat) : Int)) - ((zI ((((zI (((bx : Nat) : Int))).toUInt32 >>> ((zI 1).toUInt32 &&& Int32.toUInt32 31)).toInt32).toInt) &&& zI 1431655765).toInt)) &&& zI 858993459).toInt) + ((zI ((((zI ((((bx : Nat) : Int)) - ((zI ((((zI (((bx : Nat) : Int))).toUInt32 >>> ((zI 1).toUInt32 &&& Int32.toUInt32 31)).toInt32).toInt) &&& zI 1431655765).toInt))).toUInt32 >>> ((zI 2).toUInt32 &&& Int32.toUInt32 31)).toInt32).toInt) &&& zI 858993459).toInt)) + ((((zI (((zI ((((bx : Nat) : Int)) - ((zI ((((zI (((bx : Nat) : Int))).toUInt32 >>> ((zI 1).toUInt32 &&& Int32.toUInt32 31)).toInt32).toInt) &&& zI 1431655765).toInt)) &&& zI 858993459).toInt) + ((zI ((((zI ((((bx : Nat) : Int)) - ((zI ((((zI (((bx : Nat) : Int))).toUInt32 >>> ((zI 1).toUInt32 &&& Int32.toUInt32 31)).toInt32).toInt) &&& zI 1431655765).toInt))).toUInt32 >>> ((zI 2).toUInt32 &&& Int32.toUInt32 31)).toInt32).toInt) &&& zI 858993459).toInt))).toUInt32 >>> ((zI 4).toUInt32 &&& Int32.toUInt32 31)).toInt32).toInt)) &&& zI 252645135).toInt) dJ6_bitCount_0f7a4_32 (zI_of _) ?_
  refine z_istore_n C [(0, .int (zI ((zI ((((zI ((((bx : Nat) : Int)) - ((zI ((((zI (((bx : Nat) : Int))).toUInt32 >>> ((zI 1).toUInt32 &&& Int32.toUInt32 31)).toInt32).toInt) &&& zI 1431655765).toInt)) &&& zI 858993459).toInt) + ((zI ((((zI ((((bx : Nat) : Int)) - ((zI ((((zI (((bx : Nat) : Int))).toUInt32 >>> ((zI 1).toUInt32 &&& Int32.toUInt32 31)).toInt32).toInt) &&& zI 1431655765).toInt))).toUInt32 >>> ((zI 2).toUInt32 &&& Int32.toUInt32 31)).toInt32).toInt) &&& zI 858993459).toInt)) + ((((zI (((zI ((((bx : Nat) : Int)) - ((zI ((((zI (((bx : Nat) : Int))).toUInt32 >>> ((zI 1).toUInt32 &&& Int32.toUInt32 31)).toInt32).toInt) &&& zI 1431655765).toInt)) &&& zI 858993459).toInt) + ((zI ((((zI ((((bx : Nat) : Int)) - ((zI ((((zI (((bx : Nat) : Int))).toUInt32 >>> ((zI 1).toUInt32 &&& Int32.toUInt32 31)).toInt32).toInt) &&& zI 1431655765).toInt))).toUInt32 >>> ((zI 2).toUInt32 &&& Int32.toUInt32 31)).toInt32).toInt) &&& zI 858993459).toInt))).toUInt32 >>> ((zI 4).toUInt32 &&& Int32.toUInt32 31)).toInt32).toInt)) &&& zI 252645135).toInt)))] dJ6_bitCount_0f7a4_33 rfl (by decide) rfl ?_
  refine z_iload_n C 0 dJ6_bitCount_0f7a4_34 rfl ?_
  refine z_iload_n C 0 dJ6_bitCount_0f7a4_35 rfl ?_
  refine z_bipush C dJ6_bitCount_0f7a4_36 (by decide) ?_
  refine z_iushr C ((((zI ((zI ((((zI ((((bx : Nat) : Int)) - ((zI ((((zI (((bx : Nat) : Int))).toUInt32 >>> ((zI 1).toUInt32 &&& Int32.toUInt32 31)).toInt32).toInt) &&& zI 1431655765).toInt)) &&& zI 858993459).toInt) + ((zI ((((zI ((((bx : Nat) : Int)) - ((zI ((((zI (((bx : Nat) : Int))).toUInt32 >>> ((zI 1).toUInt32 &&& Int32.toUInt32 31)).toInt32).toInt) &&& zI 1431655765).toInt))).toUInt32 >>> ((zI 2).toUInt32 &&& Int32.toUInt32 31)).toInt32).toInt) &&& zI 858993459).toInt)) + ((((zI (((zI ((((bx : Nat) : Int)) - ((zI ((((zI (((bx : Nat) : Int))).toUInt32 >>> ((zI 1).toUInt32 &&& Int32.toUInt32 31)).toInt32).toInt) &&& zI 1431655765).toInt)) &&& zI 858993459).toInt) + ((zI ((((zI ((((bx : Nat) : Int)) - ((zI ((((zI (((bx : Nat) : Int))).toUInt32 >>> ((zI 1).toUInt32 &&& Int32.toUInt32 31)).toInt32).toInt) &&& zI 1431655765).toInt))).toUInt32 >>> ((zI 2).toUInt32 &&& Int32.toUInt32 31)).toInt32).toInt) &&& zI 858993459).toInt))).toUInt32 >>> ((zI 4).toUInt32 &&& Int32.toUInt32 31)).toInt32).toInt)) &&& zI 252645135).toInt)).toUInt32 >>> ((zI 8).toUInt32 &&& Int32.toUInt32 31)).toInt32).toInt) dJ6_bitCount_0f7a4_38 (zI_of _) ?_
  refine z_iadd C dJ6_bitCount_0f7a4_39 ?_
  refine z_istore_n C [(0, .int (zI (((zI ((((zI ((((bx : Nat) : Int)) - ((zI ((((zI (((bx : Nat) : Int))).toUInt32 >>> ((zI 1).toUInt32 &&& Int32.toUInt32 31)).toInt32).toInt) &&& zI 1431655765).toInt)) &&& zI 858993459).toInt) + ((zI ((((zI ((((bx : Nat) : Int)) - ((zI ((((zI (((bx : Nat) : Int))).toUInt32 >>> ((zI 1).toUInt32 &&& Int32.toUInt32 31)).toInt32).toInt) &&& zI 1431655765).toInt))).toUInt32 >>> ((zI 2).toUInt32 &&& Int32.toUInt32 31)).toInt32).toInt) &&& zI 858993459).toInt)) + ((((zI (((zI ((((bx : Nat) : Int)) - ((zI ((((zI (((bx : Nat) : Int))).toUInt32 >>> ((zI 1).toUInt32 &&& Int32.toUInt32 31)).toInt32).toInt) &&& zI 1431655765).toInt)) &&& zI 858993459).toInt) + ((zI ((((zI ((((bx : Nat) : Int)) - ((zI ((((zI (((bx : Nat) : Int))).toUInt32 >>> ((zI 1).toUInt32 &&& Int32.toUInt32 31)).toInt32).toInt) &&& zI 1431655765).toInt))).toUInt32 >>> ((zI 2).toUInt32 &&& Int32.toUInt32 31)).toInt32).toInt) &&& zI 858993459).toInt))).toUInt32 >>> ((zI 4).toUInt32 &&& Int32.toUInt32 31)).toInt32).toInt)) &&& zI 252645135).toInt) + ((((zI ((zI ((((zI ((((bx : Nat) : Int)) - ((zI ((((zI (((bx : Nat) : Int))).toUInt32 >>> ((zI 1).toUInt32 &&& Int32.toUInt32 31)).toInt32).toInt) &&& zI 1431655765).toInt)) &&& zI 858993459).toInt) + ((zI ((((zI ((((bx : Nat) : Int)) - ((zI ((((zI (((bx : Nat) : Int))).toUInt32 >>> ((zI 1).toUInt32 &&& Int32.toUInt32 31)).toInt32).toInt) &&& zI 1431655765).toInt))).toUInt32 >>> ((zI 2).toUInt32 &&& Int32.toUInt32 31)).toInt32).toInt) &&& zI 858993459).toInt)) + ((((zI (((zI ((((bx : Nat) : Int)) - ((zI ((((zI (((bx : Nat) : Int))).toUInt32 >>> ((zI 1).toUInt32 &&& Int32.toUInt32 31)).toInt32).toInt) &&& zI 1431655765).toInt)) &&& zI 858993459).toInt) + ((zI ((((zI ((((bx : Nat) : Int)) - ((zI ((((zI (((bx : Nat) : Int))).toUInt32 >>> ((zI 1).toUInt32 &&& Int32.toUInt32 31)).toInt32).toInt) &&& zI 1431655765).toInt))).toUInt32 >>> ((zI 2).toUInt32 &&& Int32.toUInt32 31)).toInt32).toInt) &&& zI 858993459).toInt))).toUInt32 >>> ((zI 4).toUInt32 &&& Int32.toUInt32 31)).toInt32).toInt)) &&& zI 252645135).toInt)).toUInt32 >>> ((zI 8).toUInt32 &&& Int32.toUInt32 31)).toInt32).toInt))))] dJ6_bitCount_0f7a4_40 rfl (by decide) rfl ?_
  refine z_iload_n C 0 dJ6_bitCount_0f7a4_41 rfl ?_
  refine z_iload_n C 0 dJ6_bitCount_0f7a4_42 rfl ?_
  refine z_bipush C dJ6_bitCount_0f7a4_43 (by decide) ?_
  refine z_iushr C ((((zI (((zI ((((zI ((((bx : Nat) : Int)) - ((zI ((((zI (((bx : Nat) : Int))).toUInt32 >>> ((zI 1).toUInt32 &&& Int32.toUInt32 31)).toInt32).toInt) &&& zI 1431655765).toInt)) &&& zI 858993459).toInt) + ((zI ((((zI ((((bx : Nat) : Int)) - ((zI ((((zI (((bx : Nat) : Int))).toUInt32 >>> ((zI 1).toUInt32 &&& Int32.toUInt32 31)).toInt32).toInt) &&& zI 1431655765).toInt))).toUInt32 >>> ((zI 2).toUInt32 &&& Int32.toUInt32 31)).toInt32).toInt) &&& zI 858993459).toInt)) + ((((zI (((zI ((((bx : Nat) : Int)) - ((zI ((((zI (((bx : Nat) : Int))).toUInt32 >>> ((zI 1).toUInt32 &&& Int32.toUInt32 31)).toInt32).toInt) &&& zI 1431655765).toInt)) &&& zI 858993459).toInt) + ((zI ((((zI ((((bx : Nat) : Int)) - ((zI ((((zI (((bx : Nat) : Int))).toUInt32 >>> ((zI 1).toUInt32 &&& Int32.toUInt32 31)).toInt32).toInt) &&& zI 1431655765).toInt))).toUInt32 >>> ((zI 2).toUInt32 &&& Int32.toUInt32 31)).toInt32).toInt) &&& zI 858993459).toInt))).toUInt32 >>> ((zI 4).toUInt32 &&& Int32.toUInt32 31)).toInt32).toInt)) &&& zI 252645135).toInt) + ((((zI ((zI ((((zI ((((bx : Nat) : Int)) - ((zI ((((zI (((bx : Nat) : Int))).toUInt32 >>> ((zI 1).toUInt32 &&& Int32.toUInt32 31)).toInt32).toInt) &&& zI 1431655765).toInt)) &&& zI 858993459).toInt) + ((zI ((((zI ((((bx : Nat) : Int)) - ((zI ((((zI (((bx : Nat) : Int))).toUInt32 >>> ((zI 1).toUInt32 &&& Int32.toUInt32 31)).toInt32).toInt) &&& zI 1431655765).toInt))).toUInt32 >>> ((zI 2).toUInt32 &&& Int32.toUInt32 31)).toInt32).toInt) &&& zI 858993459).toInt)) + ((((zI (((zI ((((bx : Nat) : Int)) - ((zI ((((zI (((bx : Nat) : Int))).toUInt32 >>> ((zI 1).toUInt32 &&& Int32.toUInt32 31)).toInt32).toInt) &&& zI 1431655765).toInt)) &&& zI 858993459).toInt) + ((zI ((((zI ((((bx : Nat) : Int)) - ((zI ((((zI (((bx : Nat) : Int))).toUInt32 >>> ((zI 1).toUInt32 &&& Int32.toUInt32 31)).toInt32).toInt) &&& zI 1431655765).toInt))).toUInt32 >>> ((zI 2).toUInt32 &&& Int32.toUInt32 31)).toInt32).toInt) &&& zI 858993459).toInt))).toUInt32 >>> ((zI 4).toUInt32 &&& Int32.toUInt32 31)).toInt32).toInt)) &&& zI 252645135).toInt)).toUInt32 >>> ((zI 8).toUInt32 &&& Int32.toUInt32 31)).toInt32).toInt))).toUInt32 >>> ((zI 16).toUInt32 &&& Int32.toUInt32 31)).toInt32).toInt) dJ6_bitCount_0f7a4_45 (zI_of _) ?_
  refine z_iadd C dJ6_bitCount_0f7a4_46 ?_
  refine z_istore_n C [(0, .int (zI ((((zI ((((zI ((((bx : Nat) : Int)) - ((zI ((((zI (((bx : Nat) : Int))).toUInt32 >>> ((zI 1).toUInt32 &&& Int32.toUInt32 31)).toInt32).toInt) &&& zI 1431655765).toInt)) &&& zI 858993459).toInt) + ((zI ((((zI ((((bx : Nat) : Int)) - ((zI ((((zI (((bx : Nat) : Int))).toUInt32 >>> ((zI 1).toUInt32 &&& Int32.toUInt32 31)).toInt32).toInt) &&& zI 1431655765).toInt))).toUInt32 >>> ((zI 2).toUInt32 &&& Int32.toUInt32 31)).toInt32).toInt) &&& zI 858993459).toInt)) + ((((zI (((zI ((((bx : Nat) : Int)) - ((zI ((((zI (((bx : Nat) : Int))).toUInt32 >>> ((zI 1).toUInt32 &&& Int32.toUInt32 31)).toInt32).toInt) &&& zI 1431655765).toInt)) &&& zI 858993459).toInt) + ((zI ((((zI ((((bx : Nat) : Int)) - ((zI ((((zI (((bx : Nat) : Int))).toUInt32 >>> ((zI 1).toUInt32 &&& Int32.toUInt32 31)).toInt32).toInt) &&& zI 1431655765).toInt))).toUInt32 >>> ((zI 2).toUInt32 &&& Int32.toUInt32 31)).toInt32).toInt) &&& zI 858993459).toInt))).toUInt32 >>> ((zI 4).toUInt32 &&& Int32.toUInt32 31)).toInt32).toInt)) &&& zI 252645135).toInt) + ((((zI ((zI ((((zI ((((bx : Nat) : Int)) - ((zI ((((zI (((bx : Nat) : Int))).toUInt32 >>> ((zI 1).toUInt32 &&& Int32.toUInt32 31)).toInt32).toInt) &&& zI 1431655765).toInt)) &&& zI 858993459).toInt) + ((zI ((((zI ((((bx : Nat) : Int)) - ((zI ((((zI (((bx : Nat) : Int))).toUInt32 >>> ((zI 1).toUInt32 &&& Int32.toUInt32 31)).toInt32).toInt) &&& zI 1431655765).toInt))).toUInt32 >>> ((zI 2).toUInt32 &&& Int32.toUInt32 31)).toInt32).toInt) &&& zI 858993459).toInt)) + ((((zI (((zI ((((bx : Nat) : Int)) - ((zI ((((zI (((bx : Nat) : Int))).toUInt32 >>> ((zI 1).toUInt32 &&& Int32.toUInt32 31)).toInt32).toInt) &&& zI 1431655765).toInt)) &&& zI 858993459).toInt) + ((zI ((((zI ((((bx : Nat) : Int)) - ((zI ((((zI (((bx : Nat) : Int))).toUInt32 >>> ((zI 1).toUInt32 &&& Int32.toUInt32 31)).toInt32).toInt) &&& zI 1431655765).toInt))).toUInt32 >>> ((zI 2).toUInt32 &&& Int32.toUInt32 31)).toInt32).toInt) &&& zI 858993459).toInt))).toUInt32 >>> ((zI 4).toUInt32 &&& Int32.toUInt32 31)).toInt32).toInt)) &&& zI 252645135).toInt)).toUInt32 >>> ((zI 8).toUInt32 &&& Int32.toUInt32 31)).toInt32).toInt)) + ((((zI (((zI ((((zI ((((bx : Nat) : Int)) - ((zI ((((zI (((bx : Nat) : Int))).toUInt32 >>> ((zI 1).toUInt32 &&& Int32.toUInt32 31)).toInt32).toInt) &&& zI 1431655765).toInt)) &&& zI 858993459).toInt) + ((zI ((((zI ((((bx : Nat) : Int)) - ((zI ((((zI (((bx : Nat) : Int))).toUInt32 >>> ((zI 1).toUInt32 &&& Int32.toUInt32 31)).toInt32).toInt) &&& zI 1431655765).toInt))).toUInt32 >>> ((zI 2).toUInt32 &&& Int32.toUInt32 31)).toInt32).toInt) &&& zI 858993459).toInt)) + ((((zI (((zI ((((bx : Nat) : Int)) - ((zI ((((zI (((bx : Nat) : Int))).toUInt32 >>> ((zI 1).toUInt32 &&& Int32.toUInt32 31)).toInt32).toInt) &&& zI 1431655765).toInt)) &&& zI 858993459).toInt) + ((zI ((((zI ((((bx : Nat) : Int)) - ((zI ((((zI (((bx : Nat) : Int))).toUInt32 >>> ((zI 1).toUInt32 &&& Int32.toUInt32 31)).toInt32).toInt) &&& zI 1431655765).toInt))).toUInt32 >>> ((zI 2).toUInt32 &&& Int32.toUInt32 31)).toInt32).toInt) &&& zI 858993459).toInt))).toUInt32 >>> ((zI 4).toUInt32 &&& Int32.toUInt32 31)).toInt32).toInt)) &&& zI 252645135).toInt) + ((((zI ((zI ((((zI ((((bx : Nat) : Int)) - ((zI ((((zI (((bx : Nat) : Int))).toUInt32 >>> ((zI 1).toUInt32 &&& Int32.toUInt32 31)).toInt32).toInt) &&& zI 1431655765).toInt)) &&& zI 858993459).toInt) + ((zI ((((zI ((((bx : Nat) : Int)) - ((zI ((((zI (((bx : Nat) : Int))).toUInt32 >>> ((zI 1).toUInt32 &&& Int32.toUInt32 31)).toInt32).toInt) &&& zI 1431655765).toInt))).toUInt32 >>> ((zI 2).toUInt32 &&& Int32.toUInt32 31)).toInt32).toInt) &&& zI 858993459).toInt)) + ((((zI (((zI ((((bx : Nat) : Int)) - ((zI ((((zI (((bx : Nat) : Int))).toUInt32 >>> ((zI 1).toUInt32 &&& Int32.toUInt32 31)).toInt32).toInt) &&& zI 1431655765).toInt)) &&& zI 858993459).toInt) + ((zI ((((zI ((((bx : Nat) : Int)) - ((zI ((((zI (((bx : Nat) : Int))).toUInt32 >>> ((zI 1).toUInt32 &&& Int32.toUInt32 31)).toInt32).toInt) &&& zI 1431655765).toInt))).toUInt32 >>> ((zI 2).toUInt32 &&& Int32.toUInt32 31)).toInt32).toInt) &&& zI 858993459).toInt))).toUInt32 >>> ((zI 4).toUInt32 &&& Int32.toUInt32 31)).toInt32).toInt)) &&& zI 252645135).toInt)).toUInt32 >>> ((zI 8).toUInt32 &&& Int32.toUInt32 31)).toInt32).toInt))).toUInt32 >>> ((zI 16).toUInt32 &&& Int32.toUInt32 31)).toInt32).toInt))))] dJ6_bitCount_0f7a4_47 rfl (by decide) rfl ?_
  refine z_iload_n C 0 dJ6_bitCount_0f7a4_48 rfl ?_
  refine z_bipush C dJ6_bitCount_0f7a4_49 (by decide) ?_
  refine z_iand C ((zI ((((zI ((((zI ((((bx : Nat) : Int)) - ((zI ((((zI (((bx : Nat) : Int))).toUInt32 >>> ((zI 1).toUInt32 &&& Int32.toUInt32 31)).toInt32).toInt) &&& zI 1431655765).toInt)) &&& zI 858993459).toInt) + ((zI ((((zI ((((bx : Nat) : Int)) - ((zI ((((zI (((bx : Nat) : Int))).toUInt32 >>> ((zI 1).toUInt32 &&& Int32.toUInt32 31)).toInt32).toInt) &&& zI 1431655765).toInt))).toUInt32 >>> ((zI 2).toUInt32 &&& Int32.toUInt32 31)).toInt32).toInt) &&& zI 858993459).toInt)) + ((((zI (((zI ((((bx : Nat) : Int)) - ((zI ((((zI (((bx : Nat) : Int))).toUInt32 >>> ((zI 1).toUInt32 &&& Int32.toUInt32 31)).toInt32).toInt) &&& zI 1431655765).toInt)) &&& zI 858993459).toInt) + ((zI ((((zI ((((bx : Nat) : Int)) - ((zI ((((zI (((bx : Nat) : Int))).toUInt32 >>> ((zI 1).toUInt32 &&& Int32.toUInt32 31)).toInt32).toInt) &&& zI 1431655765).toInt))).toUInt32 >>> ((zI 2).toUInt32 &&& Int32.toUInt32 31)).toInt32).toInt) &&& zI 858993459).toInt))).toUInt32 >>> ((zI 4).toUInt32 &&& Int32.toUInt32 31)).toInt32).toInt)) &&& zI 252645135).toInt) + ((((zI ((zI ((((zI ((((bx : Nat) : Int)) - ((zI ((((zI (((bx : Nat) : Int))).toUInt32 >>> ((zI 1).toUInt32 &&& Int32.toUInt32 31)).toInt32).toInt) &&& zI 1431655765).toInt)) &&& zI 858993459).toInt) + ((zI ((((zI ((((bx : Nat) : Int)) - ((zI ((((zI (((bx : Nat) : Int))).toUInt32 >>> ((zI 1).toUInt32 &&& Int32.toUInt32 31)).toInt32).toInt) &&& zI 1431655765).toInt))).toUInt32 >>> ((zI 2).toUInt32 &&& Int32.toUInt32 31)).toInt32).toInt) &&& zI 858993459).toInt)) + ((((zI (((zI ((((bx : Nat) : Int)) - ((zI ((((zI (((bx : Nat) : Int))).toUInt32 >>> ((zI 1).toUInt32 &&& Int32.toUInt32 31)).toInt32).toInt) &&& zI 1431655765).toInt)) &&& zI 858993459).toInt) + ((zI ((((zI ((((bx : Nat) : Int)) - ((zI ((((zI (((bx : Nat) : Int))).toUInt32 >>> ((zI 1).toUInt32 &&& Int32.toUInt32 31)).toInt32).toInt) &&& zI 1431655765).toInt))).toUInt32 >>> ((zI 2).toUInt32 &&& Int32.toUInt32 31)).toInt32).toInt) &&& zI 858993459).toInt))).toUInt32 >>> ((zI 4).toUInt32 &&& Int32.toUInt32 31)).toInt32).toInt)) &&& zI 252645135).toInt)).toUInt32 >>> ((zI 8).toUInt32 &&& Int32.toUInt32 31)).toInt32).toInt)) + ((((zI (((zI ((((zI ((((bx : Nat) : Int)) - ((zI ((((zI (((bx : Nat) : Int))).toUInt32 >>> ((zI 1).toUInt32 &&& Int32.toUInt32 31)).toInt32).toInt) &&& zI 1431655765).toInt)) &&& zI 858993459).toInt) + ((zI ((((zI ((((bx : Nat) : Int)) - ((zI ((((zI (((bx : Nat) : Int))).toUInt32 >>> ((zI 1).toUInt32 &&& Int32.toUInt32 31)).toInt32).toInt) &&& zI 1431655765).toInt))).toUInt32 >>> ((zI 2).toUInt32 &&& Int32.toUInt32 31)).toInt32).toInt) &&& zI 858993459).toInt)) + ((((zI (((zI ((((bx : Nat) : Int)) - ((zI ((((zI (((bx : Nat) : Int))).toUInt32 >>> ((zI 1).toUInt32 &&& Int32.toUInt32 31)).toInt32).toInt) &&& zI 1431655765).toInt)) &&& zI 858993459).toInt) + ((zI ((((zI ((((bx : Nat) : Int)) - ((zI ((((zI (((bx : Nat) : Int))).toUInt32 >>> ((zI 1).toUInt32 &&& Int32.toUInt32 31)).toInt32).toInt) &&& zI 1431655765).toInt))).toUInt32 >>> ((zI 2).toUInt32 &&& Int32.toUInt32 31)).toInt32).toInt) &&& zI 858993459).toInt))).toUInt32 >>> ((zI 4).toUInt32 &&& Int32.toUInt32 31)).toInt32).toInt)) &&& zI 252645135).toInt) + ((((zI ((zI ((((zI ((((bx : Nat) : Int)) - ((zI ((((zI (((bx : Nat) : Int))).toUInt32 >>> ((zI 1).toUInt32 &&& Int32.toUInt32 31)).toInt32).toInt) &&& zI 1431655765).toInt)) &&& zI 858993459).toInt) + ((zI ((((zI ((((bx : Nat) : Int)) - ((zI ((((zI (((bx : Nat) : Int))).toUInt32 >>> ((zI 1).toUInt32 &&& Int32.toUInt32 31)).toInt32).toInt) &&& zI 1431655765).toInt))).toUInt32 >>> ((zI 2).toUInt32 &&& Int32.toUInt32 31)).toInt32).toInt) &&& zI 858993459).toInt)) + ((((zI (((zI ((((bx : Nat) : Int)) - ((zI ((((zI (((bx : Nat) : Int))).toUInt32 >>> ((zI 1).toUInt32 &&& Int32.toUInt32 31)).toInt32).toInt) &&& zI 1431655765).toInt)) &&& zI 858993459).toInt) + ((zI ((((zI ((((bx : Nat) : Int)) - ((zI ((((zI (((bx : Nat) : Int))).toUInt32 >>> ((zI 1).toUInt32 &&& Int32.toUInt32 31)).toInt32).toInt) &&& zI 1431655765).toInt))).toUInt32 >>> ((zI 2).toUInt32 &&& Int32.toUInt32 31)).toInt32).toInt) &&& zI 858993459).toInt))).toUInt32 >>> ((zI 4).toUInt32 &&& Int32.toUInt32 31)).toInt32).toInt)) &&& zI 252645135).toInt)).toUInt32 >>> ((zI 8).toUInt32 &&& Int32.toUInt32 31)).toInt32).toInt))).toUInt32 >>> ((zI 16).toUInt32 &&& Int32.toUInt32 31)).toInt32).toInt)) &&& zI 63).toInt) dJ6_bitCount_0f7a4_51 (zI_of _) ?_
  refine z_as (b := pcn bx) (bc_of hx) ?_
  exact kret (pcn bx) u _ _ (⟨rfl, rfl⟩) dJ6_bitCount_0f7a4_52
-- NoteBells$Tuning.largestSet
theorem inX9_largestSet_X9 : ∀ w ∈ wsX90, w ∈ wsX9_largestSet := fun w h => List.mem_cons_of_mem _ (List.mem_append_left _ (List.mem_append_left _ (List.mem_append_right _ (h))))
theorem inX9_largestSet_X8 : ∀ w ∈ wsX80, w ∈ wsX9_largestSet := fun w h => List.mem_cons_of_mem _ (List.mem_append_left _ (List.mem_append_right _ (h)))
set_option maxHeartbeats 8000000 in
set_option maxRecDepth 100000 in
theorem c_X9_largestSet (l : Launch) (D : va_G) (a : Nat → Nat) (c : Nat → ClassId) (u : zU)  (hI : IB u) : ZM l D (zTy c) (WB a c) yX9_largestSet wsX9_largestSet 6 [.ref (a 46)] u rI (fun z u' => (∃ w : Int → Int, u' = us u 47 w) ∧ z = ((kst (u 18) (u 3 6) (u 3 4) (2 ^ (u 3 4).toNat) : Nat) : Int)) := by
  refine ZM.ofI (cc := cX9_largestSet) (maxL := 3) [(0, .ref (a 46))] rfl (by decide +kernel) rfl (Nat.le_of_ble_eq_true rfl) (WB_addr a c) ?_
  intro x C hK _ _ hDD kret
  have hlv := hI.lev
  obtain ⟨M, hM⟩ : ∃ M : Nat, M = 2 ^ (u 3 4).toNat := ⟨_, rfl⟩
  have hM2 : 1 ≤ M ∧ M ≤ 256 := by rw [hM]; exact pow8 (by omega)
  refine z_aload_n C 0 dX9_largestSet_0 rfl ?_
  refine z_callV C hK hDD (c_X9_findClashes (zl x) (zG x) a c u  (hI)) gX9_largestSet_X9_findClashes rfl zy_X9_findClashes 46 (WB_46 a c u) rfl ⟨by omega, by decide⟩ rfl (Nat.le_of_ble_eq_true rfl) (st := []) (stk2 := fun _ => []) rfl (fun _ => rfl) dX9_largestSet_1 (fun z1 u2 h3 => ?_)
  obtain ⟨w, e1, hw⟩ := h3
  rw [e1]
  change Z x 0 0 (WB a c (us u 47 (w))) _ _ _
  refine z_iconst C dX9_largestSet_4 ?_
  refine z_istore_n C [(1, .int (zI 0)), (0, .ref (a 46))] dX9_largestSet_5 rfl (by decide) rfl ?_
  refine z_iconst C dX9_largestSet_6 ?_
  refine z_istore_n C [(2, .int (zI 1)), (1, .int (zI 0)), (0, .ref (a 46))] dX9_largestSet_7 rfl (by decide) rfl ?_
  have L8_4 : ∀ (fu : Nat) (i : Int) (b : Int), (1 ≤ i ∧ i ≤ (M : Int)) → (b = ((kst (u 18) (u 3 6) (u 3 4) i.toNat : Nat) : Int)) → (M : Int) - i < (fu : Int) → Z x 0 0 (WB a c (us u 47 (w))) [(0, .ref (a 46)), (1, .int (zI b)), (2, .int (zI i))] 8 [] := by
    intro fu
    induction fu with
    | zero => intro i b hi hb hm; exfalso; omega
    | succ fu ih8 =>
      intro i b hi hb hm
      refine z_iload_n C 2 dX9_largestSet_8 rfl ?_
      refine z_iconst C dX9_largestSet_9 ?_
      refine z_aload_n C 0 dX9_largestSet_10 rfl ?_
      refine z_get C hK (v := .ref (a 3)) inX9_largestSet_X9 46 (WB_46 a c ((us u 47 (w)))) rfl 0 (by decide) (List.mem_of_getElem? (i := 1) rfl) rfl dX9_largestSet_11 ?_
      refine z_getN C hK (v := .int (zI (u 3 4))) inX9_largestSet_X8 3 (WB_3 a c ((us u 47 (w)))) rfl 4 (by decide) (List.mem_of_getElem? (i := 53) rfl) rfl dX9_largestSet_14 ?_
      refine z_ishl C (((M : Nat) : Int)) dX9_largestSet_17 (by rw [hM]; exact zI_1shl (by omega)) ?_
      refine z_icmp_ge C 48 dX9_largestSet_18 (by decide) (by omega) (fun h5 => ?_) (fun h5 => ?_)
      · skip
        refine z_iload_n C 1 dX9_largestSet_48 rfl ?_
        exact kret b (us u 47 w) _ _ (⟨⟨w, rfl⟩, by rw [hb, show i.toNat = 2 ^ (u 3 4).toNat by omega]⟩) dX9_largestSet_49
      · skip
        have hkl := kst_lt (P := u 18) (e := u 3 6) (lv := u 3 4) (n := i.toNat) (by omega)
        refine z_iload_n C 2 dX9_largestSet_21 rfl ?_
        refine z_as (b := ((i.toNat : Nat) : Int)) (by omega) ?_
        refine z_callJ C hK hDD (c_J6_bitCount_0f7a4 (zl x) (zG x) ((WB a c)) (WB_addr a c) ((us u 47 (w))) i.toNat (by omega)) gX9_largestSet_J6_bitCount_0f7a4 rfl zy_J6_bitCount_0f7a4 ⟨by omega, by decide⟩ rfl (Nat.le_of_ble_eq_true rfl) (st := []) (stk2 := fun z6 => [.int (zI z6)]) rfl (fun _ => rfl) dX9_largestSet_22 (fun z6 u7 h8 => ?_)
        rw [h8.1]; replace h8 := h8.2
        refine z_as (b := pcn i.toNat) h8 ?_
        refine z_iload_n C 1 dX9_largestSet_25 rfl ?_
        refine z_as (b := ((kst (u 18) (u 3 6) (u 3 4) i.toNat : Nat) : Int)) (hb) ?_
        refine z_callJ C hK hDD (c_J6_bitCount_0f7a4 (zl x) (zG x) ((WB a c)) (WB_addr a c) ((us u 47 (w))) (kst (u 18) (u 3 6) (u 3 4) i.toNat) (by omega)) gX9_largestSet_J6_bitCount_0f7a4 rfl zy_J6_bitCount_0f7a4 ⟨by omega, by decide⟩ rfl (Nat.le_of_ble_eq_true rfl) (st := [.int (zI (pcn i.toNat))]) (stk2 := fun z9 => [.int (zI z9), .int (zI (pcn i.toNat))]) rfl (fun _ => rfl) dX9_largestSet_26 (fun z9 u10 h11 => ?_)
        rw [h11.1]; replace h11 := h11.2
        refine z_as (b := pcn (kst (u 18) (u 3 6) (u 3 4) i.toNat)) h11 ?_
        refine z_icmp_le C 42 dX9_largestSet_29 (by decide) (by have := pcn_bd i.toNat; have := pcn_bd (kst (u 18) (u 3 6) (u 3 4) i.toNat); omega) (fun h12 => ?_) (fun h12 => ?_)
        · have hno : ¬ (pcn (kst (u 18) (u 3 6) (u 3 4) i.toNat) < pcn i.toNat ∧ free (u 18) (u 3 6) (u 3 4) i.toNat = true) := fun q => absurd q.1 (by omega)
          refine z_iinc C 2 [(2, .int (zI (i + 1))), (0, .ref (a 46)), (1, .int (zI b))] dX9_largestSet_42 rfl (by decide) rfl ?_
          refine z_goto C 8 dX9_largestSet_45 (by decide) ?_
          refine z_lv [(0, .ref (a 46)), (1, .int (zI b)), (2, .int (zI (i + 1)))] [1, 2, 0] rfl ?_
          exact ih8 (i + 1) b (by omega) (by first | exact hb.trans (congrArg (fun q : Nat => (q : Int)) (kst_skip (by omega) hno).symm) | (rw [kst_take (by omega) hyes]; omega)) (by omega)
        · skip
          refine z_aload_n C 0 dX9_largestSet_32 rfl ?_
          refine z_iload_n C 2 dX9_largestSet_33 rfl ?_
          refine z_as (b := ((i.toNat : Nat) : Int)) (by omega) ?_
          refine z_callV C hK hDD (c_X9_isClear (zl x) (zG x) a c ((us u 47 (w))) i.toNat (hI) (by omega) (hw)) gX9_largestSet_X9_isClear rfl zy_X9_isClear 46 (WB_46 a c ((us u 47 (w)))) rfl ⟨by omega, by decide⟩ rfl (Nat.le_of_ble_eq_true rfl) (st := []) (stk2 := fun z13 => [.int (zI z13)]) rfl (fun _ => rfl) dX9_largestSet_34 (fun z13 u14 h15 => ?_)
          rw [h15.1]; replace h15 := h15.2
          replace h15 : ((z13 = 1 ∧ free ((u 18)) ((u 3 6)) ((u 3 4)) i.toNat = true) ∨ (z13 = 0 ∧ free ((u 18)) ((u 3 6)) ((u 3 4)) i.toNat = false)) := h15
          have HF := h15
          refine z_if_eq C 42 dX9_largestSet_37 (by decide) (by omega) (fun h16 => ?_) (fun h16 => ?_)
          · have hno : ¬ (pcn (kst (u 18) (u 3 6) (u 3 4) i.toNat) < pcn i.toNat ∧ free (u 18) (u 3 6) (u 3 4) i.toNat = true) := fun q => HF.elim (fun r => absurd r.1 (by omega)) (fun r => absurd (r.2.symm.trans q.2) (by decide))
            refine z_iinc C 2 [(2, .int (zI (i + 1))), (0, .ref (a 46)), (1, .int (zI b))] dX9_largestSet_42 rfl (by decide) rfl ?_
            refine z_goto C 8 dX9_largestSet_45 (by decide) ?_
            refine z_lv [(0, .ref (a 46)), (1, .int (zI b)), (2, .int (zI (i + 1)))] [1, 2, 0] rfl ?_
            exact ih8 (i + 1) b (by omega) (by first | exact hb.trans (congrArg (fun q : Nat => (q : Int)) (kst_skip (by omega) hno).symm) | (rw [kst_take (by omega) hyes]; omega)) (by omega)
          · have hyes : pcn (kst (u 18) (u 3 6) (u 3 4) i.toNat) < pcn i.toNat ∧ free (u 18) (u 3 6) (u 3 4) i.toNat = true := ⟨by omega, HF.elim (fun r => r.2) (fun r => absurd r.1 (by omega))⟩
            refine z_iload_n C 2 dX9_largestSet_40 rfl ?_
            refine z_istore_n C [(1, .int (zI i)), (0, .ref (a 46)), (2, .int (zI i))] dX9_largestSet_41 rfl (by decide) rfl ?_
            refine z_iinc C 2 [(2, .int (zI (i + 1))), (1, .int (zI i)), (0, .ref (a 46))] dX9_largestSet_42 rfl (by decide) rfl ?_
            refine z_goto C 8 dX9_largestSet_45 (by decide) ?_
            refine z_lv [(0, .ref (a 46)), (1, .int (zI i)), (2, .int (zI (i + 1)))] [2, 1, 0] rfl ?_
            exact ih8 (i + 1) i (by omega) (by first | exact hb.trans (congrArg (fun q : Nat => (q : Int)) (kst_skip (by omega) hno).symm) | (rw [kst_take (by omega) hyes]; omega)) (by omega)
  refine z_lv [(0, .ref (a 46)), (1, .int (zI 0)), (2, .int (zI 1))] [2, 1, 0] rfl ?_
  exact L8_4 ((((M : Int) - 1 : Int)).toNat + 1) 1 0 (by omega) (by rw [show (1 : Int).toNat = 1 from rfl, kst_1]; rfl) (by omega)
-- NoteBells$Tuning.yearsToMeet
theorem inX9_yearsToMeet_X9 : ∀ w ∈ wsX90, w ∈ wsX9_yearsToMeet := fun w h => List.mem_cons_of_mem _ (List.mem_append_left _ (List.mem_append_left _ (List.mem_append_right _ (h))))
theorem inX9_yearsToMeet_X2 : ∀ w ∈ wsX20, w ∈ wsX9_yearsToMeet := fun w h => List.mem_cons_of_mem _ (List.mem_append_left _ (List.mem_append_right _ (h)))
theorem inX9_yearsToMeet_X8 : ∀ w ∈ wsX80, w ∈ wsX9_yearsToMeet := fun w h => List.mem_cons_of_mem _ (List.mem_append_right _ (h))
set_option maxHeartbeats 8000000 in
set_option maxRecDepth 100000 in
theorem c_X9_yearsToMeet (l : Launch) (D : va_G) (a : Nat → Nat) (c : Nat → ClassId) (u : zU) (m k : Int) (hI : IB u) (b_m : 0 ≤ m ∧ m ≤ 7) (b_k : 0 ≤ k ∧ k ≤ 7) : ZM l D (zTy c) (WB a c) yX9_yearsToMeet wsX9_yearsToMeet 4 [.ref (a 46), .int (zI m), .int (zI k)] u rI (fun z u' => u' = u ∧ z = mt (u 18) (u 5) (u 17 6) (u 3 6) m k) := by
  refine ZM.ofI (cc := cX9_yearsToMeet) (maxL := 6) [(0, .ref (a 46)), (1, .int (zI m)), (2, .int (zI k))] rfl (by decide +kernel) rfl (Nat.le_of_ble_eq_true rfl) (WB_addr a c) ?_
  intro x C hK _ _ hDD kret
  have hw := hI.wet
  have hp1 := hI.pitch m b_m.1 (by omega)
  have hp2 := hI.pitch k b_k.1 (by omega)
  have hr1 := hI.wear m b_m.1 (by omega)
  have hr2 := hI.wear k b_k.1 (by omega)
  refine z_iconst C dX9_yearsToMeet_0 ?_
  refine z_istore_n C [(3, .int (zI 0)), (0, .ref (a 46)), (1, .int (zI m)), (2, .int (zI k))] dX9_yearsToMeet_1 rfl (by decide) rfl ?_
  have L2_1 : ∀ (fu : Nat) (i : Int), (0 ≤ i ∧ i ≤ 100) → (mt (u 18) (u 5) (u 17 6) (u 3 6) m k = mtf (u 18) (u 5) (u 17 6) (u 3 6) m k (100 - i).toNat i) → 100 - i < (fu : Int) → Z x 0 0 (WB a c u) [(0, .ref (a 46)), (1, .int (zI m)), (2, .int (zI k)), (3, .int (zI i))] 2 [] := by
    intro fu
    induction fu with
    | zero => intro i hi hn hm; exfalso; omega
    | succ fu ih2 =>
      intro i hi hn hm
      refine z_iload_n C 3 dX9_yearsToMeet_2 rfl ?_
      refine z_bipush C dX9_yearsToMeet_3 (by decide) ?_
      refine z_icmp_gt C 84 dX9_yearsToMeet_5 (by decide) (by omega) (fun h2 => ?_) (fun h2 => ?_)
      · skip
        refine z_bipush C dX9_yearsToMeet_84 (by decide) ?_
        exact kret (-9) u _ _ (⟨rfl, by rw [hn, show (100 - i).toNat = 0 by omega]; rfl⟩) dX9_yearsToMeet_86
      · skip
        have hb1 := wrn_bd hp1 hr1 (y := i) (by omega)
        have hb2 := wrn_bd hp2 hr2 (y := i) (by omega)
        refine z_aload_n C 0 dX9_yearsToMeet_8 rfl ?_
        refine z_get C hK (v := .ref (a 17)) inX9_yearsToMeet_X9 46 (WB_46 a c u) rfl 1 (by decide) (List.mem_of_getElem? (i := 1) rfl) rfl dX9_yearsToMeet_9 ?_
        refine z_getN C hK (v := .ref (a 18)) inX9_yearsToMeet_X2 17 (WB_17 a c u) rfl 0 (by decide) (List.mem_of_getElem? (i := 54) rfl) rfl dX9_yearsToMeet_12 ?_
        refine z_iload_n C 1 dX9_yearsToMeet_15 rfl ?_
        refine z_iald C hK 0 (g := (u 18)) (i := m) 18 (WB_18 a c u) rfl (by decide) (by omega) dX9_yearsToMeet_16 ?_
        refine z_as (b := u 18 (m)) rfl ?_
        refine z_aload_n C 0 dX9_yearsToMeet_17 rfl ?_
        refine z_get C hK (v := .ref (a 3)) inX9_yearsToMeet_X9 46 (WB_46 a c u) rfl 0 (by decide) (List.mem_of_getElem? (i := 2) rfl) rfl dX9_yearsToMeet_18 ?_
        refine z_getN C hK (v := .ref (a 5)) inX9_yearsToMeet_X8 3 (WB_3 a c u) rfl 1 (by decide) (List.mem_of_getElem? (i := 56) rfl) rfl dX9_yearsToMeet_21 ?_
        refine z_iload_n C 1 dX9_yearsToMeet_24 rfl ?_
        refine z_iald C hK 0 (g := (u 5)) (i := m) 5 (WB_5 a c u) rfl (by decide) (by omega) dX9_yearsToMeet_25 ?_
        refine z_as (b := u 5 (m)) rfl ?_
        refine z_iload_n C 3 dX9_yearsToMeet_26 rfl ?_
        refine z_callSN C hK hDD (c_X10_worn (zl x) (zG x) ((WB a c)) (WB_addr a c) u (u 18 (m)) (u 5 (m)) i (by omega) (by omega) (by omega)) ggX9_yearsToMeet_X10_worn (List.mem_of_getElem? (i := 38) rfl) (List.mem_of_getElem? (i := 4) rfl) (List.mem_of_getElem? (i := 3) rfl) rfl zy_X10_worn ⟨by omega, by decide⟩ rfl (Nat.le_of_ble_eq_true rfl) (st := []) (stk2 := fun z3 => [.int (zI z3)]) rfl (fun _ => rfl) dX9_yearsToMeet_27 (fun z3 u4 h5 => ?_)
        rw [h5.1]; replace h5 := h5.2
        refine z_as (b := wrn (u 18 (m)) (u 5 (m)) i) h5 ?_
        refine z_istore C [(4, .int (zI (wrn (u 18 (m)) (u 5 (m)) i))), (0, .ref (a 46)), (1, .int (zI m)), (2, .int (zI k)), (3, .int (zI i))] dX9_yearsToMeet_30 (by decide) rfl ?_
        refine z_aload_n C 1 dX9_yearsToMeet_32 rfl ?_
        refine z_get C hK (v := .ref (a 17)) inX9_yearsToMeet_X9 46 (WB_46 a c u) rfl 1 (by decide) (List.mem_of_getElem? (i := 1) rfl) rfl dX9_yearsToMeet_33 ?_
        refine z_getN C hK (v := .ref (a 18)) inX9_yearsToMeet_X2 17 (WB_17 a c u) rfl 0 (by decide) (List.mem_of_getElem? (i := 54) rfl) rfl dX9_yearsToMeet_36 ?_
        refine z_iload_n C 3 dX9_yearsToMeet_39 rfl ?_
        refine z_iald C hK 0 (g := (u 18)) (i := k) 18 (WB_18 a c u) rfl (by decide) (by omega) dX9_yearsToMeet_40 ?_
        refine z_as (b := u 18 (k)) rfl ?_
        refine z_aload_n C 1 dX9_yearsToMeet_41 rfl ?_
        refine z_get C hK (v := .ref (a 3)) inX9_yearsToMeet_X9 46 (WB_46 a c u) rfl 0 (by decide) (List.mem_of_getElem? (i := 2) rfl) rfl dX9_yearsToMeet_42 ?_
        refine z_getN C hK (v := .ref (a 5)) inX9_yearsToMeet_X8 3 (WB_3 a c u) rfl 1 (by decide) (List.mem_of_getElem? (i := 56) rfl) rfl dX9_yearsToMeet_45 ?_
        refine z_iload_n C 3 dX9_yearsToMeet_48 rfl ?_
        refine z_iald C hK 0 (g := (u 5)) (i := k) 5 (WB_5 a c u) rfl (by decide) (by omega) dX9_yearsToMeet_49 ?_
        refine z_as (b := u 5 (k)) rfl ?_
        refine z_iload_n C 4 dX9_yearsToMeet_50 rfl ?_
        refine z_callSN C hK hDD (c_X10_worn (zl x) (zG x) ((WB a c)) (WB_addr a c) u (u 18 (k)) (u 5 (k)) i (by omega) (by omega) (by omega)) ggX9_yearsToMeet_X10_worn (List.mem_of_getElem? (i := 38) rfl) (List.mem_of_getElem? (i := 4) rfl) (List.mem_of_getElem? (i := 3) rfl) rfl zy_X10_worn ⟨by omega, by decide⟩ rfl (Nat.le_of_ble_eq_true rfl) (st := []) (stk2 := fun z6 => [.int (zI z6)]) rfl (fun _ => rfl) dX9_yearsToMeet_51 (fun z6 u7 h8 => ?_)
        rw [h8.1]; replace h8 := h8.2
        refine z_as (b := wrn (u 18 (k)) (u 5 (k)) i) h8 ?_
        refine z_istore C [(5, .int (zI (wrn (u 18 (k)) (u 5 (k)) i))), (4, .int (zI (wrn (u 18 (m)) (u 5 (m)) i))), (0, .ref (a 46)), (1, .int (zI m)), (2, .int (zI k)), (3, .int (zI i))] dX9_yearsToMeet_54 (by decide) rfl ?_
        refine z_aload_n C 2 dX9_yearsToMeet_56 rfl ?_
        refine z_iload_n C 3 dX9_yearsToMeet_57 rfl ?_
        refine z_iload C 1 dX9_yearsToMeet_58 rfl ?_
        refine z_iload_n C 4 dX9_yearsToMeet_60 rfl ?_
        refine z_iload C 0 dX9_yearsToMeet_61 rfl ?_
        refine z_aload_n C 2 dX9_yearsToMeet_63 rfl ?_
        refine z_get C hK (v := .ref (a 17)) inX9_yearsToMeet_X9 46 (WB_46 a c u) rfl 1 (by decide) (List.mem_of_getElem? (i := 1) rfl) rfl dX9_yearsToMeet_64 ?_
        refine z_getN C hK (v := .int (zI (u 17 6))) inX9_yearsToMeet_X2 17 (WB_17 a c u) rfl 6 (by decide) (List.mem_of_getElem? (i := 57) rfl) rfl dX9_yearsToMeet_67 ?_
        refine z_callV C hK hDD (c_X9_soundAlike (zl x) (zG x) a c u m (wrn (u 18 (m)) (u 5 (m)) i) k (wrn (u 18 (k)) (u 5 (k)) i) (u 17 6) (hI) (by omega) (by omega) (by omega) (by omega) (by omega)) gX9_yearsToMeet_X9_soundAlike rfl zy_X9_soundAlike 46 (WB_46 a c u) rfl ⟨by omega, by decide⟩ rfl (Nat.le_of_ble_eq_true rfl) (st := []) (stk2 := fun z9 => [.int (zI z9)]) rfl (fun _ => rfl) dX9_yearsToMeet_70 (fun z9 u10 h11 => ?_)
        rw [h11.1]; replace h11 := h11.2
        refine z_if_eq C 78 dX9_yearsToMeet_73 (by decide) (by omega) (fun h12 => ?_) (fun h12 => ?_)
        · have hmt : ¬ (snd (wrn (u 18 m) (u 5 m) i) (u 17 6) m - snd (wrn (u 18 k) (u 5 k) i) (u 17 6) k ≤ u 3 6 ∧ snd (wrn (u 18 k) (u 5 k) i) (u 17 6) k - snd (wrn (u 18 m) (u 5 m) i) (u 17 6) m ≤ u 3 6) := by omega
          refine z_iinc C 5 [(3, .int (zI (i + 1))), (5, .int (zI (wrn (u 18 (k)) (u 5 (k)) i))), (4, .int (zI (wrn (u 18 (m)) (u 5 (m)) i))), (0, .ref (a 46)), (1, .int (zI m)), (2, .int (zI k))] dX9_yearsToMeet_78 rfl (by decide) rfl ?_
          refine z_goto C 2 dX9_yearsToMeet_81 (by decide) ?_
          refine z_lv [(0, .ref (a 46)), (1, .int (zI m)), (2, .int (zI k)), (3, .int (zI (i + 1)))] [3, 4, 5, 0] rfl ?_
          exact ih2 (i + 1) (by omega) (by rw [hn, show (100 - i).toNat = (100 - (i + 1)).toNat + 1 by omega, mtf, if_neg hmt]) (by omega)
        · have hmt : snd (wrn (u 18 m) (u 5 m) i) (u 17 6) m - snd (wrn (u 18 k) (u 5 k) i) (u 17 6) k ≤ u 3 6 ∧ snd (wrn (u 18 k) (u 5 k) i) (u 17 6) k - snd (wrn (u 18 m) (u 5 m) i) (u 17 6) m ≤ u 3 6 := by omega
          refine z_iload_n C 5 dX9_yearsToMeet_76 rfl ?_
          exact kret i u _ _ (⟨rfl, by rw [hn, show (100 - i).toNat = (100 - (i + 1)).toNat + 1 by omega, mtf, if_pos hmt]⟩) dX9_yearsToMeet_77
  refine z_lv [(0, .ref (a 46)), (1, .int (zI m)), (2, .int (zI k)), (3, .int (zI 0))] [1, 2, 3, 0] rfl ?_
  exact L2_1 (((100 - 0 : Int)).toNat + 1) 0 (by omega) (rfl) (by omega)
-- NoteBells$Tuning.earliestPair
theorem inX9_earliestPair_X9 : ∀ w ∈ wsX90, w ∈ wsX9_earliestPair := fun w h => List.mem_cons_of_mem _ (List.mem_append_left _ (List.mem_append_left _ (List.mem_append_right _ (h))))
theorem inX9_earliestPair_X8 : ∀ w ∈ wsX80, w ∈ wsX9_earliestPair := fun w h => List.mem_cons_of_mem _ (List.mem_append_left _ (List.mem_append_right _ (h)))
set_option maxHeartbeats 8000000 in
set_option maxRecDepth 100000 in
theorem c_X9_earliestPair (l : Launch) (D : va_G) (a : Nat → Nat) (c : Nat → ClassId) (u : zU)  (hI : IB u) : ZM l D (zTy c) (WB a c) yX9_earliestPair wsX9_earliestPair 5 [.ref (a 46)] u rI (fun z u' => u' = u ∧ z = prf (mt (u 18) (u 5) (u 17 6) (u 3 6)) (u 3 4)) := by
  refine ZM.ofI (cc := cX9_earliestPair) (maxL := 6) [(0, .ref (a 46))] rfl (by decide +kernel) rfl (Nat.le_of_ble_eq_true rfl) (WB_addr a c) ?_
  intro x C hK _ _ hDD kret
  have hlv := hI.lev
  refine z_bipush C dX9_earliestPair_0 (by decide) ?_
  refine z_istore_n C [(1, .int (zI (-9))), (0, .ref (a 46))] dX9_earliestPair_2 rfl (by decide) rfl ?_
  refine z_bipush C dX9_earliestPair_3 (by decide) ?_
  refine z_istore_n C [(2, .int (zI 100)), (1, .int (zI (-9))), (0, .ref (a 46))] dX9_earliestPair_5 rfl (by decide) rfl ?_
  refine z_iconst C dX9_earliestPair_6 ?_
  refine z_istore_n C [(3, .int (zI 0)), (2, .int (zI 100)), (1, .int (zI (-9))), (0, .ref (a 46))] dX9_earliestPair_7 rfl (by decide) rfl ?_
  have L8_1 : ∀ (fu : Nat) (i : Int) (b : Int) (t : Int), (0 ≤ i ∧ i ≤ u 3 4) → (-9 ≤ t ∧ t ≤ 100) → (prf (mt (u 18) (u 5) (u 17 6) (u 3 6)) (u 3 4) = (pra (mt (u 18) (u 5) (u 17 6) (u 3 6)) (u 3 4) (u 3 4 - i).toNat i (b, t)).1) → u 3 4 - i < (fu : Int) → Z x 0 0 (WB a c u) [(0, .ref (a 46)), (1, .int (zI b)), (2, .int (zI t)), (3, .int (zI i))] 8 [] := by
    intro fu
    induction fu with
    | zero => intro i b t hi ht hp hm; exfalso; omega
    | succ fu ih8 =>
      intro i b t hi ht hp hm
      refine z_iload_n C 3 dX9_earliestPair_8 rfl ?_
      refine z_aload_n C 0 dX9_earliestPair_9 rfl ?_
      refine z_get C hK (v := .ref (a 3)) inX9_earliestPair_X9 46 (WB_46 a c u) rfl 0 (by decide) (List.mem_of_getElem? (i := 1) rfl) rfl dX9_earliestPair_10 ?_
      refine z_getN C hK (v := .int (zI (u 3 4))) inX9_earliestPair_X8 3 (WB_3 a c u) rfl 4 (by decide) (List.mem_of_getElem? (i := 53) rfl) rfl dX9_earliestPair_13 ?_
      refine z_icmp_ge C 81 dX9_earliestPair_16 (by decide) (by omega) (fun h2 => ?_) (fun h2 => ?_)
      · skip
        refine z_iload_n C 1 dX9_earliestPair_81 rfl ?_
        exact kret b u _ _ (⟨rfl, by rw [hp, show (u 3 4 - i).toNat = 0 by omega]; rfl⟩) dX9_earliestPair_82
      · skip
        refine z_iload_n C 3 dX9_earliestPair_19 rfl ?_
        refine z_iconst C dX9_earliestPair_20 ?_
        refine z_iadd C dX9_earliestPair_21 ?_
        refine z_istore C [(4, .int (zI (i + 1))), (0, .ref (a 46)), (1, .int (zI b)), (2, .int (zI t)), (3, .int (zI i))] dX9_earliestPair_22 (by decide) rfl ?_
        have L24_3 : ∀ (fu : Nat) (k : Int) (b : Int) (t : Int), (i + 1 ≤ k ∧ k ≤ u 3 4) → (-9 ≤ t ∧ t ≤ 100) → (prf (mt (u 18) (u 5) (u 17 6) (u 3 6)) (u 3 4) = (pra (mt (u 18) (u 5) (u 17 6) (u 3 6)) (u 3 4) (u 3 4 - (i + 1)).toNat (i + 1) (prb (mt (u 18) (u 5) (u 17 6) (u 3 6)) i (u 3 4 - k).toNat k (b, t))).1) → u 3 4 - k < (fu : Int) → Z x 0 0 (WB a c u) [(0, .ref (a 46)), (1, .int (zI b)), (2, .int (zI t)), (3, .int (zI i)), (4, .int (zI k))] 24 [] := by
          intro fu
          induction fu with
          | zero => intro k b t hk ht hq hm; exfalso; omega
          | succ fu ih24 =>
            intro k b t hk ht hq hm
            refine z_iload C 4 dX9_earliestPair_24 rfl ?_
            refine z_aload_n C 0 dX9_earliestPair_26 rfl ?_
            refine z_get C hK (v := .ref (a 3)) inX9_earliestPair_X9 46 (WB_46 a c u) rfl 0 (by decide) (List.mem_of_getElem? (i := 1) rfl) rfl dX9_earliestPair_27 ?_
            refine z_getN C hK (v := .int (zI (u 3 4))) inX9_earliestPair_X8 3 (WB_3 a c u) rfl 4 (by decide) (List.mem_of_getElem? (i := 53) rfl) rfl dX9_earliestPair_30 ?_
            refine z_icmp_ge C 75 dX9_earliestPair_33 (by decide) (by omega) (fun h4 => ?_) (fun h4 => ?_)
            · skip
              refine z_iinc C 3 [(3, .int (zI (i + 1))), (0, .ref (a 46)), (1, .int (zI b)), (2, .int (zI t)), (4, .int (zI k))] dX9_earliestPair_75 rfl (by decide) rfl ?_
              refine z_goto C 8 dX9_earliestPair_78 (by decide) ?_
              refine z_lv [(0, .ref (a 46)), (1, .int (zI b)), (2, .int (zI t)), (3, .int (zI (i + 1)))] [1, 2, 3, 0] rfl ?_
              exact ih8 (i + 1) b t (by omega) (by omega) (by rw [hq, show (u 3 4 - k).toNat = 0 by omega]; rfl) (by omega)
            · skip
              have hmb := mt_bd (u 18) (u 5) (u 17 6) (u 3 6) i k
              refine z_aload_n C 0 dX9_earliestPair_36 rfl ?_
              refine z_iload_n C 3 dX9_earliestPair_37 rfl ?_
              refine z_iload C 4 dX9_earliestPair_38 rfl ?_
              refine z_callV C hK hDD (c_X9_yearsToMeet (zl x) (zG x) a c u i k (hI) (by omega) (by omega)) gX9_earliestPair_X9_yearsToMeet rfl zy_X9_yearsToMeet 46 (WB_46 a c u) rfl ⟨by omega, by decide⟩ rfl (Nat.le_of_ble_eq_true rfl) (st := []) (stk2 := fun z5 => [.int (zI z5)]) rfl (fun _ => rfl) dX9_earliestPair_40 (fun z5 u6 h7 => ?_)
              rw [h7.1]; replace h7 := h7.2
              refine z_as (b := mt (u 18) (u 5) (u 17 6) (u 3 6) i k) h7 ?_
              refine z_istore C [(5, .int (zI (mt (u 18) (u 5) (u 17 6) (u 3 6) i k))), (0, .ref (a 46)), (1, .int (zI b)), (2, .int (zI t)), (3, .int (zI i)), (4, .int (zI k))] dX9_earliestPair_43 (by decide) rfl ?_
              refine z_iload C 0 dX9_earliestPair_45 rfl ?_
              refine z_bipush C dX9_earliestPair_47 (by decide) ?_
              refine z_icmp_eq C 69 dX9_earliestPair_49 (by decide) (by omega) (fun h8 => ?_) (fun h8 => ?_)
              · skip
                refine z_iinc C 5 [(4, .int (zI (k + 1))), (5, .int (zI (mt (u 18) (u 5) (u 17 6) (u 3 6) i k))), (0, .ref (a 46)), (1, .int (zI b)), (2, .int (zI t)), (3, .int (zI i))] dX9_earliestPair_69 rfl (by decide) rfl ?_
                refine z_goto C 24 dX9_earliestPair_72 (by decide) ?_
                refine z_lv [(0, .ref (a 46)), (1, .int (zI b)), (2, .int (zI t)), (3, .int (zI i)), (4, .int (zI (k + 1)))] [2, 3, 4, 5, 0] rfl ?_
                exact ih24 (k + 1) b t (by omega) (by omega) (by rw [hq, show (u 3 4 - k).toNat = (u 3 4 - (k + 1)).toNat + 1 by omega, prb]; first | rw [if_neg (by show ¬ (_ ∧ _ < t); omega)] | rw [if_pos (by show _ ∧ _ < t; omega)]) (by omega)
              · skip
                refine z_iload C 0 dX9_earliestPair_52 rfl ?_
                refine z_iload_n C 3 dX9_earliestPair_54 rfl ?_
                refine z_icmp_ge C 69 dX9_earliestPair_55 (by decide) (by omega) (fun h9 => ?_) (fun h9 => ?_)
                · skip
                  refine z_iinc C 5 [(4, .int (zI (k + 1))), (5, .int (zI (mt (u 18) (u 5) (u 17 6) (u 3 6) i k))), (0, .ref (a 46)), (1, .int (zI b)), (2, .int (zI t)), (3, .int (zI i))] dX9_earliestPair_69 rfl (by decide) rfl ?_
                  refine z_goto C 24 dX9_earliestPair_72 (by decide) ?_
                  refine z_lv [(0, .ref (a 46)), (1, .int (zI b)), (2, .int (zI t)), (3, .int (zI i)), (4, .int (zI (k + 1)))] [2, 3, 4, 5, 0] rfl ?_
                  exact ih24 (k + 1) b t (by omega) (by omega) (by rw [hq, show (u 3 4 - k).toNat = (u 3 4 - (k + 1)).toNat + 1 by omega, prb]; first | rw [if_neg (by show ¬ (_ ∧ _ < t); omega)] | rw [if_pos (by show _ ∧ _ < t; omega)]) (by omega)
                · skip
                  refine z_iload C 0 dX9_earliestPair_58 rfl ?_
                  refine z_istore_n C [(2, .int (zI (mt (u 18) (u 5) (u 17 6) (u 3 6) i k))), (5, .int (zI (mt (u 18) (u 5) (u 17 6) (u 3 6) i k))), (0, .ref (a 46)), (1, .int (zI b)), (3, .int (zI i)), (4, .int (zI k))] dX9_earliestPair_60 rfl (by decide) rfl ?_
                  refine z_bipush C dX9_earliestPair_61 (by decide) ?_
                  refine z_iload_n C 4 dX9_earliestPair_63 rfl ?_
                  refine z_imul C dX9_earliestPair_64 ?_
                  refine z_iload C 5 dX9_earliestPair_65 rfl ?_
                  refine z_iadd C dX9_earliestPair_67 ?_
                  refine z_istore_n C [(1, .int (zI ((10 * i) + k))), (2, .int (zI (mt (u 18) (u 5) (u 17 6) (u 3 6) i k))), (5, .int (zI (mt (u 18) (u 5) (u 17 6) (u 3 6) i k))), (0, .ref (a 46)), (3, .int (zI i)), (4, .int (zI k))] dX9_earliestPair_68 rfl (by decide) rfl ?_
                  refine z_iinc C 5 [(4, .int (zI (k + 1))), (1, .int (zI ((10 * i) + k))), (2, .int (zI (mt (u 18) (u 5) (u 17 6) (u 3 6) i k))), (5, .int (zI (mt (u 18) (u 5) (u 17 6) (u 3 6) i k))), (0, .ref (a 46)), (3, .int (zI i))] dX9_earliestPair_69 rfl (by decide) rfl ?_
                  refine z_goto C 24 dX9_earliestPair_72 (by decide) ?_
                  refine z_lv [(0, .ref (a 46)), (1, .int (zI ((10 * i) + k))), (2, .int (zI (mt (u 18) (u 5) (u 17 6) (u 3 6) i k))), (3, .int (zI i)), (4, .int (zI (k + 1)))] [4, 1, 2, 5, 0] rfl ?_
                  exact ih24 (k + 1) ((10 * i) + k) (mt (u 18) (u 5) (u 17 6) (u 3 6) i k) (by omega) (by omega) (by rw [hq, show (u 3 4 - k).toNat = (u 3 4 - (k + 1)).toNat + 1 by omega, prb]; first | rw [if_neg (by show ¬ (_ ∧ _ < t); omega)] | rw [if_pos (by show _ ∧ _ < t; omega)]) (by omega)
        refine z_lv [(0, .ref (a 46)), (1, .int (zI b)), (2, .int (zI t)), (3, .int (zI i)), (4, .int (zI (i + 1)))] [1, 2, 3, 4, 0] rfl ?_
        exact L24_3 (((u 3 4 - (i + 1) : Int)).toNat + 1) (i + 1) b t (by omega) (by omega) (by rw [hp, show (u 3 4 - i).toNat = (u 3 4 - (i + 1)).toNat + 1 by omega]; rfl) (by omega)
  refine z_lv [(0, .ref (a 46)), (1, .int (zI (-9))), (2, .int (zI 100)), (3, .int (zI 0))] [3, 2, 1, 0] rfl ?_
  exact L8_1 (((u 3 4 - 0 : Int)).toNat + 1) 0 (-9) 100 (by omega) (by omega) (by unfold prf; rw [show (u 3 4 - 0).toNat = (u 3 4).toNat by omega]) (by omega)
-- NoteBells.meet
theorem inX10_meet_X10 : ∀ w ∈ wsX100, w ∈ wsX10_meet := fun w h => List.mem_cons_of_mem _ (List.mem_append_left _ (List.mem_append_left _ (List.mem_append_left _ (List.mem_append_right _ (h)))))
set_option maxHeartbeats 8000000 in
set_option maxRecDepth 100000 in
theorem c_X10_meet (l : Launch) (D : va_G) (a : Nat → Nat) (c : Nat → ClassId) (u : zU) (m k : Int) (hI : IB u) (b_m : -2147483648 ≤ m ∧ m < 2147483648) (b_k : -2147483648 ≤ k ∧ k < 2147483648) : ZM l D (zTy c) (WB a c) yX10_meet wsX10_meet 5 [.ref (a 0), .int (zI m), .int (zI k)] u rI (fun z u' => u' = u ∧ ((0 ≤ m ∧ m < u 3 4 ∧ 0 ≤ k ∧ k < u 3 4 ∧ m ≠ k ∧ z = mt (u 18) (u 5) (u 17 6) (u 3 6) m k) ∨ (¬ (0 ≤ m ∧ m < u 3 4 ∧ 0 ≤ k ∧ k < u 3 4 ∧ m ≠ k) ∧ z = -1))) := by
  refine ZM.ofI (cc := cX10_meet) (maxL := 3) [(0, .ref (a 0)), (1, .int (zI m)), (2, .int (zI k))] rfl (by decide +kernel) rfl (Nat.le_of_ble_eq_true rfl) (WB_addr a c) ?_
  intro x C hK _ _ hDD kret
  have hlv := hI.lev
  refine z_aload_n C 0 dX10_meet_0 rfl ?_
  refine z_iload_n C 1 dX10_meet_1 rfl ?_
  refine z_callV C hK hDD (c_X10_isLevel (zl x) (zG x) a c u m (hI) (by omega)) gX10_meet_X10_isLevel rfl zy_X10_isLevel 0 (WB_0 a c u) rfl ⟨by omega, by decide⟩ rfl (Nat.le_of_ble_eq_true rfl) (st := []) (stk2 := fun z1 => [.int (zI z1)]) rfl (fun _ => rfl) dX10_meet_2 (fun z1 u2 h3 => ?_)
  rw [h3.1]; replace h3 := h3.2
  refine z_if_eq C 21 dX10_meet_5 (by decide) (by omega) (fun h4 => ?_) (fun h4 => ?_)
  · skip
    refine z_iconst C dX10_meet_21 ?_
    exact kret (-1) u _ _ (⟨rfl, Or.inr ⟨by omega, rfl⟩⟩) dX10_meet_22
  · skip
    refine z_aload_n C 0 dX10_meet_8 rfl ?_
    refine z_iload_n C 2 dX10_meet_9 rfl ?_
    refine z_callV C hK hDD (c_X10_isLevel (zl x) (zG x) a c u k (hI) (by omega)) gX10_meet_X10_isLevel rfl zy_X10_isLevel 0 (WB_0 a c u) rfl ⟨by omega, by decide⟩ rfl (Nat.le_of_ble_eq_true rfl) (st := []) (stk2 := fun z5 => [.int (zI z5)]) rfl (fun _ => rfl) dX10_meet_10 (fun z5 u6 h7 => ?_)
    rw [h7.1]; replace h7 := h7.2
    refine z_if_eq C 21 dX10_meet_13 (by decide) (by omega) (fun h8 => ?_) (fun h8 => ?_)
    · skip
      refine z_iconst C dX10_meet_21 ?_
      exact kret (-1) u _ _ (⟨rfl, Or.inr ⟨by omega, rfl⟩⟩) dX10_meet_22
    · skip
      refine z_iload_n C 1 dX10_meet_16 rfl ?_
      refine z_iload_n C 2 dX10_meet_17 rfl ?_
      refine z_icmp_ne C 23 dX10_meet_18 (by decide) (by omega) (fun h9 => ?_) (fun h9 => ?_)
      · skip
        refine z_aload_n C 0 dX10_meet_23 rfl ?_
        refine z_get C hK (v := .ref (a 46)) inX10_meet_X10 0 (WB_0 a c u) rfl 10 (by decide) (List.mem_of_getElem? (i := 1) rfl) rfl dX10_meet_24 ?_
        refine z_iload_n C 1 dX10_meet_27 rfl ?_
        refine z_iload_n C 2 dX10_meet_28 rfl ?_
        refine z_callVN C hK hDD (c_X9_yearsToMeet (zl x) (zG x) a c u m k (hI) (by omega) (by omega)) ggX10_meet_X9_yearsToMeet (List.mem_of_getElem? (i := 21) rfl) (List.mem_of_getElem? (i := 12) rfl) (List.mem_of_getElem? (i := 11) rfl) (List.mem_of_getElem? (i := 13) rfl) rfl zy_X9_yearsToMeet 46 (WB_46 a c u) rfl ⟨by omega, by decide⟩ rfl (Nat.le_of_ble_eq_true rfl) (st := []) (stk2 := fun z10 => [.int (zI z10)]) rfl (fun _ => rfl) dX10_meet_29 (fun z10 u11 h12 => ?_)
        rw [h12.1]; replace h12 := h12.2
        refine z_as (b := mt (u 18) (u 5) (u 17 6) (u 3 6) m k) h12 ?_
        exact kret (mt (u 18) (u 5) (u 17 6) (u 3 6) m k) u _ _ (⟨rfl, Or.inl ⟨by omega, by omega, by omega, by omega, by omega, rfl⟩⟩) dX10_meet_32
      · skip
        refine z_iconst C dX10_meet_21 ?_
        exact kret (-1) u _ _ (⟨rfl, Or.inr ⟨by omega, rfl⟩⟩) dX10_meet_22
-- NoteBells.first
theorem inX10_first_X10 : ∀ w ∈ wsX100, w ∈ wsX10_first := fun w h => List.mem_cons_of_mem _ (List.mem_append_left _ (List.mem_append_left _ (List.mem_append_left _ (List.mem_append_right _ (h)))))
set_option maxHeartbeats 8000000 in
set_option maxRecDepth 100000 in
theorem c_X10_first (l : Launch) (D : va_G) (a : Nat → Nat) (c : Nat → ClassId) (u : zU)  (hI : IB u) : ZM l D (zTy c) (WB a c) yX10_first wsX10_first 6 [.ref (a 0)] u rI (fun z u' => u' = u ∧ z = prf (mt (u 18) (u 5) (u 17 6) (u 3 6)) (u 3 4)) := by
  refine ZM.ofI (cc := cX10_first) (maxL := 1) [(0, .ref (a 0))] rfl (by decide +kernel) rfl (Nat.le_of_ble_eq_true rfl) (WB_addr a c) ?_
  intro x C hK _ _ hDD kret
  refine z_aload_n C 0 dX10_first_0 rfl ?_
  refine z_get C hK (v := .ref (a 46)) inX10_first_X10 0 (WB_0 a c u) rfl 10 (by decide) (List.mem_of_getElem? (i := 1) rfl) rfl dX10_first_1 ?_
  refine z_callVN C hK hDD (c_X9_earliestPair (zl x) (zG x) a c u  (hI)) ggX10_first_X9_earliestPair (List.mem_of_getElem? (i := 22) rfl) (List.mem_of_getElem? (i := 3) rfl) (List.mem_of_getElem? (i := 2) rfl) (List.mem_of_getElem? (i := 4) rfl) rfl zy_X9_earliestPair 46 (WB_46 a c u) rfl ⟨by omega, by decide⟩ rfl (Nat.le_of_ble_eq_true rfl) (st := []) (stk2 := fun z1 => [.int (zI z1)]) rfl (fun _ => rfl) dX10_first_4 (fun z1 u2 h3 => ?_)
  rw [h3.1]; replace h3 := h3.2
  refine z_as (b := prf (mt (u 18) (u 5) (u 17 6) (u 3 6)) (u 3 4)) h3 ?_
  exact kret (prf (mt (u 18) (u 5) (u 17 6) (u 3 6)) (u 3 4)) u _ _ (⟨rfl, rfl⟩) dX10_first_7
-- NoteBells.keeps
theorem inX10_keeps_X10 : ∀ w ∈ wsX100, w ∈ wsX10_keeps := fun w h => List.mem_cons_of_mem _ (List.mem_append_left _ (List.mem_append_left _ (List.mem_append_left _ (List.mem_append_right _ (h)))))
theorem inX10_keeps_X8 : ∀ w ∈ wsX80, w ∈ wsX10_keeps := fun w h => List.mem_cons_of_mem _ (List.mem_append_left _ (List.mem_append_left _ (List.mem_append_right _ (h))))
set_option maxHeartbeats 8000000 in
set_option maxRecDepth 100000 in
theorem c_X10_keeps (l : Launch) (D : va_G) (a : Nat → Nat) (c : Nat → ClassId) (u : zU) (k : Int) (hI : IB u) (b_k : -2147483648 ≤ k ∧ k < 2147483648) : ZM l D (zTy c) (WB a c) yX10_keeps wsX10_keeps 7 [.ref (a 0), .int (zI k)] u rI (fun z u' => (∃ w : Int → Int, u' = us u 47 w) ∧ ((k = 0 ∧ z = u 3 4 - pcn (kst (u 18) (u 3 6) (u 3 4) (2 ^ (u 3 4).toNat))) ∨ (k = 1 ∧ z = ((kst (u 18) (u 3 6) (u 3 4) (2 ^ (u 3 4).toNat) : Nat) : Int)) ∨ (¬ (0 ≤ k ∧ k ≤ 1) ∧ z = -1))) := by
  refine ZM.ofI (cc := cX10_keeps) (maxL := 3) [(0, .ref (a 0)), (1, .int (zI k))] rfl (by decide +kernel) rfl (Nat.le_of_ble_eq_true rfl) (WB_addr a c) ?_
  intro x C hK _ _ hDD kret
  have hlv := hI.lev
  have hkl := kst_lt (P := u 18) (e := u 3 6) (lv := u 3 4) (n := 2 ^ (u 3 4).toNat) (pow8 (by omega)).1
  have hk8 := (pow8 (n := (u 3 4).toNat) (by omega)).2
  refine z_iload_n C 1 dX10_keeps_0 rfl ?_
  refine z_iconst C dX10_keeps_1 ?_
  refine z_iconst C dX10_keeps_2 ?_
  refine z_callS C hK hDD (c_X10_isWithin (zl x) (zG x) ((WB a c)) (WB_addr a c) u k 0 1 (by omega) (by omega) (by omega)) gX10_keeps_X10_isWithin rfl rfl zy_X10_isWithin ⟨by omega, by decide⟩ rfl (Nat.le_of_ble_eq_true rfl) (st := []) (stk2 := fun z1 => [.int (zI z1)]) rfl (fun _ => rfl) dX10_keeps_3 (fun z1 u2 h3 => ?_)
  rw [h3.1]; replace h3 := h3.2
  refine z_if_ne C 11 dX10_keeps_6 (by decide) (by omega) (fun h4 => ?_) (fun h4 => ?_)
  · skip
    refine z_aload_n C 0 dX10_keeps_11 rfl ?_
    refine z_get C hK (v := .ref (a 46)) inX10_keeps_X10 0 (WB_0 a c u) rfl 10 (by decide) (List.mem_of_getElem? (i := 1) rfl) rfl dX10_keeps_12 ?_
    refine z_callVN C hK hDD (c_X9_largestSet (zl x) (zG x) a c u  (hI)) ggX10_keeps_X9_largestSet (List.mem_of_getElem? (i := 20) rfl) (List.mem_of_getElem? (i := 8) rfl) (List.mem_of_getElem? (i := 7) rfl) (List.mem_of_getElem? (i := 9) rfl) rfl zy_X9_largestSet 46 (WB_46 a c u) rfl ⟨by omega, by decide⟩ rfl (Nat.le_of_ble_eq_true rfl) (st := []) (stk2 := fun z5 => [.int (zI z5)]) rfl (fun _ => rfl) dX10_keeps_15 (fun z5 u6 h7 => ?_)
    obtain ⟨⟨w, e1⟩, e2⟩ := h7
    rw [e1]
    change Z x 0 0 (WB a c (us u 47 (w))) _ _ _
    refine z_as (b := ((kst (u 18) (u 3 6) (u 3 4) (2 ^ (u 3 4).toNat) : Nat) : Int)) (e2) ?_
    refine z_istore_n C [(2, .int (zI (((kst (u 18) (u 3 6) (u 3 4) (2 ^ (u 3 4).toNat) : Nat) : Int)))), (0, .ref (a 0)), (1, .int (zI k))] dX10_keeps_18 rfl (by decide) rfl ?_
    refine z_iload_n C 2 dX10_keeps_19 rfl ?_
    refine z_if_ne C 38 dX10_keeps_20 (by decide) (by omega) (fun h8 => ?_) (fun h8 => ?_)
    · skip
      refine z_iload_n C 0 dX10_keeps_38 rfl ?_
      exact kret (((kst (u 18) (u 3 6) (u 3 4) (2 ^ (u 3 4).toNat) : Nat) : Int)) (us u 47 w) _ _ (⟨⟨w, rfl⟩, by first | exact Or.inl ⟨by omega, rfl⟩ | exact Or.inr (Or.inl ⟨by omega, rfl⟩)⟩) dX10_keeps_39
    · skip
      refine z_aload_n C 1 dX10_keeps_23 rfl ?_
      refine z_get C hK (v := .ref (a 3)) inX10_keeps_X10 0 (WB_0 a c ((us u 47 (w)))) rfl 1 (by decide) (List.mem_of_getElem? (i := 2) rfl) rfl dX10_keeps_24 ?_
      refine z_getN C hK (v := .int (zI (u 3 4))) inX10_keeps_X8 3 (WB_3 a c ((us u 47 (w)))) rfl 4 (by decide) (List.mem_of_getElem? (i := 7) rfl) rfl dX10_keeps_27 ?_
      refine z_iload_n C 0 dX10_keeps_30 rfl ?_
      refine z_callJ C hK hDD (c_J6_bitCount_0f7a4 (zl x) (zG x) ((WB a c)) (WB_addr a c) ((us u 47 (w))) (kst (u 18) (u 3 6) (u 3 4) (2 ^ (u 3 4).toNat)) (by omega)) gX10_keeps_J6_bitCount_0f7a4 rfl zy_J6_bitCount_0f7a4 ⟨by omega, by decide⟩ rfl (Nat.le_of_ble_eq_true rfl) (st := [.int (zI (u 3 4))]) (stk2 := fun z9 => [.int (zI z9), .int (zI (u 3 4))]) rfl (fun _ => rfl) dX10_keeps_31 (fun z9 u10 h11 => ?_)
      rw [h11.1]; replace h11 := h11.2
      refine z_as (b := pcn (kst (u 18) (u 3 6) (u 3 4) (2 ^ (u 3 4).toNat))) h11 ?_
      refine z_isub C dX10_keeps_34 ?_
      refine z_goto C 39 dX10_keeps_35 (by decide) ?_
      exact kret ((u 3 4) - (pcn (kst (u 18) (u 3 6) (u 3 4) (2 ^ (u 3 4).toNat)))) (us u 47 w) _ _ (⟨⟨w, rfl⟩, by first | exact Or.inl ⟨by omega, rfl⟩ | exact Or.inr (Or.inl ⟨by omega, rfl⟩)⟩) dX10_keeps_39
  · skip
    refine z_iconst C dX10_keeps_9 ?_
    exact kret (-1) (us u 47 (u 47)) _ _ (⟨⟨_, rfl⟩, Or.inr (Or.inr ⟨by omega, rfl⟩)⟩) dX10_keeps_10
