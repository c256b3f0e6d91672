/-! ===== contracts: the JDK's String methods over the literals ===== -/
theorem zy_J3_checkIndex_8e157 : zY yJ3_checkIndex_8e157 3 := ⟨by decide +kernel, by decide +kernel, by decide +kernel⟩
theorem zy_J0_checkIndex_df160 : zY yJ0_checkIndex_df160 2 := ⟨by decide +kernel, by decide +kernel, by decide +kernel⟩
theorem zy_J1_charAt_3b067 : zY yJ1_charAt_3b067 2 := ⟨by decide +kernel, by decide +kernel, by decide +kernel⟩
theorem zy_J0_isLatin1_aae02 : zY yJ0_isLatin1_aae02 0 := ⟨by decide +kernel, by decide +kernel, by decide +kernel⟩
theorem zy_J0_coder_7d493 : zY yJ0_coder_7d493 0 := ⟨by decide +kernel, by decide +kernel, by decide +kernel⟩
theorem zy_J0_length_8abf5 : zY yJ0_length_8abf5 0 := ⟨by decide +kernel, by decide +kernel, by decide +kernel⟩
theorem zy_J0_charAt_5068e : zY yJ0_charAt_5068e 1 := ⟨by decide +kernel, by decide +kernel, by decide +kernel⟩
set_option maxHeartbeats 4000000 in
theorem c_J3_checkIndex_8e157 (l : Launch) (D : va_G) {tys : List (ClassId × FieldType)} {S : Type} (WW : S → va_W) (hWW : ∀ u u' : S, (WW u).map (fun q => q.1) = (WW u').map (fun q => q.1)) (u : S) (q n : Int) (fv : Value) (hfv : fv = .null ∨ ∃ t : Nat, fv = .ref t) (b_q : 0 ≤ q ∧ q < n ∧ n < 2147483648) : ZM l D tys WW yJ3_checkIndex_8e157 wsJ3_checkIndex_8e157 1 [.int (zI q), .int (zI n), fv] u rI (fun z u' => u' = u ∧ z = q) := by
  refine ZM.ofI (cc := cJ3_checkIndex_8e157) (maxL := 3) [(0, .int (zI q)), (1, .int (zI n)), (2, fv)] (by rcases hfv with h | ⟨t, h⟩ <;> subst h <;> rfl) (by decide +kernel) rfl (by rcases hfv with h | ⟨t, h⟩ <;> subst h <;> exact Nat.le_of_ble_eq_true rfl) hWW ?_
  intro x C hK _ _ hDD kret
  refine z_iload_n C 0 dJ3_checkIndex_8e157_0 rfl ?_
  refine z_if_lt C 9 dJ3_checkIndex_8e157_1 (by decide) (by omega) (fun h1 => ?_) (fun h1 => ?_)
  · exfalso; omega
  refine z_iload_n C 0 dJ3_checkIndex_8e157_4 rfl ?_
  refine z_iload_n C 1 dJ3_checkIndex_8e157_5 rfl ?_
  refine z_icmp_lt C 16 dJ3_checkIndex_8e157_6 (by decide) (by omega) (fun h2 => ?_) (fun h2 => ?_)
  · refine z_iload_n C 0 dJ3_checkIndex_8e157_16 rfl ?_
    exact kret q u _ _ ⟨rfl, rfl⟩ dJ3_checkIndex_8e157_17
  · exfalso; omega
set_option maxHeartbeats 4000000 in
theorem c_J0_checkIndex_df160 (l : Launch) (D : va_G) (sa sv : Nat → Nat) {tys : List (ClassId × FieldType)} {S : Type} (WW : S → va_W) (hWW : ∀ u u' : S, (WW u).map (fun q => q.1) = (WW u').map (fun q => q.1)) (u : S) (q n : Int) (b_q : 0 ≤ q ∧ q < n ∧ n < 2147483648) : ZE l D sa sv tys WW yJ0_checkIndex_df160 wsJ0_checkIndex_df160 2 [.int (zI q), .int (zI n)] u rV (fun z u' => u' = u) := by
  refine ZE.ofV (cc := cJ0_checkIndex_df160) (maxL := 2) [(0, .int (zI q)), (1, .int (zI n))] rfl (by decide +kernel) rfl (Nat.le_of_ble_eq_true rfl) hWW ?_
  intro x C hK _ _ hDD hE kret
  refine z_iload_n C 0 dJ0_checkIndex_df160_0 rfl ?_
  refine z_iload_n C 1 dJ0_checkIndex_df160_1 rfl ?_
  refine z_getsQ C hE (fun A s h => h.2.2.2) (List.mem_of_getElem? (i := 1) rfl) dJ0_checkIndex_df160_2 (fun fv hfv => ?_)
  refine z_callJ C hK hDD (c_J3_checkIndex_8e157 (zl x) (zG x) WW hWW u q n fv hfv b_q) gJ0_checkIndex_df160_J3_checkIndex_8e157 rfl zy_J3_checkIndex_8e157 ⟨by omega, by decide⟩ rfl (Nat.le_of_ble_eq_true rfl) (st := []) (stk2 := fun z => [.int (zI z)]) rfl (fun _ => rfl) dJ0_checkIndex_df160_5 (fun z u2 h => ?_)
  rw [h.1]
  refine z_pop C dJ0_checkIndex_df160_8 rfl ?_
  exact kret 0 u _ _ rfl dJ0_checkIndex_df160_9
set_option maxHeartbeats 4000000 in
theorem c_J1_charAt_3b067 (l : Launch) (D : va_G) (sa sv : Nat → Nat) {tys : List (ClassId × FieldType)} {S : Type} (WW : S → va_W) (hWW : ∀ u u' : S, (WW u).map (fun q => q.1) = (WW u').map (fun q => q.1)) (u : S) (i : Nat) (q : Int) (hi : i < 5) (b_q : 0 ≤ q ∧ q < sLn i) : ZE l D sa sv tys WW yJ1_charAt_3b067 wsJ1_charAt_3b067 3 [.ref (sv i), .int (zI q)] u rI (fun z u' => u' = u ∧ z = sCh i q) := by
  have hs := sLn_bd hi
  obtain ⟨g1, _, g3, g4, g5⟩ := sCh_all hi b_q.1 b_q.2
  refine ZE.ofT .char (cc := cJ1_charAt_3b067) (maxL := 2) [(0, .ref (sv i)), (1, .int (zI q))] rfl (by decide +kernel) rfl (Nat.le_of_ble_eq_true rfl) hWW ?_
  intro x C hK _ _ hDD hE kret
  refine z_iload_n C 1 dJ1_charAt_3b067_0 rfl ?_
  refine z_aload_n C 0 dJ1_charAt_3b067_1 rfl ?_
  refine z_alenE C hE hi dJ1_charAt_3b067_2 ?_
  refine z_callJE C hK hE hDD (c_J0_checkIndex_df160 (zl x) (zG x) sa sv WW hWW u q (sLn i) (by omega)) gJ1_charAt_3b067_J0_checkIndex_df160 rfl zy_J0_checkIndex_df160 ⟨by omega, by decide⟩ rfl (Nat.le_of_ble_eq_true rfl) (st := []) (stk2 := fun _ => []) rfl (fun _ => rfl) dJ1_charAt_3b067_3 (fun z u2 h => ?_)
  rw [h]
  refine z_aload_n C 0 dJ1_charAt_3b067_6 rfl ?_
  refine z_iload_n C 1 dJ1_charAt_3b067_7 rfl ?_
  refine z_baldE C hE hi b_q.1 b_q.2 dJ1_charAt_3b067_8 ?_
  refine z_sipush C dJ1_charAt_3b067_9 (by decide) ?_
  refine z_iand C (sCh i q) dJ1_charAt_3b067_12 g3 ?_
  refine z_i2c C g4 dJ1_charAt_3b067_13 ?_
  exact kret (sCh i q) u _ _ ⟨rfl, rfl⟩ g5 dJ1_charAt_3b067_14
set_option maxHeartbeats 4000000 in
theorem c_J0_isLatin1_aae02 (l : Launch) (D : va_G) (sa sv : Nat → Nat) {tys : List (ClassId × FieldType)} {S : Type} (WW : S → va_W) (hWW : ∀ u u' : S, (WW u).map (fun q => q.1) = (WW u').map (fun q => q.1)) (u : S) (i : Nat) (hi : i < 5) : ZE l D sa sv tys WW yJ0_isLatin1_aae02 wsJ0_isLatin1_aae02 1 [.ref (sa i)] u rI (fun z u' => u' = u ∧ z = 1) := by
  refine ZE.ofZ (cc := cJ0_isLatin1_aae02) (maxL := 1) [(0, .ref (sa i))] rfl (by decide +kernel) rfl (Nat.le_of_ble_eq_true rfl) hWW ?_
  intro x C hK _ _ hDD hE kret
  refine z_getsE C hE (fun A s h => h.2.2.1) (List.mem_of_getElem? (i := 1) rfl) dJ0_isLatin1_aae02_0 ?_
  refine z_if_eq C 17 dJ0_isLatin1_aae02_3 (by decide) (by omega) (fun h1 => ?_) (fun h1 => ?_)
  · exfalso; omega
  refine z_aload_n C 0 dJ0_isLatin1_aae02_6 rfl ?_
  refine z_getfE C hE (v := .int (zI 0)) (fun A s h => (h.2.1.1 i hi).2.1) (List.mem_of_getElem? (i := 2) rfl) dJ0_isLatin1_aae02_7 ?_
  refine z_if_ne C 17 dJ0_isLatin1_aae02_10 (by decide) (by omega) (fun h2 => ?_) (fun h2 => ?_)
  · exfalso; omega
  refine z_iconst C dJ0_isLatin1_aae02_13 ?_
  refine z_goto C 18 dJ0_isLatin1_aae02_14 (by decide) ?_
  exact kret 1 u _ _ ⟨rfl, rfl⟩ (by omega) dJ0_isLatin1_aae02_18
set_option maxHeartbeats 4000000 in
theorem c_J0_coder_7d493 (l : Launch) (D : va_G) (sa sv : Nat → Nat) {tys : List (ClassId × FieldType)} {S : Type} (WW : S → va_W) (hWW : ∀ u u' : S, (WW u).map (fun q => q.1) = (WW u').map (fun q => q.1)) (u : S) (i : Nat) (hi : i < 5) : ZE l D sa sv tys WW yJ0_coder_7d493 wsJ0_coder_7d493 1 [.ref (sa i)] u rI (fun z u' => u' = u ∧ z = 0) := by
  refine ZE.ofT .byte (cc := cJ0_coder_7d493) (maxL := 1) [(0, .ref (sa i))] rfl (by decide +kernel) rfl (Nat.le_of_ble_eq_true rfl) hWW ?_
  intro x C hK _ _ hDD hE kret
  refine z_getsE C hE (fun A s h => h.2.2.1) (List.mem_of_getElem? (i := 1) rfl) dJ0_coder_7d493_0 ?_
  refine z_if_eq C 13 dJ0_coder_7d493_3 (by decide) (by omega) (fun h1 => ?_) (fun h1 => ?_)
  · exfalso; omega
  refine z_aload_n C 0 dJ0_coder_7d493_6 rfl ?_
  refine z_getfE C hE (v := .int (zI 0)) (fun A s h => (h.2.1.1 i hi).2.1) (List.mem_of_getElem? (i := 2) rfl) dJ0_coder_7d493_7 ?_
  refine z_goto C 14 dJ0_coder_7d493_10 (by decide) ?_
  exact kret 0 u _ _ ⟨rfl, rfl⟩ rfl dJ0_coder_7d493_14
set_option maxHeartbeats 4000000 in
theorem c_J0_length_8abf5 (l : Launch) (D : va_G) (sa sv : Nat → Nat) {tys : List (ClassId × FieldType)} {S : Type} (WW : S → va_W) (hWW : ∀ u u' : S, (WW u).map (fun q => q.1) = (WW u').map (fun q => q.1)) (u : S) (i : Nat) (hi : i < 5) : ZE l D sa sv tys WW yJ0_length_8abf5 wsJ0_length_8abf5 2 [.ref (sa i)] u rI (fun z u' => u' = u ∧ z = sLn i) := by
  have hs := sLn_bd hi
  refine ZE.ofI (cc := cJ0_length_8abf5) (maxL := 1) [(0, .ref (sa i))] rfl (by decide +kernel) rfl (Nat.le_of_ble_eq_true rfl) hWW ?_
  intro x C hK _ _ hDD hE kret
  refine z_aload_n C 0 dJ0_length_8abf5_0 rfl ?_
  refine z_getfE C hE (v := .ref (sv i)) (fun A s h => (h.2.1.1 i hi).2.2.1) (List.mem_of_getElem? (i := 1) rfl) dJ0_length_8abf5_1 ?_
  refine z_alenE C hE hi dJ0_length_8abf5_4 ?_
  refine z_aload_n C 0 dJ0_length_8abf5_5 rfl ?_
  refine z_callVS C hK hE hDD (c_J0_coder_7d493 (zl x) (zG x) sa sv WW hWW u i hi) gJ0_length_8abf5_J0_coder_7d493 rfl zy_J0_coder_7d493 hi rfl ⟨by omega, by decide⟩ rfl (Nat.le_of_ble_eq_true rfl) (st := [.int (zI (sLn i))]) (stk2 := fun z => [.int (zI z), .int (zI (sLn i))]) rfl (fun _ => rfl) dJ0_length_8abf5_6 (fun z u2 h => ?_)
  rw [h.1, h.2]
  refine z_ishr C (sLn i) dJ0_length_8abf5_9 (by have q := zI_shrE (a := sLn i) (e := 0) (by omega) (by omega); rw [q]; congr 1; exact Int.ediv_one _) ?_
  exact kret (sLn i) u _ _ ⟨rfl, rfl⟩ dJ0_length_8abf5_10
set_option maxHeartbeats 4000000 in
theorem c_J0_charAt_5068e (l : Launch) (D : va_G) (sa sv : Nat → Nat) {tys : List (ClassId × FieldType)} {S : Type} (WW : S → va_W) (hWW : ∀ u u' : S, (WW u).map (fun q => q.1) = (WW u').map (fun q => q.1)) (u : S) (i : Nat) (q : Int) (hi : i < 5) (b_q : 0 ≤ q ∧ q < sLn i) : ZE l D sa sv tys WW yJ0_charAt_5068e wsJ0_charAt_5068e 4 [.ref (sa i), .int (zI q)] u rI (fun z u' => u' = u ∧ z = sCh i q) := by
  obtain ⟨g1, _, g3, g4, g5⟩ := sCh_all hi b_q.1 b_q.2
  refine ZE.ofT .char (cc := cJ0_charAt_5068e) (maxL := 2) [(0, .ref (sa i)), (1, .int (zI q))] rfl (by decide +kernel) rfl (Nat.le_of_ble_eq_true rfl) hWW ?_
  intro x C hK _ _ hDD hE kret
  refine z_aload_n C 0 dJ0_charAt_5068e_0 rfl ?_
  refine z_callVS C hK hE hDD (c_J0_isLatin1_aae02 (zl x) (zG x) sa sv WW hWW u i hi) gJ0_charAt_5068e_J0_isLatin1_aae02 rfl zy_J0_isLatin1_aae02 hi rfl ⟨by omega, by decide⟩ rfl (Nat.le_of_ble_eq_true rfl) (st := []) (stk2 := fun z => [.int (zI z)]) rfl (fun _ => rfl) dJ0_charAt_5068e_1 (fun z u2 h => ?_)
  rw [h.1, h.2]
  refine z_if_eq C 16 dJ0_charAt_5068e_4 (by decide) (by omega) (fun h1 => ?_) (fun h1 => ?_)
  · exfalso; omega
  refine z_aload_n C 0 dJ0_charAt_5068e_7 rfl ?_
  refine z_getfE C hE (v := .ref (sv i)) (fun A s h => (h.2.1.1 i hi).2.2.1) (List.mem_of_getElem? (i := 1) rfl) dJ0_charAt_5068e_8 ?_
  refine z_iload_n C 1 dJ0_charAt_5068e_11 rfl ?_
  refine z_callJE C hK hE hDD (c_J1_charAt_3b067 (zl x) (zG x) sa sv WW hWW u i q hi b_q) gJ0_charAt_5068e_J1_charAt_3b067 rfl zy_J1_charAt_3b067 ⟨by omega, by decide⟩ rfl (Nat.le_of_ble_eq_true rfl) (st := []) (stk2 := fun z => [.int (zI z)]) rfl (fun _ => rfl) dJ0_charAt_5068e_12 (fun z u2 h2 => ?_)
  rw [h2.1, h2.2]
  exact kret (sCh i q) u _ _ ⟨rfl, rfl⟩ g5 dJ0_charAt_5068e_15
