/-! ===== contracts: the reference, tracks and tuning ===== -/
theorem whb_t {A : Int → Int → Bool} {d : Int → Int} {n k i : Int} (hi : 0 ≤ i) (h1 : 0 < fw A d k.toNat i) (h2 : 0 < bw A d n (n - 1 - k).toNat i) : (fun q : Nat => decide (0 < fw A d k.toNat q ∧ 0 < bw A d n (n - 1 - k).toNat q)) i.toNat = true := by
  show decide (0 < fw A d k.toNat (i.toNat : Int) ∧ 0 < bw A d n (n - 1 - k).toNat (i.toNat : Int)) = true
  rw [Int.toNat_of_nonneg hi]
  exact decide_eq_true ⟨h1, h2⟩
theorem whb_f {A : Int → Int → Bool} {d : Int → Int} {n k i : Int} (hi : 0 ≤ i) (h : ¬ (0 < fw A d k.toNat i ∧ 0 < bw A d n (n - 1 - k).toNat i)) : (fun q : Nat => decide (0 < fw A d k.toNat q ∧ 0 < bw A d n (n - 1 - k).toNat q)) i.toNat = false := by
  show decide (0 < fw A d k.toNat (i.toNat : Int) ∧ 0 < bw A d n (n - 1 - k).toNat (i.toNat : Int)) = false
  rw [Int.toNat_of_nonneg hi]
  exact decide_eq_false h
theorem sm_le {f : Int → Int} {c : Int} : ∀ n : Nat, (∀ i : Int, f i ≤ c) → sm f n ≤ c * n
  | 0, _ => by show (0 : Int) ≤ c * 0; omega
  | n + 1, h => by
    have h1 := sm_le n h
    have h2 := h n
    show sm f n + f n ≤ c * ((n + 1 : Nat) : Int)
    rw [show ((n + 1 : Nat) : Int) = (n : Int) + 1 by omega, Int.mul_add]
    omega
theorem fw_le (A : Int → Int → Bool) (d : Int → Int) : ∀ (k : Nat) (l : Int), fw A d k l ≤ 8 ^ k
  | 0, l => by unfold fw; split <;> decide
  | k + 1, l => by
    have hp : (0 : Int) ≤ 8 ^ k := Int.pow_nonneg (by decide)
    have h := sm_le (f := fun o => if near (d ((k : Int) + 1)) o l = true then fw A d k o else 0) (c := 8 ^ k) 8 (fun i => by
      show (if near (d ((k : Int) + 1)) i l = true then fw A d k i else 0) ≤ 8 ^ k
      split
      · exact fw_le A d k i
      · exact hp)
    unfold fw
    rw [Int.pow_succ]
    split <;> omega
theorem bw_le (A : Int → Int → Bool) (d : Int → Int) (n : Int) : ∀ (k : Nat) (l : Int), bw A d n k l ≤ 8 ^ k
  | 0, l => by unfold bw; split <;> decide
  | k + 1, l => by
    have hp : (0 : Int) ≤ 8 ^ k := Int.pow_nonneg (by decide)
    have h := sm_le (f := fun o => if near (d (n - 1 - (k : Int))) l o = true then bw A d n k o else 0) (c := 8 ^ k) 8 (fun i => by
      show (if near (d (n - 1 - (k : Int))) l i = true then bw A d n k i else 0) ≤ 8 ^ k
      split
      · exact bw_le A d n k i
      · exact hp)
    unfold bw
    rw [Int.pow_succ]
    split <;> omega
theorem pow6 {k : Nat} (hk : k ≤ 6) : (8 : Int) ^ k ≤ 262144 := by
  have h : (8 : Int) ^ k ≤ 8 ^ 6 := by
    have := Nat.pow_le_pow_right (n := 8) (by decide) hk
    exact_mod_cast this
  exact h
theorem fw_small (A : Int → Int → Bool) (d : Int → Int) {k : Nat} (hk : k ≤ 6) (l : Int) : 0 ≤ fw A d k l ∧ fw A d k l ≤ 262144 := ⟨fw_nonneg A d k l, Int.le_trans (fw_le A d k l) (pow6 hk)⟩
theorem bw_small (A : Int → Int → Bool) (d : Int → Int) (n : Int) {k : Nat} (hk : k ≤ 6) (l : Int) : 0 ≤ bw A d n k l ∧ bw A d n k l ≤ 262144 := ⟨bw_nonneg A d n k l, Int.le_trans (bw_le A d n k l) (pow6 hk)⟩
theorem istk_step {P : Int → Int} {e a c b i r : Int} (hn : (b = 1 ∧ clsh P e a c = true) ∨ (b = 0 ∧ ∀ w : Int, 0 ≤ w → w < i → ¬ (snd (P a) w a - snd (P c) w c ≤ e ∧ snd (P c) w c - snd (P a) w a ≤ e))) (hi : 0 ≤ i ∧ i < 10) (hr : (b = 1 ∧ r = 1) ∨ (b = 0 ∧ r = 1 ∧ snd (P a) i a - snd (P c) i c ≤ e ∧ snd (P c) i c - snd (P a) i a ≤ e) ∨ (b = 0 ∧ r = 0 ∧ ¬ (snd (P a) i a - snd (P c) i c ≤ e ∧ snd (P c) i c - snd (P a) i a ≤ e))) : (r = 1 ∧ clsh P e a c = true) ∨ (r = 0 ∧ ∀ w : Int, 0 ≤ w → w < i + 1 → ¬ (snd (P a) w a - snd (P c) w c ≤ e ∧ snd (P c) w c - snd (P a) w a ≤ e)) := by
  rcases hn with ⟨q1, q2⟩ | ⟨q1, q2⟩
  · exact Or.inl ⟨by omega, q2⟩
  · rcases hr with ⟨r1, _⟩ | ⟨_, r2, r3⟩ | ⟨_, r2, r3⟩
    · omega
    · exact Or.inl ⟨r2, clsh_t hi r3⟩
    · refine Or.inr ⟨r2, fun w h0 h1 => ?_⟩
      by_cases e1 : w = i
      · rw [e1]; exact r3
      · exact q2 w h0 (by omega)
theorem many_end {b : Int} {m bx : Nat} (h : b + pcn m = pcn bx) (hm : m = 0) : b = pcn bx := by
  have h0 : pcn 0 = 0 := by decide
  rw [hm, h0] at h
  omega
theorem fl_val {A : Int → Int → Bool} {d : Int → Int} {k l o b v : Int} (hk : 0 ≤ k) (ho : 0 < k → o = 8) (hb : (k = 0 ∧ b = 1 ∧ o = 0) ∨ (0 < k ∧ b = sm (fun q => if near (d k) q l = true then fw A d (k - 1).toNat q else 0) o.toNat)) (hv : (A k l = true ∧ v = b) ∨ (A k l = false ∧ v = 0)) : v = fw A d k.toNat l := by
  rcases hb with ⟨e0, e1, e2⟩ | ⟨e0, e1⟩
  · rw [e0]
    show v = if A 0 l = true then (1 : Int) else 0
    rw [e0] at hv
    rcases hv with ⟨h1, h2⟩ | ⟨h1, h2⟩
    · rw [if_pos h1, h2, e1]
    · rw [if_neg (by rw [h1]; decide), h2]
  · rw [fw_at (b := b) e0 (by rw [e1, show o.toNat = 8 by have := ho e0; omega])]
    rcases hv with ⟨h1, h2⟩ | ⟨h1, h2⟩
    · rw [if_pos h1, h2]
    · rw [if_neg (by rw [h1]; decide), h2]
theorem bl_val {A : Int → Int → Bool} {d : Int → Int} {n k l o b v : Int} (hk : 0 ≤ k ∧ k < n) (ho : k < n - 1 → o = 8) (hb : (k = n - 1 ∧ b = 1 ∧ o = 0) ∨ (k < n - 1 ∧ b = sm (fun q => if near (d (k + 1)) l q = true then bw A d n (n - 2 - k).toNat q else 0) o.toNat)) (hv : (A k l = true ∧ v = b) ∨ (A k l = false ∧ v = 0)) : v = bw A d n (n - 1 - k).toNat l := by
  rcases hb with ⟨e0, e1, e2⟩ | ⟨e0, e1⟩
  · rw [show (n - 1 - k).toNat = 0 by omega]
    show v = if A (n - 1) l = true then (1 : Int) else 0
    rw [← e0]
    rcases hv with ⟨h1, h2⟩ | ⟨h1, h2⟩
    · rw [if_pos h1, h2, e1]
    · rw [if_neg (by rw [h1]; decide), h2]
  · rw [bw_at (b := b) ⟨hk.1, e0⟩ (by rw [e1, show o.toNat = 8 by have := ho e0; omega])]
    rcases hv with ⟨h1, h2⟩ | ⟨h1, h2⟩
    · rw [if_pos h1, h2]
    · rw [if_neg (by rw [h1]; decide), h2]
theorem kp_end {P : Int → Int} {e lv i a s b v : Int} (hi : 0 ≤ i) (ha : s = 1 → lv ≤ a) (hb : b = ((kst P e lv i.toNat : Nat) : Int)) (hs : (s = 1 ∧ pcn (kst P e lv i.toNat) < pcn i.toNat ∧ fr2 P e i.toNat a) ∨ (s = 0 ∧ ¬ (pcn (kst P e lv i.toNat) < pcn i.toNat ∧ free P e lv i.toNat = true))) (hv : (s ≠ 0 ∧ v = i) ∨ (s = 0 ∧ v = b)) : v = ((kst P e lv (i + 1).toNat : Nat) : Int) := by
  rcases hs with ⟨q1, q2, q3⟩ | ⟨q1, q2⟩
  · rw [kst_take hi ⟨q2, fr2_end q3 (ha q1)⟩]; omega
  · rw [kst_skip hi q2]; omega
theorem kp_s {P : Int → Int} {e lv a1 b1 t : Int} {X : Nat} (ha : 0 ≤ a1) (hb : t = 1 → a1 ≤ b1) (ht : (t = 1 ∧ pcn (kst P e lv X) < pcn X ∧ fr3 P e X a1 b1) ∨ (t = 0 ∧ ¬ (pcn (kst P e lv X) < pcn X ∧ free P e lv X = true))) : (t = 1 ∧ pcn (kst P e lv X) < pcn X ∧ fr2 P e X (a1 + 1)) ∨ (t = 0 ∧ ¬ (pcn (kst P e lv X) < pcn X ∧ free P e lv X = true)) := by
  rcases ht with ⟨q1, q2, q3⟩ | q
  · exact Or.inl ⟨q1, q2, fr2_step ha q3 (hb q1)⟩
  · exact Or.inr q
theorem kp_i {P : Int → Int} {e lv a1 s : Int} {X : Nat} (hs : (s = 1 ∧ pcn (kst P e lv X) < pcn X ∧ fr2 P e X a1) ∨ (s = 0 ∧ ¬ (pcn (kst P e lv X) < pcn X ∧ free P e lv X = true))) : (s = 1 ∧ pcn (kst P e lv X) < pcn X ∧ fr3 P e X a1 0) ∨ (s = 0 ∧ ¬ (pcn (kst P e lv X) < pcn X ∧ free P e lv X = true)) := by
  rcases hs with ⟨q1, q2, q3⟩ | q
  · exact Or.inl ⟨q1, q2, fr3_0 q3⟩
  · exact Or.inr q
theorem kp_t {P : Int → Int} {e lv a1 b1 t : Int} {X : Nat} (hb : 0 ≤ b1) (h1 : t ≠ 0) (ht : (t = 1 ∧ pcn (kst P e lv X) < pcn X ∧ fr3 P e X a1 b1) ∨ (t = 0 ∧ ¬ (pcn (kst P e lv X) < pcn X ∧ free P e lv X = true))) (hfr : X.testBit a1.toNat = true → X.testBit b1.toNat = true → clsh P e a1 b1 = false) : ((1 : Int) = 1 ∧ pcn (kst P e lv X) < pcn X ∧ fr3 P e X a1 (b1 + 1)) ∨ ((1 : Int) = 0 ∧ ¬ (pcn (kst P e lv X) < pcn X ∧ free P e lv X = true)) := by
  rcases ht with ⟨q1, q2, q3⟩ | q
  · exact Or.inl ⟨rfl, q2, fr3_step hb q3 hfr⟩
  · exact absurd q.1 h1

theorem zy_X11_mayGo : zY yX11_mayGo 4 := ⟨by decide +kernel, by decide +kernel, by decide +kernel⟩
theorem zy_X11_counts : zY yX11_counts 0 := ⟨by decide +kernel, by decide +kernel, by decide +kernel⟩
theorem zy_X11_tracks : zY yX11_tracks 0 := ⟨by decide +kernel, by decide +kernel, by decide +kernel⟩
theorem zy_X11_where : zY yX11_where 1 := ⟨by decide +kernel, by decide +kernel, by decide +kernel⟩
theorem zy_X11_isTaken : zY yX11_isTaken 2 := ⟨by decide +kernel, by decide +kernel, by decide +kernel⟩
theorem zy_X11_many : zY yX11_many 1 := ⟨by decide +kernel, by decide +kernel, by decide +kernel⟩
theorem zy_X11_keeps : zY yX11_keeps 1 := ⟨by decide +kernel, by decide +kernel, by decide +kernel⟩
theorem zy_X11_meets : zY yX11_meets 2 := ⟨by decide +kernel, by decide +kernel, by decide +kernel⟩
theorem zy_X11_meet : zY yX11_meet 2 := ⟨by decide +kernel, by decide +kernel, by decide +kernel⟩
theorem zy_X11_first : zY yX11_first 0 := ⟨by decide +kernel, by decide +kernel, by decide +kernel⟩
-- NoteBellsModel.mayGo
theorem inX11_mayGo_X11 : ∀ w ∈ wsX110, w ∈ wsX11_mayGo := fun w h => List.mem_cons_of_mem _ (List.mem_append_right _ (h))
set_option maxHeartbeats 8000000 in
set_option maxRecDepth 100000 in
theorem c_X11_mayGo (l : Launch) (D : va_G) (a : Nat → Nat) (c : Nat → ClassId) (u : zU) (k1 k2 x1 x2 : Int) (hI : IM u) (b_1 : 0 ≤ k1 ∧ k1 < 6) (b_2 : 0 ≤ k2 ∧ k2 < 6) (b_3 : 0 ≤ x1 ∧ x1 < 8) (b_4 : 0 ≤ x2 ∧ x2 < 8) : ZM l D (zTy c) (WM a c) yX11_mayGo wsX11_mayGo 2 [.ref (a 0), .int (zI k1), .int (zI k2), .int (zI x1), .int (zI x2)] u rI (fun z u' => u' = u ∧ ((z = 1 ∧ x1 - x2 ≤ u 9 2 * (u 10 k2 - u 10 k1) ∧ x2 - x1 ≤ u 9 2 * (u 10 k2 - u 10 k1)) ∨ (z = 0 ∧ ¬ (x1 - x2 ≤ u 9 2 * (u 10 k2 - u 10 k1) ∧ x2 - x1 ≤ u 9 2 * (u 10 k2 - u 10 k1))))) := by
  refine ZM.ofZ (cc := cX11_mayGo) (maxL := 5) [(0, .ref (a 0)), (1, .int (zI k1)), (2, .int (zI k2)), (3, .int (zI x1)), (4, .int (zI x2))] rfl (by decide +kernel) rfl (Nat.le_of_ble_eq_true rfl) (WM_addr a c) ?_
  intro x C hK _ _ hDD kret
  have hpc := hI.pace
  have hm1 := hI.minute k1 b_1.1 b_1.2
  have hm2 := hI.minute k2 b_2.1 b_2.2
  have hst := pc_bd hpc hm1 hm2
  refine z_iload_n C 3 dX11_mayGo_0 rfl ?_
  refine z_iload C 4 dX11_mayGo_1 rfl ?_
  refine z_callS C hK hDD (c_X11_away (zl x) (zG x) ((WM a c)) (WM_addr a c) u x1 x2 (by omega) (by omega)) gX11_mayGo_X11_away rfl rfl zy_X11_away ⟨by omega, by decide⟩ rfl (Nat.le_of_ble_eq_true rfl) (st := []) (stk2 := fun z1 => [.int (zI z1)]) rfl (fun _ => rfl) dX11_mayGo_3 (fun z1 u2 h3 => ?_)
  rw [h3.1]; replace h3 := h3.2
  refine z_aload_n C 0 dX11_mayGo_6 rfl ?_
  refine z_get C hK (v := .ref (a 9)) inX11_mayGo_X11 0 (WM_0 a c u) rfl 18 (by decide) (List.mem_of_getElem? (i := 1) rfl) rfl dX11_mayGo_7 ?_
  refine z_iconst C dX11_mayGo_10 ?_
  refine z_iald C hK 0 (g := (u 9)) (i := 2) 9 (WM_9 a c u) rfl (by decide) (by omega) dX11_mayGo_11 ?_
  refine z_as (b := u 9 2) rfl ?_
  refine z_aload_n C 0 dX11_mayGo_12 rfl ?_
  refine z_get C hK (v := .ref (a 10)) inX11_mayGo_X11 0 (WM_0 a c u) rfl 22 (by decide) (List.mem_of_getElem? (i := 2) rfl) rfl dX11_mayGo_13 ?_
  refine z_iload_n C 2 dX11_mayGo_16 rfl ?_
  refine z_iald C hK 0 (g := (u 10)) (i := k2) 10 (WM_10 a c u) rfl (by decide) (by omega) dX11_mayGo_17 ?_
  refine z_as (b := u 10 (k2)) rfl ?_
  refine z_aload_n C 0 dX11_mayGo_18 rfl ?_
  refine z_get C hK (v := .ref (a 10)) inX11_mayGo_X11 0 (WM_0 a c u) rfl 22 (by decide) (List.mem_of_getElem? (i := 2) rfl) rfl dX11_mayGo_19 ?_
  refine z_iload_n C 1 dX11_mayGo_22 rfl ?_
  refine z_iald C hK 0 (g := (u 10)) (i := k1) 10 (WM_10 a c u) rfl (by decide) (by omega) dX11_mayGo_23 ?_
  refine z_as (b := u 10 (k1)) rfl ?_
  refine z_isub C dX11_mayGo_24 ?_
  refine z_imul C dX11_mayGo_25 ?_
  refine z_icmp_gt C 33 dX11_mayGo_26 (by decide) (by omega) (fun h4 => ?_) (fun h4 => ?_)
  · skip
    refine z_iconst C dX11_mayGo_33 ?_
    exact kret 0 u _ _ (⟨rfl, by omega⟩) (by omega) dX11_mayGo_34
  · skip
    refine z_iconst C dX11_mayGo_29 ?_
    refine z_goto C 34 dX11_mayGo_30 (by decide) ?_
    exact kret 1 u _ _ (⟨rfl, by omega⟩) (by omega) dX11_mayGo_34
-- NoteBellsModel.counts
theorem inX11_counts_X11 : ∀ w ∈ wsX110, w ∈ wsX11_counts := fun w h => List.mem_cons_of_mem _ (List.mem_append_right _ (h))
set_option maxHeartbeats 8000000 in
set_option maxRecDepth 100000 in
theorem c_X11_counts (l : Launch) (D : va_G) (a : Nat → Nat) (c : Nat → ClassId) (u : zU)  (hI : IM u) : ZM l D (zTy c) (WM a c) yX11_counts wsX11_counts 6 [.ref (a 0)] u rV (fun z u' => ∃ f g : Int → Int, u' = us (us u 12 f) 13 g ∧ Fk (mlw u) (mdt u) f (u 0 21) ∧ Bk (mlw u) (mdt u) (u 0 21) g (-1)) := by
  refine ZM.ofV (cc := cX11_counts) (maxL := 6) [(0, .ref (a 0))] rfl (by decide +kernel) rfl (Nat.le_of_ble_eq_true rfl) (WM_addr a c) ?_
  intro x C hK _ _ hDD kret
  have hno := hI.notes
  refine z_iconst C dX11_counts_0 ?_
  refine z_istore_n C [(1, .int (zI 0)), (0, .ref (a 0))] dX11_counts_1 rfl (by decide) rfl ?_
  have L2_1 : ∀ (fu : Nat) (k : Int) (f : Int → Int), (0 ≤ k ∧ k ≤ u 0 21) → (Fk (mlw u) (mdt u) f k) → u 0 21 - k < (fu : Int) → Z x 0 0 (WM a c (us u 12 (f))) [(0, .ref (a 0)), (1, .int (zI k))] 2 [] := by
    intro fu
    induction fu with
    | zero => intro k f hk hf hmeas; exfalso; omega
    | succ fu ih2 =>
      intro k f hk hf hmeas
      refine z_iload_n C 1 dX11_counts_2 rfl ?_
      refine z_aload_n C 0 dX11_counts_3 rfl ?_
      refine z_get C hK (v := .int (zI (u 0 21))) inX11_counts_X11 0 (WM_0 a c ((us u 12 (f)))) rfl 21 (by decide) (List.mem_of_getElem? (i := 1) rfl) rfl dX11_counts_4 ?_
      refine z_icmp_ge C 136 dX11_counts_7 (by decide) (by omega) (fun h2 => ?_) (fun h2 => ?_)
      · skip
        refine z_aload_n C 0 dX11_counts_136 rfl ?_
        refine z_get C hK (v := .int (zI (u 0 21))) inX11_counts_X11 0 (WM_0 a c ((us u 12 (f)))) rfl 21 (by decide) (List.mem_of_getElem? (i := 1) rfl) rfl dX11_counts_137 ?_
        refine z_iconst C dX11_counts_140 ?_
        refine z_isub C dX11_counts_141 ?_
        refine z_istore_n C [(1, .int (zI ((u 0 21) - 1))), (0, .ref (a 0))] dX11_counts_142 rfl (by decide) rfl ?_
        have L143_3 : ∀ (fu : Nat) (k : Int) (g : Int → Int), (-1 ≤ k ∧ k < u 0 21) → (Bk (mlw u) (mdt u) (u 0 21) g k) → k + 1 < (fu : Int) → Z x 0 0 (WM a c (us (us u 12 (f)) 13 (g))) [(0, .ref (a 0)), (1, .int (zI k))] 143 [] := by
          intro fu
          induction fu with
          | zero => intro k g hk hg hmeas; exfalso; omega
          | succ fu ih143 =>
            intro k g hk hg hmeas
            refine z_iload_n C 1 dX11_counts_143 rfl ?_
            refine z_if_lt C 285 dX11_counts_144 (by decide) (by omega) (fun h4 => ?_) (fun h4 => ?_)
            · skip
              exact kret 0 (us (us u 12 f) 13 g) _ _ (⟨f, g, rfl, fun j h0 h1 => hf j h0 (by omega), by rw [show k = -1 by omega] at hg; exact hg⟩) dX11_counts_285
            · skip
              have hny := hI.note k (by omega) (by omega)
              refine z_aload_n C 0 dX11_counts_147 rfl ?_
              refine z_aload_n C 0 dX11_counts_148 rfl ?_
              refine z_get C hK (v := .ref (a 11)) inX11_counts_X11 0 (WM_0 a c ((us (us u 12 (f)) 13 (g)))) rfl 23 (by decide) (List.mem_of_getElem? (i := 2) rfl) rfl dX11_counts_149 ?_
              refine z_iload_n C 1 dX11_counts_152 rfl ?_
              refine z_iald C hK 0 (g := (u 11)) (i := k) 11 (WM_11 a c ((us (us u 12 (f)) 13 (g)))) rfl (by decide) (by omega) dX11_counts_153 ?_
              refine z_as (b := u 11 (k)) rfl ?_
              refine z_callV C hK hDD (c_X11_comesOf (zl x) (zG x) a c ((us (us u 12 (f)) 13 (g))) (u 11 (k)) (hI) (show -200 ≤ (u 11 (k)) ∧ (u 11 (k)) ≤ 200 by omega)) gX11_counts_X11_comesOf rfl zy_X11_comesOf 0 (WM_0 a c ((us (us u 12 (f)) 13 (g)))) rfl ⟨by omega, by decide⟩ rfl (Nat.le_of_ble_eq_true rfl) (st := []) (stk2 := fun z5 => [.int (zI z5)]) rfl (fun _ => rfl) dX11_counts_154 (fun z5 u6 h7 => ?_)
              rw [h7.1]; replace h7 := h7.2
              refine z_as (b := ((like ((u 5)) ((u 9 1)) ((u 9 0)) ((u 0 12)) ((u 11 (k))) : Nat) : Int)) h7 ?_
              refine z_istore_n C [(2, .int (zI (((like ((u 5)) ((u 9 1)) ((u 9 0)) ((u 0 12)) ((u 11 (k))) : Nat) : Int)))), (0, .ref (a 0)), (1, .int (zI k))] dX11_counts_157 rfl (by decide) rfl ?_
              refine z_iconst C dX11_counts_158 ?_
              refine z_istore_n C [(3, .int (zI 0)), (2, .int (zI (((like ((u 5)) ((u 9 1)) ((u 9 0)) ((u 0 12)) ((u 11 (k))) : Nat) : Int)))), (0, .ref (a 0)), (1, .int (zI k))] dX11_counts_159 rfl (by decide) rfl ?_
              have L160_8 : ∀ (fu : Nat) (l : Int) (g2 : Int → Int), (0 ≤ l ∧ l ≤ 8) → (Bl (mlw u) (mdt u) (u 0 21) g2 k l) → 8 - l < (fu : Int) → Z x 0 0 (WM a c (us (us u 12 (f)) 13 (g2))) [(0, .ref (a 0)), (1, .int (zI k)), (2, .int (zI (((like (u 5) (u 9 1) (u 9 0) (u 0 12) (u 11 k) : Nat) : Int)))), (3, .int (zI l))] 160 [] := by
                intro fu
                induction fu with
                | zero => intro l g2 hl hgl hmeas; exfalso; omega
                | succ fu ih160 =>
                  intro l g2 hl hgl hmeas
                  refine z_iload_n C 3 dX11_counts_160 rfl ?_
                  refine z_bipush C dX11_counts_161 (by decide) ?_
                  refine z_icmp_ge C 279 dX11_counts_163 (by decide) (by omega) (fun h9 => ?_) (fun h9 => ?_)
                  · skip
                    refine z_iinc C 1 [(1, .int (zI (k + (-1)))), (0, .ref (a 0)), (2, .int (zI (((like (u 5) (u 9 1) (u 9 0) (u 0 12) (u 11 k) : Nat) : Int)))), (3, .int (zI l))] dX11_counts_279 rfl (by decide) rfl ?_
                    refine z_goto C 143 dX11_counts_282 (by decide) ?_
                    refine z_lv [(0, .ref (a 0)), (1, .int (zI (k + (-1))))] [1, 0] rfl ?_
                    exact ih143 (k + (-1)) g2 (by omega) (Bl_end hgl (by omega)) (by omega)
                  · skip
                    refine z_iload_n C 1 dX11_counts_166 rfl ?_
                    refine z_aload_n C 0 dX11_counts_167 rfl ?_
                    refine z_get C hK (v := .int (zI (u 0 21))) inX11_counts_X11 0 (WM_0 a c ((us (us u 12 (f)) 13 (g2)))) rfl 21 (by decide) (List.mem_of_getElem? (i := 1) rfl) rfl dX11_counts_168 ?_
                    refine z_iconst C dX11_counts_171 ?_
                    refine z_isub C dX11_counts_172 ?_
                    refine z_icmp_ne C 180 dX11_counts_173 (by decide) (by omega) (fun h10 => ?_) (fun h10 => ?_)
                    · skip
                      refine z_iconst C dX11_counts_180 ?_
                      refine z_istore C [(4, .int (zI 0)), (0, .ref (a 0)), (1, .int (zI k)), (2, .int (zI (((like (u 5) (u 9 1) (u 9 0) (u 0 12) (u 11 k) : Nat) : Int)))), (3, .int (zI l))] dX11_counts_181 (by decide) rfl ?_
                      refine z_iconst C dX11_counts_183 ?_
                      refine z_istore C [(5, .int (zI 0)), (4, .int (zI 0)), (0, .ref (a 0)), (1, .int (zI k)), (2, .int (zI (((like (u 5) (u 9 1) (u 9 0) (u 0 12) (u 11 k) : Nat) : Int)))), (3, .int (zI l))] dX11_counts_184 (by decide) rfl ?_
                      have L186_11 : ∀ (fu : Nat) (o : Int) (b : Int), (0 ≤ o ∧ o ≤ 8) → ((k = u 0 21 - 1 ∧ b = 1 ∧ o = 0) ∨ (k < u 0 21 - 1 ∧ b = sm (fun q => if near (mdt u (k + 1)) l q = true then bw (mlw u) (mdt u) (u 0 21) (u 0 21 - 2 - k).toNat q else 0) o.toNat)) → 8 - o < (fu : Int) → Z x 0 0 (WM a c (us (us u 12 (f)) 13 (g2))) [(0, .ref (a 0)), (1, .int (zI k)), (2, .int (zI (((like (u 5) (u 9 1) (u 9 0) (u 0 12) (u 11 k) : Nat) : Int)))), (3, .int (zI l)), (4, .int (zI b)), (5, .int (zI o))] 186 [] := by
                        intro fu
                        induction fu with
                        | zero => intro o b ho hb hmeas; exfalso; omega
                        | succ fu ih186 =>
                          intro o b ho hb hmeas
                          refine z_iload C 5 dX11_counts_186 rfl ?_
                          refine z_bipush C dX11_counts_188 (by decide) ?_
                          refine z_icmp_ge C 247 dX11_counts_190 (by decide) (by omega) (fun h12 => ?_) (fun h12 => ?_)
                          · skip
                            refine z_aload_n C 0 dX11_counts_247 rfl ?_
                            refine z_get C hK (v := .ref (a 13)) inX11_counts_X11 0 (WM_0 a c ((us (us u 12 (f)) 13 (g2)))) rfl 25 (by decide) (List.mem_of_getElem? (i := 4) rfl) rfl dX11_counts_248 ?_
                            refine z_bipush C dX11_counts_251 (by decide) ?_
                            refine z_iload_n C 1 dX11_counts_253 rfl ?_
                            refine z_imul C dX11_counts_254 ?_
                            refine z_iload_n C 3 dX11_counts_255 rfl ?_
                            refine z_iadd C dX11_counts_256 ?_
                            refine z_iload_n C 2 dX11_counts_257 rfl ?_
                            refine z_iload_n C 3 dX11_counts_258 rfl ?_
                            refine z_ishr C (((like (u 5) (u 9 1) (u 9 0) (u 0 12) (u 11 k) >>> l.toNat : Nat) : Int)) dX11_counts_259 (zI_shrN (by have := like_lt (u 5) (u 9 1) (u 9 0) (u 0 12) (u 11 k); omega) (by omega)) ?_
                            refine z_iconst C dX11_counts_260 ?_
                            refine z_iand C ((if mlw u k l = true then 1 else 0)) dX11_counts_261 (like_bitZ (by omega)) ?_
                            refine z_iconst C dX11_counts_262 ?_
                            refine z_icmp_ne C 271 dX11_counts_263 (by decide) (by split <;> omega) (fun h13 => ?_) (fun h13 => ?_)
                            · have hA := ite01_n1 h13
                              refine z_iconst C dX11_counts_271 ?_
                              refine z_iast C hK (hDD _) 0 (g := (us (us u 12 (f)) 13 (g2)) 13) 13 (WM_13 a c ((us (us u 12 (f)) 13 (g2)))) rfl (by decide) (by omega) (WM_13_set a c ((us (us u 12 (f)) 13 (g2))) ((8 * k) + l) 0) dX11_counts_272 ?_
                              refine z_iinc C 3 [(3, .int (zI (l + 1))), (0, .ref (a 0)), (1, .int (zI k)), (2, .int (zI (((like (u 5) (u 9 1) (u 9 0) (u 0 12) (u 11 k) : Nat) : Int)))), (4, .int (zI b)), (5, .int (zI o))] dX11_counts_273 rfl (by decide) rfl ?_
                              refine z_goto C 160 dX11_counts_276 (by decide) ?_
                              refine z_lv [(0, .ref (a 0)), (1, .int (zI k)), (2, .int (zI (((like (u 5) (u 9 1) (u 9 0) (u 0 12) (u 11 k) : Nat) : Int)))), (3, .int (zI (l + 1)))] [1, 2, 3, 0] rfl ?_
                              exact ih160 (l + 1) (fun j => if j = 8 * k + l then 0 else g2 j) (by omega) (Bl_put (by omega) hgl (bl_val (by omega) (by omega) hb (by first | exact Or.inl ⟨hA, rfl⟩ | exact Or.inr ⟨hA, rfl⟩))) (by omega)
                            · have hA := ite01_1 h13
                              refine z_iload C 4 dX11_counts_266 rfl ?_
                              refine z_goto C 272 dX11_counts_268 (by decide) ?_
                              refine z_iast C hK (hDD _) 0 (g := (us (us u 12 (f)) 13 (g2)) 13) 13 (WM_13 a c ((us (us u 12 (f)) 13 (g2)))) rfl (by decide) (by omega) (WM_13_set a c ((us (us u 12 (f)) 13 (g2))) ((8 * k) + l) b) dX11_counts_272 ?_
                              refine z_iinc C 3 [(3, .int (zI (l + 1))), (0, .ref (a 0)), (1, .int (zI k)), (2, .int (zI (((like (u 5) (u 9 1) (u 9 0) (u 0 12) (u 11 k) : Nat) : Int)))), (4, .int (zI b)), (5, .int (zI o))] dX11_counts_273 rfl (by decide) rfl ?_
                              refine z_goto C 160 dX11_counts_276 (by decide) ?_
                              refine z_lv [(0, .ref (a 0)), (1, .int (zI k)), (2, .int (zI (((like (u 5) (u 9 1) (u 9 0) (u 0 12) (u 11 k) : Nat) : Int)))), (3, .int (zI (l + 1)))] [1, 2, 3, 0] rfl ?_
                              exact ih160 (l + 1) (fun j => if j = 8 * k + l then b else g2 j) (by omega) (Bl_put (by omega) hgl (bl_val (by omega) (by omega) hb (by first | exact Or.inl ⟨hA, rfl⟩ | exact Or.inr ⟨hA, rfl⟩))) (by omega)
                          · skip
                            refine z_iload_n C 1 dX11_counts_193 rfl ?_
                            refine z_aload_n C 0 dX11_counts_194 rfl ?_
                            refine z_get C hK (v := .int (zI (u 0 21))) inX11_counts_X11 0 (WM_0 a c ((us (us u 12 (f)) 13 (g2)))) rfl 21 (by decide) (List.mem_of_getElem? (i := 1) rfl) rfl dX11_counts_195 ?_
                            refine z_iconst C dX11_counts_198 ?_
                            refine z_isub C dX11_counts_199 ?_
                            refine z_icmp_ge C 247 dX11_counts_200 (by decide) (by omega) (fun h14 => ?_) (fun h14 => ?_)
                            · skip
                              refine z_aload_n C 0 dX11_counts_247 rfl ?_
                              refine z_get C hK (v := .ref (a 13)) inX11_counts_X11 0 (WM_0 a c ((us (us u 12 (f)) 13 (g2)))) rfl 25 (by decide) (List.mem_of_getElem? (i := 4) rfl) rfl dX11_counts_248 ?_
                              refine z_bipush C dX11_counts_251 (by decide) ?_
                              refine z_iload_n C 1 dX11_counts_253 rfl ?_
                              refine z_imul C dX11_counts_254 ?_
                              refine z_iload_n C 3 dX11_counts_255 rfl ?_
                              refine z_iadd C dX11_counts_256 ?_
                              refine z_iload_n C 2 dX11_counts_257 rfl ?_
                              refine z_iload_n C 3 dX11_counts_258 rfl ?_
                              refine z_ishr C (((like (u 5) (u 9 1) (u 9 0) (u 0 12) (u 11 k) >>> l.toNat : Nat) : Int)) dX11_counts_259 (zI_shrN (by have := like_lt (u 5) (u 9 1) (u 9 0) (u 0 12) (u 11 k); omega) (by omega)) ?_
                              refine z_iconst C dX11_counts_260 ?_
                              refine z_iand C ((if mlw u k l = true then 1 else 0)) dX11_counts_261 (like_bitZ (by omega)) ?_
                              refine z_iconst C dX11_counts_262 ?_
                              refine z_icmp_ne C 271 dX11_counts_263 (by decide) (by split <;> omega) (fun h15 => ?_) (fun h15 => ?_)
                              · have hA := ite01_n1 h15
                                refine z_iconst C dX11_counts_271 ?_
                                refine z_iast C hK (hDD _) 0 (g := (us (us u 12 (f)) 13 (g2)) 13) 13 (WM_13 a c ((us (us u 12 (f)) 13 (g2)))) rfl (by decide) (by omega) (WM_13_set a c ((us (us u 12 (f)) 13 (g2))) ((8 * k) + l) 0) dX11_counts_272 ?_
                                refine z_iinc C 3 [(3, .int (zI (l + 1))), (0, .ref (a 0)), (1, .int (zI k)), (2, .int (zI (((like (u 5) (u 9 1) (u 9 0) (u 0 12) (u 11 k) : Nat) : Int)))), (4, .int (zI b)), (5, .int (zI o))] dX11_counts_273 rfl (by decide) rfl ?_
                                refine z_goto C 160 dX11_counts_276 (by decide) ?_
                                refine z_lv [(0, .ref (a 0)), (1, .int (zI k)), (2, .int (zI (((like (u 5) (u 9 1) (u 9 0) (u 0 12) (u 11 k) : Nat) : Int)))), (3, .int (zI (l + 1)))] [1, 2, 3, 0] rfl ?_
                                exact ih160 (l + 1) (fun j => if j = 8 * k + l then 0 else g2 j) (by omega) (Bl_put (by omega) hgl (bl_val (by omega) (by omega) hb (by first | exact Or.inl ⟨hA, rfl⟩ | exact Or.inr ⟨hA, rfl⟩))) (by omega)
                              · have hA := ite01_1 h15
                                refine z_iload C 4 dX11_counts_266 rfl ?_
                                refine z_goto C 272 dX11_counts_268 (by decide) ?_
                                refine z_iast C hK (hDD _) 0 (g := (us (us u 12 (f)) 13 (g2)) 13) 13 (WM_13 a c ((us (us u 12 (f)) 13 (g2)))) rfl (by decide) (by omega) (WM_13_set a c ((us (us u 12 (f)) 13 (g2))) ((8 * k) + l) b) dX11_counts_272 ?_
                                refine z_iinc C 3 [(3, .int (zI (l + 1))), (0, .ref (a 0)), (1, .int (zI k)), (2, .int (zI (((like (u 5) (u 9 1) (u 9 0) (u 0 12) (u 11 k) : Nat) : Int)))), (4, .int (zI b)), (5, .int (zI o))] dX11_counts_273 rfl (by decide) rfl ?_
                                refine z_goto C 160 dX11_counts_276 (by decide) ?_
                                refine z_lv [(0, .ref (a 0)), (1, .int (zI k)), (2, .int (zI (((like (u 5) (u 9 1) (u 9 0) (u 0 12) (u 11 k) : Nat) : Int)))), (3, .int (zI (l + 1)))] [1, 2, 3, 0] rfl ?_
                                exact ih160 (l + 1) (fun j => if j = 8 * k + l then b else g2 j) (by omega) (Bl_put (by omega) hgl (bl_val (by omega) (by omega) hb (by first | exact Or.inl ⟨hA, rfl⟩ | exact Or.inr ⟨hA, rfl⟩))) (by omega)
                            · skip
                              refine z_iload C 4 dX11_counts_203 rfl ?_
                              refine z_aload_n C 0 dX11_counts_205 rfl ?_
                              refine z_iload_n C 1 dX11_counts_206 rfl ?_
                              refine z_iload_n C 1 dX11_counts_207 rfl ?_
                              refine z_iconst C dX11_counts_208 ?_
                              refine z_iadd C dX11_counts_209 ?_
                              refine z_iload_n C 3 dX11_counts_210 rfl ?_
                              refine z_iload C 5 dX11_counts_211 rfl ?_
                              refine z_callV C hK hDD (c_X11_mayGo (zl x) (zG x) a c ((us (us u 12 (f)) 13 (g2))) k (k + 1) l o (hI) (show 0 ≤ k ∧ k < 6 by omega) (show 0 ≤ (k + 1) ∧ (k + 1) < 6 by omega) (show 0 ≤ l ∧ l < 8 by omega) (show 0 ≤ o ∧ o < 8 by omega)) gX11_counts_X11_mayGo rfl zy_X11_mayGo 0 (WM_0 a c ((us (us u 12 (f)) 13 (g2)))) rfl ⟨by omega, by decide⟩ rfl (Nat.le_of_ble_eq_true rfl) (st := [.int (zI b)]) (stk2 := fun z16 => [.int (zI z16), .int (zI b)]) rfl (fun _ => rfl) dX11_counts_213 (fun z16 u17 h18 => ?_)
                              rw [h18.1]; replace h18 := h18.2
                              replace h18 : ((z16 = 1 ∧ l - o ≤ (u 9 2) * ((u 10) (k + 1) - (u 10) k) ∧ o - l ≤ (u 9 2) * ((u 10) (k + 1) - (u 10) k)) ∨ (z16 = 0 ∧ ¬ (l - o ≤ (u 9 2) * ((u 10) (k + 1) - (u 10) k) ∧ o - l ≤ (u 9 2) * ((u 10) (k + 1) - (u 10) k)))) := h18
                              refine z_if_eq C 237 dX11_counts_216 (by decide) (by omega) (fun h19 => ?_) (fun h19 => ?_)
                              · skip
                                refine z_iconst C dX11_counts_237 ?_
                                refine z_iadd C dX11_counts_238 ?_
                                refine z_istore C [(4, .int (zI (b + 0))), (0, .ref (a 0)), (1, .int (zI k)), (2, .int (zI (((like (u 5) (u 9 1) (u 9 0) (u 0 12) (u 11 k) : Nat) : Int)))), (3, .int (zI l)), (5, .int (zI o))] dX11_counts_239 (by decide) rfl ?_
                                refine z_iinc C 5 [(5, .int (zI (o + 1))), (4, .int (zI (b + 0))), (0, .ref (a 0)), (1, .int (zI k)), (2, .int (zI (((like (u 5) (u 9 1) (u 9 0) (u 0 12) (u 11 k) : Nat) : Int)))), (3, .int (zI l))] dX11_counts_241 rfl (by decide) rfl ?_
                                refine z_goto C 186 dX11_counts_244 (by decide) ?_
                                refine z_lv [(0, .ref (a 0)), (1, .int (zI k)), (2, .int (zI (((like (u 5) (u 9 1) (u 9 0) (u 0 12) (u 11 k) : Nat) : Int)))), (3, .int (zI l)), (4, .int (zI (b + 0))), (5, .int (zI (o + 1)))] [2, 3, 4, 5, 1, 0] rfl ?_
                                exact ih186 (o + 1) (b + 0) (by omega) (Or.inr ⟨by omega, by rw [sm_stepI ho.1]; rcases hb with ⟨e0, _⟩ | ⟨e0, e1⟩; exact absurd e0 (by omega); first | rw [if_pos (near_t (d := mdt u (k + 1)) (by unfold mdt; rw [show k + 1 - 1 = k by omega]; omega)), e1, ← hfv] | rw [if_neg (by rw [near_f (d := mdt u (k + 1)) (by unfold mdt; rw [show k + 1 - 1 = k by omega]; omega)]; decide), e1]⟩) (by omega)
                              · skip
                                have hfv : g2 (8 * k + 8 + o) = bw (mlw u) (mdt u) (u 0 21) (u 0 21 - 2 - k).toNat o := by have q := hgl.1 (k + 1) (by omega) (by omega) o ho.1 (by omega); rw [show 8 * (k + 1) + o = 8 * k + 8 + o by omega, show (u 0 21 - 1 - (k + 1)).toNat = (u 0 21 - 2 - k).toNat by omega] at q; exact q
                                refine z_aload_n C 0 dX11_counts_219 rfl ?_
                                refine z_get C hK (v := .ref (a 13)) inX11_counts_X11 0 (WM_0 a c ((us (us u 12 (f)) 13 (g2)))) rfl 25 (by decide) (List.mem_of_getElem? (i := 4) rfl) rfl dX11_counts_220 ?_
                                refine z_bipush C dX11_counts_223 (by decide) ?_
                                refine z_iload_n C 1 dX11_counts_225 rfl ?_
                                refine z_imul C dX11_counts_226 ?_
                                refine z_bipush C dX11_counts_227 (by decide) ?_
                                refine z_iadd C dX11_counts_229 ?_
                                refine z_iload C 5 dX11_counts_230 rfl ?_
                                refine z_iadd C dX11_counts_232 ?_
                                refine z_iald C hK 0 (g := g2) (i := (((8 * k) + 8) + o)) 13 (WM_13 a c ((us (us u 12 (f)) 13 (g2)))) rfl (by decide) (by omega) dX11_counts_233 ?_
                                refine z_goto C 238 dX11_counts_234 (by decide) ?_
                                refine z_iadd C dX11_counts_238 ?_
                                refine z_istore C [(4, .int (zI (b + (g2 (((8 * k) + 8) + o))))), (0, .ref (a 0)), (1, .int (zI k)), (2, .int (zI (((like (u 5) (u 9 1) (u 9 0) (u 0 12) (u 11 k) : Nat) : Int)))), (3, .int (zI l)), (5, .int (zI o))] dX11_counts_239 (by decide) rfl ?_
                                refine z_iinc C 5 [(5, .int (zI (o + 1))), (4, .int (zI (b + (g2 (((8 * k) + 8) + o))))), (0, .ref (a 0)), (1, .int (zI k)), (2, .int (zI (((like (u 5) (u 9 1) (u 9 0) (u 0 12) (u 11 k) : Nat) : Int)))), (3, .int (zI l))] dX11_counts_241 rfl (by decide) rfl ?_
                                refine z_goto C 186 dX11_counts_244 (by decide) ?_
                                refine z_lv [(0, .ref (a 0)), (1, .int (zI k)), (2, .int (zI (((like (u 5) (u 9 1) (u 9 0) (u 0 12) (u 11 k) : Nat) : Int)))), (3, .int (zI l)), (4, .int (zI (b + (g2 (((8 * k) + 8) + o))))), (5, .int (zI (o + 1)))] [2, 3, 4, 5, 1, 0] rfl ?_
                                exact ih186 (o + 1) (b + (g2 (((8 * k) + 8) + o))) (by omega) (Or.inr ⟨by omega, by rw [sm_stepI ho.1]; rcases hb with ⟨e0, _⟩ | ⟨e0, e1⟩; exact absurd e0 (by omega); first | rw [if_pos (near_t (d := mdt u (k + 1)) (by unfold mdt; rw [show k + 1 - 1 = k by omega]; omega)), e1, ← hfv] | rw [if_neg (by rw [near_f (d := mdt u (k + 1)) (by unfold mdt; rw [show k + 1 - 1 = k by omega]; omega)]; decide), e1]⟩) (by omega)
                      refine z_lv [(0, .ref (a 0)), (1, .int (zI k)), (2, .int (zI (((like (u 5) (u 9 1) (u 9 0) (u 0 12) (u 11 k) : Nat) : Int)))), (3, .int (zI l)), (4, .int (zI 0)), (5, .int (zI 0))] [2, 3, 4, 5, 1, 0] rfl ?_
                      exact L186_11 (((8 - 0 : Int)).toNat + 1) 0 0 (by omega) (by first | exact Or.inl ⟨by omega, rfl, rfl⟩ | exact Or.inr ⟨by omega, rfl⟩) (by omega)
                    · skip
                      refine z_iconst C dX11_counts_176 ?_
                      refine z_goto C 181 dX11_counts_177 (by decide) ?_
                      refine z_istore C [(4, .int (zI 1)), (0, .ref (a 0)), (1, .int (zI k)), (2, .int (zI (((like (u 5) (u 9 1) (u 9 0) (u 0 12) (u 11 k) : Nat) : Int)))), (3, .int (zI l))] dX11_counts_181 (by decide) rfl ?_
                      refine z_iconst C dX11_counts_183 ?_
                      refine z_istore C [(5, .int (zI 0)), (4, .int (zI 1)), (0, .ref (a 0)), (1, .int (zI k)), (2, .int (zI (((like (u 5) (u 9 1) (u 9 0) (u 0 12) (u 11 k) : Nat) : Int)))), (3, .int (zI l))] dX11_counts_184 (by decide) rfl ?_
                      have L186_20 : ∀ (fu : Nat) (o : Int) (b : Int), (0 ≤ o ∧ o ≤ 8) → ((k = u 0 21 - 1 ∧ b = 1 ∧ o = 0) ∨ (k < u 0 21 - 1 ∧ b = sm (fun q => if near (mdt u (k + 1)) l q = true then bw (mlw u) (mdt u) (u 0 21) (u 0 21 - 2 - k).toNat q else 0) o.toNat)) → 8 - o < (fu : Int) → Z x 0 0 (WM a c (us (us u 12 (f)) 13 (g2))) [(0, .ref (a 0)), (1, .int (zI k)), (2, .int (zI (((like (u 5) (u 9 1) (u 9 0) (u 0 12) (u 11 k) : Nat) : Int)))), (3, .int (zI l)), (4, .int (zI b)), (5, .int (zI o))] 186 [] := by
                        intro fu
                        induction fu with
                        | zero => intro o b ho hb hmeas; exfalso; omega
                        | succ fu ih186 =>
                          intro o b ho hb hmeas
                          refine z_iload C 5 dX11_counts_186 rfl ?_
                          refine z_bipush C dX11_counts_188 (by decide) ?_
                          refine z_icmp_ge C 247 dX11_counts_190 (by decide) (by omega) (fun h21 => ?_) (fun h21 => ?_)
                          · skip
                            refine z_aload_n C 0 dX11_counts_247 rfl ?_
                            refine z_get C hK (v := .ref (a 13)) inX11_counts_X11 0 (WM_0 a c ((us (us u 12 (f)) 13 (g2)))) rfl 25 (by decide) (List.mem_of_getElem? (i := 4) rfl) rfl dX11_counts_248 ?_
                            refine z_bipush C dX11_counts_251 (by decide) ?_
                            refine z_iload_n C 1 dX11_counts_253 rfl ?_
                            refine z_imul C dX11_counts_254 ?_
                            refine z_iload_n C 3 dX11_counts_255 rfl ?_
                            refine z_iadd C dX11_counts_256 ?_
                            refine z_iload_n C 2 dX11_counts_257 rfl ?_
                            refine z_iload_n C 3 dX11_counts_258 rfl ?_
                            refine z_ishr C (((like (u 5) (u 9 1) (u 9 0) (u 0 12) (u 11 k) >>> l.toNat : Nat) : Int)) dX11_counts_259 (zI_shrN (by have := like_lt (u 5) (u 9 1) (u 9 0) (u 0 12) (u 11 k); omega) (by omega)) ?_
                            refine z_iconst C dX11_counts_260 ?_
                            refine z_iand C ((if mlw u k l = true then 1 else 0)) dX11_counts_261 (like_bitZ (by omega)) ?_
                            refine z_iconst C dX11_counts_262 ?_
                            refine z_icmp_ne C 271 dX11_counts_263 (by decide) (by split <;> omega) (fun h22 => ?_) (fun h22 => ?_)
                            · have hA := ite01_n1 h22
                              refine z_iconst C dX11_counts_271 ?_
                              refine z_iast C hK (hDD _) 0 (g := (us (us u 12 (f)) 13 (g2)) 13) 13 (WM_13 a c ((us (us u 12 (f)) 13 (g2)))) rfl (by decide) (by omega) (WM_13_set a c ((us (us u 12 (f)) 13 (g2))) ((8 * k) + l) 0) dX11_counts_272 ?_
                              refine z_iinc C 3 [(3, .int (zI (l + 1))), (0, .ref (a 0)), (1, .int (zI k)), (2, .int (zI (((like (u 5) (u 9 1) (u 9 0) (u 0 12) (u 11 k) : Nat) : Int)))), (4, .int (zI b)), (5, .int (zI o))] dX11_counts_273 rfl (by decide) rfl ?_
                              refine z_goto C 160 dX11_counts_276 (by decide) ?_
                              refine z_lv [(0, .ref (a 0)), (1, .int (zI k)), (2, .int (zI (((like (u 5) (u 9 1) (u 9 0) (u 0 12) (u 11 k) : Nat) : Int)))), (3, .int (zI (l + 1)))] [1, 2, 3, 0] rfl ?_
                              exact ih160 (l + 1) (fun j => if j = 8 * k + l then 0 else g2 j) (by omega) (Bl_put (by omega) hgl (bl_val (by omega) (by omega) hb (by first | exact Or.inl ⟨hA, rfl⟩ | exact Or.inr ⟨hA, rfl⟩))) (by omega)
                            · have hA := ite01_1 h22
                              refine z_iload C 4 dX11_counts_266 rfl ?_
                              refine z_goto C 272 dX11_counts_268 (by decide) ?_
                              refine z_iast C hK (hDD _) 0 (g := (us (us u 12 (f)) 13 (g2)) 13) 13 (WM_13 a c ((us (us u 12 (f)) 13 (g2)))) rfl (by decide) (by omega) (WM_13_set a c ((us (us u 12 (f)) 13 (g2))) ((8 * k) + l) b) dX11_counts_272 ?_
                              refine z_iinc C 3 [(3, .int (zI (l + 1))), (0, .ref (a 0)), (1, .int (zI k)), (2, .int (zI (((like (u 5) (u 9 1) (u 9 0) (u 0 12) (u 11 k) : Nat) : Int)))), (4, .int (zI b)), (5, .int (zI o))] dX11_counts_273 rfl (by decide) rfl ?_
                              refine z_goto C 160 dX11_counts_276 (by decide) ?_
                              refine z_lv [(0, .ref (a 0)), (1, .int (zI k)), (2, .int (zI (((like (u 5) (u 9 1) (u 9 0) (u 0 12) (u 11 k) : Nat) : Int)))), (3, .int (zI (l + 1)))] [1, 2, 3, 0] rfl ?_
                              exact ih160 (l + 1) (fun j => if j = 8 * k + l then b else g2 j) (by omega) (Bl_put (by omega) hgl (bl_val (by omega) (by omega) hb (by first | exact Or.inl ⟨hA, rfl⟩ | exact Or.inr ⟨hA, rfl⟩))) (by omega)
                          · skip
                            refine z_iload_n C 1 dX11_counts_193 rfl ?_
                            refine z_aload_n C 0 dX11_counts_194 rfl ?_
                            refine z_get C hK (v := .int (zI (u 0 21))) inX11_counts_X11 0 (WM_0 a c ((us (us u 12 (f)) 13 (g2)))) rfl 21 (by decide) (List.mem_of_getElem? (i := 1) rfl) rfl dX11_counts_195 ?_
                            refine z_iconst C dX11_counts_198 ?_
                            refine z_isub C dX11_counts_199 ?_
                            refine z_icmp_ge C 247 dX11_counts_200 (by decide) (by omega) (fun h23 => ?_) (fun h23 => ?_)
                            · skip
                              refine z_aload_n C 0 dX11_counts_247 rfl ?_
                              refine z_get C hK (v := .ref (a 13)) inX11_counts_X11 0 (WM_0 a c ((us (us u 12 (f)) 13 (g2)))) rfl 25 (by decide) (List.mem_of_getElem? (i := 4) rfl) rfl dX11_counts_248 ?_
                              refine z_bipush C dX11_counts_251 (by decide) ?_
                              refine z_iload_n C 1 dX11_counts_253 rfl ?_
                              refine z_imul C dX11_counts_254 ?_
                              refine z_iload_n C 3 dX11_counts_255 rfl ?_
                              refine z_iadd C dX11_counts_256 ?_
                              refine z_iload_n C 2 dX11_counts_257 rfl ?_
                              refine z_iload_n C 3 dX11_counts_258 rfl ?_
                              refine z_ishr C (((like (u 5) (u 9 1) (u 9 0) (u 0 12) (u 11 k) >>> l.toNat : Nat) : Int)) dX11_counts_259 (zI_shrN (by have := like_lt (u 5) (u 9 1) (u 9 0) (u 0 12) (u 11 k); omega) (by omega)) ?_
                              refine z_iconst C dX11_counts_260 ?_
                              refine z_iand C ((if mlw u k l = true then 1 else 0)) dX11_counts_261 (like_bitZ (by omega)) ?_
                              refine z_iconst C dX11_counts_262 ?_
                              refine z_icmp_ne C 271 dX11_counts_263 (by decide) (by split <;> omega) (fun h24 => ?_) (fun h24 => ?_)
                              · have hA := ite01_n1 h24
                                refine z_iconst C dX11_counts_271 ?_
                                refine z_iast C hK (hDD _) 0 (g := (us (us u 12 (f)) 13 (g2)) 13) 13 (WM_13 a c ((us (us u 12 (f)) 13 (g2)))) rfl (by decide) (by omega) (WM_13_set a c ((us (us u 12 (f)) 13 (g2))) ((8 * k) + l) 0) dX11_counts_272 ?_
                                refine z_iinc C 3 [(3, .int (zI (l + 1))), (0, .ref (a 0)), (1, .int (zI k)), (2, .int (zI (((like (u 5) (u 9 1) (u 9 0) (u 0 12) (u 11 k) : Nat) : Int)))), (4, .int (zI b)), (5, .int (zI o))] dX11_counts_273 rfl (by decide) rfl ?_
                                refine z_goto C 160 dX11_counts_276 (by decide) ?_
                                refine z_lv [(0, .ref (a 0)), (1, .int (zI k)), (2, .int (zI (((like (u 5) (u 9 1) (u 9 0) (u 0 12) (u 11 k) : Nat) : Int)))), (3, .int (zI (l + 1)))] [1, 2, 3, 0] rfl ?_
                                exact ih160 (l + 1) (fun j => if j = 8 * k + l then 0 else g2 j) (by omega) (Bl_put (by omega) hgl (bl_val (by omega) (by omega) hb (by first | exact Or.inl ⟨hA, rfl⟩ | exact Or.inr ⟨hA, rfl⟩))) (by omega)
                              · have hA := ite01_1 h24
                                refine z_iload C 4 dX11_counts_266 rfl ?_
                                refine z_goto C 272 dX11_counts_268 (by decide) ?_
                                refine z_iast C hK (hDD _) 0 (g := (us (us u 12 (f)) 13 (g2)) 13) 13 (WM_13 a c ((us (us u 12 (f)) 13 (g2)))) rfl (by decide) (by omega) (WM_13_set a c ((us (us u 12 (f)) 13 (g2))) ((8 * k) + l) b) dX11_counts_272 ?_
                                refine z_iinc C 3 [(3, .int (zI (l + 1))), (0, .ref (a 0)), (1, .int (zI k)), (2, .int (zI (((like (u 5) (u 9 1) (u 9 0) (u 0 12) (u 11 k) : Nat) : Int)))), (4, .int (zI b)), (5, .int (zI o))] dX11_counts_273 rfl (by decide) rfl ?_
                                refine z_goto C 160 dX11_counts_276 (by decide) ?_
                                refine z_lv [(0, .ref (a 0)), (1, .int (zI k)), (2, .int (zI (((like (u 5) (u 9 1) (u 9 0) (u 0 12) (u 11 k) : Nat) : Int)))), (3, .int (zI (l + 1)))] [1, 2, 3, 0] rfl ?_
                                exact ih160 (l + 1) (fun j => if j = 8 * k + l then b else g2 j) (by omega) (Bl_put (by omega) hgl (bl_val (by omega) (by omega) hb (by first | exact Or.inl ⟨hA, rfl⟩ | exact Or.inr ⟨hA, rfl⟩))) (by omega)
                            · skip
                              refine z_iload C 4 dX11_counts_203 rfl ?_
                              refine z_aload_n C 0 dX11_counts_205 rfl ?_
                              refine z_iload_n C 1 dX11_counts_206 rfl ?_
                              refine z_iload_n C 1 dX11_counts_207 rfl ?_
                              refine z_iconst C dX11_counts_208 ?_
                              refine z_iadd C dX11_counts_209 ?_
                              refine z_iload_n C 3 dX11_counts_210 rfl ?_
                              refine z_iload C 5 dX11_counts_211 rfl ?_
                              refine z_callV C hK hDD (c_X11_mayGo (zl x) (zG x) a c ((us (us u 12 (f)) 13 (g2))) k (k + 1) l o (hI) (show 0 ≤ k ∧ k < 6 by omega) (show 0 ≤ (k + 1) ∧ (k + 1) < 6 by omega) (show 0 ≤ l ∧ l < 8 by omega) (show 0 ≤ o ∧ o < 8 by omega)) gX11_counts_X11_mayGo rfl zy_X11_mayGo 0 (WM_0 a c ((us (us u 12 (f)) 13 (g2)))) rfl ⟨by omega, by decide⟩ rfl (Nat.le_of_ble_eq_true rfl) (st := [.int (zI b)]) (stk2 := fun z25 => [.int (zI z25), .int (zI b)]) rfl (fun _ => rfl) dX11_counts_213 (fun z25 u26 h27 => ?_)
                              rw [h27.1]; replace h27 := h27.2
                              replace h27 : ((z25 = 1 ∧ l - o ≤ (u 9 2) * ((u 10) (k + 1) - (u 10) k) ∧ o - l ≤ (u 9 2) * ((u 10) (k + 1) - (u 10) k)) ∨ (z25 = 0 ∧ ¬ (l - o ≤ (u 9 2) * ((u 10) (k + 1) - (u 10) k) ∧ o - l ≤ (u 9 2) * ((u 10) (k + 1) - (u 10) k)))) := h27
                              refine z_if_eq C 237 dX11_counts_216 (by decide) (by omega) (fun h28 => ?_) (fun h28 => ?_)
                              · skip
                                refine z_iconst C dX11_counts_237 ?_
                                refine z_iadd C dX11_counts_238 ?_
                                refine z_istore C [(4, .int (zI (b + 0))), (0, .ref (a 0)), (1, .int (zI k)), (2, .int (zI (((like (u 5) (u 9 1) (u 9 0) (u 0 12) (u 11 k) : Nat) : Int)))), (3, .int (zI l)), (5, .int (zI o))] dX11_counts_239 (by decide) rfl ?_
                                refine z_iinc C 5 [(5, .int (zI (o + 1))), (4, .int (zI (b + 0))), (0, .ref (a 0)), (1, .int (zI k)), (2, .int (zI (((like (u 5) (u 9 1) (u 9 0) (u 0 12) (u 11 k) : Nat) : Int)))), (3, .int (zI l))] dX11_counts_241 rfl (by decide) rfl ?_
                                refine z_goto C 186 dX11_counts_244 (by decide) ?_
                                refine z_lv [(0, .ref (a 0)), (1, .int (zI k)), (2, .int (zI (((like (u 5) (u 9 1) (u 9 0) (u 0 12) (u 11 k) : Nat) : Int)))), (3, .int (zI l)), (4, .int (zI (b + 0))), (5, .int (zI (o + 1)))] [2, 3, 4, 5, 1, 0] rfl ?_
                                exact ih186 (o + 1) (b + 0) (by omega) (Or.inr ⟨by omega, by rw [sm_stepI ho.1]; rcases hb with ⟨e0, _⟩ | ⟨e0, e1⟩; exact absurd e0 (by omega); first | rw [if_pos (near_t (d := mdt u (k + 1)) (by unfold mdt; rw [show k + 1 - 1 = k by omega]; omega)), e1, ← hfv] | rw [if_neg (by rw [near_f (d := mdt u (k + 1)) (by unfold mdt; rw [show k + 1 - 1 = k by omega]; omega)]; decide), e1]⟩) (by omega)
                              · skip
                                have hfv : g2 (8 * k + 8 + o) = bw (mlw u) (mdt u) (u 0 21) (u 0 21 - 2 - k).toNat o := by have q := hgl.1 (k + 1) (by omega) (by omega) o ho.1 (by omega); rw [show 8 * (k + 1) + o = 8 * k + 8 + o by omega, show (u 0 21 - 1 - (k + 1)).toNat = (u 0 21 - 2 - k).toNat by omega] at q; exact q
                                refine z_aload_n C 0 dX11_counts_219 rfl ?_
                                refine z_get C hK (v := .ref (a 13)) inX11_counts_X11 0 (WM_0 a c ((us (us u 12 (f)) 13 (g2)))) rfl 25 (by decide) (List.mem_of_getElem? (i := 4) rfl) rfl dX11_counts_220 ?_
                                refine z_bipush C dX11_counts_223 (by decide) ?_
                                refine z_iload_n C 1 dX11_counts_225 rfl ?_
                                refine z_imul C dX11_counts_226 ?_
                                refine z_bipush C dX11_counts_227 (by decide) ?_
                                refine z_iadd C dX11_counts_229 ?_
                                refine z_iload C 5 dX11_counts_230 rfl ?_
                                refine z_iadd C dX11_counts_232 ?_
                                refine z_iald C hK 0 (g := g2) (i := (((8 * k) + 8) + o)) 13 (WM_13 a c ((us (us u 12 (f)) 13 (g2)))) rfl (by decide) (by omega) dX11_counts_233 ?_
                                refine z_goto C 238 dX11_counts_234 (by decide) ?_
                                refine z_iadd C dX11_counts_238 ?_
                                refine z_istore C [(4, .int (zI (b + (g2 (((8 * k) + 8) + o))))), (0, .ref (a 0)), (1, .int (zI k)), (2, .int (zI (((like (u 5) (u 9 1) (u 9 0) (u 0 12) (u 11 k) : Nat) : Int)))), (3, .int (zI l)), (5, .int (zI o))] dX11_counts_239 (by decide) rfl ?_
                                refine z_iinc C 5 [(5, .int (zI (o + 1))), (4, .int (zI (b + (g2 (((8 * k) + 8) + o))))), (0, .ref (a 0)), (1, .int (zI k)), (2, .int (zI (((like (u 5) (u 9 1) (u 9 0) (u 0 12) (u 11 k) : Nat) : Int)))), (3, .int (zI l))] dX11_counts_241 rfl (by decide) rfl ?_
                                refine z_goto C 186 dX11_counts_244 (by decide) ?_
                                refine z_lv [(0, .ref (a 0)), (1, .int (zI k)), (2, .int (zI (((like (u 5) (u 9 1) (u 9 0) (u 0 12) (u 11 k) : Nat) : Int)))), (3, .int (zI l)), (4, .int (zI (b + (g2 (((8 * k) + 8) + o))))), (5, .int (zI (o + 1)))] [2, 3, 4, 5, 1, 0] rfl ?_
                                exact ih186 (o + 1) (b + (g2 (((8 * k) + 8) + o))) (by omega) (Or.inr ⟨by omega, by rw [sm_stepI ho.1]; rcases hb with ⟨e0, _⟩ | ⟨e0, e1⟩; exact absurd e0 (by omega); first | rw [if_pos (near_t (d := mdt u (k + 1)) (by unfold mdt; rw [show k + 1 - 1 = k by omega]; omega)), e1, ← hfv] | rw [if_neg (by rw [near_f (d := mdt u (k + 1)) (by unfold mdt; rw [show k + 1 - 1 = k by omega]; omega)]; decide), e1]⟩) (by omega)
                      refine z_lv [(0, .ref (a 0)), (1, .int (zI k)), (2, .int (zI (((like (u 5) (u 9 1) (u 9 0) (u 0 12) (u 11 k) : Nat) : Int)))), (3, .int (zI l)), (4, .int (zI 1)), (5, .int (zI 0))] [2, 3, 4, 5, 1, 0] rfl ?_
                      exact L186_20 (((8 - 0 : Int)).toNat + 1) 0 1 (by omega) (by first | exact Or.inl ⟨by omega, rfl, rfl⟩ | exact Or.inr ⟨by omega, rfl⟩) (by omega)
              refine z_lv [(0, .ref (a 0)), (1, .int (zI k)), (2, .int (zI (((like ((u 5)) ((u 9 1)) ((u 9 0)) ((u 0 12)) ((u 11 (k))) : Nat) : Int)))), (3, .int (zI 0))] [2, 3, 1, 0] rfl ?_
              exact L160_8 (((8 - 0 : Int)).toNat + 1) 0 g (by omega) (⟨hg, fun o h0 h1 => absurd h1 (by omega)⟩) (by omega)
        refine z_lv [(0, .ref (a 0)), (1, .int (zI ((u 0 21) - 1)))] [1, 0] rfl ?_
        exact L143_3 (((((u 0 21) - 1) + 1 : Int)).toNat + 1) ((u 0 21) - 1) (u 13) (by omega) (fun j h0 h1 => absurd h1 (by omega)) (by omega)
      · skip
        have hny := hI.note k hk.1 (by omega)
        refine z_aload_n C 0 dX11_counts_10 rfl ?_
        refine z_aload_n C 0 dX11_counts_11 rfl ?_
        refine z_get C hK (v := .ref (a 11)) inX11_counts_X11 0 (WM_0 a c ((us u 12 (f)))) rfl 23 (by decide) (List.mem_of_getElem? (i := 2) rfl) rfl dX11_counts_12 ?_
        refine z_iload_n C 1 dX11_counts_15 rfl ?_
        refine z_iald C hK 0 (g := (u 11)) (i := k) 11 (WM_11 a c ((us u 12 (f)))) rfl (by decide) (by omega) dX11_counts_16 ?_
        refine z_as (b := u 11 (k)) rfl ?_
        refine z_callV C hK hDD (c_X11_comesOf (zl x) (zG x) a c ((us u 12 (f))) (u 11 (k)) (hI) (show -200 ≤ (u 11 (k)) ∧ (u 11 (k)) ≤ 200 by omega)) gX11_counts_X11_comesOf rfl zy_X11_comesOf 0 (WM_0 a c ((us u 12 (f)))) rfl ⟨by omega, by decide⟩ rfl (Nat.le_of_ble_eq_true rfl) (st := []) (stk2 := fun z29 => [.int (zI z29)]) rfl (fun _ => rfl) dX11_counts_17 (fun z29 u30 h31 => ?_)
        rw [h31.1]; replace h31 := h31.2
        refine z_as (b := ((like ((u 5)) ((u 9 1)) ((u 9 0)) ((u 0 12)) ((u 11 (k))) : Nat) : Int)) h31 ?_
        refine z_istore_n C [(2, .int (zI (((like ((u 5)) ((u 9 1)) ((u 9 0)) ((u 0 12)) ((u 11 (k))) : Nat) : Int)))), (0, .ref (a 0)), (1, .int (zI k))] dX11_counts_20 rfl (by decide) rfl ?_
        refine z_iconst C dX11_counts_21 ?_
        refine z_istore_n C [(3, .int (zI 0)), (2, .int (zI (((like ((u 5)) ((u 9 1)) ((u 9 0)) ((u 0 12)) ((u 11 (k))) : Nat) : Int)))), (0, .ref (a 0)), (1, .int (zI k))] dX11_counts_22 rfl (by decide) rfl ?_
        have L23_32 : ∀ (fu : Nat) (l : Int) (f2 : Int → Int), (0 ≤ l ∧ l ≤ 8) → (Fl (mlw u) (mdt u) f2 k l) → 8 - l < (fu : Int) → Z x 0 0 (WM a c (us u 12 (f2))) [(0, .ref (a 0)), (1, .int (zI k)), (2, .int (zI (((like (u 5) (u 9 1) (u 9 0) (u 0 12) (u 11 k) : Nat) : Int)))), (3, .int (zI l))] 23 [] := by
          intro fu
          induction fu with
          | zero => intro l f2 hl hfl hmeas; exfalso; omega
          | succ fu ih23 =>
            intro l f2 hl hfl hmeas
            refine z_iload_n C 3 dX11_counts_23 rfl ?_
            refine z_bipush C dX11_counts_24 (by decide) ?_
            refine z_icmp_ge C 130 dX11_counts_26 (by decide) (by omega) (fun h33 => ?_) (fun h33 => ?_)
            · skip
              refine z_iinc C 1 [(1, .int (zI (k + 1))), (0, .ref (a 0)), (2, .int (zI (((like (u 5) (u 9 1) (u 9 0) (u 0 12) (u 11 k) : Nat) : Int)))), (3, .int (zI l))] dX11_counts_130 rfl (by decide) rfl ?_
              refine z_goto C 2 dX11_counts_133 (by decide) ?_
              refine z_lv [(0, .ref (a 0)), (1, .int (zI (k + 1)))] [1, 0] rfl ?_
              exact ih2 (k + 1) f2 (by omega) (Fl_end hfl (by omega)) (by omega)
            · skip
              refine z_iload_n C 1 dX11_counts_29 rfl ?_
              refine z_if_ne C 37 dX11_counts_30 (by decide) (by omega) (fun h34 => ?_) (fun h34 => ?_)
              · skip
                refine z_iconst C dX11_counts_37 ?_
                refine z_istore C [(4, .int (zI 0)), (0, .ref (a 0)), (1, .int (zI k)), (2, .int (zI (((like (u 5) (u 9 1) (u 9 0) (u 0 12) (u 11 k) : Nat) : Int)))), (3, .int (zI l))] dX11_counts_38 (by decide) rfl ?_
                refine z_iconst C dX11_counts_40 ?_
                refine z_istore C [(5, .int (zI 0)), (4, .int (zI 0)), (0, .ref (a 0)), (1, .int (zI k)), (2, .int (zI (((like (u 5) (u 9 1) (u 9 0) (u 0 12) (u 11 k) : Nat) : Int)))), (3, .int (zI l))] dX11_counts_41 (by decide) rfl ?_
                have L43_35 : ∀ (fu : Nat) (o : Int) (b : Int), (0 ≤ o ∧ o ≤ 8) → ((k = 0 ∧ b = 1 ∧ o = 0) ∨ (0 < k ∧ b = sm (fun q => if near (mdt u k) q l = true then fw (mlw u) (mdt u) (k - 1).toNat q else 0) o.toNat)) → 8 - o < (fu : Int) → Z x 0 0 (WM a c (us u 12 (f2))) [(0, .ref (a 0)), (1, .int (zI k)), (2, .int (zI (((like (u 5) (u 9 1) (u 9 0) (u 0 12) (u 11 k) : Nat) : Int)))), (3, .int (zI l)), (4, .int (zI b)), (5, .int (zI o))] 43 [] := by
                  intro fu
                  induction fu with
                  | zero => intro o b ho hb hmeas; exfalso; omega
                  | succ fu ih43 =>
                    intro o b ho hb hmeas
                    refine z_iload C 5 dX11_counts_43 rfl ?_
                    refine z_bipush C dX11_counts_45 (by decide) ?_
                    refine z_icmp_ge C 98 dX11_counts_47 (by decide) (by omega) (fun h36 => ?_) (fun h36 => ?_)
                    · skip
                      refine z_aload_n C 0 dX11_counts_98 rfl ?_
                      refine z_get C hK (v := .ref (a 12)) inX11_counts_X11 0 (WM_0 a c ((us u 12 (f2)))) rfl 24 (by decide) (List.mem_of_getElem? (i := 3) rfl) rfl dX11_counts_99 ?_
                      refine z_bipush C dX11_counts_102 (by decide) ?_
                      refine z_iload_n C 1 dX11_counts_104 rfl ?_
                      refine z_imul C dX11_counts_105 ?_
                      refine z_iload_n C 3 dX11_counts_106 rfl ?_
                      refine z_iadd C dX11_counts_107 ?_
                      refine z_iload_n C 2 dX11_counts_108 rfl ?_
                      refine z_iload_n C 3 dX11_counts_109 rfl ?_
                      refine z_ishr C (((like (u 5) (u 9 1) (u 9 0) (u 0 12) (u 11 k) >>> l.toNat : Nat) : Int)) dX11_counts_110 (zI_shrN (by have := like_lt (u 5) (u 9 1) (u 9 0) (u 0 12) (u 11 k); omega) (by omega)) ?_
                      refine z_iconst C dX11_counts_111 ?_
                      refine z_iand C ((if mlw u k l = true then 1 else 0)) dX11_counts_112 (like_bitZ (by omega)) ?_
                      refine z_iconst C dX11_counts_113 ?_
                      refine z_icmp_ne C 122 dX11_counts_114 (by decide) (by split <;> omega) (fun h37 => ?_) (fun h37 => ?_)
                      · have hA := ite01_n1 h37
                        refine z_iconst C dX11_counts_122 ?_
                        refine z_iast C hK (hDD _) 0 (g := (us u 12 (f2)) 12) 12 (WM_12 a c ((us u 12 (f2)))) rfl (by decide) (by omega) (WM_12_set a c ((us u 12 (f2))) ((8 * k) + l) 0) dX11_counts_123 ?_
                        refine z_iinc C 3 [(3, .int (zI (l + 1))), (0, .ref (a 0)), (1, .int (zI k)), (2, .int (zI (((like (u 5) (u 9 1) (u 9 0) (u 0 12) (u 11 k) : Nat) : Int)))), (4, .int (zI b)), (5, .int (zI o))] dX11_counts_124 rfl (by decide) rfl ?_
                        refine z_goto C 23 dX11_counts_127 (by decide) ?_
                        refine z_lv [(0, .ref (a 0)), (1, .int (zI k)), (2, .int (zI (((like (u 5) (u 9 1) (u 9 0) (u 0 12) (u 11 k) : Nat) : Int)))), (3, .int (zI (l + 1)))] [1, 2, 3, 0] rfl ?_
                        exact ih23 (l + 1) (fun j => if j = 8 * k + l then 0 else f2 j) (by omega) (Fl_put hk.1 hl.1 hfl (fl_val hk.1 (by omega) hb (by first | exact Or.inl ⟨hA, rfl⟩ | exact Or.inr ⟨hA, rfl⟩))) (by omega)
                      · have hA := ite01_1 h37
                        refine z_iload C 4 dX11_counts_117 rfl ?_
                        refine z_goto C 123 dX11_counts_119 (by decide) ?_
                        refine z_iast C hK (hDD _) 0 (g := (us u 12 (f2)) 12) 12 (WM_12 a c ((us u 12 (f2)))) rfl (by decide) (by omega) (WM_12_set a c ((us u 12 (f2))) ((8 * k) + l) b) dX11_counts_123 ?_
                        refine z_iinc C 3 [(3, .int (zI (l + 1))), (0, .ref (a 0)), (1, .int (zI k)), (2, .int (zI (((like (u 5) (u 9 1) (u 9 0) (u 0 12) (u 11 k) : Nat) : Int)))), (4, .int (zI b)), (5, .int (zI o))] dX11_counts_124 rfl (by decide) rfl ?_
                        refine z_goto C 23 dX11_counts_127 (by decide) ?_
                        refine z_lv [(0, .ref (a 0)), (1, .int (zI k)), (2, .int (zI (((like (u 5) (u 9 1) (u 9 0) (u 0 12) (u 11 k) : Nat) : Int)))), (3, .int (zI (l + 1)))] [1, 2, 3, 0] rfl ?_
                        exact ih23 (l + 1) (fun j => if j = 8 * k + l then b else f2 j) (by omega) (Fl_put hk.1 hl.1 hfl (fl_val hk.1 (by omega) hb (by first | exact Or.inl ⟨hA, rfl⟩ | exact Or.inr ⟨hA, rfl⟩))) (by omega)
                    · skip
                      refine z_iload_n C 1 dX11_counts_50 rfl ?_
                      refine z_if_le C 98 dX11_counts_51 (by decide) (by omega) (fun h38 => ?_) (fun h38 => ?_)
                      · skip
                        refine z_aload_n C 0 dX11_counts_98 rfl ?_
                        refine z_get C hK (v := .ref (a 12)) inX11_counts_X11 0 (WM_0 a c ((us u 12 (f2)))) rfl 24 (by decide) (List.mem_of_getElem? (i := 3) rfl) rfl dX11_counts_99 ?_
                        refine z_bipush C dX11_counts_102 (by decide) ?_
                        refine z_iload_n C 1 dX11_counts_104 rfl ?_
                        refine z_imul C dX11_counts_105 ?_
                        refine z_iload_n C 3 dX11_counts_106 rfl ?_
                        refine z_iadd C dX11_counts_107 ?_
                        refine z_iload_n C 2 dX11_counts_108 rfl ?_
                        refine z_iload_n C 3 dX11_counts_109 rfl ?_
                        refine z_ishr C (((like (u 5) (u 9 1) (u 9 0) (u 0 12) (u 11 k) >>> l.toNat : Nat) : Int)) dX11_counts_110 (zI_shrN (by have := like_lt (u 5) (u 9 1) (u 9 0) (u 0 12) (u 11 k); omega) (by omega)) ?_
                        refine z_iconst C dX11_counts_111 ?_
                        refine z_iand C ((if mlw u k l = true then 1 else 0)) dX11_counts_112 (like_bitZ (by omega)) ?_
                        refine z_iconst C dX11_counts_113 ?_
                        refine z_icmp_ne C 122 dX11_counts_114 (by decide) (by split <;> omega) (fun h39 => ?_) (fun h39 => ?_)
                        · have hA := ite01_n1 h39
                          refine z_iconst C dX11_counts_122 ?_
                          refine z_iast C hK (hDD _) 0 (g := (us u 12 (f2)) 12) 12 (WM_12 a c ((us u 12 (f2)))) rfl (by decide) (by omega) (WM_12_set a c ((us u 12 (f2))) ((8 * k) + l) 0) dX11_counts_123 ?_
                          refine z_iinc C 3 [(3, .int (zI (l + 1))), (0, .ref (a 0)), (1, .int (zI k)), (2, .int (zI (((like (u 5) (u 9 1) (u 9 0) (u 0 12) (u 11 k) : Nat) : Int)))), (4, .int (zI b)), (5, .int (zI o))] dX11_counts_124 rfl (by decide) rfl ?_
                          refine z_goto C 23 dX11_counts_127 (by decide) ?_
                          refine z_lv [(0, .ref (a 0)), (1, .int (zI k)), (2, .int (zI (((like (u 5) (u 9 1) (u 9 0) (u 0 12) (u 11 k) : Nat) : Int)))), (3, .int (zI (l + 1)))] [1, 2, 3, 0] rfl ?_
                          exact ih23 (l + 1) (fun j => if j = 8 * k + l then 0 else f2 j) (by omega) (Fl_put hk.1 hl.1 hfl (fl_val hk.1 (by omega) hb (by first | exact Or.inl ⟨hA, rfl⟩ | exact Or.inr ⟨hA, rfl⟩))) (by omega)
                        · have hA := ite01_1 h39
                          refine z_iload C 4 dX11_counts_117 rfl ?_
                          refine z_goto C 123 dX11_counts_119 (by decide) ?_
                          refine z_iast C hK (hDD _) 0 (g := (us u 12 (f2)) 12) 12 (WM_12 a c ((us u 12 (f2)))) rfl (by decide) (by omega) (WM_12_set a c ((us u 12 (f2))) ((8 * k) + l) b) dX11_counts_123 ?_
                          refine z_iinc C 3 [(3, .int (zI (l + 1))), (0, .ref (a 0)), (1, .int (zI k)), (2, .int (zI (((like (u 5) (u 9 1) (u 9 0) (u 0 12) (u 11 k) : Nat) : Int)))), (4, .int (zI b)), (5, .int (zI o))] dX11_counts_124 rfl (by decide) rfl ?_
                          refine z_goto C 23 dX11_counts_127 (by decide) ?_
                          refine z_lv [(0, .ref (a 0)), (1, .int (zI k)), (2, .int (zI (((like (u 5) (u 9 1) (u 9 0) (u 0 12) (u 11 k) : Nat) : Int)))), (3, .int (zI (l + 1)))] [1, 2, 3, 0] rfl ?_
                          exact ih23 (l + 1) (fun j => if j = 8 * k + l then b else f2 j) (by omega) (Fl_put hk.1 hl.1 hfl (fl_val hk.1 (by omega) hb (by first | exact Or.inl ⟨hA, rfl⟩ | exact Or.inr ⟨hA, rfl⟩))) (by omega)
                      · skip
                        refine z_iload C 4 dX11_counts_54 rfl ?_
                        refine z_aload_n C 0 dX11_counts_56 rfl ?_
                        refine z_iload_n C 1 dX11_counts_57 rfl ?_
                        refine z_iconst C dX11_counts_58 ?_
                        refine z_isub C dX11_counts_59 ?_
                        refine z_iload_n C 1 dX11_counts_60 rfl ?_
                        refine z_iload C 5 dX11_counts_61 rfl ?_
                        refine z_iload_n C 3 dX11_counts_63 rfl ?_
                        refine z_callV C hK hDD (c_X11_mayGo (zl x) (zG x) a c ((us u 12 (f2))) (k - 1) k o l (hI) (show 0 ≤ (k - 1) ∧ (k - 1) < 6 by omega) (show 0 ≤ k ∧ k < 6 by omega) (show 0 ≤ o ∧ o < 8 by omega) (show 0 ≤ l ∧ l < 8 by omega)) gX11_counts_X11_mayGo rfl zy_X11_mayGo 0 (WM_0 a c ((us u 12 (f2)))) rfl ⟨by omega, by decide⟩ rfl (Nat.le_of_ble_eq_true rfl) (st := [.int (zI b)]) (stk2 := fun z40 => [.int (zI z40), .int (zI b)]) rfl (fun _ => rfl) dX11_counts_64 (fun z40 u41 h42 => ?_)
                        rw [h42.1]; replace h42 := h42.2
                        replace h42 : ((z40 = 1 ∧ o - l ≤ (u 9 2) * ((u 10) k - (u 10) (k - 1)) ∧ l - o ≤ (u 9 2) * ((u 10) k - (u 10) (k - 1))) ∨ (z40 = 0 ∧ ¬ (o - l ≤ (u 9 2) * ((u 10) k - (u 10) (k - 1)) ∧ l - o ≤ (u 9 2) * ((u 10) k - (u 10) (k - 1))))) := h42
                        refine z_if_eq C 88 dX11_counts_67 (by decide) (by omega) (fun h43 => ?_) (fun h43 => ?_)
                        · skip
                          refine z_iconst C dX11_counts_88 ?_
                          refine z_iadd C dX11_counts_89 ?_
                          refine z_istore C [(4, .int (zI (b + 0))), (0, .ref (a 0)), (1, .int (zI k)), (2, .int (zI (((like (u 5) (u 9 1) (u 9 0) (u 0 12) (u 11 k) : Nat) : Int)))), (3, .int (zI l)), (5, .int (zI o))] dX11_counts_90 (by decide) rfl ?_
                          refine z_iinc C 5 [(5, .int (zI (o + 1))), (4, .int (zI (b + 0))), (0, .ref (a 0)), (1, .int (zI k)), (2, .int (zI (((like (u 5) (u 9 1) (u 9 0) (u 0 12) (u 11 k) : Nat) : Int)))), (3, .int (zI l))] dX11_counts_92 rfl (by decide) rfl ?_
                          refine z_goto C 43 dX11_counts_95 (by decide) ?_
                          refine z_lv [(0, .ref (a 0)), (1, .int (zI k)), (2, .int (zI (((like (u 5) (u 9 1) (u 9 0) (u 0 12) (u 11 k) : Nat) : Int)))), (3, .int (zI l)), (4, .int (zI (b + 0))), (5, .int (zI (o + 1)))] [2, 3, 4, 5, 1, 0] rfl ?_
                          exact ih43 (o + 1) (b + 0) (by omega) (Or.inr ⟨by omega, by rw [sm_stepI ho.1]; rcases hb with ⟨e0, _⟩ | ⟨e0, e1⟩; exact absurd e0 (by omega); first | rw [if_pos (near_t (d := mdt u k) (by unfold mdt; omega)), e1, ← hfv] | rw [if_neg (by rw [near_f (d := mdt u k) (by unfold mdt; omega)]; decide), e1]⟩) (by omega)
                        · skip
                          have hfv : f2 (8 * k - 8 + o) = fw (mlw u) (mdt u) (k - 1).toNat o := by have q := hfl.1 (k - 1) (by omega) (by omega) o ho.1 (by omega); rw [show 8 * (k - 1) + o = 8 * k - 8 + o by omega] at q; exact q
                          refine z_aload_n C 0 dX11_counts_70 rfl ?_
                          refine z_get C hK (v := .ref (a 12)) inX11_counts_X11 0 (WM_0 a c ((us u 12 (f2)))) rfl 24 (by decide) (List.mem_of_getElem? (i := 3) rfl) rfl dX11_counts_71 ?_
                          refine z_bipush C dX11_counts_74 (by decide) ?_
                          refine z_iload_n C 1 dX11_counts_76 rfl ?_
                          refine z_imul C dX11_counts_77 ?_
                          refine z_bipush C dX11_counts_78 (by decide) ?_
                          refine z_isub C dX11_counts_80 ?_
                          refine z_iload C 5 dX11_counts_81 rfl ?_
                          refine z_iadd C dX11_counts_83 ?_
                          refine z_iald C hK 0 (g := f2) (i := (((8 * k) - 8) + o)) 12 (WM_12 a c ((us u 12 (f2)))) rfl (by decide) (by omega) dX11_counts_84 ?_
                          refine z_goto C 89 dX11_counts_85 (by decide) ?_
                          refine z_iadd C dX11_counts_89 ?_
                          refine z_istore C [(4, .int (zI (b + (f2 (((8 * k) - 8) + o))))), (0, .ref (a 0)), (1, .int (zI k)), (2, .int (zI (((like (u 5) (u 9 1) (u 9 0) (u 0 12) (u 11 k) : Nat) : Int)))), (3, .int (zI l)), (5, .int (zI o))] dX11_counts_90 (by decide) rfl ?_
                          refine z_iinc C 5 [(5, .int (zI (o + 1))), (4, .int (zI (b + (f2 (((8 * k) - 8) + o))))), (0, .ref (a 0)), (1, .int (zI k)), (2, .int (zI (((like (u 5) (u 9 1) (u 9 0) (u 0 12) (u 11 k) : Nat) : Int)))), (3, .int (zI l))] dX11_counts_92 rfl (by decide) rfl ?_
                          refine z_goto C 43 dX11_counts_95 (by decide) ?_
                          refine z_lv [(0, .ref (a 0)), (1, .int (zI k)), (2, .int (zI (((like (u 5) (u 9 1) (u 9 0) (u 0 12) (u 11 k) : Nat) : Int)))), (3, .int (zI l)), (4, .int (zI (b + (f2 (((8 * k) - 8) + o))))), (5, .int (zI (o + 1)))] [2, 3, 4, 5, 1, 0] rfl ?_
                          exact ih43 (o + 1) (b + (f2 (((8 * k) - 8) + o))) (by omega) (Or.inr ⟨by omega, by rw [sm_stepI ho.1]; rcases hb with ⟨e0, _⟩ | ⟨e0, e1⟩; exact absurd e0 (by omega); first | rw [if_pos (near_t (d := mdt u k) (by unfold mdt; omega)), e1, ← hfv] | rw [if_neg (by rw [near_f (d := mdt u k) (by unfold mdt; omega)]; decide), e1]⟩) (by omega)
                refine z_lv [(0, .ref (a 0)), (1, .int (zI k)), (2, .int (zI (((like (u 5) (u 9 1) (u 9 0) (u 0 12) (u 11 k) : Nat) : Int)))), (3, .int (zI l)), (4, .int (zI 0)), (5, .int (zI 0))] [2, 3, 4, 5, 1, 0] rfl ?_
                exact L43_35 (((8 - 0 : Int)).toNat + 1) 0 0 (by omega) (by first | exact Or.inl ⟨by omega, rfl, rfl⟩ | exact Or.inr ⟨by omega, rfl⟩) (by omega)
              · skip
                refine z_iconst C dX11_counts_33 ?_
                refine z_goto C 38 dX11_counts_34 (by decide) ?_
                refine z_istore C [(4, .int (zI 1)), (0, .ref (a 0)), (1, .int (zI k)), (2, .int (zI (((like (u 5) (u 9 1) (u 9 0) (u 0 12) (u 11 k) : Nat) : Int)))), (3, .int (zI l))] dX11_counts_38 (by decide) rfl ?_
                refine z_iconst C dX11_counts_40 ?_
                refine z_istore C [(5, .int (zI 0)), (4, .int (zI 1)), (0, .ref (a 0)), (1, .int (zI k)), (2, .int (zI (((like (u 5) (u 9 1) (u 9 0) (u 0 12) (u 11 k) : Nat) : Int)))), (3, .int (zI l))] dX11_counts_41 (by decide) rfl ?_
                have L43_44 : ∀ (fu : Nat) (o : Int) (b : Int), (0 ≤ o ∧ o ≤ 8) → ((k = 0 ∧ b = 1 ∧ o = 0) ∨ (0 < k ∧ b = sm (fun q => if near (mdt u k) q l = true then fw (mlw u) (mdt u) (k - 1).toNat q else 0) o.toNat)) → 8 - o < (fu : Int) → Z x 0 0 (WM a c (us u 12 (f2))) [(0, .ref (a 0)), (1, .int (zI k)), (2, .int (zI (((like (u 5) (u 9 1) (u 9 0) (u 0 12) (u 11 k) : Nat) : Int)))), (3, .int (zI l)), (4, .int (zI b)), (5, .int (zI o))] 43 [] := by
                  intro fu
                  induction fu with
                  | zero => intro o b ho hb hmeas; exfalso; omega
                  | succ fu ih43 =>
                    intro o b ho hb hmeas
                    refine z_iload C 5 dX11_counts_43 rfl ?_
                    refine z_bipush C dX11_counts_45 (by decide) ?_
                    refine z_icmp_ge C 98 dX11_counts_47 (by decide) (by omega) (fun h45 => ?_) (fun h45 => ?_)
                    · skip
                      refine z_aload_n C 0 dX11_counts_98 rfl ?_
                      refine z_get C hK (v := .ref (a 12)) inX11_counts_X11 0 (WM_0 a c ((us u 12 (f2)))) rfl 24 (by decide) (List.mem_of_getElem? (i := 3) rfl) rfl dX11_counts_99 ?_
                      refine z_bipush C dX11_counts_102 (by decide) ?_
                      refine z_iload_n C 1 dX11_counts_104 rfl ?_
                      refine z_imul C dX11_counts_105 ?_
                      refine z_iload_n C 3 dX11_counts_106 rfl ?_
                      refine z_iadd C dX11_counts_107 ?_
                      refine z_iload_n C 2 dX11_counts_108 rfl ?_
                      refine z_iload_n C 3 dX11_counts_109 rfl ?_
                      refine z_ishr C (((like (u 5) (u 9 1) (u 9 0) (u 0 12) (u 11 k) >>> l.toNat : Nat) : Int)) dX11_counts_110 (zI_shrN (by have := like_lt (u 5) (u 9 1) (u 9 0) (u 0 12) (u 11 k); omega) (by omega)) ?_
                      refine z_iconst C dX11_counts_111 ?_
                      refine z_iand C ((if mlw u k l = true then 1 else 0)) dX11_counts_112 (like_bitZ (by omega)) ?_
                      refine z_iconst C dX11_counts_113 ?_
                      refine z_icmp_ne C 122 dX11_counts_114 (by decide) (by split <;> omega) (fun h46 => ?_) (fun h46 => ?_)
                      · have hA := ite01_n1 h46
                        refine z_iconst C dX11_counts_122 ?_
                        refine z_iast C hK (hDD _) 0 (g := (us u 12 (f2)) 12) 12 (WM_12 a c ((us u 12 (f2)))) rfl (by decide) (by omega) (WM_12_set a c ((us u 12 (f2))) ((8 * k) + l) 0) dX11_counts_123 ?_
                        refine z_iinc C 3 [(3, .int (zI (l + 1))), (0, .ref (a 0)), (1, .int (zI k)), (2, .int (zI (((like (u 5) (u 9 1) (u 9 0) (u 0 12) (u 11 k) : Nat) : Int)))), (4, .int (zI b)), (5, .int (zI o))] dX11_counts_124 rfl (by decide) rfl ?_
                        refine z_goto C 23 dX11_counts_127 (by decide) ?_
                        refine z_lv [(0, .ref (a 0)), (1, .int (zI k)), (2, .int (zI (((like (u 5) (u 9 1) (u 9 0) (u 0 12) (u 11 k) : Nat) : Int)))), (3, .int (zI (l + 1)))] [1, 2, 3, 0] rfl ?_
                        exact ih23 (l + 1) (fun j => if j = 8 * k + l then 0 else f2 j) (by omega) (Fl_put hk.1 hl.1 hfl (fl_val hk.1 (by omega) hb (by first | exact Or.inl ⟨hA, rfl⟩ | exact Or.inr ⟨hA, rfl⟩))) (by omega)
                      · have hA := ite01_1 h46
                        refine z_iload C 4 dX11_counts_117 rfl ?_
                        refine z_goto C 123 dX11_counts_119 (by decide) ?_
                        refine z_iast C hK (hDD _) 0 (g := (us u 12 (f2)) 12) 12 (WM_12 a c ((us u 12 (f2)))) rfl (by decide) (by omega) (WM_12_set a c ((us u 12 (f2))) ((8 * k) + l) b) dX11_counts_123 ?_
                        refine z_iinc C 3 [(3, .int (zI (l + 1))), (0, .ref (a 0)), (1, .int (zI k)), (2, .int (zI (((like (u 5) (u 9 1) (u 9 0) (u 0 12) (u 11 k) : Nat) : Int)))), (4, .int (zI b)), (5, .int (zI o))] dX11_counts_124 rfl (by decide) rfl ?_
                        refine z_goto C 23 dX11_counts_127 (by decide) ?_
                        refine z_lv [(0, .ref (a 0)), (1, .int (zI k)), (2, .int (zI (((like (u 5) (u 9 1) (u 9 0) (u 0 12) (u 11 k) : Nat) : Int)))), (3, .int (zI (l + 1)))] [1, 2, 3, 0] rfl ?_
                        exact ih23 (l + 1) (fun j => if j = 8 * k + l then b else f2 j) (by omega) (Fl_put hk.1 hl.1 hfl (fl_val hk.1 (by omega) hb (by first | exact Or.inl ⟨hA, rfl⟩ | exact Or.inr ⟨hA, rfl⟩))) (by omega)
                    · skip
                      refine z_iload_n C 1 dX11_counts_50 rfl ?_
                      refine z_if_le C 98 dX11_counts_51 (by decide) (by omega) (fun h47 => ?_) (fun h47 => ?_)
                      · skip
                        refine z_aload_n C 0 dX11_counts_98 rfl ?_
                        refine z_get C hK (v := .ref (a 12)) inX11_counts_X11 0 (WM_0 a c ((us u 12 (f2)))) rfl 24 (by decide) (List.mem_of_getElem? (i := 3) rfl) rfl dX11_counts_99 ?_
                        refine z_bipush C dX11_counts_102 (by decide) ?_
                        refine z_iload_n C 1 dX11_counts_104 rfl ?_
                        refine z_imul C dX11_counts_105 ?_
                        refine z_iload_n C 3 dX11_counts_106 rfl ?_
                        refine z_iadd C dX11_counts_107 ?_
                        refine z_iload_n C 2 dX11_counts_108 rfl ?_
                        refine z_iload_n C 3 dX11_counts_109 rfl ?_
                        refine z_ishr C (((like (u 5) (u 9 1) (u 9 0) (u 0 12) (u 11 k) >>> l.toNat : Nat) : Int)) dX11_counts_110 (zI_shrN (by have := like_lt (u 5) (u 9 1) (u 9 0) (u 0 12) (u 11 k); omega) (by omega)) ?_
                        refine z_iconst C dX11_counts_111 ?_
                        refine z_iand C ((if mlw u k l = true then 1 else 0)) dX11_counts_112 (like_bitZ (by omega)) ?_
                        refine z_iconst C dX11_counts_113 ?_
                        refine z_icmp_ne C 122 dX11_counts_114 (by decide) (by split <;> omega) (fun h48 => ?_) (fun h48 => ?_)
                        · have hA := ite01_n1 h48
                          refine z_iconst C dX11_counts_122 ?_
                          refine z_iast C hK (hDD _) 0 (g := (us u 12 (f2)) 12) 12 (WM_12 a c ((us u 12 (f2)))) rfl (by decide) (by omega) (WM_12_set a c ((us u 12 (f2))) ((8 * k) + l) 0) dX11_counts_123 ?_
                          refine z_iinc C 3 [(3, .int (zI (l + 1))), (0, .ref (a 0)), (1, .int (zI k)), (2, .int (zI (((like (u 5) (u 9 1) (u 9 0) (u 0 12) (u 11 k) : Nat) : Int)))), (4, .int (zI b)), (5, .int (zI o))] dX11_counts_124 rfl (by decide) rfl ?_
                          refine z_goto C 23 dX11_counts_127 (by decide) ?_
                          refine z_lv [(0, .ref (a 0)), (1, .int (zI k)), (2, .int (zI (((like (u 5) (u 9 1) (u 9 0) (u 0 12) (u 11 k) : Nat) : Int)))), (3, .int (zI (l + 1)))] [1, 2, 3, 0] rfl ?_
                          exact ih23 (l + 1) (fun j => if j = 8 * k + l then 0 else f2 j) (by omega) (Fl_put hk.1 hl.1 hfl (fl_val hk.1 (by omega) hb (by first | exact Or.inl ⟨hA, rfl⟩ | exact Or.inr ⟨hA, rfl⟩))) (by omega)
                        · have hA := ite01_1 h48
                          refine z_iload C 4 dX11_counts_117 rfl ?_
                          refine z_goto C 123 dX11_counts_119 (by decide) ?_
                          refine z_iast C hK (hDD _) 0 (g := (us u 12 (f2)) 12) 12 (WM_12 a c ((us u 12 (f2)))) rfl (by decide) (by omega) (WM_12_set a c ((us u 12 (f2))) ((8 * k) + l) b) dX11_counts_123 ?_
                          refine z_iinc C 3 [(3, .int (zI (l + 1))), (0, .ref (a 0)), (1, .int (zI k)), (2, .int (zI (((like (u 5) (u 9 1) (u 9 0) (u 0 12) (u 11 k) : Nat) : Int)))), (4, .int (zI b)), (5, .int (zI o))] dX11_counts_124 rfl (by decide) rfl ?_
                          refine z_goto C 23 dX11_counts_127 (by decide) ?_
                          refine z_lv [(0, .ref (a 0)), (1, .int (zI k)), (2, .int (zI (((like (u 5) (u 9 1) (u 9 0) (u 0 12) (u 11 k) : Nat) : Int)))), (3, .int (zI (l + 1)))] [1, 2, 3, 0] rfl ?_
                          exact ih23 (l + 1) (fun j => if j = 8 * k + l then b else f2 j) (by omega) (Fl_put hk.1 hl.1 hfl (fl_val hk.1 (by omega) hb (by first | exact Or.inl ⟨hA, rfl⟩ | exact Or.inr ⟨hA, rfl⟩))) (by omega)
                      · skip
                        refine z_iload C 4 dX11_counts_54 rfl ?_
                        refine z_aload_n C 0 dX11_counts_56 rfl ?_
                        refine z_iload_n C 1 dX11_counts_57 rfl ?_
                        refine z_iconst C dX11_counts_58 ?_
                        refine z_isub C dX11_counts_59 ?_
                        refine z_iload_n C 1 dX11_counts_60 rfl ?_
                        refine z_iload C 5 dX11_counts_61 rfl ?_
                        refine z_iload_n C 3 dX11_counts_63 rfl ?_
                        refine z_callV C hK hDD (c_X11_mayGo (zl x) (zG x) a c ((us u 12 (f2))) (k - 1) k o l (hI) (show 0 ≤ (k - 1) ∧ (k - 1) < 6 by omega) (show 0 ≤ k ∧ k < 6 by omega) (show 0 ≤ o ∧ o < 8 by omega) (show 0 ≤ l ∧ l < 8 by omega)) gX11_counts_X11_mayGo rfl zy_X11_mayGo 0 (WM_0 a c ((us u 12 (f2)))) rfl ⟨by omega, by decide⟩ rfl (Nat.le_of_ble_eq_true rfl) (st := [.int (zI b)]) (stk2 := fun z49 => [.int (zI z49), .int (zI b)]) rfl (fun _ => rfl) dX11_counts_64 (fun z49 u50 h51 => ?_)
                        rw [h51.1]; replace h51 := h51.2
                        replace h51 : ((z49 = 1 ∧ o - l ≤ (u 9 2) * ((u 10) k - (u 10) (k - 1)) ∧ l - o ≤ (u 9 2) * ((u 10) k - (u 10) (k - 1))) ∨ (z49 = 0 ∧ ¬ (o - l ≤ (u 9 2) * ((u 10) k - (u 10) (k - 1)) ∧ l - o ≤ (u 9 2) * ((u 10) k - (u 10) (k - 1))))) := h51
                        refine z_if_eq C 88 dX11_counts_67 (by decide) (by omega) (fun h52 => ?_) (fun h52 => ?_)
                        · skip
                          refine z_iconst C dX11_counts_88 ?_
                          refine z_iadd C dX11_counts_89 ?_
                          refine z_istore C [(4, .int (zI (b + 0))), (0, .ref (a 0)), (1, .int (zI k)), (2, .int (zI (((like (u 5) (u 9 1) (u 9 0) (u 0 12) (u 11 k) : Nat) : Int)))), (3, .int (zI l)), (5, .int (zI o))] dX11_counts_90 (by decide) rfl ?_
                          refine z_iinc C 5 [(5, .int (zI (o + 1))), (4, .int (zI (b + 0))), (0, .ref (a 0)), (1, .int (zI k)), (2, .int (zI (((like (u 5) (u 9 1) (u 9 0) (u 0 12) (u 11 k) : Nat) : Int)))), (3, .int (zI l))] dX11_counts_92 rfl (by decide) rfl ?_
                          refine z_goto C 43 dX11_counts_95 (by decide) ?_
                          refine z_lv [(0, .ref (a 0)), (1, .int (zI k)), (2, .int (zI (((like (u 5) (u 9 1) (u 9 0) (u 0 12) (u 11 k) : Nat) : Int)))), (3, .int (zI l)), (4, .int (zI (b + 0))), (5, .int (zI (o + 1)))] [2, 3, 4, 5, 1, 0] rfl ?_
                          exact ih43 (o + 1) (b + 0) (by omega) (Or.inr ⟨by omega, by rw [sm_stepI ho.1]; rcases hb with ⟨e0, _⟩ | ⟨e0, e1⟩; exact absurd e0 (by omega); first | rw [if_pos (near_t (d := mdt u k) (by unfold mdt; omega)), e1, ← hfv] | rw [if_neg (by rw [near_f (d := mdt u k) (by unfold mdt; omega)]; decide), e1]⟩) (by omega)
                        · skip
                          have hfv : f2 (8 * k - 8 + o) = fw (mlw u) (mdt u) (k - 1).toNat o := by have q := hfl.1 (k - 1) (by omega) (by omega) o ho.1 (by omega); rw [show 8 * (k - 1) + o = 8 * k - 8 + o by omega] at q; exact q
                          refine z_aload_n C 0 dX11_counts_70 rfl ?_
                          refine z_get C hK (v := .ref (a 12)) inX11_counts_X11 0 (WM_0 a c ((us u 12 (f2)))) rfl 24 (by decide) (List.mem_of_getElem? (i := 3) rfl) rfl dX11_counts_71 ?_
                          refine z_bipush C dX11_counts_74 (by decide) ?_
                          refine z_iload_n C 1 dX11_counts_76 rfl ?_
                          refine z_imul C dX11_counts_77 ?_
                          refine z_bipush C dX11_counts_78 (by decide) ?_
                          refine z_isub C dX11_counts_80 ?_
                          refine z_iload C 5 dX11_counts_81 rfl ?_
                          refine z_iadd C dX11_counts_83 ?_
                          refine z_iald C hK 0 (g := f2) (i := (((8 * k) - 8) + o)) 12 (WM_12 a c ((us u 12 (f2)))) rfl (by decide) (by omega) dX11_counts_84 ?_
                          refine z_goto C 89 dX11_counts_85 (by decide) ?_
                          refine z_iadd C dX11_counts_89 ?_
                          refine z_istore C [(4, .int (zI (b + (f2 (((8 * k) - 8) + o))))), (0, .ref (a 0)), (1, .int (zI k)), (2, .int (zI (((like (u 5) (u 9 1) (u 9 0) (u 0 12) (u 11 k) : Nat) : Int)))), (3, .int (zI l)), (5, .int (zI o))] dX11_counts_90 (by decide) rfl ?_
                          refine z_iinc C 5 [(5, .int (zI (o + 1))), (4, .int (zI (b + (f2 (((8 * k) - 8) + o))))), (0, .ref (a 0)), (1, .int (zI k)), (2, .int (zI (((like (u 5) (u 9 1) (u 9 0) (u 0 12) (u 11 k) : Nat) : Int)))), (3, .int (zI l))] dX11_counts_92 rfl (by decide) rfl ?_
                          refine z_goto C 43 dX11_counts_95 (by decide) ?_
                          refine z_lv [(0, .ref (a 0)), (1, .int (zI k)), (2, .int (zI (((like (u 5) (u 9 1) (u 9 0) (u 0 12) (u 11 k) : Nat) : Int)))), (3, .int (zI l)), (4, .int (zI (b + (f2 (((8 * k) - 8) + o))))), (5, .int (zI (o + 1)))] [2, 3, 4, 5, 1, 0] rfl ?_
                          exact ih43 (o + 1) (b + (f2 (((8 * k) - 8) + o))) (by omega) (Or.inr ⟨by omega, by rw [sm_stepI ho.1]; rcases hb with ⟨e0, _⟩ | ⟨e0, e1⟩; exact absurd e0 (by omega); first | rw [if_pos (near_t (d := mdt u k) (by unfold mdt; omega)), e1, ← hfv] | rw [if_neg (by rw [near_f (d := mdt u k) (by unfold mdt; omega)]; decide), e1]⟩) (by omega)
                refine z_lv [(0, .ref (a 0)), (1, .int (zI k)), (2, .int (zI (((like (u 5) (u 9 1) (u 9 0) (u 0 12) (u 11 k) : Nat) : Int)))), (3, .int (zI l)), (4, .int (zI 1)), (5, .int (zI 0))] [2, 3, 4, 5, 1, 0] rfl ?_
                exact L43_44 (((8 - 0 : Int)).toNat + 1) 0 1 (by omega) (by first | exact Or.inl ⟨by omega, rfl, rfl⟩ | exact Or.inr ⟨by omega, rfl⟩) (by omega)
        refine z_lv [(0, .ref (a 0)), (1, .int (zI k)), (2, .int (zI (((like ((u 5)) ((u 9 1)) ((u 9 0)) ((u 0 12)) ((u 11 (k))) : Nat) : Int)))), (3, .int (zI 0))] [2, 3, 1, 0] rfl ?_
        exact L23_32 (((8 - 0 : Int)).toNat + 1) 0 f (by omega) (⟨hf, fun o h0 h1 => absurd h1 (by omega)⟩) (by omega)
  refine z_lv [(0, .ref (a 0)), (1, .int (zI 0))] [1, 0] rfl ?_
  exact L2_1 (((u 0 21 - 0 : Int)).toNat + 1) 0 (u 12) (by omega) (fun j h0 h1 => absurd h1 (by omega)) (by omega)
-- NoteBellsModel.tracks
theorem inX11_tracks_X11 : ∀ w ∈ wsX110, w ∈ wsX11_tracks := fun w h => List.mem_cons_of_mem _ (List.mem_append_right _ (h))
set_option maxHeartbeats 8000000 in
set_option maxRecDepth 100000 in
theorem c_X11_tracks (l : Launch) (D : va_G) (a : Nat → Nat) (c : Nat → ClassId) (u : zU)  (hI : IM u) : ZM l D (zTy c) (WM a c) yX11_tracks wsX11_tracks 8 [.ref (a 0)] u rI (fun z u' => (∃ f g : Int → Int, u' = us (us u 12 f) 13 g) ∧ z = trk (mlw u) (mdt u) (u 0 21)) := by
  refine ZM.ofI (cc := cX11_tracks) (maxL := 3) [(0, .ref (a 0))] rfl (by decide +kernel) rfl (Nat.le_of_ble_eq_true rfl) (WM_addr a c) ?_
  intro x C hK _ _ hDD kret
  have hno := hI.notes
  refine z_aload_n C 0 dX11_tracks_0 rfl ?_
  refine z_callV C hK hDD (c_X11_counts (zl x) (zG x) a c u  (hI)) gX11_tracks_X11_counts rfl zy_X11_counts 0 (WM_0 a c u) rfl ⟨by omega, by decide⟩ rfl (Nat.le_of_ble_eq_true rfl) (st := []) (stk2 := fun _ => []) rfl (fun _ => rfl) dX11_tracks_1 (fun z1 u2 h3 => ?_)
  obtain ⟨f, g, e1, hF, hB⟩ := h3
  rw [e1]
  change Z x 0 0 (WM a c (us (us u 12 (f)) 13 (g))) _ _ _
  refine z_aload_n C 0 dX11_tracks_4 rfl ?_
  refine z_get C hK (v := .int (zI (u 0 21))) inX11_tracks_X11 0 (WM_0 a c ((us (us u 12 (f)) 13 (g)))) rfl 21 (by decide) (List.mem_of_getElem? (i := 1) rfl) rfl dX11_tracks_5 ?_
  refine z_if_ne C 15 dX11_tracks_8 (by decide) (by omega) (fun h4 => ?_) (fun h4 => ?_)
  · skip
    refine z_iconst C dX11_tracks_15 ?_
    refine z_istore_n C [(1, .int (zI 0)), (0, .ref (a 0))] dX11_tracks_16 rfl (by decide) rfl ?_
    refine z_iconst C dX11_tracks_17 ?_
    refine z_istore_n C [(2, .int (zI 0)), (1, .int (zI 0)), (0, .ref (a 0))] dX11_tracks_18 rfl (by decide) rfl ?_
    have L19_5 : ∀ (fu : Nat) (i : Int) (b : Int), (0 ≤ i ∧ i ≤ 8) → ((u 0 21 = 0 ∧ b = 1) ∨ (0 < u 0 21 ∧ b = sm (bw (mlw u) (mdt u) (u 0 21) (u 0 21 - 1).toNat) i.toNat)) → 8 - i < (fu : Int) → Z x 0 0 (WM a c (us (us u 12 (f)) 13 (g))) [(0, .ref (a 0)), (1, .int (zI b)), (2, .int (zI i))] 19 [] := by
      intro fu
      induction fu with
      | zero => intro i b hi hb hmeas; exfalso; omega
      | succ fu ih19 =>
        intro i b hi hb hmeas
        refine z_iload_n C 2 dX11_tracks_19 rfl ?_
        refine z_bipush C dX11_tracks_20 (by decide) ?_
        refine z_icmp_ge C 47 dX11_tracks_22 (by decide) (by omega) (fun h6 => ?_) (fun h6 => ?_)
        · skip
          refine z_iload_n C 1 dX11_tracks_47 rfl ?_
          exact kret b (us (us u 12 f) 13 g) _ _ (⟨⟨f, g, rfl⟩, by rcases hb with ⟨e0, e1⟩ | ⟨e0, e1⟩; rw [e1, e0]; rfl; rw [e1, show i.toNat = 8 by omega]; exact trk_bw _ _ e0⟩) dX11_tracks_48
        · skip
          refine z_aload_n C 0 dX11_tracks_25 rfl ?_
          refine z_get C hK (v := .int (zI (u 0 21))) inX11_tracks_X11 0 (WM_0 a c ((us (us u 12 (f)) 13 (g)))) rfl 21 (by decide) (List.mem_of_getElem? (i := 1) rfl) rfl dX11_tracks_26 ?_
          refine z_if_le C 47 dX11_tracks_29 (by decide) (by omega) (fun h7 => ?_) (fun h7 => ?_)
          · skip
            refine z_iload_n C 1 dX11_tracks_47 rfl ?_
            exact kret b (us (us u 12 f) 13 g) _ _ (⟨⟨f, g, rfl⟩, by rcases hb with ⟨e0, e1⟩ | ⟨e0, e1⟩; rw [e1, e0]; rfl; rw [e1, show i.toNat = 8 by omega]; exact trk_bw _ _ e0⟩) dX11_tracks_48
          · skip
            refine z_iload_n C 1 dX11_tracks_32 rfl ?_
            refine z_aload_n C 0 dX11_tracks_33 rfl ?_
            refine z_get C hK (v := .ref (a 13)) inX11_tracks_X11 0 (WM_0 a c ((us (us u 12 (f)) 13 (g)))) rfl 25 (by decide) (List.mem_of_getElem? (i := 2) rfl) rfl dX11_tracks_34 ?_
            refine z_iload_n C 2 dX11_tracks_37 rfl ?_
            refine z_iald C hK 0 (g := g) (i := i) 13 (WM_13 a c ((us (us u 12 (f)) 13 (g)))) rfl (by decide) (by omega) dX11_tracks_38 ?_
            refine z_as (b := g (i)) rfl ?_
            refine z_iadd C dX11_tracks_39 ?_
            refine z_istore_n C [(1, .int (zI (b + (g (i))))), (0, .ref (a 0)), (2, .int (zI i))] dX11_tracks_40 rfl (by decide) rfl ?_
            refine z_iinc C 2 [(2, .int (zI (i + 1))), (1, .int (zI (b + (g (i))))), (0, .ref (a 0))] dX11_tracks_41 rfl (by decide) rfl ?_
            refine z_goto C 19 dX11_tracks_44 (by decide) ?_
            refine z_lv [(0, .ref (a 0)), (1, .int (zI (b + (g (i))))), (2, .int (zI (i + 1)))] [2, 1, 0] rfl ?_
            exact ih19 (i + 1) (b + (g (i))) (by omega) (Or.inr ⟨by omega, by rw [sm_stepI hi.1]; have q := hB 0 (by omega) (by omega) i hi.1 (by omega); rw [show 8 * 0 + i = i by omega, show u 0 21 - 1 - 0 = u 0 21 - 1 by omega] at q; rw [← q]; omega⟩) (by omega)
    refine z_lv [(0, .ref (a 0)), (1, .int (zI 0)), (2, .int (zI 0))] [2, 1, 0] rfl ?_
    exact L19_5 (((8 - 0 : Int)).toNat + 1) 0 0 (by omega) (by first | exact Or.inl ⟨by omega, rfl⟩ | exact Or.inr ⟨by omega, rfl⟩) (by omega)
  · skip
    refine z_iconst C dX11_tracks_11 ?_
    refine z_goto C 16 dX11_tracks_12 (by decide) ?_
    refine z_istore_n C [(1, .int (zI 1)), (0, .ref (a 0))] dX11_tracks_16 rfl (by decide) rfl ?_
    refine z_iconst C dX11_tracks_17 ?_
    refine z_istore_n C [(2, .int (zI 0)), (1, .int (zI 1)), (0, .ref (a 0))] dX11_tracks_18 rfl (by decide) rfl ?_
    have L19_8 : ∀ (fu : Nat) (i : Int) (b : Int), (0 ≤ i ∧ i ≤ 8) → ((u 0 21 = 0 ∧ b = 1) ∨ (0 < u 0 21 ∧ b = sm (bw (mlw u) (mdt u) (u 0 21) (u 0 21 - 1).toNat) i.toNat)) → 8 - i < (fu : Int) → Z x 0 0 (WM a c (us (us u 12 (f)) 13 (g))) [(0, .ref (a 0)), (1, .int (zI b)), (2, .int (zI i))] 19 [] := by
      intro fu
      induction fu with
      | zero => intro i b hi hb hmeas; exfalso; omega
      | succ fu ih19 =>
        intro i b hi hb hmeas
        refine z_iload_n C 2 dX11_tracks_19 rfl ?_
        refine z_bipush C dX11_tracks_20 (by decide) ?_
        refine z_icmp_ge C 47 dX11_tracks_22 (by decide) (by omega) (fun h9 => ?_) (fun h9 => ?_)
        · skip
          refine z_iload_n C 1 dX11_tracks_47 rfl ?_
          exact kret b (us (us u 12 f) 13 g) _ _ (⟨⟨f, g, rfl⟩, by rcases hb with ⟨e0, e1⟩ | ⟨e0, e1⟩; rw [e1, e0]; rfl; rw [e1, show i.toNat = 8 by omega]; exact trk_bw _ _ e0⟩) dX11_tracks_48
        · skip
          refine z_aload_n C 0 dX11_tracks_25 rfl ?_
          refine z_get C hK (v := .int (zI (u 0 21))) inX11_tracks_X11 0 (WM_0 a c ((us (us u 12 (f)) 13 (g)))) rfl 21 (by decide) (List.mem_of_getElem? (i := 1) rfl) rfl dX11_tracks_26 ?_
          refine z_if_le C 47 dX11_tracks_29 (by decide) (by omega) (fun h10 => ?_) (fun h10 => ?_)
          · skip
            refine z_iload_n C 1 dX11_tracks_47 rfl ?_
            exact kret b (us (us u 12 f) 13 g) _ _ (⟨⟨f, g, rfl⟩, by rcases hb with ⟨e0, e1⟩ | ⟨e0, e1⟩; rw [e1, e0]; rfl; rw [e1, show i.toNat = 8 by omega]; exact trk_bw _ _ e0⟩) dX11_tracks_48
          · skip
            refine z_iload_n C 1 dX11_tracks_32 rfl ?_
            refine z_aload_n C 0 dX11_tracks_33 rfl ?_
            refine z_get C hK (v := .ref (a 13)) inX11_tracks_X11 0 (WM_0 a c ((us (us u 12 (f)) 13 (g)))) rfl 25 (by decide) (List.mem_of_getElem? (i := 2) rfl) rfl dX11_tracks_34 ?_
            refine z_iload_n C 2 dX11_tracks_37 rfl ?_
            refine z_iald C hK 0 (g := g) (i := i) 13 (WM_13 a c ((us (us u 12 (f)) 13 (g)))) rfl (by decide) (by omega) dX11_tracks_38 ?_
            refine z_as (b := g (i)) rfl ?_
            refine z_iadd C dX11_tracks_39 ?_
            refine z_istore_n C [(1, .int (zI (b + (g (i))))), (0, .ref (a 0)), (2, .int (zI i))] dX11_tracks_40 rfl (by decide) rfl ?_
            refine z_iinc C 2 [(2, .int (zI (i + 1))), (1, .int (zI (b + (g (i))))), (0, .ref (a 0))] dX11_tracks_41 rfl (by decide) rfl ?_
            refine z_goto C 19 dX11_tracks_44 (by decide) ?_
            refine z_lv [(0, .ref (a 0)), (1, .int (zI (b + (g (i))))), (2, .int (zI (i + 1)))] [2, 1, 0] rfl ?_
            exact ih19 (i + 1) (b + (g (i))) (by omega) (Or.inr ⟨by omega, by rw [sm_stepI hi.1]; have q := hB 0 (by omega) (by omega) i hi.1 (by omega); rw [show 8 * 0 + i = i by omega, show u 0 21 - 1 - 0 = u 0 21 - 1 by omega] at q; rw [← q]; omega⟩) (by omega)
    refine z_lv [(0, .ref (a 0)), (1, .int (zI 1)), (2, .int (zI 0))] [2, 1, 0] rfl ?_
    exact L19_8 (((8 - 0 : Int)).toNat + 1) 0 1 (by omega) (by first | exact Or.inl ⟨by omega, rfl⟩ | exact Or.inr ⟨by omega, rfl⟩) (by omega)
-- NoteBellsModel.where
theorem inX11_where_X11 : ∀ w ∈ wsX110, w ∈ wsX11_where := fun w h => List.mem_cons_of_mem _ (List.mem_append_right _ (h))
set_option maxHeartbeats 8000000 in
set_option maxRecDepth 100000 in
theorem c_X11_where (l : Launch) (D : va_G) (a : Nat → Nat) (c : Nat → ClassId) (u : zU) (k : Int) (hI : IM u) (b_k : -2147483648 ≤ k ∧ k < 2147483648) : ZM l D (zTy c) (WM a c) yX11_where wsX11_where 8 [.ref (a 0), .int (zI k)] u rI (fun z u' => (∃ f g : Int → Int, u' = us (us u 12 f) 13 g) ∧ ((0 ≤ k ∧ k < u 0 21 ∧ z = ((whr (mlw u) (mdt u) (u 0 21) k : Nat) : Int)) ∨ (¬ (0 ≤ k ∧ k < u 0 21) ∧ z = -1))) := by
  refine ZM.ofI (cc := cX11_where) (maxL := 4) [(0, .ref (a 0)), (1, .int (zI k))] rfl (by decide +kernel) rfl (Nat.le_of_ble_eq_true rfl) (WM_addr a c) ?_
  intro x C hK _ _ hDD kret
  have hno := hI.notes
  refine z_iload_n C 1 dX11_where_0 rfl ?_
  refine z_i2l C dX11_where_1 (by omega) ?_
  refine z_lconst C (z := 0) dX11_where_2 (by decide) ?_
  refine z_aload_n C 0 dX11_where_3 rfl ?_
  refine z_get C hK (v := .int (zI (u 0 21))) inX11_where_X11 0 (WM_0 a c u) rfl 21 (by decide) (List.mem_of_getElem? (i := 1) rfl) rfl dX11_where_4 ?_
  refine z_iconst C dX11_where_7 ?_
  refine z_isub C dX11_where_8 ?_
  refine z_i2l C dX11_where_9 (by omega) ?_
  refine z_callS C hK hDD (c_X11_in (zl x) (zG x) ((WM a c)) (WM_addr a c) u k 0 ((u 0 21) - 1) (by omega) (by omega) (by omega)) gX11_where_X11_in rfl rfl zy_X11_in ⟨by omega, by decide⟩ rfl (Nat.le_of_ble_eq_true rfl) (st := []) (stk2 := fun z1 => [.int (zI z1)]) rfl (fun _ => rfl) dX11_where_10 (fun z1 u2 h3 => ?_)
  rw [h3.1]; replace h3 := h3.2
  refine z_if_ne C 18 dX11_where_13 (by decide) (by omega) (fun h4 => ?_) (fun h4 => ?_)
  · skip
    refine z_aload_n C 0 dX11_where_18 rfl ?_
    refine z_callV C hK hDD (c_X11_counts (zl x) (zG x) a c u  (hI)) gX11_where_X11_counts rfl zy_X11_counts 0 (WM_0 a c u) rfl ⟨by omega, by decide⟩ rfl (Nat.le_of_ble_eq_true rfl) (st := []) (stk2 := fun _ => []) rfl (fun _ => rfl) dX11_where_19 (fun z5 u6 h7 => ?_)
    obtain ⟨f, g, e1, hF, hB⟩ := h7
    rw [e1]
    change Z x 0 0 (WM a c (us (us u 12 (f)) 13 (g))) _ _ _
    refine z_iconst C dX11_where_22 ?_
    refine z_istore_n C [(2, .int (zI 0)), (0, .ref (a 0)), (1, .int (zI k))] dX11_where_23 rfl (by decide) rfl ?_
    refine z_iconst C dX11_where_24 ?_
    refine z_istore_n C [(3, .int (zI 0)), (2, .int (zI 0)), (0, .ref (a 0)), (1, .int (zI k))] dX11_where_25 rfl (by decide) rfl ?_
    have L26_8 : ∀ (fu : Nat) (i : Int) (b : Int), (0 ≤ i ∧ i ≤ 8) → (b = ((bn (fun q : Nat => decide (0 < fw (mlw u) (mdt u) k.toNat q ∧ 0 < bw (mlw u) (mdt u) (u 0 21) (u 0 21 - 1 - k).toNat q)) i.toNat : Nat) : Int)) → 8 - i < (fu : Int) → Z x 0 0 (WM a c (us (us u 12 (f)) 13 (g))) [(0, .ref (a 0)), (1, .int (zI k)), (2, .int (zI b)), (3, .int (zI i))] 26 [] := by
      intro fu
      induction fu with
      | zero => intro i b hi hb hmeas; exfalso; omega
      | succ fu ih26 =>
        intro i b hi hb hmeas
        refine z_iload_n C 3 dX11_where_26 rfl ?_
        refine z_bipush C dX11_where_27 (by decide) ?_
        refine z_icmp_ge C 76 dX11_where_29 (by decide) (by omega) (fun h9 => ?_) (fun h9 => ?_)
        · skip
          refine z_iload_n C 2 dX11_where_76 rfl ?_
          exact kret b (us (us u 12 f) 13 g) _ _ (⟨⟨f, g, rfl⟩, Or.inl ⟨by omega, by omega, by rw [hb, show i.toNat = 8 by omega]; rfl⟩⟩) dX11_where_77
        · skip
          have hv1 := hF k (by omega) (by omega) i hi.1 (by omega)
          have hv2 := hB k (by omega) (by omega) i hi.1 (by omega)
          have hbd1 := fw_small (mlw u) (mdt u) (k := k.toNat) (by omega) i
          have hbd2 := bw_small (mlw u) (mdt u) (u 0 21) (k := (u 0 21 - 1 - k).toNat) (by omega) i
          refine z_iload_n C 2 dX11_where_32 rfl ?_
          refine z_aload_n C 0 dX11_where_33 rfl ?_
          refine z_get C hK (v := .ref (a 12)) inX11_where_X11 0 (WM_0 a c ((us (us u 12 (f)) 13 (g)))) rfl 24 (by decide) (List.mem_of_getElem? (i := 2) rfl) rfl dX11_where_34 ?_
          refine z_bipush C dX11_where_37 (by decide) ?_
          refine z_iload_n C 1 dX11_where_39 rfl ?_
          refine z_imul C dX11_where_40 ?_
          refine z_iload_n C 3 dX11_where_41 rfl ?_
          refine z_iadd C dX11_where_42 ?_
          refine z_iald C hK 0 (g := f) (i := ((8 * k) + i)) 12 (WM_12 a c ((us (us u 12 (f)) 13 (g)))) rfl (by decide) (by omega) dX11_where_43 ?_
          refine z_if_le C 67 dX11_where_44 (by decide) (by omega) (fun h10 => ?_) (fun h10 => ?_)
          · skip
            refine z_iconst C dX11_where_67 ?_
            refine z_ior C (((bn (fun q : Nat => decide (0 < fw (mlw u) (mdt u) k.toNat q ∧ 0 < bw (mlw u) (mdt u) (u 0 21) (u 0 21 - 1 - k).toNat q)) i.toNat : Nat) : Int)) dX11_where_68 (by rw [hb]; exact (zI_or _ 0).trans (by rw [Nat.or_zero])) ?_
            refine z_istore_n C [(2, .int (zI (((bn (fun q : Nat => decide (0 < fw (mlw u) (mdt u) k.toNat q ∧ 0 < bw (mlw u) (mdt u) (u 0 21) (u 0 21 - 1 - k).toNat q)) i.toNat : Nat) : Int)))), (0, .ref (a 0)), (1, .int (zI k)), (3, .int (zI i))] dX11_where_69 rfl (by decide) rfl ?_
            refine z_iinc C 3 [(3, .int (zI (i + 1))), (2, .int (zI (((bn (fun q : Nat => decide (0 < fw (mlw u) (mdt u) k.toNat q ∧ 0 < bw (mlw u) (mdt u) (u 0 21) (u 0 21 - 1 - k).toNat q)) i.toNat : Nat) : Int)))), (0, .ref (a 0)), (1, .int (zI k))] dX11_where_70 rfl (by decide) rfl ?_
            refine z_goto C 26 dX11_where_73 (by decide) ?_
            refine z_lv [(0, .ref (a 0)), (1, .int (zI k)), (2, .int (zI (((bn (fun q : Nat => decide (0 < fw (mlw u) (mdt u) k.toNat q ∧ 0 < bw (mlw u) (mdt u) (u 0 21) (u 0 21 - 1 - k).toNat q)) i.toNat : Nat) : Int)))), (3, .int (zI (i + 1)))] [2, 3, 1, 0] rfl ?_
            exact ih26 (i + 1) (((bn (fun q : Nat => decide (0 < fw (mlw u) (mdt u) k.toNat q ∧ 0 < bw (mlw u) (mdt u) (u 0 21) (u 0 21 - 1 - k).toNat q)) i.toNat : Nat) : Int)) (by omega) (by first | exact bn_stepI hi.1 (whb_t hi.1 (by omega) (by omega)) | exact (bn_skipI hi.1 (whb_f hi.1 (by omega)))) (by omega)
          · skip
            refine z_aload_n C 0 dX11_where_47 rfl ?_
            refine z_get C hK (v := .ref (a 13)) inX11_where_X11 0 (WM_0 a c ((us (us u 12 (f)) 13 (g)))) rfl 25 (by decide) (List.mem_of_getElem? (i := 3) rfl) rfl dX11_where_48 ?_
            refine z_bipush C dX11_where_51 (by decide) ?_
            refine z_iload_n C 1 dX11_where_53 rfl ?_
            refine z_imul C dX11_where_54 ?_
            refine z_iload_n C 3 dX11_where_55 rfl ?_
            refine z_iadd C dX11_where_56 ?_
            refine z_iald C hK 0 (g := g) (i := ((8 * k) + i)) 13 (WM_13 a c ((us (us u 12 (f)) 13 (g)))) rfl (by decide) (by omega) dX11_where_57 ?_
            refine z_if_le C 67 dX11_where_58 (by decide) (by omega) (fun h11 => ?_) (fun h11 => ?_)
            · skip
              refine z_iconst C dX11_where_67 ?_
              refine z_ior C (((bn (fun q : Nat => decide (0 < fw (mlw u) (mdt u) k.toNat q ∧ 0 < bw (mlw u) (mdt u) (u 0 21) (u 0 21 - 1 - k).toNat q)) i.toNat : Nat) : Int)) dX11_where_68 (by rw [hb]; exact (zI_or _ 0).trans (by rw [Nat.or_zero])) ?_
              refine z_istore_n C [(2, .int (zI (((bn (fun q : Nat => decide (0 < fw (mlw u) (mdt u) k.toNat q ∧ 0 < bw (mlw u) (mdt u) (u 0 21) (u 0 21 - 1 - k).toNat q)) i.toNat : Nat) : Int)))), (0, .ref (a 0)), (1, .int (zI k)), (3, .int (zI i))] dX11_where_69 rfl (by decide) rfl ?_
              refine z_iinc C 3 [(3, .int (zI (i + 1))), (2, .int (zI (((bn (fun q : Nat => decide (0 < fw (mlw u) (mdt u) k.toNat q ∧ 0 < bw (mlw u) (mdt u) (u 0 21) (u 0 21 - 1 - k).toNat q)) i.toNat : Nat) : Int)))), (0, .ref (a 0)), (1, .int (zI k))] dX11_where_70 rfl (by decide) rfl ?_
              refine z_goto C 26 dX11_where_73 (by decide) ?_
              refine z_lv [(0, .ref (a 0)), (1, .int (zI k)), (2, .int (zI (((bn (fun q : Nat => decide (0 < fw (mlw u) (mdt u) k.toNat q ∧ 0 < bw (mlw u) (mdt u) (u 0 21) (u 0 21 - 1 - k).toNat q)) i.toNat : Nat) : Int)))), (3, .int (zI (i + 1)))] [2, 3, 1, 0] rfl ?_
              exact ih26 (i + 1) (((bn (fun q : Nat => decide (0 < fw (mlw u) (mdt u) k.toNat q ∧ 0 < bw (mlw u) (mdt u) (u 0 21) (u 0 21 - 1 - k).toNat q)) i.toNat : Nat) : Int)) (by omega) (by first | exact bn_stepI hi.1 (whb_t hi.1 (by omega) (by omega)) | exact (bn_skipI hi.1 (whb_f hi.1 (by omega)))) (by omega)
            · skip
              refine z_iconst C dX11_where_61 ?_
              refine z_iload_n C 3 dX11_where_62 rfl ?_
              refine z_ishl C (((2 ^ i.toNat : Nat) : Int)) dX11_where_63 (zI_1shl (by omega)) ?_
              refine z_goto C 68 dX11_where_64 (by decide) ?_
              refine z_ior C (((bn (fun q : Nat => decide (0 < fw (mlw u) (mdt u) k.toNat q ∧ 0 < bw (mlw u) (mdt u) (u 0 21) (u 0 21 - 1 - k).toNat q)) i.toNat ||| 2 ^ i.toNat : Nat) : Int)) dX11_where_68 (by rw [hb]; exact zI_or _ _) ?_
              refine z_istore_n C [(2, .int (zI (((bn (fun q : Nat => decide (0 < fw (mlw u) (mdt u) k.toNat q ∧ 0 < bw (mlw u) (mdt u) (u 0 21) (u 0 21 - 1 - k).toNat q)) i.toNat ||| 2 ^ i.toNat : Nat) : Int)))), (0, .ref (a 0)), (1, .int (zI k)), (3, .int (zI i))] dX11_where_69 rfl (by decide) rfl ?_
              refine z_iinc C 3 [(3, .int (zI (i + 1))), (2, .int (zI (((bn (fun q : Nat => decide (0 < fw (mlw u) (mdt u) k.toNat q ∧ 0 < bw (mlw u) (mdt u) (u 0 21) (u 0 21 - 1 - k).toNat q)) i.toNat ||| 2 ^ i.toNat : Nat) : Int)))), (0, .ref (a 0)), (1, .int (zI k))] dX11_where_70 rfl (by decide) rfl ?_
              refine z_goto C 26 dX11_where_73 (by decide) ?_
              refine z_lv [(0, .ref (a 0)), (1, .int (zI k)), (2, .int (zI (((bn (fun q : Nat => decide (0 < fw (mlw u) (mdt u) k.toNat q ∧ 0 < bw (mlw u) (mdt u) (u 0 21) (u 0 21 - 1 - k).toNat q)) i.toNat ||| 2 ^ i.toNat : Nat) : Int)))), (3, .int (zI (i + 1)))] [2, 3, 1, 0] rfl ?_
              exact ih26 (i + 1) (((bn (fun q : Nat => decide (0 < fw (mlw u) (mdt u) k.toNat q ∧ 0 < bw (mlw u) (mdt u) (u 0 21) (u 0 21 - 1 - k).toNat q)) i.toNat ||| 2 ^ i.toNat : Nat) : Int)) (by omega) (by first | exact bn_stepI hi.1 (whb_t hi.1 (by omega) (by omega)) | exact (bn_skipI hi.1 (whb_f hi.1 (by omega)))) (by omega)
    refine z_lv [(0, .ref (a 0)), (1, .int (zI k)), (2, .int (zI 0)), (3, .int (zI 0))] [2, 3, 1, 0] rfl ?_
    exact L26_8 (((8 - 0 : Int)).toNat + 1) 0 0 (by omega) (rfl) (by omega)
  · skip
    refine z_iconst C dX11_where_16 ?_
    exact kret (-1) (us (us u 12 (u 12)) 13 (u 13)) _ _ (⟨⟨u 12, u 13, rfl⟩, Or.inr ⟨by omega, rfl⟩⟩) dX11_where_17
-- NoteBellsModel.isTaken
theorem inX11_isTaken_X11 : ∀ w ∈ wsX110, w ∈ wsX11_isTaken := fun w h => List.mem_cons_of_mem _ (List.mem_append_right _ (h))
set_option maxHeartbeats 8000000 in
set_option maxRecDepth 100000 in
theorem c_X11_isTaken (l : Launch) (D : va_G) (a : Nat → Nat) (c : Nat → ClassId) (u : zU) (m k : Int) (hI : IM u) (b_m : 0 ≤ m ∧ m ≤ 7) (b_k : 0 ≤ k ∧ k ≤ 7) : ZM l D (zTy c) (WM a c) yX11_isTaken wsX11_isTaken 3 [.ref (a 0), .int (zI m), .int (zI k)] u rI (fun z u' => u' = u ∧ ((z = 1 ∧ clsh (u 5) (u 9 0) m k = true) ∨ (z = 0 ∧ clsh (u 5) (u 9 0) m k = false))) := by
  refine ZM.ofZ (cc := cX11_isTaken) (maxL := 5) [(0, .ref (a 0)), (1, .int (zI m)), (2, .int (zI k))] rfl (by decide +kernel) rfl (Nat.le_of_ble_eq_true rfl) (WM_addr a c) ?_
  intro x C hK _ _ hDD kret
  have hp1 := hI.pitch m b_m.1 (by omega)
  have hp2 := hI.pitch k b_k.1 (by omega)
  have he := hI.ear
  refine z_iconst C dX11_isTaken_0 ?_
  refine z_istore_n C [(3, .int (zI 0)), (0, .ref (a 0)), (1, .int (zI m)), (2, .int (zI k))] dX11_isTaken_1 rfl (by decide) rfl ?_
  refine z_iconst C dX11_isTaken_2 ?_
  refine z_istore C [(4, .int (zI 0)), (3, .int (zI 0)), (0, .ref (a 0)), (1, .int (zI m)), (2, .int (zI k))] dX11_isTaken_3 (by decide) rfl ?_
  have L5_1 : ∀ (fu : Nat) (i : Int) (b : Int), (0 ≤ i ∧ i ≤ 10) → ((b = 1 ∧ clsh (u 5) (u 9 0) m k = true) ∨ (b = 0 ∧ ∀ w : Int, 0 ≤ w → w < i → ¬ (snd (u 5 m) w m - snd (u 5 k) w k ≤ u 9 0 ∧ snd (u 5 k) w k - snd (u 5 m) w m ≤ u 9 0))) → 10 - i < (fu : Int) → Z x 0 0 (WM a c u) [(0, .ref (a 0)), (1, .int (zI m)), (2, .int (zI k)), (3, .int (zI b)), (4, .int (zI i))] 5 [] := by
    intro fu
    induction fu with
    | zero => intro i b hi hn hmeas; exfalso; omega
    | succ fu ih5 =>
      intro i b hi hn hmeas
      refine z_iload C 4 dX11_isTaken_5 rfl ?_
      refine z_bipush C dX11_isTaken_7 (by decide) ?_
      refine z_icmp_ge C 64 dX11_isTaken_9 (by decide) (by omega) (fun h2 => ?_) (fun h2 => ?_)
      · skip
        refine z_iload_n C 3 dX11_isTaken_64 rfl ?_
        exact kret b u _ _ (⟨rfl, by rcases hn with ⟨q1, q2⟩ | ⟨q1, q2⟩; exact Or.inl ⟨q1, q2⟩; exact Or.inr ⟨q1, clsh_f (fun w h0 h1 => q2 w h0 (by omega))⟩⟩) (by omega) dX11_isTaken_65
      · skip
        refine z_iload_n C 3 dX11_isTaken_12 rfl ?_
        refine z_if_ne C 52 dX11_isTaken_13 (by decide) (by omega) (fun h3 => ?_) (fun h3 => ?_)
        · skip
          refine z_iconst C dX11_isTaken_52 ?_
          refine z_goto C 57 dX11_isTaken_53 (by decide) ?_
          refine z_istore_n C [(3, .int (zI 1)), (0, .ref (a 0)), (1, .int (zI m)), (2, .int (zI k)), (4, .int (zI i))] dX11_isTaken_57 rfl (by decide) rfl ?_
          refine z_iinc C 4 [(4, .int (zI (i + 1))), (3, .int (zI 1)), (0, .ref (a 0)), (1, .int (zI m)), (2, .int (zI k))] dX11_isTaken_58 rfl (by decide) rfl ?_
          refine z_goto C 5 dX11_isTaken_61 (by decide) ?_
          refine z_lv [(0, .ref (a 0)), (1, .int (zI m)), (2, .int (zI k)), (3, .int (zI 1)), (4, .int (zI (i + 1)))] [2, 3, 4, 1, 0] rfl ?_
          exact ih5 (i + 1) 1 (by omega) (istk_step hn (by omega) (by omega)) (by omega)
        · skip
          have hs1 := snd_bd hp1 (w := i) (by omega) (m := m) b_m
          have hs2 := snd_bd hp2 (w := i) (by omega) (m := k) b_k
          refine z_aload_n C 0 dX11_isTaken_16 rfl ?_
          refine z_get C hK (v := .ref (a 5)) inX11_isTaken_X11 0 (WM_0 a c u) rfl 14 (by decide) (List.mem_of_getElem? (i := 1) rfl) rfl dX11_isTaken_17 ?_
          refine z_iload_n C 1 dX11_isTaken_20 rfl ?_
          refine z_iald C hK 0 (g := (u 5)) (i := m) 5 (WM_5 a c u) rfl (by decide) (by omega) dX11_isTaken_21 ?_
          refine z_as (b := u 5 (m)) rfl ?_
          refine z_iload_n C 1 dX11_isTaken_22 rfl ?_
          refine z_iload C 4 dX11_isTaken_23 rfl ?_
          refine z_callS C hK hDD (c_X11_sound (zl x) (zG x) ((WM a c)) (WM_addr a c) u (u 5 (m)) m i (by omega) (by omega) (by omega)) gX11_isTaken_X11_sound rfl rfl zy_X11_sound ⟨by omega, by decide⟩ rfl (Nat.le_of_ble_eq_true rfl) (st := []) (stk2 := fun z4 => [.int (zI z4)]) rfl (fun _ => rfl) dX11_isTaken_25 (fun z4 u5 h6 => ?_)
          rw [h6.1]; replace h6 := h6.2
          refine z_as (b := snd (u 5 (m)) i m) h6 ?_
          refine z_aload_n C 0 dX11_isTaken_28 rfl ?_
          refine z_get C hK (v := .ref (a 5)) inX11_isTaken_X11 0 (WM_0 a c u) rfl 14 (by decide) (List.mem_of_getElem? (i := 1) rfl) rfl dX11_isTaken_29 ?_
          refine z_iload_n C 2 dX11_isTaken_32 rfl ?_
          refine z_iald C hK 0 (g := (u 5)) (i := k) 5 (WM_5 a c u) rfl (by decide) (by omega) dX11_isTaken_33 ?_
          refine z_as (b := u 5 (k)) rfl ?_
          refine z_iload_n C 2 dX11_isTaken_34 rfl ?_
          refine z_iload C 4 dX11_isTaken_35 rfl ?_
          refine z_callS C hK hDD (c_X11_sound (zl x) (zG x) ((WM a c)) (WM_addr a c) u (u 5 (k)) k i (by omega) (by omega) (by omega)) gX11_isTaken_X11_sound rfl rfl zy_X11_sound ⟨by omega, by decide⟩ rfl (Nat.le_of_ble_eq_true rfl) (st := [.int (zI (snd (u 5 (m)) i m))]) (stk2 := fun z7 => [.int (zI z7), .int (zI (snd (u 5 (m)) i m))]) rfl (fun _ => rfl) dX11_isTaken_37 (fun z7 u8 h9 => ?_)
          rw [h9.1]; replace h9 := h9.2
          refine z_as (b := snd (u 5 (k)) i k) h9 ?_
          refine z_callS C hK hDD (c_X11_away (zl x) (zG x) ((WM a c)) (WM_addr a c) u (snd (u 5 (m)) i m) (snd (u 5 (k)) i k) (by omega) (by omega)) gX11_isTaken_X11_away rfl rfl zy_X11_away ⟨by omega, by decide⟩ rfl (Nat.le_of_ble_eq_true rfl) (st := []) (stk2 := fun z10 => [.int (zI z10)]) rfl (fun _ => rfl) dX11_isTaken_40 (fun z10 u11 h12 => ?_)
          rw [h12.1]; replace h12 := h12.2
          refine z_aload_n C 0 dX11_isTaken_43 rfl ?_
          refine z_get C hK (v := .ref (a 9)) inX11_isTaken_X11 0 (WM_0 a c u) rfl 18 (by decide) (List.mem_of_getElem? (i := 2) rfl) rfl dX11_isTaken_44 ?_
          refine z_iconst C dX11_isTaken_47 ?_
          refine z_iald C hK 0 (g := (u 9)) (i := 0) 9 (WM_9 a c u) rfl (by decide) (by omega) dX11_isTaken_48 ?_
          refine z_as (b := u 9 0) rfl ?_
          refine z_icmp_gt C 56 dX11_isTaken_49 (by decide) (by omega) (fun h13 => ?_) (fun h13 => ?_)
          · skip
            refine z_iconst C dX11_isTaken_56 ?_
            refine z_istore_n C [(3, .int (zI 0)), (0, .ref (a 0)), (1, .int (zI m)), (2, .int (zI k)), (4, .int (zI i))] dX11_isTaken_57 rfl (by decide) rfl ?_
            refine z_iinc C 4 [(4, .int (zI (i + 1))), (3, .int (zI 0)), (0, .ref (a 0)), (1, .int (zI m)), (2, .int (zI k))] dX11_isTaken_58 rfl (by decide) rfl ?_
            refine z_goto C 5 dX11_isTaken_61 (by decide) ?_
            refine z_lv [(0, .ref (a 0)), (1, .int (zI m)), (2, .int (zI k)), (3, .int (zI 0)), (4, .int (zI (i + 1)))] [2, 3, 4, 1, 0] rfl ?_
            exact ih5 (i + 1) 0 (by omega) (istk_step hn (by omega) (by omega)) (by omega)
          · skip
            refine z_iconst C dX11_isTaken_52 ?_
            refine z_goto C 57 dX11_isTaken_53 (by decide) ?_
            refine z_istore_n C [(3, .int (zI 1)), (0, .ref (a 0)), (1, .int (zI m)), (2, .int (zI k)), (4, .int (zI i))] dX11_isTaken_57 rfl (by decide) rfl ?_
            refine z_iinc C 4 [(4, .int (zI (i + 1))), (3, .int (zI 1)), (0, .ref (a 0)), (1, .int (zI m)), (2, .int (zI k))] dX11_isTaken_58 rfl (by decide) rfl ?_
            refine z_goto C 5 dX11_isTaken_61 (by decide) ?_
            refine z_lv [(0, .ref (a 0)), (1, .int (zI m)), (2, .int (zI k)), (3, .int (zI 1)), (4, .int (zI (i + 1)))] [2, 3, 4, 1, 0] rfl ?_
            exact ih5 (i + 1) 1 (by omega) (istk_step hn (by omega) (by omega)) (by omega)
  refine z_lv [(0, .ref (a 0)), (1, .int (zI m)), (2, .int (zI k)), (3, .int (zI 0)), (4, .int (zI 0))] [2, 3, 4, 1, 0] rfl ?_
  exact L5_1 (((10 - 0 : Int)).toNat + 1) 0 0 (by omega) (Or.inr ⟨rfl, fun w h0 h1 => absurd h1 (by omega)⟩) (by omega)
-- NoteBellsModel.many
set_option maxHeartbeats 8000000 in
set_option maxRecDepth 100000 in
theorem c_X11_many (l : Launch) (D : va_G) {tys : List (ClassId × FieldType)} {S : Type} (WW : S → va_W) (hWW : ∀ u u' : S, (WW u).map (fun q => q.1) = (WW u').map (fun q => q.1)) (u : S) (bx : Nat) (hx : bx < 256) : ZM l D tys WW yX11_many wsX11_many 1 [.int (zI (((bx : Nat) : Int)))] u rI (fun z u' => u' = u ∧ z = pcn bx) := by
  refine ZM.ofI (cc := cX11_many) (maxL := 3) [(0, .int (zI (((bx : Nat) : Int))))] rfl (by decide +kernel) rfl (Nat.le_of_ble_eq_true rfl) hWW ?_
  intro x C hK _ _ hDD kret
  refine z_iconst C dX11_many_0 ?_
  refine z_istore_n C [(1, .int (zI 0)), (0, .int (zI (((bx : Nat) : Int))))] dX11_many_1 rfl (by decide) rfl ?_
  refine z_iload_n C 1 dX11_many_2 rfl ?_
  refine z_istore_n C [(2, .int (zI (((bx : Nat) : Int)))), (1, .int (zI 0)), (0, .int (zI (((bx : Nat) : Int))))] dX11_many_3 rfl (by decide) rfl ?_
  have L4_1 : ∀ (fu : Nat) (b : Int) (m : Nat), (m < 256) → (b + pcn m = pcn bx) → (0 ≤ b) → (m : Int) < (fu : Int) → Z x 0 0 (WW u) [(1, .int (zI b)), (2, .int (zI (((m : Nat) : Int))))] 4 [] := by
    intro fu
    induction fu with
    | zero => intro b m hm hb hb0 hmeas; exfalso; omega
    | succ fu ih4 =>
      intro b m hm hb hb0 hmeas
      refine z_iload_n C 1 dX11_many_4 rfl ?_
      refine z_if_eq C 20 dX11_many_5 (by decide) (by omega) (fun h2 => ?_) (fun h2 => ?_)
      · skip
        refine z_iload_n C 0 dX11_many_20 rfl ?_
        exact kret b u _ _ (⟨rfl, many_end hb (by omega)⟩) dX11_many_21
      · skip
        have hpl := pcn_less ⟨m, hm⟩ (by show 0 < m; omega)
        replace hpl : (m &&& (m - 1)) < m ∧ pcn (m &&& (m - 1)) = pcn m - 1 := hpl
        refine z_iinc C 0 [(1, .int (zI (b + 1))), (2, .int (zI (((m : Nat) : Int))))] dX11_many_8 rfl (by decide) rfl ?_
        refine z_iload_n C 1 dX11_many_11 rfl ?_
        refine z_iload_n C 1 dX11_many_12 rfl ?_
        refine z_iconst C dX11_many_13 ?_
        refine z_isub C dX11_many_14 ?_
        refine z_as (b := ((m - 1 : Nat) : Int)) (by omega) ?_
        refine z_iand C (((m &&& (m - 1) : Nat) : Int)) dX11_many_15 (zI_and _ _) ?_
        refine z_istore_n C [(2, .int (zI (((m &&& (m - 1) : Nat) : Int)))), (1, .int (zI (b + 1)))] dX11_many_16 rfl (by decide) rfl ?_
        refine z_goto C 4 dX11_many_17 (by decide) ?_
        refine z_lv [(1, .int (zI (b + 1))), (2, .int (zI (((m &&& (m - 1) : Nat) : Int))))] [1, 0] rfl ?_
        exact ih4 (b + 1) (m &&& (m - 1)) (by omega) (by omega) (by omega) (by omega)
  refine z_lv [(1, .int (zI 0)), (2, .int (zI (((bx : Nat) : Int))))] [1, 0] rfl ?_
  exact L4_1 ((((bx : Int) : Int)).toNat + 1) 0 bx (by omega) (by omega) (by omega) (by omega)
-- NoteBellsModel.keeps
theorem inX11_keeps_X11 : ∀ w ∈ wsX110, w ∈ wsX11_keeps := fun w h => List.mem_cons_of_mem _ (List.mem_append_right _ (h))
set_option maxHeartbeats 8000000 in
set_option maxRecDepth 100000 in
theorem c_X11_keeps (l : Launch) (D : va_G) (a : Nat → Nat) (c : Nat → ClassId) (u : zU) (k : Int) (hI : IM u) (b_k : -2147483648 ≤ k ∧ k < 2147483648) : ZM l D (zTy c) (WM a c) yX11_keeps wsX11_keeps 5 [.ref (a 0), .int (zI k)] u rI (fun z u' => u' = u ∧ ((k = 0 ∧ z = u 0 12 - pcn (kst (u 5) (u 9 0) (u 0 12) (2 ^ (u 0 12).toNat))) ∨ (k = 1 ∧ z = ((kst (u 5) (u 9 0) (u 0 12) (2 ^ (u 0 12).toNat) : Nat) : Int)) ∨ (¬ (0 ≤ k ∧ k ≤ 1) ∧ z = -1))) := by
  refine ZM.ofI (cc := cX11_keeps) (maxL := 7) [(0, .ref (a 0)), (1, .int (zI k))] rfl (by decide +kernel) rfl (Nat.le_of_ble_eq_true rfl) (WM_addr a c) ?_
  intro x C hK _ _ hDD kret
  have hlv := hI.lev
  obtain ⟨M, hM⟩ : ∃ M : Nat, M = 2 ^ (u 0 12).toNat := ⟨_, rfl⟩
  have hM2 : 1 ≤ M ∧ M ≤ 256 := by rw [hM]; exact pow8 (by omega)
  have hkl2 := kst_lt (P := u 5) (e := u 9 0) (lv := u 0 12) (n := M) (by omega)
  refine z_iload_n C 1 dX11_keeps_0 rfl ?_
  refine z_i2l C dX11_keeps_1 (by omega) ?_
  refine z_lconst C (z := 0) dX11_keeps_2 (by decide) ?_
  refine z_lconst C (z := 1) dX11_keeps_3 (by decide) ?_
  refine z_callS C hK hDD (c_X11_in (zl x) (zG x) ((WM a c)) (WM_addr a c) u k 0 1 (by omega) (by omega) (by omega)) gX11_keeps_X11_in rfl rfl zy_X11_in ⟨by omega, by decide⟩ rfl (Nat.le_of_ble_eq_true rfl) (st := []) (stk2 := fun z1 => [.int (zI z1)]) rfl (fun _ => rfl) dX11_keeps_4 (fun z1 u2 h3 => ?_)
  rw [h3.1]; replace h3 := h3.2
  refine z_if_ne C 12 dX11_keeps_7 (by decide) (by omega) (fun h4 => ?_) (fun h4 => ?_)
  · skip
    refine z_iconst C dX11_keeps_12 ?_
    refine z_istore_n C [(2, .int (zI 0)), (0, .ref (a 0)), (1, .int (zI k))] dX11_keeps_13 rfl (by decide) rfl ?_
    refine z_iconst C dX11_keeps_14 ?_
    refine z_istore_n C [(3, .int (zI 0)), (2, .int (zI 0)), (0, .ref (a 0)), (1, .int (zI k))] dX11_keeps_15 rfl (by decide) rfl ?_
    have L16_5 : ∀ (fu : Nat) (i : Int) (b : Int), (0 ≤ i ∧ i ≤ (M : Int)) → (b = ((kst (u 5) (u 9 0) (u 0 12) i.toNat : Nat) : Int)) → (0 ≤ k ∧ k ≤ 1) → (M : Int) - i < (fu : Int) → Z x 0 0 (WM a c u) [(0, .ref (a 0)), (1, .int (zI k)), (2, .int (zI b)), (3, .int (zI i))] 16 [] := by
      intro fu
      induction fu with
      | zero => intro i b hi hb hkk hmeas; exfalso; omega
      | succ fu ih16 =>
        intro i b hi hb hkk hmeas
        refine z_iload_n C 3 dX11_keeps_16 rfl ?_
        refine z_iconst C dX11_keeps_17 ?_
        refine z_aload_n C 0 dX11_keeps_18 rfl ?_
        refine z_get C hK (v := .int (zI (u 0 12))) inX11_keeps_X11 0 (WM_0 a c u) rfl 12 (by decide) (List.mem_of_getElem? (i := 1) rfl) rfl dX11_keeps_19 ?_
        refine z_ishl C (((M : Nat) : Int)) dX11_keeps_22 (by rw [hM]; exact zI_1shl (by omega)) ?_
        refine z_icmp_ge C 141 dX11_keeps_23 (by decide) (by omega) (fun h6 => ?_) (fun h6 => ?_)
        · skip
          refine z_iload_n C 1 dX11_keeps_141 rfl ?_
          refine z_if_ne C 157 dX11_keeps_142 (by decide) (by omega) (fun h7 => ?_) (fun h7 => ?_)
          · skip
            refine z_iload_n C 2 dX11_keeps_157 rfl ?_
            exact kret b u _ _ (⟨rfl, by rw [← hM]; first | exact Or.inl ⟨by omega, rfl⟩ | exact Or.inr (Or.inl ⟨by omega, by rw [hb, show i.toNat = M by omega]⟩)⟩) dX11_keeps_158
          · skip
            have hpb2 := pcn_bd (kst (u 5) (u 9 0) (u 0 12) M)
            refine z_aload_n C 0 dX11_keeps_145 rfl ?_
            refine z_get C hK (v := .int (zI (u 0 12))) inX11_keeps_X11 0 (WM_0 a c u) rfl 12 (by decide) (List.mem_of_getElem? (i := 1) rfl) rfl dX11_keeps_146 ?_
            refine z_iload_n C 2 dX11_keeps_149 rfl ?_
            refine z_as (b := ((kst (u 5) (u 9 0) (u 0 12) M : Nat) : Int)) (by rw [hb, show i.toNat = M by omega]) ?_
            refine z_callS C hK hDD (c_X11_many (zl x) (zG x) ((WM a c)) (WM_addr a c) u (kst (u 5) (u 9 0) (u 0 12) M) (by omega)) gX11_keeps_X11_many rfl rfl zy_X11_many ⟨by omega, by decide⟩ rfl (Nat.le_of_ble_eq_true rfl) (st := [.int (zI (u 0 12))]) (stk2 := fun z8 => [.int (zI z8), .int (zI (u 0 12))]) rfl (fun _ => rfl) dX11_keeps_150 (fun z8 u9 h10 => ?_)
            rw [h10.1]; replace h10 := h10.2
            refine z_as (b := pcn (kst (u 5) (u 9 0) (u 0 12) M)) h10 ?_
            refine z_isub C dX11_keeps_153 ?_
            refine z_goto C 158 dX11_keeps_154 (by decide) ?_
            exact kret ((u 0 12) - (pcn (kst (u 5) (u 9 0) (u 0 12) M))) u _ _ (⟨rfl, by rw [← hM]; first | exact Or.inl ⟨by omega, rfl⟩ | exact Or.inr (Or.inl ⟨by omega, by rw [hb, show i.toNat = M by omega]⟩)⟩) dX11_keeps_158
        · skip
          have hkl := kst_le (u 5) (u 9 0) (u 0 12) i.toNat
          have hpb1 := pcn_bd i.toNat
          have hpb2 := pcn_bd (kst (u 5) (u 9 0) (u 0 12) i.toNat)
          refine z_iload_n C 3 dX11_keeps_26 rfl ?_
          refine z_as (b := ((i.toNat : Nat) : Int)) (by omega) ?_
          refine z_callS C hK hDD (c_X11_many (zl x) (zG x) ((WM a c)) (WM_addr a c) u i.toNat (by omega)) gX11_keeps_X11_many rfl rfl zy_X11_many ⟨by omega, by decide⟩ rfl (Nat.le_of_ble_eq_true rfl) (st := []) (stk2 := fun z11 => [.int (zI z11)]) rfl (fun _ => rfl) dX11_keeps_27 (fun z11 u12 h13 => ?_)
          rw [h13.1]; replace h13 := h13.2
          refine z_as (b := pcn i.toNat) h13 ?_
          refine z_iload_n C 2 dX11_keeps_30 rfl ?_
          refine z_as (b := ((kst (u 5) (u 9 0) (u 0 12) i.toNat : Nat) : Int)) (hb) ?_
          refine z_callS C hK hDD (c_X11_many (zl x) (zG x) ((WM a c)) (WM_addr a c) u (kst (u 5) (u 9 0) (u 0 12) i.toNat) (by omega)) gX11_keeps_X11_many rfl rfl zy_X11_many ⟨by omega, by decide⟩ rfl (Nat.le_of_ble_eq_true rfl) (st := [.int (zI (pcn i.toNat))]) (stk2 := fun z14 => [.int (zI z14), .int (zI (pcn i.toNat))]) rfl (fun _ => rfl) dX11_keeps_31 (fun z14 u15 h16 => ?_)
          rw [h16.1]; replace h16 := h16.2
          refine z_as (b := pcn (kst (u 5) (u 9 0) (u 0 12) i.toNat)) h16 ?_
          refine z_icmp_le C 41 dX11_keeps_34 (by decide) (by omega) (fun h17 => ?_) (fun h17 => ?_)
          · skip
            refine z_iconst C dX11_keeps_41 ?_
            refine z_istore C [(4, .int (zI 0)), (0, .ref (a 0)), (1, .int (zI k)), (2, .int (zI b)), (3, .int (zI i))] dX11_keeps_42 (by decide) rfl ?_
            refine z_iconst C dX11_keeps_44 ?_
            refine z_istore C [(5, .int (zI 0)), (4, .int (zI 0)), (0, .ref (a 0)), (1, .int (zI k)), (2, .int (zI b)), (3, .int (zI i))] dX11_keeps_45 (by decide) rfl ?_
            have L47_18 : ∀ (fu : Nat) (a1 : Int) (s : Int), (0 ≤ a1 ∧ a1 ≤ u 0 12) → ((s = 1 ∧ pcn (kst (u 5) (u 9 0) (u 0 12) i.toNat) < pcn i.toNat ∧ fr2 (u 5) (u 9 0) i.toNat a1) ∨ (s = 0 ∧ ¬ (pcn (kst (u 5) (u 9 0) (u 0 12) i.toNat) < pcn i.toNat ∧ free (u 5) (u 9 0) (u 0 12) i.toNat = true))) → u 0 12 - a1 < (fu : Int) → Z x 0 0 (WM a c u) [(0, .ref (a 0)), (1, .int (zI k)), (2, .int (zI b)), (3, .int (zI i)), (4, .int (zI s)), (5, .int (zI a1))] 47 [] := by
              intro fu
              induction fu with
              | zero => intro a1 s ha hs hmeas; exfalso; omega
              | succ fu ih47 =>
                intro a1 s ha hs hmeas
                refine z_iload C 5 dX11_keeps_47 rfl ?_
                refine z_aload_n C 0 dX11_keeps_49 rfl ?_
                refine z_get C hK (v := .int (zI (u 0 12))) inX11_keeps_X11 0 (WM_0 a c u) rfl 12 (by decide) (List.mem_of_getElem? (i := 1) rfl) rfl dX11_keeps_50 ?_
                refine z_icmp_ge C 124 dX11_keeps_53 (by decide) (by omega) (fun h19 => ?_) (fun h19 => ?_)
                · skip
                  refine z_iload C 4 dX11_keeps_124 rfl ?_
                  refine z_if_eq C 133 dX11_keeps_126 (by decide) (by omega) (fun h20 => ?_) (fun h20 => ?_)
                  · skip
                    refine z_iload_n C 2 dX11_keeps_133 rfl ?_
                    refine z_istore_n C [(2, .int (zI b)), (0, .ref (a 0)), (1, .int (zI k)), (3, .int (zI i)), (4, .int (zI s)), (5, .int (zI a1))] dX11_keeps_134 rfl (by decide) rfl ?_
                    refine z_iinc C 3 [(3, .int (zI (i + 1))), (2, .int (zI b)), (0, .ref (a 0)), (1, .int (zI k)), (4, .int (zI s)), (5, .int (zI a1))] dX11_keeps_135 rfl (by decide) rfl ?_
                    refine z_goto C 16 dX11_keeps_138 (by decide) ?_
                    refine z_lv [(0, .ref (a 0)), (1, .int (zI k)), (2, .int (zI b)), (3, .int (zI (i + 1)))] [2, 3, 1, 0] rfl ?_
                    exact ih16 (i + 1) b (by omega) (kp_end hi.1 (by omega) hb hs (by first | exact Or.inl ⟨by omega, rfl⟩ | exact Or.inr ⟨by omega, rfl⟩)) (by omega) (by omega)
                  · skip
                    refine z_iload_n C 3 dX11_keeps_129 rfl ?_
                    refine z_goto C 134 dX11_keeps_130 (by decide) ?_
                    refine z_istore_n C [(2, .int (zI i)), (0, .ref (a 0)), (1, .int (zI k)), (3, .int (zI i)), (4, .int (zI s)), (5, .int (zI a1))] dX11_keeps_134 rfl (by decide) rfl ?_
                    refine z_iinc C 3 [(3, .int (zI (i + 1))), (2, .int (zI i)), (0, .ref (a 0)), (1, .int (zI k)), (4, .int (zI s)), (5, .int (zI a1))] dX11_keeps_135 rfl (by decide) rfl ?_
                    refine z_goto C 16 dX11_keeps_138 (by decide) ?_
                    refine z_lv [(0, .ref (a 0)), (1, .int (zI k)), (2, .int (zI i)), (3, .int (zI (i + 1)))] [2, 3, 1, 0] rfl ?_
                    exact ih16 (i + 1) i (by omega) (kp_end hi.1 (by omega) hb hs (by first | exact Or.inl ⟨by omega, rfl⟩ | exact Or.inr ⟨by omega, rfl⟩)) (by omega) (by omega)
                · skip
                  refine z_iload C 4 dX11_keeps_56 rfl ?_
                  refine z_if_eq C 124 dX11_keeps_58 (by decide) (by omega) (fun h21 => ?_) (fun h21 => ?_)
                  · skip
                    refine z_iload C 4 dX11_keeps_124 rfl ?_
                    refine z_if_eq C 133 dX11_keeps_126 (by decide) (by omega) (fun h22 => ?_) (fun h22 => ?_)
                    · skip
                      refine z_iload_n C 2 dX11_keeps_133 rfl ?_
                      refine z_istore_n C [(2, .int (zI b)), (0, .ref (a 0)), (1, .int (zI k)), (3, .int (zI i)), (4, .int (zI s)), (5, .int (zI a1))] dX11_keeps_134 rfl (by decide) rfl ?_
                      refine z_iinc C 3 [(3, .int (zI (i + 1))), (2, .int (zI b)), (0, .ref (a 0)), (1, .int (zI k)), (4, .int (zI s)), (5, .int (zI a1))] dX11_keeps_135 rfl (by decide) rfl ?_
                      refine z_goto C 16 dX11_keeps_138 (by decide) ?_
                      refine z_lv [(0, .ref (a 0)), (1, .int (zI k)), (2, .int (zI b)), (3, .int (zI (i + 1)))] [2, 3, 1, 0] rfl ?_
                      exact ih16 (i + 1) b (by omega) (kp_end hi.1 (by omega) hb hs (by first | exact Or.inl ⟨by omega, rfl⟩ | exact Or.inr ⟨by omega, rfl⟩)) (by omega) (by omega)
                    · skip
                      refine z_iload_n C 3 dX11_keeps_129 rfl ?_
                      refine z_goto C 134 dX11_keeps_130 (by decide) ?_
                      refine z_istore_n C [(2, .int (zI i)), (0, .ref (a 0)), (1, .int (zI k)), (3, .int (zI i)), (4, .int (zI s)), (5, .int (zI a1))] dX11_keeps_134 rfl (by decide) rfl ?_
                      refine z_iinc C 3 [(3, .int (zI (i + 1))), (2, .int (zI i)), (0, .ref (a 0)), (1, .int (zI k)), (4, .int (zI s)), (5, .int (zI a1))] dX11_keeps_135 rfl (by decide) rfl ?_
                      refine z_goto C 16 dX11_keeps_138 (by decide) ?_
                      refine z_lv [(0, .ref (a 0)), (1, .int (zI k)), (2, .int (zI i)), (3, .int (zI (i + 1)))] [2, 3, 1, 0] rfl ?_
                      exact ih16 (i + 1) i (by omega) (kp_end hi.1 (by omega) hb hs (by first | exact Or.inl ⟨by omega, rfl⟩ | exact Or.inr ⟨by omega, rfl⟩)) (by omega) (by omega)
                  · skip
                    refine z_iconst C dX11_keeps_61 ?_
                    refine z_istore C [(6, .int (zI 0)), (0, .ref (a 0)), (1, .int (zI k)), (2, .int (zI b)), (3, .int (zI i)), (4, .int (zI s)), (5, .int (zI a1))] dX11_keeps_62 (by decide) rfl ?_
                    have L64_23 : ∀ (fu : Nat) (b1 : Int) (t : Int), (0 ≤ b1 ∧ b1 ≤ a1) → ((t = 1 ∧ pcn (kst (u 5) (u 9 0) (u 0 12) i.toNat) < pcn i.toNat ∧ fr3 (u 5) (u 9 0) i.toNat a1 b1) ∨ (t = 0 ∧ ¬ (pcn (kst (u 5) (u 9 0) (u 0 12) i.toNat) < pcn i.toNat ∧ free (u 5) (u 9 0) (u 0 12) i.toNat = true))) → a1 - b1 < (fu : Int) → Z x 0 0 (WM a c u) [(0, .ref (a 0)), (1, .int (zI k)), (2, .int (zI b)), (3, .int (zI i)), (4, .int (zI t)), (5, .int (zI a1)), (6, .int (zI b1))] 64 [] := by
                      intro fu
                      induction fu with
                      | zero => intro b1 t hb1 ht hmeas; exfalso; omega
                      | succ fu ih64 =>
                        intro b1 t hb1 ht hmeas
                        refine z_iload C 6 dX11_keeps_64 rfl ?_
                        refine z_iload C 5 dX11_keeps_66 rfl ?_
                        refine z_icmp_ge C 118 dX11_keeps_68 (by decide) (by omega) (fun h24 => ?_) (fun h24 => ?_)
                        · skip
                          refine z_iinc C 5 [(5, .int (zI (a1 + 1))), (0, .ref (a 0)), (1, .int (zI k)), (2, .int (zI b)), (3, .int (zI i)), (4, .int (zI t)), (6, .int (zI b1))] dX11_keeps_118 rfl (by decide) rfl ?_
                          refine z_goto C 47 dX11_keeps_121 (by decide) ?_
                          refine z_lv [(0, .ref (a 0)), (1, .int (zI k)), (2, .int (zI b)), (3, .int (zI i)), (4, .int (zI t)), (5, .int (zI (a1 + 1)))] [1, 2, 3, 4, 5, 0] rfl ?_
                          exact ih47 (a1 + 1) t (by omega) (kp_s ha.1 (by omega) ht) (by omega)
                        · skip
                          refine z_iload C 4 dX11_keeps_71 rfl ?_
                          refine z_if_eq C 118 dX11_keeps_73 (by decide) (by omega) (fun h25 => ?_) (fun h25 => ?_)
                          · skip
                            refine z_iinc C 5 [(5, .int (zI (a1 + 1))), (0, .ref (a 0)), (1, .int (zI k)), (2, .int (zI b)), (3, .int (zI i)), (4, .int (zI t)), (6, .int (zI b1))] dX11_keeps_118 rfl (by decide) rfl ?_
                            refine z_goto C 47 dX11_keeps_121 (by decide) ?_
                            refine z_lv [(0, .ref (a 0)), (1, .int (zI k)), (2, .int (zI b)), (3, .int (zI i)), (4, .int (zI t)), (5, .int (zI (a1 + 1)))] [1, 2, 3, 4, 5, 0] rfl ?_
                            exact ih47 (a1 + 1) t (by omega) (kp_s ha.1 (by omega) ht) (by omega)
                          · skip
                            refine z_iload_n C 3 dX11_keeps_76 rfl ?_
                            refine z_as (b := ((i.toNat : Nat) : Int)) (by omega) ?_
                            refine z_iload C 5 dX11_keeps_77 rfl ?_
                            refine z_ishr C (((i.toNat >>> a1.toNat : Nat) : Int)) dX11_keeps_79 (zI_shrN (by omega) (by omega)) ?_
                            refine z_iconst C dX11_keeps_80 ?_
                            refine z_iand C ((if i.toNat.testBit a1.toNat = true then 1 else 0)) dX11_keeps_81 (tb_bit ha.1) ?_
                            refine z_if_eq C 105 dX11_keeps_82 (by decide) (by split <;> omega) (fun h26 => ?_) (fun h26 => ?_)
                            · have hfr : i.toNat.testBit a1.toNat = true → i.toNat.testBit b1.toNat = true → clsh (u 5) (u 9 0) a1 b1 = false := fun q => absurd (q.symm.trans (ite01_eq h26)) (by decide)
                              refine z_iconst C dX11_keeps_105 ?_
                              refine z_goto C 110 dX11_keeps_106 (by decide) ?_
                              refine z_istore C [(4, .int (zI 1)), (0, .ref (a 0)), (1, .int (zI k)), (2, .int (zI b)), (3, .int (zI i)), (5, .int (zI a1)), (6, .int (zI b1))] dX11_keeps_110 (by decide) rfl ?_
                              refine z_iinc C 6 [(6, .int (zI (b1 + 1))), (4, .int (zI 1)), (0, .ref (a 0)), (1, .int (zI k)), (2, .int (zI b)), (3, .int (zI i)), (5, .int (zI a1))] dX11_keeps_112 rfl (by decide) rfl ?_
                              refine z_goto C 64 dX11_keeps_115 (by decide) ?_
                              refine z_lv [(0, .ref (a 0)), (1, .int (zI k)), (2, .int (zI b)), (3, .int (zI i)), (4, .int (zI 1)), (5, .int (zI a1)), (6, .int (zI (b1 + 1)))] [2, 3, 4, 5, 1, 6, 0] rfl ?_
                              exact ih64 (b1 + 1) 1 (by omega) (by first | exact kp_t hb1.1 (by omega) ht hfr | exact Or.inr ⟨by omega, hno2⟩) (by omega)
                            · have hta := ite01_ne h26
                              refine z_iload_n C 3 dX11_keeps_85 rfl ?_
                              refine z_as (b := ((i.toNat : Nat) : Int)) (by omega) ?_
                              refine z_iload C 6 dX11_keeps_86 rfl ?_
                              refine z_ishr C (((i.toNat >>> b1.toNat : Nat) : Int)) dX11_keeps_88 (zI_shrN (by omega) (by omega)) ?_
                              refine z_iconst C dX11_keeps_89 ?_
                              refine z_iand C ((if i.toNat.testBit b1.toNat = true then 1 else 0)) dX11_keeps_90 (tb_bit hb1.1) ?_
                              refine z_if_eq C 105 dX11_keeps_91 (by decide) (by split <;> omega) (fun h27 => ?_) (fun h27 => ?_)
                              · have hfr : i.toNat.testBit a1.toNat = true → i.toNat.testBit b1.toNat = true → clsh (u 5) (u 9 0) a1 b1 = false := fun _ q => absurd (q.symm.trans (ite01_eq h27)) (by decide)
                                refine z_iconst C dX11_keeps_105 ?_
                                refine z_goto C 110 dX11_keeps_106 (by decide) ?_
                                refine z_istore C [(4, .int (zI 1)), (0, .ref (a 0)), (1, .int (zI k)), (2, .int (zI b)), (3, .int (zI i)), (5, .int (zI a1)), (6, .int (zI b1))] dX11_keeps_110 (by decide) rfl ?_
                                refine z_iinc C 6 [(6, .int (zI (b1 + 1))), (4, .int (zI 1)), (0, .ref (a 0)), (1, .int (zI k)), (2, .int (zI b)), (3, .int (zI i)), (5, .int (zI a1))] dX11_keeps_112 rfl (by decide) rfl ?_
                                refine z_goto C 64 dX11_keeps_115 (by decide) ?_
                                refine z_lv [(0, .ref (a 0)), (1, .int (zI k)), (2, .int (zI b)), (3, .int (zI i)), (4, .int (zI 1)), (5, .int (zI a1)), (6, .int (zI (b1 + 1)))] [2, 3, 4, 5, 1, 6, 0] rfl ?_
                                exact ih64 (b1 + 1) 1 (by omega) (by first | exact kp_t hb1.1 (by omega) ht hfr | exact Or.inr ⟨by omega, hno2⟩) (by omega)
                              · have htb := ite01_ne h27
                                refine z_aload_n C 0 dX11_keeps_94 rfl ?_
                                refine z_iload C 5 dX11_keeps_95 rfl ?_
                                refine z_iload C 6 dX11_keeps_97 rfl ?_
                                refine z_callV C hK hDD (c_X11_isTaken (zl x) (zG x) a c u a1 b1 (hI) (by omega) (by omega)) gX11_keeps_X11_isTaken rfl zy_X11_isTaken 0 (WM_0 a c u) rfl ⟨by omega, by decide⟩ rfl (Nat.le_of_ble_eq_true rfl) (st := []) (stk2 := fun z28 => [.int (zI z28)]) rfl (fun _ => rfl) dX11_keeps_99 (fun z28 u29 h30 => ?_)
                                rw [h30.1]; replace h30 := h30.2
                                have KT := h30
                                refine z_if_ne C 109 dX11_keeps_102 (by decide) (by omega) (fun h31 => ?_) (fun h31 => ?_)
                                · have hno2 : ¬ (pcn (kst (u 5) (u 9 0) (u 0 12) i.toNat) < pcn i.toNat ∧ free (u 5) (u 9 0) (u 0 12) i.toNat = true) := fun q => absurd (q.2.symm.trans (fr_no (by omega) (by omega) hta htb (KT.elim (fun q => q.2) (fun q => absurd q.1 (by omega))))) (by decide)
                                  refine z_iconst C dX11_keeps_109 ?_
                                  refine z_istore C [(4, .int (zI 0)), (0, .ref (a 0)), (1, .int (zI k)), (2, .int (zI b)), (3, .int (zI i)), (5, .int (zI a1)), (6, .int (zI b1))] dX11_keeps_110 (by decide) rfl ?_
                                  refine z_iinc C 6 [(6, .int (zI (b1 + 1))), (4, .int (zI 0)), (0, .ref (a 0)), (1, .int (zI k)), (2, .int (zI b)), (3, .int (zI i)), (5, .int (zI a1))] dX11_keeps_112 rfl (by decide) rfl ?_
                                  refine z_goto C 64 dX11_keeps_115 (by decide) ?_
                                  refine z_lv [(0, .ref (a 0)), (1, .int (zI k)), (2, .int (zI b)), (3, .int (zI i)), (4, .int (zI 0)), (5, .int (zI a1)), (6, .int (zI (b1 + 1)))] [2, 3, 4, 5, 1, 6, 0] rfl ?_
                                  exact ih64 (b1 + 1) 0 (by omega) (by first | exact kp_t hb1.1 (by omega) ht hfr | exact Or.inr ⟨by omega, hno2⟩) (by omega)
                                · have hfr : i.toNat.testBit a1.toNat = true → i.toNat.testBit b1.toNat = true → clsh (u 5) (u 9 0) a1 b1 = false := fun _ _ => KT.elim (fun q => absurd q.1 (by omega)) (fun q => q.2)
                                  refine z_iconst C dX11_keeps_105 ?_
                                  refine z_goto C 110 dX11_keeps_106 (by decide) ?_
                                  refine z_istore C [(4, .int (zI 1)), (0, .ref (a 0)), (1, .int (zI k)), (2, .int (zI b)), (3, .int (zI i)), (5, .int (zI a1)), (6, .int (zI b1))] dX11_keeps_110 (by decide) rfl ?_
                                  refine z_iinc C 6 [(6, .int (zI (b1 + 1))), (4, .int (zI 1)), (0, .ref (a 0)), (1, .int (zI k)), (2, .int (zI b)), (3, .int (zI i)), (5, .int (zI a1))] dX11_keeps_112 rfl (by decide) rfl ?_
                                  refine z_goto C 64 dX11_keeps_115 (by decide) ?_
                                  refine z_lv [(0, .ref (a 0)), (1, .int (zI k)), (2, .int (zI b)), (3, .int (zI i)), (4, .int (zI 1)), (5, .int (zI a1)), (6, .int (zI (b1 + 1)))] [2, 3, 4, 5, 1, 6, 0] rfl ?_
                                  exact ih64 (b1 + 1) 1 (by omega) (by first | exact kp_t hb1.1 (by omega) ht hfr | exact Or.inr ⟨by omega, hno2⟩) (by omega)
                    refine z_lv [(0, .ref (a 0)), (1, .int (zI k)), (2, .int (zI b)), (3, .int (zI i)), (4, .int (zI s)), (5, .int (zI a1)), (6, .int (zI 0))] [1, 2, 3, 4, 5, 6, 0] rfl ?_
                    exact L64_23 (((a1 - 0 : Int)).toNat + 1) 0 s (by omega) (kp_i hs) (by omega)
            refine z_lv [(0, .ref (a 0)), (1, .int (zI k)), (2, .int (zI b)), (3, .int (zI i)), (4, .int (zI 0)), (5, .int (zI 0))] [2, 3, 4, 5, 1, 0] rfl ?_
            exact L47_18 (((u 0 12 - 0 : Int)).toNat + 1) 0 0 (by omega) (by first | exact Or.inl ⟨rfl, by omega, fr2_0⟩ | exact Or.inr ⟨rfl, fun q => absurd q.1 (by omega)⟩) (by omega)
          · skip
            refine z_iconst C dX11_keeps_37 ?_
            refine z_goto C 42 dX11_keeps_38 (by decide) ?_
            refine z_istore C [(4, .int (zI 1)), (0, .ref (a 0)), (1, .int (zI k)), (2, .int (zI b)), (3, .int (zI i))] dX11_keeps_42 (by decide) rfl ?_
            refine z_iconst C dX11_keeps_44 ?_
            refine z_istore C [(5, .int (zI 0)), (4, .int (zI 1)), (0, .ref (a 0)), (1, .int (zI k)), (2, .int (zI b)), (3, .int (zI i))] dX11_keeps_45 (by decide) rfl ?_
            have L47_32 : ∀ (fu : Nat) (a1 : Int) (s : Int), (0 ≤ a1 ∧ a1 ≤ u 0 12) → ((s = 1 ∧ pcn (kst (u 5) (u 9 0) (u 0 12) i.toNat) < pcn i.toNat ∧ fr2 (u 5) (u 9 0) i.toNat a1) ∨ (s = 0 ∧ ¬ (pcn (kst (u 5) (u 9 0) (u 0 12) i.toNat) < pcn i.toNat ∧ free (u 5) (u 9 0) (u 0 12) i.toNat = true))) → u 0 12 - a1 < (fu : Int) → Z x 0 0 (WM a c u) [(0, .ref (a 0)), (1, .int (zI k)), (2, .int (zI b)), (3, .int (zI i)), (4, .int (zI s)), (5, .int (zI a1))] 47 [] := by
              intro fu
              induction fu with
              | zero => intro a1 s ha hs hmeas; exfalso; omega
              | succ fu ih47 =>
                intro a1 s ha hs hmeas
                refine z_iload C 5 dX11_keeps_47 rfl ?_
                refine z_aload_n C 0 dX11_keeps_49 rfl ?_
                refine z_get C hK (v := .int (zI (u 0 12))) inX11_keeps_X11 0 (WM_0 a c u) rfl 12 (by decide) (List.mem_of_getElem? (i := 1) rfl) rfl dX11_keeps_50 ?_
                refine z_icmp_ge C 124 dX11_keeps_53 (by decide) (by omega) (fun h33 => ?_) (fun h33 => ?_)
                · skip
                  refine z_iload C 4 dX11_keeps_124 rfl ?_
                  refine z_if_eq C 133 dX11_keeps_126 (by decide) (by omega) (fun h34 => ?_) (fun h34 => ?_)
                  · skip
                    refine z_iload_n C 2 dX11_keeps_133 rfl ?_
                    refine z_istore_n C [(2, .int (zI b)), (0, .ref (a 0)), (1, .int (zI k)), (3, .int (zI i)), (4, .int (zI s)), (5, .int (zI a1))] dX11_keeps_134 rfl (by decide) rfl ?_
                    refine z_iinc C 3 [(3, .int (zI (i + 1))), (2, .int (zI b)), (0, .ref (a 0)), (1, .int (zI k)), (4, .int (zI s)), (5, .int (zI a1))] dX11_keeps_135 rfl (by decide) rfl ?_
                    refine z_goto C 16 dX11_keeps_138 (by decide) ?_
                    refine z_lv [(0, .ref (a 0)), (1, .int (zI k)), (2, .int (zI b)), (3, .int (zI (i + 1)))] [2, 3, 1, 0] rfl ?_
                    exact ih16 (i + 1) b (by omega) (kp_end hi.1 (by omega) hb hs (by first | exact Or.inl ⟨by omega, rfl⟩ | exact Or.inr ⟨by omega, rfl⟩)) (by omega) (by omega)
                  · skip
                    refine z_iload_n C 3 dX11_keeps_129 rfl ?_
                    refine z_goto C 134 dX11_keeps_130 (by decide) ?_
                    refine z_istore_n C [(2, .int (zI i)), (0, .ref (a 0)), (1, .int (zI k)), (3, .int (zI i)), (4, .int (zI s)), (5, .int (zI a1))] dX11_keeps_134 rfl (by decide) rfl ?_
                    refine z_iinc C 3 [(3, .int (zI (i + 1))), (2, .int (zI i)), (0, .ref (a 0)), (1, .int (zI k)), (4, .int (zI s)), (5, .int (zI a1))] dX11_keeps_135 rfl (by decide) rfl ?_
                    refine z_goto C 16 dX11_keeps_138 (by decide) ?_
                    refine z_lv [(0, .ref (a 0)), (1, .int (zI k)), (2, .int (zI i)), (3, .int (zI (i + 1)))] [2, 3, 1, 0] rfl ?_
                    exact ih16 (i + 1) i (by omega) (kp_end hi.1 (by omega) hb hs (by first | exact Or.inl ⟨by omega, rfl⟩ | exact Or.inr ⟨by omega, rfl⟩)) (by omega) (by omega)
                · skip
                  refine z_iload C 4 dX11_keeps_56 rfl ?_
                  refine z_if_eq C 124 dX11_keeps_58 (by decide) (by omega) (fun h35 => ?_) (fun h35 => ?_)
                  · skip
                    refine z_iload C 4 dX11_keeps_124 rfl ?_
                    refine z_if_eq C 133 dX11_keeps_126 (by decide) (by omega) (fun h36 => ?_) (fun h36 => ?_)
                    · skip
                      refine z_iload_n C 2 dX11_keeps_133 rfl ?_
                      refine z_istore_n C [(2, .int (zI b)), (0, .ref (a 0)), (1, .int (zI k)), (3, .int (zI i)), (4, .int (zI s)), (5, .int (zI a1))] dX11_keeps_134 rfl (by decide) rfl ?_
                      refine z_iinc C 3 [(3, .int (zI (i + 1))), (2, .int (zI b)), (0, .ref (a 0)), (1, .int (zI k)), (4, .int (zI s)), (5, .int (zI a1))] dX11_keeps_135 rfl (by decide) rfl ?_
                      refine z_goto C 16 dX11_keeps_138 (by decide) ?_
                      refine z_lv [(0, .ref (a 0)), (1, .int (zI k)), (2, .int (zI b)), (3, .int (zI (i + 1)))] [2, 3, 1, 0] rfl ?_
                      exact ih16 (i + 1) b (by omega) (kp_end hi.1 (by omega) hb hs (by first | exact Or.inl ⟨by omega, rfl⟩ | exact Or.inr ⟨by omega, rfl⟩)) (by omega) (by omega)
                    · skip
                      refine z_iload_n C 3 dX11_keeps_129 rfl ?_
                      refine z_goto C 134 dX11_keeps_130 (by decide) ?_
                      refine z_istore_n C [(2, .int (zI i)), (0, .ref (a 0)), (1, .int (zI k)), (3, .int (zI i)), (4, .int (zI s)), (5, .int (zI a1))] dX11_keeps_134 rfl (by decide) rfl ?_
                      refine z_iinc C 3 [(3, .int (zI (i + 1))), (2, .int (zI i)), (0, .ref (a 0)), (1, .int (zI k)), (4, .int (zI s)), (5, .int (zI a1))] dX11_keeps_135 rfl (by decide) rfl ?_
                      refine z_goto C 16 dX11_keeps_138 (by decide) ?_
                      refine z_lv [(0, .ref (a 0)), (1, .int (zI k)), (2, .int (zI i)), (3, .int (zI (i + 1)))] [2, 3, 1, 0] rfl ?_
                      exact ih16 (i + 1) i (by omega) (kp_end hi.1 (by omega) hb hs (by first | exact Or.inl ⟨by omega, rfl⟩ | exact Or.inr ⟨by omega, rfl⟩)) (by omega) (by omega)
                  · skip
                    refine z_iconst C dX11_keeps_61 ?_
                    refine z_istore C [(6, .int (zI 0)), (0, .ref (a 0)), (1, .int (zI k)), (2, .int (zI b)), (3, .int (zI i)), (4, .int (zI s)), (5, .int (zI a1))] dX11_keeps_62 (by decide) rfl ?_
                    have L64_37 : ∀ (fu : Nat) (b1 : Int) (t : Int), (0 ≤ b1 ∧ b1 ≤ a1) → ((t = 1 ∧ pcn (kst (u 5) (u 9 0) (u 0 12) i.toNat) < pcn i.toNat ∧ fr3 (u 5) (u 9 0) i.toNat a1 b1) ∨ (t = 0 ∧ ¬ (pcn (kst (u 5) (u 9 0) (u 0 12) i.toNat) < pcn i.toNat ∧ free (u 5) (u 9 0) (u 0 12) i.toNat = true))) → a1 - b1 < (fu : Int) → Z x 0 0 (WM a c u) [(0, .ref (a 0)), (1, .int (zI k)), (2, .int (zI b)), (3, .int (zI i)), (4, .int (zI t)), (5, .int (zI a1)), (6, .int (zI b1))] 64 [] := by
                      intro fu
                      induction fu with
                      | zero => intro b1 t hb1 ht hmeas; exfalso; omega
                      | succ fu ih64 =>
                        intro b1 t hb1 ht hmeas
                        refine z_iload C 6 dX11_keeps_64 rfl ?_
                        refine z_iload C 5 dX11_keeps_66 rfl ?_
                        refine z_icmp_ge C 118 dX11_keeps_68 (by decide) (by omega) (fun h38 => ?_) (fun h38 => ?_)
                        · skip
                          refine z_iinc C 5 [(5, .int (zI (a1 + 1))), (0, .ref (a 0)), (1, .int (zI k)), (2, .int (zI b)), (3, .int (zI i)), (4, .int (zI t)), (6, .int (zI b1))] dX11_keeps_118 rfl (by decide) rfl ?_
                          refine z_goto C 47 dX11_keeps_121 (by decide) ?_
                          refine z_lv [(0, .ref (a 0)), (1, .int (zI k)), (2, .int (zI b)), (3, .int (zI i)), (4, .int (zI t)), (5, .int (zI (a1 + 1)))] [1, 2, 3, 4, 5, 0] rfl ?_
                          exact ih47 (a1 + 1) t (by omega) (kp_s ha.1 (by omega) ht) (by omega)
                        · skip
                          refine z_iload C 4 dX11_keeps_71 rfl ?_
                          refine z_if_eq C 118 dX11_keeps_73 (by decide) (by omega) (fun h39 => ?_) (fun h39 => ?_)
                          · skip
                            refine z_iinc C 5 [(5, .int (zI (a1 + 1))), (0, .ref (a 0)), (1, .int (zI k)), (2, .int (zI b)), (3, .int (zI i)), (4, .int (zI t)), (6, .int (zI b1))] dX11_keeps_118 rfl (by decide) rfl ?_
                            refine z_goto C 47 dX11_keeps_121 (by decide) ?_
                            refine z_lv [(0, .ref (a 0)), (1, .int (zI k)), (2, .int (zI b)), (3, .int (zI i)), (4, .int (zI t)), (5, .int (zI (a1 + 1)))] [1, 2, 3, 4, 5, 0] rfl ?_
                            exact ih47 (a1 + 1) t (by omega) (kp_s ha.1 (by omega) ht) (by omega)
                          · skip
                            refine z_iload_n C 3 dX11_keeps_76 rfl ?_
                            refine z_as (b := ((i.toNat : Nat) : Int)) (by omega) ?_
                            refine z_iload C 5 dX11_keeps_77 rfl ?_
                            refine z_ishr C (((i.toNat >>> a1.toNat : Nat) : Int)) dX11_keeps_79 (zI_shrN (by omega) (by omega)) ?_
                            refine z_iconst C dX11_keeps_80 ?_
                            refine z_iand C ((if i.toNat.testBit a1.toNat = true then 1 else 0)) dX11_keeps_81 (tb_bit ha.1) ?_
                            refine z_if_eq C 105 dX11_keeps_82 (by decide) (by split <;> omega) (fun h40 => ?_) (fun h40 => ?_)
                            · have hfr : i.toNat.testBit a1.toNat = true → i.toNat.testBit b1.toNat = true → clsh (u 5) (u 9 0) a1 b1 = false := fun q => absurd (q.symm.trans (ite01_eq h40)) (by decide)
                              refine z_iconst C dX11_keeps_105 ?_
                              refine z_goto C 110 dX11_keeps_106 (by decide) ?_
                              refine z_istore C [(4, .int (zI 1)), (0, .ref (a 0)), (1, .int (zI k)), (2, .int (zI b)), (3, .int (zI i)), (5, .int (zI a1)), (6, .int (zI b1))] dX11_keeps_110 (by decide) rfl ?_
                              refine z_iinc C 6 [(6, .int (zI (b1 + 1))), (4, .int (zI 1)), (0, .ref (a 0)), (1, .int (zI k)), (2, .int (zI b)), (3, .int (zI i)), (5, .int (zI a1))] dX11_keeps_112 rfl (by decide) rfl ?_
                              refine z_goto C 64 dX11_keeps_115 (by decide) ?_
                              refine z_lv [(0, .ref (a 0)), (1, .int (zI k)), (2, .int (zI b)), (3, .int (zI i)), (4, .int (zI 1)), (5, .int (zI a1)), (6, .int (zI (b1 + 1)))] [2, 3, 4, 5, 1, 6, 0] rfl ?_
                              exact ih64 (b1 + 1) 1 (by omega) (by first | exact kp_t hb1.1 (by omega) ht hfr | exact Or.inr ⟨by omega, hno2⟩) (by omega)
                            · have hta := ite01_ne h40
                              refine z_iload_n C 3 dX11_keeps_85 rfl ?_
                              refine z_as (b := ((i.toNat : Nat) : Int)) (by omega) ?_
                              refine z_iload C 6 dX11_keeps_86 rfl ?_
                              refine z_ishr C (((i.toNat >>> b1.toNat : Nat) : Int)) dX11_keeps_88 (zI_shrN (by omega) (by omega)) ?_
                              refine z_iconst C dX11_keeps_89 ?_
                              refine z_iand C ((if i.toNat.testBit b1.toNat = true then 1 else 0)) dX11_keeps_90 (tb_bit hb1.1) ?_
                              refine z_if_eq C 105 dX11_keeps_91 (by decide) (by split <;> omega) (fun h41 => ?_) (fun h41 => ?_)
                              · have hfr : i.toNat.testBit a1.toNat = true → i.toNat.testBit b1.toNat = true → clsh (u 5) (u 9 0) a1 b1 = false := fun _ q => absurd (q.symm.trans (ite01_eq h41)) (by decide)
                                refine z_iconst C dX11_keeps_105 ?_
                                refine z_goto C 110 dX11_keeps_106 (by decide) ?_
                                refine z_istore C [(4, .int (zI 1)), (0, .ref (a 0)), (1, .int (zI k)), (2, .int (zI b)), (3, .int (zI i)), (5, .int (zI a1)), (6, .int (zI b1))] dX11_keeps_110 (by decide) rfl ?_
                                refine z_iinc C 6 [(6, .int (zI (b1 + 1))), (4, .int (zI 1)), (0, .ref (a 0)), (1, .int (zI k)), (2, .int (zI b)), (3, .int (zI i)), (5, .int (zI a1))] dX11_keeps_112 rfl (by decide) rfl ?_
                                refine z_goto C 64 dX11_keeps_115 (by decide) ?_
                                refine z_lv [(0, .ref (a 0)), (1, .int (zI k)), (2, .int (zI b)), (3, .int (zI i)), (4, .int (zI 1)), (5, .int (zI a1)), (6, .int (zI (b1 + 1)))] [2, 3, 4, 5, 1, 6, 0] rfl ?_
                                exact ih64 (b1 + 1) 1 (by omega) (by first | exact kp_t hb1.1 (by omega) ht hfr | exact Or.inr ⟨by omega, hno2⟩) (by omega)
                              · have htb := ite01_ne h41
                                refine z_aload_n C 0 dX11_keeps_94 rfl ?_
                                refine z_iload C 5 dX11_keeps_95 rfl ?_
                                refine z_iload C 6 dX11_keeps_97 rfl ?_
                                refine z_callV C hK hDD (c_X11_isTaken (zl x) (zG x) a c u a1 b1 (hI) (by omega) (by omega)) gX11_keeps_X11_isTaken rfl zy_X11_isTaken 0 (WM_0 a c u) rfl ⟨by omega, by decide⟩ rfl (Nat.le_of_ble_eq_true rfl) (st := []) (stk2 := fun z42 => [.int (zI z42)]) rfl (fun _ => rfl) dX11_keeps_99 (fun z42 u43 h44 => ?_)
                                rw [h44.1]; replace h44 := h44.2
                                have KT := h44
                                refine z_if_ne C 109 dX11_keeps_102 (by decide) (by omega) (fun h45 => ?_) (fun h45 => ?_)
                                · have hno2 : ¬ (pcn (kst (u 5) (u 9 0) (u 0 12) i.toNat) < pcn i.toNat ∧ free (u 5) (u 9 0) (u 0 12) i.toNat = true) := fun q => absurd (q.2.symm.trans (fr_no (by omega) (by omega) hta htb (KT.elim (fun q => q.2) (fun q => absurd q.1 (by omega))))) (by decide)
                                  refine z_iconst C dX11_keeps_109 ?_
                                  refine z_istore C [(4, .int (zI 0)), (0, .ref (a 0)), (1, .int (zI k)), (2, .int (zI b)), (3, .int (zI i)), (5, .int (zI a1)), (6, .int (zI b1))] dX11_keeps_110 (by decide) rfl ?_
                                  refine z_iinc C 6 [(6, .int (zI (b1 + 1))), (4, .int (zI 0)), (0, .ref (a 0)), (1, .int (zI k)), (2, .int (zI b)), (3, .int (zI i)), (5, .int (zI a1))] dX11_keeps_112 rfl (by decide) rfl ?_
                                  refine z_goto C 64 dX11_keeps_115 (by decide) ?_
                                  refine z_lv [(0, .ref (a 0)), (1, .int (zI k)), (2, .int (zI b)), (3, .int (zI i)), (4, .int (zI 0)), (5, .int (zI a1)), (6, .int (zI (b1 + 1)))] [2, 3, 4, 5, 1, 6, 0] rfl ?_
                                  exact ih64 (b1 + 1) 0 (by omega) (by first | exact kp_t hb1.1 (by omega) ht hfr | exact Or.inr ⟨by omega, hno2⟩) (by omega)
                                · have hfr : i.toNat.testBit a1.toNat = true → i.toNat.testBit b1.toNat = true → clsh (u 5) (u 9 0) a1 b1 = false := fun _ _ => KT.elim (fun q => absurd q.1 (by omega)) (fun q => q.2)
                                  refine z_iconst C dX11_keeps_105 ?_
                                  refine z_goto C 110 dX11_keeps_106 (by decide) ?_
                                  refine z_istore C [(4, .int (zI 1)), (0, .ref (a 0)), (1, .int (zI k)), (2, .int (zI b)), (3, .int (zI i)), (5, .int (zI a1)), (6, .int (zI b1))] dX11_keeps_110 (by decide) rfl ?_
                                  refine z_iinc C 6 [(6, .int (zI (b1 + 1))), (4, .int (zI 1)), (0, .ref (a 0)), (1, .int (zI k)), (2, .int (zI b)), (3, .int (zI i)), (5, .int (zI a1))] dX11_keeps_112 rfl (by decide) rfl ?_
                                  refine z_goto C 64 dX11_keeps_115 (by decide) ?_
                                  refine z_lv [(0, .ref (a 0)), (1, .int (zI k)), (2, .int (zI b)), (3, .int (zI i)), (4, .int (zI 1)), (5, .int (zI a1)), (6, .int (zI (b1 + 1)))] [2, 3, 4, 5, 1, 6, 0] rfl ?_
                                  exact ih64 (b1 + 1) 1 (by omega) (by first | exact kp_t hb1.1 (by omega) ht hfr | exact Or.inr ⟨by omega, hno2⟩) (by omega)
                    refine z_lv [(0, .ref (a 0)), (1, .int (zI k)), (2, .int (zI b)), (3, .int (zI i)), (4, .int (zI s)), (5, .int (zI a1)), (6, .int (zI 0))] [1, 2, 3, 4, 5, 6, 0] rfl ?_
                    exact L64_37 (((a1 - 0 : Int)).toNat + 1) 0 s (by omega) (kp_i hs) (by omega)
            refine z_lv [(0, .ref (a 0)), (1, .int (zI k)), (2, .int (zI b)), (3, .int (zI i)), (4, .int (zI 1)), (5, .int (zI 0))] [2, 3, 4, 5, 1, 0] rfl ?_
            exact L47_32 (((u 0 12 - 0 : Int)).toNat + 1) 0 1 (by omega) (by first | exact Or.inl ⟨rfl, by omega, fr2_0⟩ | exact Or.inr ⟨rfl, fun q => absurd q.1 (by omega)⟩) (by omega)
    refine z_lv [(0, .ref (a 0)), (1, .int (zI k)), (2, .int (zI 0)), (3, .int (zI 0))] [2, 3, 1, 0] rfl ?_
    exact L16_5 ((((M : Int) - 0 : Int)).toNat + 1) 0 0 (by omega) (rfl) (by omega) (by omega)
  · skip
    refine z_iconst C dX11_keeps_10 ?_
    exact kret (-1) u _ _ (⟨rfl, Or.inr (Or.inr ⟨by omega, rfl⟩)⟩) dX11_keeps_11
-- NoteBellsModel.meets
theorem inX11_meets_X11 : ∀ w ∈ wsX110, w ∈ wsX11_meets := fun w h => List.mem_cons_of_mem _ (List.mem_append_right _ (h))
set_option maxHeartbeats 8000000 in
set_option maxRecDepth 100000 in
theorem c_X11_meets (l : Launch) (D : va_G) (a : Nat → Nat) (c : Nat → ClassId) (u : zU) (m k : Int) (hI : IM u) (b_m : 0 ≤ m ∧ m ≤ 7) (b_k : 0 ≤ k ∧ k ≤ 7) : ZM l D (zTy c) (WM a c) yX11_meets wsX11_meets 4 [.ref (a 0), .int (zI m), .int (zI k)] u rI (fun z u' => u' = u ∧ z = mt (u 5) (u 6) (u 9 1) (u 9 0) m k) := by
  refine ZM.ofI (cc := cX11_meets) (maxL := 6) [(0, .ref (a 0)), (1, .int (zI m)), (2, .int (zI k))] rfl (by decide +kernel) rfl (Nat.le_of_ble_eq_true rfl) (WM_addr a c) ?_
  intro x C hK _ _ hDD kret
  have hw := hI.wet
  have he := hI.ear
  have hp1 := hI.pitch m b_m.1 (by omega)
  have hp2 := hI.pitch k b_k.1 (by omega)
  have hr1 := hI.wear m b_m.1 (by omega)
  have hr2 := hI.wear k b_k.1 (by omega)
  refine z_iconst C dX11_meets_0 ?_
  refine z_istore_n C [(3, .int (zI 0)), (0, .ref (a 0)), (1, .int (zI m)), (2, .int (zI k))] dX11_meets_1 rfl (by decide) rfl ?_
  have L2_1 : ∀ (fu : Nat) (i : Int), (0 ≤ i ∧ i ≤ 100) → (mt (u 5) (u 6) (u 9 1) (u 9 0) m k = mtf (u 5) (u 6) (u 9 1) (u 9 0) m k (100 - i).toNat i) → 100 - i < (fu : Int) → Z x 0 0 (WM a c u) [(0, .ref (a 0)), (1, .int (zI m)), (2, .int (zI k)), (3, .int (zI i))] 2 [] := by
    intro fu
    induction fu with
    | zero => intro i hi hn hmeas; exfalso; omega
    | succ fu ih2 =>
      intro i hi hn hmeas
      refine z_iload_n C 3 dX11_meets_2 rfl ?_
      refine z_bipush C dX11_meets_3 (by decide) ?_
      refine z_icmp_ge C 128 dX11_meets_5 (by decide) (by omega) (fun h2 => ?_) (fun h2 => ?_)
      · skip
        refine z_bipush C dX11_meets_128 (by decide) ?_
        exact kret (-9) u _ _ (⟨rfl, by rw [hn, show (100 - i).toNat = 0 by omega]; rfl⟩) dX11_meets_130
      · skip
        have hb1 := wrn_bd hp1 hr1 (y := i) (by omega)
        have hb2 := wrn_bd hp2 hr2 (y := i) (by omega)
        have hy1 := wy_bd (w := u 6 m) (y := i) hr1 (by omega)
        have hy2 := wy_bd (w := u 6 k) (y := i) hr2 (by omega)
        rw [Int.mul_comm] at hy1 hy2
        have hs1 := snd_bd hb1 hw (m := m) b_m
        have hs2 := snd_bd hb2 hw (m := k) b_k
        refine z_aload_n C 0 dX11_meets_8 rfl ?_
        refine z_get C hK (v := .ref (a 5)) inX11_meets_X11 0 (WM_0 a c u) rfl 14 (by decide) (List.mem_of_getElem? (i := 1) rfl) rfl dX11_meets_9 ?_
        refine z_iload_n C 1 dX11_meets_12 rfl ?_
        refine z_iald C hK 0 (g := (u 5)) (i := m) 5 (WM_5 a c u) rfl (by decide) (by omega) dX11_meets_13 ?_
        refine z_as (b := u 5 (m)) rfl ?_
        refine z_iload_n C 3 dX11_meets_14 rfl ?_
        refine z_aload_n C 0 dX11_meets_15 rfl ?_
        refine z_get C hK (v := .ref (a 6)) inX11_meets_X11 0 (WM_0 a c u) rfl 15 (by decide) (List.mem_of_getElem? (i := 2) rfl) rfl dX11_meets_16 ?_
        refine z_iload_n C 1 dX11_meets_19 rfl ?_
        refine z_iald C hK 0 (g := (u 6)) (i := m) 6 (WM_6 a c u) rfl (by decide) (by omega) dX11_meets_20 ?_
        refine z_as (b := u 6 (m)) rfl ?_
        refine z_imul C dX11_meets_21 ?_
        refine z_icmp_le C 43 dX11_meets_22 (by decide) (by omega) (fun h3 => ?_) (fun h3 => ?_)
        · skip
          refine z_iconst C dX11_meets_43 ?_
          refine z_as (b := wrn (u 5 m) (u 6 m) i) (wrn_of2 (by first | exact Or.inl ⟨by omega, rfl⟩ | exact Or.inr ⟨by omega, rfl⟩)) ?_
          refine z_istore C [(4, .int (zI (wrn (u 5 m) (u 6 m) i))), (0, .ref (a 0)), (1, .int (zI m)), (2, .int (zI k)), (3, .int (zI i))] dX11_meets_44 (by decide) rfl ?_
          refine z_aload_n C 1 dX11_meets_46 rfl ?_
          refine z_get C hK (v := .ref (a 5)) inX11_meets_X11 0 (WM_0 a c u) rfl 14 (by decide) (List.mem_of_getElem? (i := 1) rfl) rfl dX11_meets_47 ?_
          refine z_iload_n C 3 dX11_meets_50 rfl ?_
          refine z_iald C hK 0 (g := (u 5)) (i := k) 5 (WM_5 a c u) rfl (by decide) (by omega) dX11_meets_51 ?_
          refine z_as (b := u 5 (k)) rfl ?_
          refine z_iload_n C 4 dX11_meets_52 rfl ?_
          refine z_aload_n C 1 dX11_meets_53 rfl ?_
          refine z_get C hK (v := .ref (a 6)) inX11_meets_X11 0 (WM_0 a c u) rfl 15 (by decide) (List.mem_of_getElem? (i := 2) rfl) rfl dX11_meets_54 ?_
          refine z_iload_n C 3 dX11_meets_57 rfl ?_
          refine z_iald C hK 0 (g := (u 6)) (i := k) 6 (WM_6 a c u) rfl (by decide) (by omega) dX11_meets_58 ?_
          refine z_as (b := u 6 (k)) rfl ?_
          refine z_imul C dX11_meets_59 ?_
          refine z_icmp_le C 81 dX11_meets_60 (by decide) (by omega) (fun h4 => ?_) (fun h4 => ?_)
          · skip
            refine z_iconst C dX11_meets_81 ?_
            refine z_as (b := wrn (u 5 k) (u 6 k) i) (wrn_of2 (by first | exact Or.inl ⟨by omega, rfl⟩ | exact Or.inr ⟨by omega, rfl⟩)) ?_
            refine z_istore C [(5, .int (zI (wrn (u 5 k) (u 6 k) i))), (4, .int (zI (wrn (u 5 m) (u 6 m) i))), (0, .ref (a 0)), (1, .int (zI m)), (2, .int (zI k)), (3, .int (zI i))] dX11_meets_82 (by decide) rfl ?_
            refine z_iload C 1 dX11_meets_84 rfl ?_
            refine z_iload_n C 3 dX11_meets_86 rfl ?_
            refine z_aload_n C 2 dX11_meets_87 rfl ?_
            refine z_get C hK (v := .ref (a 9)) inX11_meets_X11 0 (WM_0 a c u) rfl 18 (by decide) (List.mem_of_getElem? (i := 3) rfl) rfl dX11_meets_88 ?_
            refine z_iconst C dX11_meets_91 ?_
            refine z_iald C hK 0 (g := (u 9)) (i := 1) 9 (WM_9 a c u) rfl (by decide) (by omega) dX11_meets_92 ?_
            refine z_as (b := u 9 1) rfl ?_
            refine z_callS C hK hDD (c_X11_sound (zl x) (zG x) ((WM a c)) (WM_addr a c) u (wrn (u 5 m) (u 6 m) i) m (u 9 1) (by omega) (by omega) (by omega)) gX11_meets_X11_sound rfl rfl zy_X11_sound ⟨by omega, by decide⟩ rfl (Nat.le_of_ble_eq_true rfl) (st := []) (stk2 := fun z5 => [.int (zI z5)]) rfl (fun _ => rfl) dX11_meets_93 (fun z5 u6 h7 => ?_)
            rw [h7.1]; replace h7 := h7.2
            refine z_as (b := snd (wrn (u 5 m) (u 6 m) i) (u 9 1) m) h7 ?_
            refine z_iload C 0 dX11_meets_96 rfl ?_
            refine z_iload_n C 4 dX11_meets_98 rfl ?_
            refine z_aload_n C 2 dX11_meets_99 rfl ?_
            refine z_get C hK (v := .ref (a 9)) inX11_meets_X11 0 (WM_0 a c u) rfl 18 (by decide) (List.mem_of_getElem? (i := 3) rfl) rfl dX11_meets_100 ?_
            refine z_iconst C dX11_meets_103 ?_
            refine z_iald C hK 0 (g := (u 9)) (i := 1) 9 (WM_9 a c u) rfl (by decide) (by omega) dX11_meets_104 ?_
            refine z_as (b := u 9 1) rfl ?_
            refine z_callS C hK hDD (c_X11_sound (zl x) (zG x) ((WM a c)) (WM_addr a c) u (wrn (u 5 k) (u 6 k) i) k (u 9 1) (by omega) (by omega) (by omega)) gX11_meets_X11_sound rfl rfl zy_X11_sound ⟨by omega, by decide⟩ rfl (Nat.le_of_ble_eq_true rfl) (st := [.int (zI (snd (wrn (u 5 m) (u 6 m) i) (u 9 1) m))]) (stk2 := fun z8 => [.int (zI z8), .int (zI (snd (wrn (u 5 m) (u 6 m) i) (u 9 1) m))]) rfl (fun _ => rfl) dX11_meets_105 (fun z8 u9 h10 => ?_)
            rw [h10.1]; replace h10 := h10.2
            refine z_as (b := snd (wrn (u 5 k) (u 6 k) i) (u 9 1) k) h10 ?_
            refine z_callS C hK hDD (c_X11_away (zl x) (zG x) ((WM a c)) (WM_addr a c) u (snd (wrn (u 5 m) (u 6 m) i) (u 9 1) m) (snd (wrn (u 5 k) (u 6 k) i) (u 9 1) k) (by omega) (by omega)) gX11_meets_X11_away rfl rfl zy_X11_away ⟨by omega, by decide⟩ rfl (Nat.le_of_ble_eq_true rfl) (st := []) (stk2 := fun z11 => [.int (zI z11)]) rfl (fun _ => rfl) dX11_meets_108 (fun z11 u12 h13 => ?_)
            rw [h13.1]; replace h13 := h13.2
            refine z_aload_n C 2 dX11_meets_111 rfl ?_
            refine z_get C hK (v := .ref (a 9)) inX11_meets_X11 0 (WM_0 a c u) rfl 18 (by decide) (List.mem_of_getElem? (i := 3) rfl) rfl dX11_meets_112 ?_
            refine z_iconst C dX11_meets_115 ?_
            refine z_iald C hK 0 (g := (u 9)) (i := 0) 9 (WM_9 a c u) rfl (by decide) (by omega) dX11_meets_116 ?_
            refine z_as (b := u 9 0) rfl ?_
            refine z_icmp_gt C 122 dX11_meets_117 (by decide) (by omega) (fun h14 => ?_) (fun h14 => ?_)
            · have hmt : ¬ (snd (wrn (u 5 m) (u 6 m) i) (u 9 1) m - snd (wrn (u 5 k) (u 6 k) i) (u 9 1) k ≤ u 9 0 ∧ snd (wrn (u 5 k) (u 6 k) i) (u 9 1) k - snd (wrn (u 5 m) (u 6 m) i) (u 9 1) m ≤ u 9 0) := by omega
              refine z_iinc C 5 [(3, .int (zI (i + 1))), (5, .int (zI (wrn (u 5 k) (u 6 k) i))), (4, .int (zI (wrn (u 5 m) (u 6 m) i))), (0, .ref (a 0)), (1, .int (zI m)), (2, .int (zI k))] dX11_meets_122 rfl (by decide) rfl ?_
              refine z_goto C 2 dX11_meets_125 (by decide) ?_
              refine z_lv [(0, .ref (a 0)), (1, .int (zI m)), (2, .int (zI k)), (3, .int (zI (i + 1)))] [3, 4, 5, 0] rfl ?_
              exact ih2 (i + 1) (by omega) (by rw [hn, show (100 - i).toNat = (100 - (i + 1)).toNat + 1 by omega, mtf, if_neg hmt]) (by omega)
            · have hmt : snd (wrn (u 5 m) (u 6 m) i) (u 9 1) m - snd (wrn (u 5 k) (u 6 k) i) (u 9 1) k ≤ u 9 0 ∧ snd (wrn (u 5 k) (u 6 k) i) (u 9 1) k - snd (wrn (u 5 m) (u 6 m) i) (u 9 1) m ≤ u 9 0 := by omega
              refine z_iload_n C 5 dX11_meets_120 rfl ?_
              exact kret i u _ _ (⟨rfl, by rw [hn, show (100 - i).toNat = (100 - (i + 1)).toNat + 1 by omega, mtf, if_pos hmt]⟩) dX11_meets_121
          · skip
            refine z_aload_n C 1 dX11_meets_63 rfl ?_
            refine z_get C hK (v := .ref (a 5)) inX11_meets_X11 0 (WM_0 a c u) rfl 14 (by decide) (List.mem_of_getElem? (i := 1) rfl) rfl dX11_meets_64 ?_
            refine z_iload_n C 3 dX11_meets_67 rfl ?_
            refine z_iald C hK 0 (g := (u 5)) (i := k) 5 (WM_5 a c u) rfl (by decide) (by omega) dX11_meets_68 ?_
            refine z_as (b := u 5 (k)) rfl ?_
            refine z_iload_n C 4 dX11_meets_69 rfl ?_
            refine z_aload_n C 1 dX11_meets_70 rfl ?_
            refine z_get C hK (v := .ref (a 6)) inX11_meets_X11 0 (WM_0 a c u) rfl 15 (by decide) (List.mem_of_getElem? (i := 2) rfl) rfl dX11_meets_71 ?_
            refine z_iload_n C 3 dX11_meets_74 rfl ?_
            refine z_iald C hK 0 (g := (u 6)) (i := k) 6 (WM_6 a c u) rfl (by decide) (by omega) dX11_meets_75 ?_
            refine z_as (b := u 6 (k)) rfl ?_
            refine z_imul C dX11_meets_76 ?_
            refine z_isub C dX11_meets_77 ?_
            refine z_goto C 82 dX11_meets_78 (by decide) ?_
            refine z_as (b := wrn (u 5 k) (u 6 k) i) (wrn_of2 (by first | exact Or.inl ⟨by omega, rfl⟩ | exact Or.inr ⟨by omega, rfl⟩)) ?_
            refine z_istore C [(5, .int (zI (wrn (u 5 k) (u 6 k) i))), (4, .int (zI (wrn (u 5 m) (u 6 m) i))), (0, .ref (a 0)), (1, .int (zI m)), (2, .int (zI k)), (3, .int (zI i))] dX11_meets_82 (by decide) rfl ?_
            refine z_iload C 1 dX11_meets_84 rfl ?_
            refine z_iload_n C 3 dX11_meets_86 rfl ?_
            refine z_aload_n C 2 dX11_meets_87 rfl ?_
            refine z_get C hK (v := .ref (a 9)) inX11_meets_X11 0 (WM_0 a c u) rfl 18 (by decide) (List.mem_of_getElem? (i := 3) rfl) rfl dX11_meets_88 ?_
            refine z_iconst C dX11_meets_91 ?_
            refine z_iald C hK 0 (g := (u 9)) (i := 1) 9 (WM_9 a c u) rfl (by decide) (by omega) dX11_meets_92 ?_
            refine z_as (b := u 9 1) rfl ?_
            refine z_callS C hK hDD (c_X11_sound (zl x) (zG x) ((WM a c)) (WM_addr a c) u (wrn (u 5 m) (u 6 m) i) m (u 9 1) (by omega) (by omega) (by omega)) gX11_meets_X11_sound rfl rfl zy_X11_sound ⟨by omega, by decide⟩ rfl (Nat.le_of_ble_eq_true rfl) (st := []) (stk2 := fun z15 => [.int (zI z15)]) rfl (fun _ => rfl) dX11_meets_93 (fun z15 u16 h17 => ?_)
            rw [h17.1]; replace h17 := h17.2
            refine z_as (b := snd (wrn (u 5 m) (u 6 m) i) (u 9 1) m) h17 ?_
            refine z_iload C 0 dX11_meets_96 rfl ?_
            refine z_iload_n C 4 dX11_meets_98 rfl ?_
            refine z_aload_n C 2 dX11_meets_99 rfl ?_
            refine z_get C hK (v := .ref (a 9)) inX11_meets_X11 0 (WM_0 a c u) rfl 18 (by decide) (List.mem_of_getElem? (i := 3) rfl) rfl dX11_meets_100 ?_
            refine z_iconst C dX11_meets_103 ?_
            refine z_iald C hK 0 (g := (u 9)) (i := 1) 9 (WM_9 a c u) rfl (by decide) (by omega) dX11_meets_104 ?_
            refine z_as (b := u 9 1) rfl ?_
            refine z_callS C hK hDD (c_X11_sound (zl x) (zG x) ((WM a c)) (WM_addr a c) u (wrn (u 5 k) (u 6 k) i) k (u 9 1) (by omega) (by omega) (by omega)) gX11_meets_X11_sound rfl rfl zy_X11_sound ⟨by omega, by decide⟩ rfl (Nat.le_of_ble_eq_true rfl) (st := [.int (zI (snd (wrn (u 5 m) (u 6 m) i) (u 9 1) m))]) (stk2 := fun z18 => [.int (zI z18), .int (zI (snd (wrn (u 5 m) (u 6 m) i) (u 9 1) m))]) rfl (fun _ => rfl) dX11_meets_105 (fun z18 u19 h20 => ?_)
            rw [h20.1]; replace h20 := h20.2
            refine z_as (b := snd (wrn (u 5 k) (u 6 k) i) (u 9 1) k) h20 ?_
            refine z_callS C hK hDD (c_X11_away (zl x) (zG x) ((WM a c)) (WM_addr a c) u (snd (wrn (u 5 m) (u 6 m) i) (u 9 1) m) (snd (wrn (u 5 k) (u 6 k) i) (u 9 1) k) (by omega) (by omega)) gX11_meets_X11_away rfl rfl zy_X11_away ⟨by omega, by decide⟩ rfl (Nat.le_of_ble_eq_true rfl) (st := []) (stk2 := fun z21 => [.int (zI z21)]) rfl (fun _ => rfl) dX11_meets_108 (fun z21 u22 h23 => ?_)
            rw [h23.1]; replace h23 := h23.2
            refine z_aload_n C 2 dX11_meets_111 rfl ?_
            refine z_get C hK (v := .ref (a 9)) inX11_meets_X11 0 (WM_0 a c u) rfl 18 (by decide) (List.mem_of_getElem? (i := 3) rfl) rfl dX11_meets_112 ?_
            refine z_iconst C dX11_meets_115 ?_
            refine z_iald C hK 0 (g := (u 9)) (i := 0) 9 (WM_9 a c u) rfl (by decide) (by omega) dX11_meets_116 ?_
            refine z_as (b := u 9 0) rfl ?_
            refine z_icmp_gt C 122 dX11_meets_117 (by decide) (by omega) (fun h24 => ?_) (fun h24 => ?_)
            · have hmt : ¬ (snd (wrn (u 5 m) (u 6 m) i) (u 9 1) m - snd (wrn (u 5 k) (u 6 k) i) (u 9 1) k ≤ u 9 0 ∧ snd (wrn (u 5 k) (u 6 k) i) (u 9 1) k - snd (wrn (u 5 m) (u 6 m) i) (u 9 1) m ≤ u 9 0) := by omega
              refine z_iinc C 5 [(3, .int (zI (i + 1))), (5, .int (zI (wrn (u 5 k) (u 6 k) i))), (4, .int (zI (wrn (u 5 m) (u 6 m) i))), (0, .ref (a 0)), (1, .int (zI m)), (2, .int (zI k))] dX11_meets_122 rfl (by decide) rfl ?_
              refine z_goto C 2 dX11_meets_125 (by decide) ?_
              refine z_lv [(0, .ref (a 0)), (1, .int (zI m)), (2, .int (zI k)), (3, .int (zI (i + 1)))] [3, 4, 5, 0] rfl ?_
              exact ih2 (i + 1) (by omega) (by rw [hn, show (100 - i).toNat = (100 - (i + 1)).toNat + 1 by omega, mtf, if_neg hmt]) (by omega)
            · have hmt : snd (wrn (u 5 m) (u 6 m) i) (u 9 1) m - snd (wrn (u 5 k) (u 6 k) i) (u 9 1) k ≤ u 9 0 ∧ snd (wrn (u 5 k) (u 6 k) i) (u 9 1) k - snd (wrn (u 5 m) (u 6 m) i) (u 9 1) m ≤ u 9 0 := by omega
              refine z_iload_n C 5 dX11_meets_120 rfl ?_
              exact kret i u _ _ (⟨rfl, by rw [hn, show (100 - i).toNat = (100 - (i + 1)).toNat + 1 by omega, mtf, if_pos hmt]⟩) dX11_meets_121
        · skip
          refine z_aload_n C 0 dX11_meets_25 rfl ?_
          refine z_get C hK (v := .ref (a 5)) inX11_meets_X11 0 (WM_0 a c u) rfl 14 (by decide) (List.mem_of_getElem? (i := 1) rfl) rfl dX11_meets_26 ?_
          refine z_iload_n C 1 dX11_meets_29 rfl ?_
          refine z_iald C hK 0 (g := (u 5)) (i := m) 5 (WM_5 a c u) rfl (by decide) (by omega) dX11_meets_30 ?_
          refine z_as (b := u 5 (m)) rfl ?_
          refine z_iload_n C 3 dX11_meets_31 rfl ?_
          refine z_aload_n C 0 dX11_meets_32 rfl ?_
          refine z_get C hK (v := .ref (a 6)) inX11_meets_X11 0 (WM_0 a c u) rfl 15 (by decide) (List.mem_of_getElem? (i := 2) rfl) rfl dX11_meets_33 ?_
          refine z_iload_n C 1 dX11_meets_36 rfl ?_
          refine z_iald C hK 0 (g := (u 6)) (i := m) 6 (WM_6 a c u) rfl (by decide) (by omega) dX11_meets_37 ?_
          refine z_as (b := u 6 (m)) rfl ?_
          refine z_imul C dX11_meets_38 ?_
          refine z_isub C dX11_meets_39 ?_
          refine z_goto C 44 dX11_meets_40 (by decide) ?_
          refine z_as (b := wrn (u 5 m) (u 6 m) i) (wrn_of2 (by first | exact Or.inl ⟨by omega, rfl⟩ | exact Or.inr ⟨by omega, rfl⟩)) ?_
          refine z_istore C [(4, .int (zI (wrn (u 5 m) (u 6 m) i))), (0, .ref (a 0)), (1, .int (zI m)), (2, .int (zI k)), (3, .int (zI i))] dX11_meets_44 (by decide) rfl ?_
          refine z_aload_n C 1 dX11_meets_46 rfl ?_
          refine z_get C hK (v := .ref (a 5)) inX11_meets_X11 0 (WM_0 a c u) rfl 14 (by decide) (List.mem_of_getElem? (i := 1) rfl) rfl dX11_meets_47 ?_
          refine z_iload_n C 3 dX11_meets_50 rfl ?_
          refine z_iald C hK 0 (g := (u 5)) (i := k) 5 (WM_5 a c u) rfl (by decide) (by omega) dX11_meets_51 ?_
          refine z_as (b := u 5 (k)) rfl ?_
          refine z_iload_n C 4 dX11_meets_52 rfl ?_
          refine z_aload_n C 1 dX11_meets_53 rfl ?_
          refine z_get C hK (v := .ref (a 6)) inX11_meets_X11 0 (WM_0 a c u) rfl 15 (by decide) (List.mem_of_getElem? (i := 2) rfl) rfl dX11_meets_54 ?_
          refine z_iload_n C 3 dX11_meets_57 rfl ?_
          refine z_iald C hK 0 (g := (u 6)) (i := k) 6 (WM_6 a c u) rfl (by decide) (by omega) dX11_meets_58 ?_
          refine z_as (b := u 6 (k)) rfl ?_
          refine z_imul C dX11_meets_59 ?_
          refine z_icmp_le C 81 dX11_meets_60 (by decide) (by omega) (fun h25 => ?_) (fun h25 => ?_)
          · skip
            refine z_iconst C dX11_meets_81 ?_
            refine z_as (b := wrn (u 5 k) (u 6 k) i) (wrn_of2 (by first | exact Or.inl ⟨by omega, rfl⟩ | exact Or.inr ⟨by omega, rfl⟩)) ?_
            refine z_istore C [(5, .int (zI (wrn (u 5 k) (u 6 k) i))), (4, .int (zI (wrn (u 5 m) (u 6 m) i))), (0, .ref (a 0)), (1, .int (zI m)), (2, .int (zI k)), (3, .int (zI i))] dX11_meets_82 (by decide) rfl ?_
            refine z_iload C 1 dX11_meets_84 rfl ?_
            refine z_iload_n C 3 dX11_meets_86 rfl ?_
            refine z_aload_n C 2 dX11_meets_87 rfl ?_
            refine z_get C hK (v := .ref (a 9)) inX11_meets_X11 0 (WM_0 a c u) rfl 18 (by decide) (List.mem_of_getElem? (i := 3) rfl) rfl dX11_meets_88 ?_
            refine z_iconst C dX11_meets_91 ?_
            refine z_iald C hK 0 (g := (u 9)) (i := 1) 9 (WM_9 a c u) rfl (by decide) (by omega) dX11_meets_92 ?_
            refine z_as (b := u 9 1) rfl ?_
            refine z_callS C hK hDD (c_X11_sound (zl x) (zG x) ((WM a c)) (WM_addr a c) u (wrn (u 5 m) (u 6 m) i) m (u 9 1) (by omega) (by omega) (by omega)) gX11_meets_X11_sound rfl rfl zy_X11_sound ⟨by omega, by decide⟩ rfl (Nat.le_of_ble_eq_true rfl) (st := []) (stk2 := fun z26 => [.int (zI z26)]) rfl (fun _ => rfl) dX11_meets_93 (fun z26 u27 h28 => ?_)
            rw [h28.1]; replace h28 := h28.2
            refine z_as (b := snd (wrn (u 5 m) (u 6 m) i) (u 9 1) m) h28 ?_
            refine z_iload C 0 dX11_meets_96 rfl ?_
            refine z_iload_n C 4 dX11_meets_98 rfl ?_
            refine z_aload_n C 2 dX11_meets_99 rfl ?_
            refine z_get C hK (v := .ref (a 9)) inX11_meets_X11 0 (WM_0 a c u) rfl 18 (by decide) (List.mem_of_getElem? (i := 3) rfl) rfl dX11_meets_100 ?_
            refine z_iconst C dX11_meets_103 ?_
            refine z_iald C hK 0 (g := (u 9)) (i := 1) 9 (WM_9 a c u) rfl (by decide) (by omega) dX11_meets_104 ?_
            refine z_as (b := u 9 1) rfl ?_
            refine z_callS C hK hDD (c_X11_sound (zl x) (zG x) ((WM a c)) (WM_addr a c) u (wrn (u 5 k) (u 6 k) i) k (u 9 1) (by omega) (by omega) (by omega)) gX11_meets_X11_sound rfl rfl zy_X11_sound ⟨by omega, by decide⟩ rfl (Nat.le_of_ble_eq_true rfl) (st := [.int (zI (snd (wrn (u 5 m) (u 6 m) i) (u 9 1) m))]) (stk2 := fun z29 => [.int (zI z29), .int (zI (snd (wrn (u 5 m) (u 6 m) i) (u 9 1) m))]) rfl (fun _ => rfl) dX11_meets_105 (fun z29 u30 h31 => ?_)
            rw [h31.1]; replace h31 := h31.2
            refine z_as (b := snd (wrn (u 5 k) (u 6 k) i) (u 9 1) k) h31 ?_
            refine z_callS C hK hDD (c_X11_away (zl x) (zG x) ((WM a c)) (WM_addr a c) u (snd (wrn (u 5 m) (u 6 m) i) (u 9 1) m) (snd (wrn (u 5 k) (u 6 k) i) (u 9 1) k) (by omega) (by omega)) gX11_meets_X11_away rfl rfl zy_X11_away ⟨by omega, by decide⟩ rfl (Nat.le_of_ble_eq_true rfl) (st := []) (stk2 := fun z32 => [.int (zI z32)]) rfl (fun _ => rfl) dX11_meets_108 (fun z32 u33 h34 => ?_)
            rw [h34.1]; replace h34 := h34.2
            refine z_aload_n C 2 dX11_meets_111 rfl ?_
            refine z_get C hK (v := .ref (a 9)) inX11_meets_X11 0 (WM_0 a c u) rfl 18 (by decide) (List.mem_of_getElem? (i := 3) rfl) rfl dX11_meets_112 ?_
            refine z_iconst C dX11_meets_115 ?_
            refine z_iald C hK 0 (g := (u 9)) (i := 0) 9 (WM_9 a c u) rfl (by decide) (by omega) dX11_meets_116 ?_
            refine z_as (b := u 9 0) rfl ?_
            refine z_icmp_gt C 122 dX11_meets_117 (by decide) (by omega) (fun h35 => ?_) (fun h35 => ?_)
            · have hmt : ¬ (snd (wrn (u 5 m) (u 6 m) i) (u 9 1) m - snd (wrn (u 5 k) (u 6 k) i) (u 9 1) k ≤ u 9 0 ∧ snd (wrn (u 5 k) (u 6 k) i) (u 9 1) k - snd (wrn (u 5 m) (u 6 m) i) (u 9 1) m ≤ u 9 0) := by omega
              refine z_iinc C 5 [(3, .int (zI (i + 1))), (5, .int (zI (wrn (u 5 k) (u 6 k) i))), (4, .int (zI (wrn (u 5 m) (u 6 m) i))), (0, .ref (a 0)), (1, .int (zI m)), (2, .int (zI k))] dX11_meets_122 rfl (by decide) rfl ?_
              refine z_goto C 2 dX11_meets_125 (by decide) ?_
              refine z_lv [(0, .ref (a 0)), (1, .int (zI m)), (2, .int (zI k)), (3, .int (zI (i + 1)))] [3, 4, 5, 0] rfl ?_
              exact ih2 (i + 1) (by omega) (by rw [hn, show (100 - i).toNat = (100 - (i + 1)).toNat + 1 by omega, mtf, if_neg hmt]) (by omega)
            · have hmt : snd (wrn (u 5 m) (u 6 m) i) (u 9 1) m - snd (wrn (u 5 k) (u 6 k) i) (u 9 1) k ≤ u 9 0 ∧ snd (wrn (u 5 k) (u 6 k) i) (u 9 1) k - snd (wrn (u 5 m) (u 6 m) i) (u 9 1) m ≤ u 9 0 := by omega
              refine z_iload_n C 5 dX11_meets_120 rfl ?_
              exact kret i u _ _ (⟨rfl, by rw [hn, show (100 - i).toNat = (100 - (i + 1)).toNat + 1 by omega, mtf, if_pos hmt]⟩) dX11_meets_121
          · skip
            refine z_aload_n C 1 dX11_meets_63 rfl ?_
            refine z_get C hK (v := .ref (a 5)) inX11_meets_X11 0 (WM_0 a c u) rfl 14 (by decide) (List.mem_of_getElem? (i := 1) rfl) rfl dX11_meets_64 ?_
            refine z_iload_n C 3 dX11_meets_67 rfl ?_
            refine z_iald C hK 0 (g := (u 5)) (i := k) 5 (WM_5 a c u) rfl (by decide) (by omega) dX11_meets_68 ?_
            refine z_as (b := u 5 (k)) rfl ?_
            refine z_iload_n C 4 dX11_meets_69 rfl ?_
            refine z_aload_n C 1 dX11_meets_70 rfl ?_
            refine z_get C hK (v := .ref (a 6)) inX11_meets_X11 0 (WM_0 a c u) rfl 15 (by decide) (List.mem_of_getElem? (i := 2) rfl) rfl dX11_meets_71 ?_
            refine z_iload_n C 3 dX11_meets_74 rfl ?_
            refine z_iald C hK 0 (g := (u 6)) (i := k) 6 (WM_6 a c u) rfl (by decide) (by omega) dX11_meets_75 ?_
            refine z_as (b := u 6 (k)) rfl ?_
            refine z_imul C dX11_meets_76 ?_
            refine z_isub C dX11_meets_77 ?_
            refine z_goto C 82 dX11_meets_78 (by decide) ?_
            refine z_as (b := wrn (u 5 k) (u 6 k) i) (wrn_of2 (by first | exact Or.inl ⟨by omega, rfl⟩ | exact Or.inr ⟨by omega, rfl⟩)) ?_
            refine z_istore C [(5, .int (zI (wrn (u 5 k) (u 6 k) i))), (4, .int (zI (wrn (u 5 m) (u 6 m) i))), (0, .ref (a 0)), (1, .int (zI m)), (2, .int (zI k)), (3, .int (zI i))] dX11_meets_82 (by decide) rfl ?_
            refine z_iload C 1 dX11_meets_84 rfl ?_
            refine z_iload_n C 3 dX11_meets_86 rfl ?_
            refine z_aload_n C 2 dX11_meets_87 rfl ?_
            refine z_get C hK (v := .ref (a 9)) inX11_meets_X11 0 (WM_0 a c u) rfl 18 (by decide) (List.mem_of_getElem? (i := 3) rfl) rfl dX11_meets_88 ?_
            refine z_iconst C dX11_meets_91 ?_
            refine z_iald C hK 0 (g := (u 9)) (i := 1) 9 (WM_9 a c u) rfl (by decide) (by omega) dX11_meets_92 ?_
            refine z_as (b := u 9 1) rfl ?_
            refine z_callS C hK hDD (c_X11_sound (zl x) (zG x) ((WM a c)) (WM_addr a c) u (wrn (u 5 m) (u 6 m) i) m (u 9 1) (by omega) (by omega) (by omega)) gX11_meets_X11_sound rfl rfl zy_X11_sound ⟨by omega, by decide⟩ rfl (Nat.le_of_ble_eq_true rfl) (st := []) (stk2 := fun z36 => [.int (zI z36)]) rfl (fun _ => rfl) dX11_meets_93 (fun z36 u37 h38 => ?_)
            rw [h38.1]; replace h38 := h38.2
            refine z_as (b := snd (wrn (u 5 m) (u 6 m) i) (u 9 1) m) h38 ?_
            refine z_iload C 0 dX11_meets_96 rfl ?_
            refine z_iload_n C 4 dX11_meets_98 rfl ?_
            refine z_aload_n C 2 dX11_meets_99 rfl ?_
            refine z_get C hK (v := .ref (a 9)) inX11_meets_X11 0 (WM_0 a c u) rfl 18 (by decide) (List.mem_of_getElem? (i := 3) rfl) rfl dX11_meets_100 ?_
            refine z_iconst C dX11_meets_103 ?_
            refine z_iald C hK 0 (g := (u 9)) (i := 1) 9 (WM_9 a c u) rfl (by decide) (by omega) dX11_meets_104 ?_
            refine z_as (b := u 9 1) rfl ?_
            refine z_callS C hK hDD (c_X11_sound (zl x) (zG x) ((WM a c)) (WM_addr a c) u (wrn (u 5 k) (u 6 k) i) k (u 9 1) (by omega) (by omega) (by omega)) gX11_meets_X11_sound rfl rfl zy_X11_sound ⟨by omega, by decide⟩ rfl (Nat.le_of_ble_eq_true rfl) (st := [.int (zI (snd (wrn (u 5 m) (u 6 m) i) (u 9 1) m))]) (stk2 := fun z39 => [.int (zI z39), .int (zI (snd (wrn (u 5 m) (u 6 m) i) (u 9 1) m))]) rfl (fun _ => rfl) dX11_meets_105 (fun z39 u40 h41 => ?_)
            rw [h41.1]; replace h41 := h41.2
            refine z_as (b := snd (wrn (u 5 k) (u 6 k) i) (u 9 1) k) h41 ?_
            refine z_callS C hK hDD (c_X11_away (zl x) (zG x) ((WM a c)) (WM_addr a c) u (snd (wrn (u 5 m) (u 6 m) i) (u 9 1) m) (snd (wrn (u 5 k) (u 6 k) i) (u 9 1) k) (by omega) (by omega)) gX11_meets_X11_away rfl rfl zy_X11_away ⟨by omega, by decide⟩ rfl (Nat.le_of_ble_eq_true rfl) (st := []) (stk2 := fun z42 => [.int (zI z42)]) rfl (fun _ => rfl) dX11_meets_108 (fun z42 u43 h44 => ?_)
            rw [h44.1]; replace h44 := h44.2
            refine z_aload_n C 2 dX11_meets_111 rfl ?_
            refine z_get C hK (v := .ref (a 9)) inX11_meets_X11 0 (WM_0 a c u) rfl 18 (by decide) (List.mem_of_getElem? (i := 3) rfl) rfl dX11_meets_112 ?_
            refine z_iconst C dX11_meets_115 ?_
            refine z_iald C hK 0 (g := (u 9)) (i := 0) 9 (WM_9 a c u) rfl (by decide) (by omega) dX11_meets_116 ?_
            refine z_as (b := u 9 0) rfl ?_
            refine z_icmp_gt C 122 dX11_meets_117 (by decide) (by omega) (fun h45 => ?_) (fun h45 => ?_)
            · have hmt : ¬ (snd (wrn (u 5 m) (u 6 m) i) (u 9 1) m - snd (wrn (u 5 k) (u 6 k) i) (u 9 1) k ≤ u 9 0 ∧ snd (wrn (u 5 k) (u 6 k) i) (u 9 1) k - snd (wrn (u 5 m) (u 6 m) i) (u 9 1) m ≤ u 9 0) := by omega
              refine z_iinc C 5 [(3, .int (zI (i + 1))), (5, .int (zI (wrn (u 5 k) (u 6 k) i))), (4, .int (zI (wrn (u 5 m) (u 6 m) i))), (0, .ref (a 0)), (1, .int (zI m)), (2, .int (zI k))] dX11_meets_122 rfl (by decide) rfl ?_
              refine z_goto C 2 dX11_meets_125 (by decide) ?_
              refine z_lv [(0, .ref (a 0)), (1, .int (zI m)), (2, .int (zI k)), (3, .int (zI (i + 1)))] [3, 4, 5, 0] rfl ?_
              exact ih2 (i + 1) (by omega) (by rw [hn, show (100 - i).toNat = (100 - (i + 1)).toNat + 1 by omega, mtf, if_neg hmt]) (by omega)
            · have hmt : snd (wrn (u 5 m) (u 6 m) i) (u 9 1) m - snd (wrn (u 5 k) (u 6 k) i) (u 9 1) k ≤ u 9 0 ∧ snd (wrn (u 5 k) (u 6 k) i) (u 9 1) k - snd (wrn (u 5 m) (u 6 m) i) (u 9 1) m ≤ u 9 0 := by omega
              refine z_iload_n C 5 dX11_meets_120 rfl ?_
              exact kret i u _ _ (⟨rfl, by rw [hn, show (100 - i).toNat = (100 - (i + 1)).toNat + 1 by omega, mtf, if_pos hmt]⟩) dX11_meets_121
  refine z_lv [(0, .ref (a 0)), (1, .int (zI m)), (2, .int (zI k)), (3, .int (zI 0))] [1, 2, 3, 0] rfl ?_
  exact L2_1 (((100 - 0 : Int)).toNat + 1) 0 (by omega) (rfl) (by omega)
-- NoteBellsModel.meet
set_option maxHeartbeats 8000000 in
set_option maxRecDepth 100000 in
theorem c_X11_meet (l : Launch) (D : va_G) (a : Nat → Nat) (c : Nat → ClassId) (u : zU) (m k : Int) (hI : IM u) (b_m : -2147483648 ≤ m ∧ m < 2147483648) (b_k : -2147483648 ≤ k ∧ k < 2147483648) : ZM l D (zTy c) (WM a c) yX11_meet wsX11_meet 5 [.ref (a 0), .int (zI m), .int (zI k)] u rI (fun z u' => u' = u ∧ ((0 ≤ m ∧ m < u 0 12 ∧ 0 ≤ k ∧ k < u 0 12 ∧ m ≠ k ∧ z = mt (u 5) (u 6) (u 9 1) (u 9 0) m k) ∨ (¬ (0 ≤ m ∧ m < u 0 12 ∧ 0 ≤ k ∧ k < u 0 12 ∧ m ≠ k) ∧ z = -1))) := by
  refine ZM.ofI (cc := cX11_meet) (maxL := 3) [(0, .ref (a 0)), (1, .int (zI m)), (2, .int (zI k))] rfl (by decide +kernel) rfl (Nat.le_of_ble_eq_true rfl) (WM_addr a c) ?_
  intro x C hK _ _ hDD kret
  have hlv := hI.lev
  refine z_aload_n C 0 dX11_meet_0 rfl ?_
  refine z_iload_n C 1 dX11_meet_1 rfl ?_
  refine z_callV C hK hDD (c_X11_isLevel (zl x) (zG x) a c u m (hI) (by omega)) gX11_meet_X11_isLevel rfl zy_X11_isLevel 0 (WM_0 a c u) rfl ⟨by omega, by decide⟩ rfl (Nat.le_of_ble_eq_true rfl) (st := []) (stk2 := fun z1 => [.int (zI z1)]) rfl (fun _ => rfl) dX11_meet_2 (fun z1 u2 h3 => ?_)
  rw [h3.1]; replace h3 := h3.2
  refine z_if_eq C 30 dX11_meet_5 (by decide) (by omega) (fun h4 => ?_) (fun h4 => ?_)
  · skip
    refine z_iconst C dX11_meet_30 ?_
    exact kret (-1) u _ _ (⟨rfl, by first | exact Or.inl ⟨by omega, by omega, by omega, by omega, by omega, rfl⟩ | exact Or.inr ⟨by omega, rfl⟩⟩) dX11_meet_31
  · skip
    refine z_aload_n C 0 dX11_meet_8 rfl ?_
    refine z_iload_n C 2 dX11_meet_9 rfl ?_
    refine z_callV C hK hDD (c_X11_isLevel (zl x) (zG x) a c u k (hI) (by omega)) gX11_meet_X11_isLevel rfl zy_X11_isLevel 0 (WM_0 a c u) rfl ⟨by omega, by decide⟩ rfl (Nat.le_of_ble_eq_true rfl) (st := []) (stk2 := fun z5 => [.int (zI z5)]) rfl (fun _ => rfl) dX11_meet_10 (fun z5 u6 h7 => ?_)
    rw [h7.1]; replace h7 := h7.2
    refine z_if_eq C 30 dX11_meet_13 (by decide) (by omega) (fun h8 => ?_) (fun h8 => ?_)
    · skip
      refine z_iconst C dX11_meet_30 ?_
      exact kret (-1) u _ _ (⟨rfl, by first | exact Or.inl ⟨by omega, by omega, by omega, by omega, by omega, rfl⟩ | exact Or.inr ⟨by omega, rfl⟩⟩) dX11_meet_31
    · skip
      refine z_iload_n C 1 dX11_meet_16 rfl ?_
      refine z_iload_n C 2 dX11_meet_17 rfl ?_
      refine z_icmp_eq C 30 dX11_meet_18 (by decide) (by omega) (fun h9 => ?_) (fun h9 => ?_)
      · skip
        refine z_iconst C dX11_meet_30 ?_
        exact kret (-1) u _ _ (⟨rfl, by first | exact Or.inl ⟨by omega, by omega, by omega, by omega, by omega, rfl⟩ | exact Or.inr ⟨by omega, rfl⟩⟩) dX11_meet_31
      · skip
        refine z_aload_n C 0 dX11_meet_21 rfl ?_
        refine z_iload_n C 1 dX11_meet_22 rfl ?_
        refine z_iload_n C 2 dX11_meet_23 rfl ?_
        refine z_callV C hK hDD (c_X11_meets (zl x) (zG x) a c u m k (hI) (by omega) (by omega)) gX11_meet_X11_meets rfl zy_X11_meets 0 (WM_0 a c u) rfl ⟨by omega, by decide⟩ rfl (Nat.le_of_ble_eq_true rfl) (st := []) (stk2 := fun z10 => [.int (zI z10)]) rfl (fun _ => rfl) dX11_meet_24 (fun z10 u11 h12 => ?_)
        rw [h12.1]; replace h12 := h12.2
        refine z_as (b := mt (u 5) (u 6) (u 9 1) (u 9 0) m k) h12 ?_
        refine z_goto C 31 dX11_meet_27 (by decide) ?_
        exact kret (mt (u 5) (u 6) (u 9 1) (u 9 0) m k) u _ _ (⟨rfl, by first | exact Or.inl ⟨by omega, by omega, by omega, by omega, by omega, rfl⟩ | exact Or.inr ⟨by omega, rfl⟩⟩) dX11_meet_31
-- NoteBellsModel.first
theorem inX11_first_X11 : ∀ w ∈ wsX110, w ∈ wsX11_first := fun w h => List.mem_cons_of_mem _ (List.mem_append_right _ (h))
set_option maxHeartbeats 8000000 in
set_option maxRecDepth 100000 in
theorem c_X11_first (l : Launch) (D : va_G) (a : Nat → Nat) (c : Nat → ClassId) (u : zU)  (hI : IM u) : ZM l D (zTy c) (WM a c) yX11_first wsX11_first 5 [.ref (a 0)] u rI (fun z u' => u' = u ∧ z = prf (mt (u 5) (u 6) (u 9 1) (u 9 0)) (u 0 12)) := by
  refine ZM.ofI (cc := cX11_first) (maxL := 7) [(0, .ref (a 0))] rfl (by decide +kernel) rfl (Nat.le_of_ble_eq_true rfl) (WM_addr a c) ?_
  intro x C hK _ _ hDD kret
  have hlv := hI.lev
  refine z_bipush C dX11_first_0 (by decide) ?_
  refine z_istore_n C [(1, .int (zI (-9))), (0, .ref (a 0))] dX11_first_2 rfl (by decide) rfl ?_
  refine z_bipush C dX11_first_3 (by decide) ?_
  refine z_istore_n C [(2, .int (zI 100)), (1, .int (zI (-9))), (0, .ref (a 0))] dX11_first_5 rfl (by decide) rfl ?_
  refine z_iconst C dX11_first_6 ?_
  refine z_istore_n C [(3, .int (zI 0)), (2, .int (zI 100)), (1, .int (zI (-9))), (0, .ref (a 0))] dX11_first_7 rfl (by decide) rfl ?_
  have L8_1 : ∀ (fu : Nat) (i : Int) (b : Int) (t : Int), (0 ≤ i ∧ i ≤ u 0 12) → (-9 ≤ t ∧ t ≤ 100) → (prf (mt (u 5) (u 6) (u 9 1) (u 9 0)) (u 0 12) = (pra (mt (u 5) (u 6) (u 9 1) (u 9 0)) (u 0 12) (u 0 12 - i).toNat i (b, t)).1) → u 0 12 - i < (fu : Int) → Z x 0 0 (WM a c u) [(0, .ref (a 0)), (1, .int (zI b)), (2, .int (zI t)), (3, .int (zI i))] 8 [] := by
    intro fu
    induction fu with
    | zero => intro i b t hi ht hp hmeas; exfalso; omega
    | succ fu ih8 =>
      intro i b t hi ht hp hmeas
      refine z_iload_n C 3 dX11_first_8 rfl ?_
      refine z_aload_n C 0 dX11_first_9 rfl ?_
      refine z_get C hK (v := .int (zI (u 0 12))) inX11_first_X11 0 (WM_0 a c u) rfl 12 (by decide) (List.mem_of_getElem? (i := 1) rfl) rfl dX11_first_10 ?_
      refine z_icmp_ge C 100 dX11_first_13 (by decide) (by omega) (fun h2 => ?_) (fun h2 => ?_)
      · skip
        refine z_iload_n C 1 dX11_first_100 rfl ?_
        exact kret b u _ _ (⟨rfl, by rw [hp, show (u 0 12 - i).toNat = 0 by omega]; rfl⟩) dX11_first_101
      · skip
        refine z_iload_n C 3 dX11_first_16 rfl ?_
        refine z_iconst C dX11_first_17 ?_
        refine z_iadd C dX11_first_18 ?_
        refine z_istore C [(4, .int (zI (i + 1))), (0, .ref (a 0)), (1, .int (zI b)), (2, .int (zI t)), (3, .int (zI i))] dX11_first_19 (by decide) rfl ?_
        have L21_3 : ∀ (fu : Nat) (k : Int) (b : Int) (t : Int), (i + 1 ≤ k ∧ k ≤ u 0 12) → (-9 ≤ t ∧ t ≤ 100) → (prf (mt (u 5) (u 6) (u 9 1) (u 9 0)) (u 0 12) = (pra (mt (u 5) (u 6) (u 9 1) (u 9 0)) (u 0 12) (u 0 12 - (i + 1)).toNat (i + 1) (prb (mt (u 5) (u 6) (u 9 1) (u 9 0)) i (u 0 12 - k).toNat k (b, t))).1) → u 0 12 - k < (fu : Int) → Z x 0 0 (WM a c u) [(0, .ref (a 0)), (1, .int (zI b)), (2, .int (zI t)), (3, .int (zI i)), (4, .int (zI k))] 21 [] := by
          intro fu
          induction fu with
          | zero => intro k b t hk ht hq hmeas; exfalso; omega
          | succ fu ih21 =>
            intro k b t hk ht hq hmeas
            refine z_iload C 4 dX11_first_21 rfl ?_
            refine z_aload_n C 0 dX11_first_23 rfl ?_
            refine z_get C hK (v := .int (zI (u 0 12))) inX11_first_X11 0 (WM_0 a c u) rfl 12 (by decide) (List.mem_of_getElem? (i := 1) rfl) rfl dX11_first_24 ?_
            refine z_icmp_ge C 94 dX11_first_27 (by decide) (by omega) (fun h4 => ?_) (fun h4 => ?_)
            · skip
              refine z_iinc C 3 [(3, .int (zI (i + 1))), (0, .ref (a 0)), (1, .int (zI b)), (2, .int (zI t)), (4, .int (zI k))] dX11_first_94 rfl (by decide) rfl ?_
              refine z_goto C 8 dX11_first_97 (by decide) ?_
              refine z_lv [(0, .ref (a 0)), (1, .int (zI b)), (2, .int (zI t)), (3, .int (zI (i + 1)))] [1, 2, 3, 0] rfl ?_
              exact ih8 (i + 1) b t (by omega) (by omega) (by rw [hq, show (u 0 12 - k).toNat = 0 by omega]; rfl) (by omega)
            · skip
              have hmb := mt_bd (u 5) (u 6) (u 9 1) (u 9 0) i k
              refine z_aload_n C 0 dX11_first_30 rfl ?_
              refine z_iload_n C 3 dX11_first_31 rfl ?_
              refine z_iload C 4 dX11_first_32 rfl ?_
              refine z_callV C hK hDD (c_X11_meets (zl x) (zG x) a c u i k (hI) (by omega) (by omega)) gX11_first_X11_meets rfl zy_X11_meets 0 (WM_0 a c u) rfl ⟨by omega, by decide⟩ rfl (Nat.le_of_ble_eq_true rfl) (st := []) (stk2 := fun z5 => [.int (zI z5)]) rfl (fun _ => rfl) dX11_first_34 (fun z5 u6 h7 => ?_)
              rw [h7.1]; replace h7 := h7.2
              refine z_as (b := mt (u 5) (u 6) (u 9 1) (u 9 0) i k) h7 ?_
              refine z_istore C [(5, .int (zI (mt (u 5) (u 6) (u 9 1) (u 9 0) i k))), (0, .ref (a 0)), (1, .int (zI b)), (2, .int (zI t)), (3, .int (zI i)), (4, .int (zI k))] dX11_first_37 (by decide) rfl ?_
              refine z_iload C 0 dX11_first_39 rfl ?_
              refine z_bipush C dX11_first_41 (by decide) ?_
              refine z_icmp_eq C 56 dX11_first_43 (by decide) (by omega) (fun h8 => ?_) (fun h8 => ?_)
              · skip
                refine z_iconst C dX11_first_56 ?_
                refine z_istore C [(6, .int (zI 0)), (5, .int (zI (mt (u 5) (u 6) (u 9 1) (u 9 0) i k))), (0, .ref (a 0)), (1, .int (zI b)), (2, .int (zI t)), (3, .int (zI i)), (4, .int (zI k))] dX11_first_57 (by decide) rfl ?_
                refine z_iload C 0 dX11_first_59 rfl ?_
                refine z_if_eq C 74 dX11_first_61 (by decide) (by omega) (fun h9 => ?_) (fun h9 => ?_)
                · skip
                  refine z_iload_n C 3 dX11_first_74 rfl ?_
                  refine z_istore_n C [(1, .int (zI b)), (6, .int (zI 0)), (5, .int (zI (mt (u 5) (u 6) (u 9 1) (u 9 0) i k))), (0, .ref (a 0)), (2, .int (zI t)), (3, .int (zI i)), (4, .int (zI k))] dX11_first_75 rfl (by decide) rfl ?_
                  refine z_iload C 1 dX11_first_76 rfl ?_
                  refine z_if_eq C 86 dX11_first_78 (by decide) (by omega) (fun h10 => ?_) (fun h10 => ?_)
                  · skip
                    refine z_iload_n C 4 dX11_first_86 rfl ?_
                    refine z_istore_n C [(2, .int (zI t)), (1, .int (zI b)), (6, .int (zI 0)), (5, .int (zI (mt (u 5) (u 6) (u 9 1) (u 9 0) i k))), (0, .ref (a 0)), (3, .int (zI i)), (4, .int (zI k))] dX11_first_87 rfl (by decide) rfl ?_
                    refine z_iinc C 6 [(4, .int (zI (k + 1))), (2, .int (zI t)), (1, .int (zI b)), (6, .int (zI 0)), (5, .int (zI (mt (u 5) (u 6) (u 9 1) (u 9 0) i k))), (0, .ref (a 0)), (3, .int (zI i))] dX11_first_88 rfl (by decide) rfl ?_
                    refine z_goto C 21 dX11_first_91 (by decide) ?_
                    refine z_lv [(0, .ref (a 0)), (1, .int (zI b)), (2, .int (zI t)), (3, .int (zI i)), (4, .int (zI (k + 1)))] [5, 2, 1, 6, 0] rfl ?_
                    exact ih21 (k + 1) b t (by omega) (by omega) (by rw [hq, show (u 0 12 - k).toNat = (u 0 12 - (k + 1)).toNat + 1 by omega, prb]; first | (exfalso; omega) | rw [if_neg (by show ¬ (_ ∧ _ < t); omega)] | rw [if_pos (by show _ ∧ _ < t; omega)]) (by omega)
                  · skip
                    refine z_iload C 2 dX11_first_81 rfl ?_
                    refine z_goto C 87 dX11_first_83 (by decide) ?_
                    refine z_istore_n C [(2, .int (zI (mt (u 5) (u 6) (u 9 1) (u 9 0) i k))), (1, .int (zI b)), (6, .int (zI 0)), (5, .int (zI (mt (u 5) (u 6) (u 9 1) (u 9 0) i k))), (0, .ref (a 0)), (3, .int (zI i)), (4, .int (zI k))] dX11_first_87 rfl (by decide) rfl ?_
                    refine z_iinc C 6 [(4, .int (zI (k + 1))), (2, .int (zI (mt (u 5) (u 6) (u 9 1) (u 9 0) i k))), (1, .int (zI b)), (6, .int (zI 0)), (5, .int (zI (mt (u 5) (u 6) (u 9 1) (u 9 0) i k))), (0, .ref (a 0)), (3, .int (zI i))] dX11_first_88 rfl (by decide) rfl ?_
                    refine z_goto C 21 dX11_first_91 (by decide) ?_
                    refine z_lv [(0, .ref (a 0)), (1, .int (zI b)), (2, .int (zI (mt (u 5) (u 6) (u 9 1) (u 9 0) i k))), (3, .int (zI i)), (4, .int (zI (k + 1)))] [5, 2, 1, 6, 0] rfl ?_
                    exact ih21 (k + 1) b (mt (u 5) (u 6) (u 9 1) (u 9 0) i k) (by omega) (by omega) (by rw [hq, show (u 0 12 - k).toNat = (u 0 12 - (k + 1)).toNat + 1 by omega, prb]; first | (exfalso; omega) | rw [if_neg (by show ¬ (_ ∧ _ < t); omega)] | rw [if_pos (by show _ ∧ _ < t; omega)]) (by omega)
                · skip
                  refine z_bipush C dX11_first_64 (by decide) ?_
                  refine z_iload_n C 5 dX11_first_66 rfl ?_
                  refine z_imul C dX11_first_67 ?_
                  refine z_iload C 6 dX11_first_68 rfl ?_
                  refine z_iadd C dX11_first_70 ?_
                  refine z_goto C 75 dX11_first_71 (by decide) ?_
                  refine z_istore_n C [(1, .int (zI ((10 * i) + k))), (6, .int (zI 0)), (5, .int (zI (mt (u 5) (u 6) (u 9 1) (u 9 0) i k))), (0, .ref (a 0)), (2, .int (zI t)), (3, .int (zI i)), (4, .int (zI k))] dX11_first_75 rfl (by decide) rfl ?_
                  refine z_iload C 1 dX11_first_76 rfl ?_
                  refine z_if_eq C 86 dX11_first_78 (by decide) (by omega) (fun h11 => ?_) (fun h11 => ?_)
                  · skip
                    refine z_iload_n C 4 dX11_first_86 rfl ?_
                    refine z_istore_n C [(2, .int (zI t)), (1, .int (zI ((10 * i) + k))), (6, .int (zI 0)), (5, .int (zI (mt (u 5) (u 6) (u 9 1) (u 9 0) i k))), (0, .ref (a 0)), (3, .int (zI i)), (4, .int (zI k))] dX11_first_87 rfl (by decide) rfl ?_
                    refine z_iinc C 6 [(4, .int (zI (k + 1))), (2, .int (zI t)), (1, .int (zI ((10 * i) + k))), (6, .int (zI 0)), (5, .int (zI (mt (u 5) (u 6) (u 9 1) (u 9 0) i k))), (0, .ref (a 0)), (3, .int (zI i))] dX11_first_88 rfl (by decide) rfl ?_
                    refine z_goto C 21 dX11_first_91 (by decide) ?_
                    refine z_lv [(0, .ref (a 0)), (1, .int (zI ((10 * i) + k))), (2, .int (zI t)), (3, .int (zI i)), (4, .int (zI (k + 1)))] [5, 2, 1, 6, 0] rfl ?_
                    exact ih21 (k + 1) ((10 * i) + k) t (by omega) (by omega) (by rw [hq, show (u 0 12 - k).toNat = (u 0 12 - (k + 1)).toNat + 1 by omega, prb]; first | (exfalso; omega) | rw [if_neg (by show ¬ (_ ∧ _ < t); omega)] | rw [if_pos (by show _ ∧ _ < t; omega)]) (by omega)
                  · skip
                    refine z_iload C 2 dX11_first_81 rfl ?_
                    refine z_goto C 87 dX11_first_83 (by decide) ?_
                    refine z_istore_n C [(2, .int (zI (mt (u 5) (u 6) (u 9 1) (u 9 0) i k))), (1, .int (zI ((10 * i) + k))), (6, .int (zI 0)), (5, .int (zI (mt (u 5) (u 6) (u 9 1) (u 9 0) i k))), (0, .ref (a 0)), (3, .int (zI i)), (4, .int (zI k))] dX11_first_87 rfl (by decide) rfl ?_
                    refine z_iinc C 6 [(4, .int (zI (k + 1))), (2, .int (zI (mt (u 5) (u 6) (u 9 1) (u 9 0) i k))), (1, .int (zI ((10 * i) + k))), (6, .int (zI 0)), (5, .int (zI (mt (u 5) (u 6) (u 9 1) (u 9 0) i k))), (0, .ref (a 0)), (3, .int (zI i))] dX11_first_88 rfl (by decide) rfl ?_
                    refine z_goto C 21 dX11_first_91 (by decide) ?_
                    refine z_lv [(0, .ref (a 0)), (1, .int (zI ((10 * i) + k))), (2, .int (zI (mt (u 5) (u 6) (u 9 1) (u 9 0) i k))), (3, .int (zI i)), (4, .int (zI (k + 1)))] [5, 2, 1, 6, 0] rfl ?_
                    exact ih21 (k + 1) ((10 * i) + k) (mt (u 5) (u 6) (u 9 1) (u 9 0) i k) (by omega) (by omega) (by rw [hq, show (u 0 12 - k).toNat = (u 0 12 - (k + 1)).toNat + 1 by omega, prb]; first | (exfalso; omega) | rw [if_neg (by show ¬ (_ ∧ _ < t); omega)] | rw [if_pos (by show _ ∧ _ < t; omega)]) (by omega)
              · skip
                refine z_iload C 0 dX11_first_46 rfl ?_
                refine z_iload_n C 3 dX11_first_48 rfl ?_
                refine z_icmp_ge C 56 dX11_first_49 (by decide) (by omega) (fun h12 => ?_) (fun h12 => ?_)
                · skip
                  refine z_iconst C dX11_first_56 ?_
                  refine z_istore C [(6, .int (zI 0)), (5, .int (zI (mt (u 5) (u 6) (u 9 1) (u 9 0) i k))), (0, .ref (a 0)), (1, .int (zI b)), (2, .int (zI t)), (3, .int (zI i)), (4, .int (zI k))] dX11_first_57 (by decide) rfl ?_
                  refine z_iload C 0 dX11_first_59 rfl ?_
                  refine z_if_eq C 74 dX11_first_61 (by decide) (by omega) (fun h13 => ?_) (fun h13 => ?_)
                  · skip
                    refine z_iload_n C 3 dX11_first_74 rfl ?_
                    refine z_istore_n C [(1, .int (zI b)), (6, .int (zI 0)), (5, .int (zI (mt (u 5) (u 6) (u 9 1) (u 9 0) i k))), (0, .ref (a 0)), (2, .int (zI t)), (3, .int (zI i)), (4, .int (zI k))] dX11_first_75 rfl (by decide) rfl ?_
                    refine z_iload C 1 dX11_first_76 rfl ?_
                    refine z_if_eq C 86 dX11_first_78 (by decide) (by omega) (fun h14 => ?_) (fun h14 => ?_)
                    · skip
                      refine z_iload_n C 4 dX11_first_86 rfl ?_
                      refine z_istore_n C [(2, .int (zI t)), (1, .int (zI b)), (6, .int (zI 0)), (5, .int (zI (mt (u 5) (u 6) (u 9 1) (u 9 0) i k))), (0, .ref (a 0)), (3, .int (zI i)), (4, .int (zI k))] dX11_first_87 rfl (by decide) rfl ?_
                      refine z_iinc C 6 [(4, .int (zI (k + 1))), (2, .int (zI t)), (1, .int (zI b)), (6, .int (zI 0)), (5, .int (zI (mt (u 5) (u 6) (u 9 1) (u 9 0) i k))), (0, .ref (a 0)), (3, .int (zI i))] dX11_first_88 rfl (by decide) rfl ?_
                      refine z_goto C 21 dX11_first_91 (by decide) ?_
                      refine z_lv [(0, .ref (a 0)), (1, .int (zI b)), (2, .int (zI t)), (3, .int (zI i)), (4, .int (zI (k + 1)))] [5, 2, 1, 6, 0] rfl ?_
                      exact ih21 (k + 1) b t (by omega) (by omega) (by rw [hq, show (u 0 12 - k).toNat = (u 0 12 - (k + 1)).toNat + 1 by omega, prb]; first | (exfalso; omega) | rw [if_neg (by show ¬ (_ ∧ _ < t); omega)] | rw [if_pos (by show _ ∧ _ < t; omega)]) (by omega)
                    · skip
                      refine z_iload C 2 dX11_first_81 rfl ?_
                      refine z_goto C 87 dX11_first_83 (by decide) ?_
                      refine z_istore_n C [(2, .int (zI (mt (u 5) (u 6) (u 9 1) (u 9 0) i k))), (1, .int (zI b)), (6, .int (zI 0)), (5, .int (zI (mt (u 5) (u 6) (u 9 1) (u 9 0) i k))), (0, .ref (a 0)), (3, .int (zI i)), (4, .int (zI k))] dX11_first_87 rfl (by decide) rfl ?_
                      refine z_iinc C 6 [(4, .int (zI (k + 1))), (2, .int (zI (mt (u 5) (u 6) (u 9 1) (u 9 0) i k))), (1, .int (zI b)), (6, .int (zI 0)), (5, .int (zI (mt (u 5) (u 6) (u 9 1) (u 9 0) i k))), (0, .ref (a 0)), (3, .int (zI i))] dX11_first_88 rfl (by decide) rfl ?_
                      refine z_goto C 21 dX11_first_91 (by decide) ?_
                      refine z_lv [(0, .ref (a 0)), (1, .int (zI b)), (2, .int (zI (mt (u 5) (u 6) (u 9 1) (u 9 0) i k))), (3, .int (zI i)), (4, .int (zI (k + 1)))] [5, 2, 1, 6, 0] rfl ?_
                      exact ih21 (k + 1) b (mt (u 5) (u 6) (u 9 1) (u 9 0) i k) (by omega) (by omega) (by rw [hq, show (u 0 12 - k).toNat = (u 0 12 - (k + 1)).toNat + 1 by omega, prb]; first | (exfalso; omega) | rw [if_neg (by show ¬ (_ ∧ _ < t); omega)] | rw [if_pos (by show _ ∧ _ < t; omega)]) (by omega)
                  · skip
                    refine z_bipush C dX11_first_64 (by decide) ?_
                    refine z_iload_n C 5 dX11_first_66 rfl ?_
                    refine z_imul C dX11_first_67 ?_
                    refine z_iload C 6 dX11_first_68 rfl ?_
                    refine z_iadd C dX11_first_70 ?_
                    refine z_goto C 75 dX11_first_71 (by decide) ?_
                    refine z_istore_n C [(1, .int (zI ((10 * i) + k))), (6, .int (zI 0)), (5, .int (zI (mt (u 5) (u 6) (u 9 1) (u 9 0) i k))), (0, .ref (a 0)), (2, .int (zI t)), (3, .int (zI i)), (4, .int (zI k))] dX11_first_75 rfl (by decide) rfl ?_
                    refine z_iload C 1 dX11_first_76 rfl ?_
                    refine z_if_eq C 86 dX11_first_78 (by decide) (by omega) (fun h15 => ?_) (fun h15 => ?_)
                    · skip
                      refine z_iload_n C 4 dX11_first_86 rfl ?_
                      refine z_istore_n C [(2, .int (zI t)), (1, .int (zI ((10 * i) + k))), (6, .int (zI 0)), (5, .int (zI (mt (u 5) (u 6) (u 9 1) (u 9 0) i k))), (0, .ref (a 0)), (3, .int (zI i)), (4, .int (zI k))] dX11_first_87 rfl (by decide) rfl ?_
                      refine z_iinc C 6 [(4, .int (zI (k + 1))), (2, .int (zI t)), (1, .int (zI ((10 * i) + k))), (6, .int (zI 0)), (5, .int (zI (mt (u 5) (u 6) (u 9 1) (u 9 0) i k))), (0, .ref (a 0)), (3, .int (zI i))] dX11_first_88 rfl (by decide) rfl ?_
                      refine z_goto C 21 dX11_first_91 (by decide) ?_
                      refine z_lv [(0, .ref (a 0)), (1, .int (zI ((10 * i) + k))), (2, .int (zI t)), (3, .int (zI i)), (4, .int (zI (k + 1)))] [5, 2, 1, 6, 0] rfl ?_
                      exact ih21 (k + 1) ((10 * i) + k) t (by omega) (by omega) (by rw [hq, show (u 0 12 - k).toNat = (u 0 12 - (k + 1)).toNat + 1 by omega, prb]; first | (exfalso; omega) | rw [if_neg (by show ¬ (_ ∧ _ < t); omega)] | rw [if_pos (by show _ ∧ _ < t; omega)]) (by omega)
                    · skip
                      refine z_iload C 2 dX11_first_81 rfl ?_
                      refine z_goto C 87 dX11_first_83 (by decide) ?_
                      refine z_istore_n C [(2, .int (zI (mt (u 5) (u 6) (u 9 1) (u 9 0) i k))), (1, .int (zI ((10 * i) + k))), (6, .int (zI 0)), (5, .int (zI (mt (u 5) (u 6) (u 9 1) (u 9 0) i k))), (0, .ref (a 0)), (3, .int (zI i)), (4, .int (zI k))] dX11_first_87 rfl (by decide) rfl ?_
                      refine z_iinc C 6 [(4, .int (zI (k + 1))), (2, .int (zI (mt (u 5) (u 6) (u 9 1) (u 9 0) i k))), (1, .int (zI ((10 * i) + k))), (6, .int (zI 0)), (5, .int (zI (mt (u 5) (u 6) (u 9 1) (u 9 0) i k))), (0, .ref (a 0)), (3, .int (zI i))] dX11_first_88 rfl (by decide) rfl ?_
                      refine z_goto C 21 dX11_first_91 (by decide) ?_
                      refine z_lv [(0, .ref (a 0)), (1, .int (zI ((10 * i) + k))), (2, .int (zI (mt (u 5) (u 6) (u 9 1) (u 9 0) i k))), (3, .int (zI i)), (4, .int (zI (k + 1)))] [5, 2, 1, 6, 0] rfl ?_
                      exact ih21 (k + 1) ((10 * i) + k) (mt (u 5) (u 6) (u 9 1) (u 9 0) i k) (by omega) (by omega) (by rw [hq, show (u 0 12 - k).toNat = (u 0 12 - (k + 1)).toNat + 1 by omega, prb]; first | (exfalso; omega) | rw [if_neg (by show ¬ (_ ∧ _ < t); omega)] | rw [if_pos (by show _ ∧ _ < t; omega)]) (by omega)
                · skip
                  refine z_iconst C dX11_first_52 ?_
                  refine z_goto C 57 dX11_first_53 (by decide) ?_
                  refine z_istore C [(6, .int (zI 1)), (5, .int (zI (mt (u 5) (u 6) (u 9 1) (u 9 0) i k))), (0, .ref (a 0)), (1, .int (zI b)), (2, .int (zI t)), (3, .int (zI i)), (4, .int (zI k))] dX11_first_57 (by decide) rfl ?_
                  refine z_iload C 0 dX11_first_59 rfl ?_
                  refine z_if_eq C 74 dX11_first_61 (by decide) (by omega) (fun h16 => ?_) (fun h16 => ?_)
                  · skip
                    refine z_iload_n C 3 dX11_first_74 rfl ?_
                    refine z_istore_n C [(1, .int (zI b)), (6, .int (zI 1)), (5, .int (zI (mt (u 5) (u 6) (u 9 1) (u 9 0) i k))), (0, .ref (a 0)), (2, .int (zI t)), (3, .int (zI i)), (4, .int (zI k))] dX11_first_75 rfl (by decide) rfl ?_
                    refine z_iload C 1 dX11_first_76 rfl ?_
                    refine z_if_eq C 86 dX11_first_78 (by decide) (by omega) (fun h17 => ?_) (fun h17 => ?_)
                    · skip
                      refine z_iload_n C 4 dX11_first_86 rfl ?_
                      refine z_istore_n C [(2, .int (zI t)), (1, .int (zI b)), (6, .int (zI 1)), (5, .int (zI (mt (u 5) (u 6) (u 9 1) (u 9 0) i k))), (0, .ref (a 0)), (3, .int (zI i)), (4, .int (zI k))] dX11_first_87 rfl (by decide) rfl ?_
                      refine z_iinc C 6 [(4, .int (zI (k + 1))), (2, .int (zI t)), (1, .int (zI b)), (6, .int (zI 1)), (5, .int (zI (mt (u 5) (u 6) (u 9 1) (u 9 0) i k))), (0, .ref (a 0)), (3, .int (zI i))] dX11_first_88 rfl (by decide) rfl ?_
                      refine z_goto C 21 dX11_first_91 (by decide) ?_
                      refine z_lv [(0, .ref (a 0)), (1, .int (zI b)), (2, .int (zI t)), (3, .int (zI i)), (4, .int (zI (k + 1)))] [5, 2, 1, 6, 0] rfl ?_
                      exact ih21 (k + 1) b t (by omega) (by omega) (by rw [hq, show (u 0 12 - k).toNat = (u 0 12 - (k + 1)).toNat + 1 by omega, prb]; first | (exfalso; omega) | rw [if_neg (by show ¬ (_ ∧ _ < t); omega)] | rw [if_pos (by show _ ∧ _ < t; omega)]) (by omega)
                    · skip
                      refine z_iload C 2 dX11_first_81 rfl ?_
                      refine z_goto C 87 dX11_first_83 (by decide) ?_
                      refine z_istore_n C [(2, .int (zI (mt (u 5) (u 6) (u 9 1) (u 9 0) i k))), (1, .int (zI b)), (6, .int (zI 1)), (5, .int (zI (mt (u 5) (u 6) (u 9 1) (u 9 0) i k))), (0, .ref (a 0)), (3, .int (zI i)), (4, .int (zI k))] dX11_first_87 rfl (by decide) rfl ?_
                      refine z_iinc C 6 [(4, .int (zI (k + 1))), (2, .int (zI (mt (u 5) (u 6) (u 9 1) (u 9 0) i k))), (1, .int (zI b)), (6, .int (zI 1)), (5, .int (zI (mt (u 5) (u 6) (u 9 1) (u 9 0) i k))), (0, .ref (a 0)), (3, .int (zI i))] dX11_first_88 rfl (by decide) rfl ?_
                      refine z_goto C 21 dX11_first_91 (by decide) ?_
                      refine z_lv [(0, .ref (a 0)), (1, .int (zI b)), (2, .int (zI (mt (u 5) (u 6) (u 9 1) (u 9 0) i k))), (3, .int (zI i)), (4, .int (zI (k + 1)))] [5, 2, 1, 6, 0] rfl ?_
                      exact ih21 (k + 1) b (mt (u 5) (u 6) (u 9 1) (u 9 0) i k) (by omega) (by omega) (by rw [hq, show (u 0 12 - k).toNat = (u 0 12 - (k + 1)).toNat + 1 by omega, prb]; first | (exfalso; omega) | rw [if_neg (by show ¬ (_ ∧ _ < t); omega)] | rw [if_pos (by show _ ∧ _ < t; omega)]) (by omega)
                  · skip
                    refine z_bipush C dX11_first_64 (by decide) ?_
                    refine z_iload_n C 5 dX11_first_66 rfl ?_
                    refine z_imul C dX11_first_67 ?_
                    refine z_iload C 6 dX11_first_68 rfl ?_
                    refine z_iadd C dX11_first_70 ?_
                    refine z_goto C 75 dX11_first_71 (by decide) ?_
                    refine z_istore_n C [(1, .int (zI ((10 * i) + k))), (6, .int (zI 1)), (5, .int (zI (mt (u 5) (u 6) (u 9 1) (u 9 0) i k))), (0, .ref (a 0)), (2, .int (zI t)), (3, .int (zI i)), (4, .int (zI k))] dX11_first_75 rfl (by decide) rfl ?_
                    refine z_iload C 1 dX11_first_76 rfl ?_
                    refine z_if_eq C 86 dX11_first_78 (by decide) (by omega) (fun h18 => ?_) (fun h18 => ?_)
                    · skip
                      refine z_iload_n C 4 dX11_first_86 rfl ?_
                      refine z_istore_n C [(2, .int (zI t)), (1, .int (zI ((10 * i) + k))), (6, .int (zI 1)), (5, .int (zI (mt (u 5) (u 6) (u 9 1) (u 9 0) i k))), (0, .ref (a 0)), (3, .int (zI i)), (4, .int (zI k))] dX11_first_87 rfl (by decide) rfl ?_
                      refine z_iinc C 6 [(4, .int (zI (k + 1))), (2, .int (zI t)), (1, .int (zI ((10 * i) + k))), (6, .int (zI 1)), (5, .int (zI (mt (u 5) (u 6) (u 9 1) (u 9 0) i k))), (0, .ref (a 0)), (3, .int (zI i))] dX11_first_88 rfl (by decide) rfl ?_
                      refine z_goto C 21 dX11_first_91 (by decide) ?_
                      refine z_lv [(0, .ref (a 0)), (1, .int (zI ((10 * i) + k))), (2, .int (zI t)), (3, .int (zI i)), (4, .int (zI (k + 1)))] [5, 2, 1, 6, 0] rfl ?_
                      exact ih21 (k + 1) ((10 * i) + k) t (by omega) (by omega) (by rw [hq, show (u 0 12 - k).toNat = (u 0 12 - (k + 1)).toNat + 1 by omega, prb]; first | (exfalso; omega) | rw [if_neg (by show ¬ (_ ∧ _ < t); omega)] | rw [if_pos (by show _ ∧ _ < t; omega)]) (by omega)
                    · skip
                      refine z_iload C 2 dX11_first_81 rfl ?_
                      refine z_goto C 87 dX11_first_83 (by decide) ?_
                      refine z_istore_n C [(2, .int (zI (mt (u 5) (u 6) (u 9 1) (u 9 0) i k))), (1, .int (zI ((10 * i) + k))), (6, .int (zI 1)), (5, .int (zI (mt (u 5) (u 6) (u 9 1) (u 9 0) i k))), (0, .ref (a 0)), (3, .int (zI i)), (4, .int (zI k))] dX11_first_87 rfl (by decide) rfl ?_
                      refine z_iinc C 6 [(4, .int (zI (k + 1))), (2, .int (zI (mt (u 5) (u 6) (u 9 1) (u 9 0) i k))), (1, .int (zI ((10 * i) + k))), (6, .int (zI 1)), (5, .int (zI (mt (u 5) (u 6) (u 9 1) (u 9 0) i k))), (0, .ref (a 0)), (3, .int (zI i))] dX11_first_88 rfl (by decide) rfl ?_
                      refine z_goto C 21 dX11_first_91 (by decide) ?_
                      refine z_lv [(0, .ref (a 0)), (1, .int (zI ((10 * i) + k))), (2, .int (zI (mt (u 5) (u 6) (u 9 1) (u 9 0) i k))), (3, .int (zI i)), (4, .int (zI (k + 1)))] [5, 2, 1, 6, 0] rfl ?_
                      exact ih21 (k + 1) ((10 * i) + k) (mt (u 5) (u 6) (u 9 1) (u 9 0) i k) (by omega) (by omega) (by rw [hq, show (u 0 12 - k).toNat = (u 0 12 - (k + 1)).toNat + 1 by omega, prb]; first | (exfalso; omega) | rw [if_neg (by show ¬ (_ ∧ _ < t); omega)] | rw [if_pos (by show _ ∧ _ < t; omega)]) (by omega)
        refine z_lv [(0, .ref (a 0)), (1, .int (zI b)), (2, .int (zI t)), (3, .int (zI i)), (4, .int (zI (i + 1)))] [1, 2, 3, 4, 0] rfl ?_
        exact L21_3 (((u 0 12 - (i + 1) : Int)).toNat + 1) (i + 1) b t (by omega) (by omega) (by rw [hp, show (u 0 12 - i).toNat = (u 0 12 - (i + 1)).toNat + 1 by omega]; rfl) (by omega)
  refine z_lv [(0, .ref (a 0)), (1, .int (zI (-9))), (2, .int (zI 100)), (3, .int (zI 0))] [3, 2, 1, 0] rfl ?_
  exact L8_1 (((u 0 12 - 0 : Int)).toNat + 1) 0 (-9) 100 (by omega) (by omega) (by unfold prf; rw [show (u 0 12 - 0).toNat = (u 0 12).toNat by omega]) (by omega)
