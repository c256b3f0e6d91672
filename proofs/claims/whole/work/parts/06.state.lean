/-! ===== what the class's numbers always keep; the small meanings ===== -/
/-- a SOUND: pitch p, wetness w, the level's number m -/
def snd (p w m : Int) : Int := p - (w * (m + 1)).tdiv 2
/-- a pitch behind y years -/
def wrn (p w y : Int) : Int := if 0 < p - w * y then p - w * y else 0
theorem wl_bd {w m : Int} (hw : 0 ≤ w ∧ w ≤ 9) (hm : 0 ≤ m ∧ m ≤ 7) : 0 ≤ w * (m + 1) ∧ w * (m + 1) ≤ 72 := by
  refine ⟨Int.mul_nonneg hw.1 (by omega), ?_⟩
  have h1 : w * (m + 1) ≤ 9 * (m + 1) := Int.mul_le_mul_of_nonneg_right hw.2 (by omega)
  omega
theorem wy_bd {w y : Int} (hw : 0 ≤ w ∧ w ≤ 9) (hy : 0 ≤ y ∧ y ≤ 99) : 0 ≤ w * y ∧ w * y ≤ 891 := by
  refine ⟨Int.mul_nonneg hw.1 hy.1, ?_⟩
  have h1 : w * y ≤ 9 * y := Int.mul_le_mul_of_nonneg_right hw.2 hy.1
  omega
theorem wrn_of {p w y r : Int} (h : (0 < p - w * y ∧ r = p - w * y) ∨ (p - w * y ≤ 0 ∧ r = 0)) : r = wrn p w y := by
  unfold wrn
  rcases h with ⟨a, b⟩ | ⟨a, b⟩
  · rw [if_pos a, b]
  · rw [if_neg (by omega), b]
theorem snd_bd {p w m : Int} (hp : 0 ≤ p ∧ p ≤ 60) (hw : 0 ≤ w ∧ w ≤ 9) (hm : 0 ≤ m ∧ m ≤ 7) : -36 ≤ snd p w m ∧ snd p w m ≤ 60 := by
  have h := wl_bd hw hm
  unfold snd
  rw [Int.tdiv_eq_ediv_of_nonneg h.1]
  omega
theorem wrn_bd {p w y : Int} (hp : 0 ≤ p ∧ p ≤ 60) (hw : 0 ≤ w ∧ w ≤ 9) (hy : 0 ≤ y ∧ y ≤ 99) : 0 ≤ wrn p w y ∧ wrn p w y ≤ 60 := by
  have h := wy_bd hw hy
  unfold wrn
  split <;> omega
/-- whether the level m (of lv) sounds like s: pitches P, wetness w, ear e -/
def alw (P : Int → Int) (w e lv s m : Int) : Bool := decide (0 ≤ m ∧ m < lv ∧ snd (P m) w m - s ≤ e ∧ s - snd (P m) w m ≤ e)
/-- all such levels, as bits -/
def like (P : Int → Int) (w e lv s : Int) : Nat := bn (fun q : Nat => alw P w e lv s q) 8
theorem like_lt (P : Int → Int) (w e lv s : Int) : like P w e lv s < 256 := bn_8 _ (by omega)
theorem like_end {P : Int → Int} {w e lv s : Int} (h : 0 ≤ lv ∧ lv ≤ 8) : bn (fun q : Nat => alw P w e lv s q) lv.toNat = like P w e lv s := by
  refine (bn_more (by omega) (fun i h1 _ => ?_)).symm
  unfold alw
  exact decide_eq_false (by omega)
theorem alw_t {P : Int → Int} {w e lv s i : Int} (hi : 0 ≤ i) (h : i < lv ∧ snd (P i) w i - s ≤ e ∧ s - snd (P i) w i ≤ e) : (fun q : Nat => alw P w e lv s q) i.toNat = true := by
  show alw P w e lv s (i.toNat : Int) = true
  rw [Int.toNat_of_nonneg hi]
  exact decide_eq_true ⟨hi, h⟩
theorem alw_f {P : Int → Int} {w e lv s i : Int} (hi : 0 ≤ i) (h : ¬ (snd (P i) w i - s ≤ e ∧ s - snd (P i) w i ≤ e)) : (fun q : Nat => alw P w e lv s q) i.toNat = false := by
  show alw P w e lv s (i.toNat : Int) = false
  rw [Int.toNat_of_nonneg hi]
  exact decide_eq_false (fun q => h q.2.2)
theorem like_bit {P : Int → Int} {w e lv s i : Int} (hi : 0 ≤ i ∧ i < 8) : ((like P w e lv s >>> i.toNat) % 2 : Nat) = if alw P w e lv s i = true then 1 else 0 := by
  unfold like
  rw [bn_bit]
  rw [Int.toNat_of_nonneg hi.1]
  by_cases h : alw P w e lv s i = true
  · rw [if_pos h, if_pos ⟨by omega, h⟩]
  · rw [if_neg h, if_neg (fun q => h q.2)]
theorem bn_stepI {f : Nat → Bool} {i : Int} (hi : 0 ≤ i) (h : f i.toNat = true) : ((bn f i.toNat ||| 2 ^ i.toNat : Nat) : Int) = ((bn f (i + 1).toNat : Nat) : Int) := by
  rw [show (i + 1).toNat = i.toNat + 1 by omega, bn_step h]
theorem bn_skipI {f : Nat → Bool} {i : Int} (hi : 0 ≤ i) (h : f i.toNat = false) : ((bn f i.toNat : Nat) : Int) = ((bn f (i + 1).toNat : Nat) : Int) := by
  rw [show (i + 1).toNat = i.toNat + 1 by omega, bn_skip h]
/-- arrays of what is told -/
def InA (f : zU) : Prop := (∀ i : Int, 0 ≤ i → i < 8 → 0 ≤ f 1 i ∧ f 1 i ≤ 60) ∧ (∀ i : Int, 0 ≤ i → i < 8 → 0 ≤ f 2 i ∧ f 2 i ≤ 9) ∧ (∀ i : Int, 0 ≤ i → i < 8 → 0 ≤ f 3 i ∧ f 3 i ≤ 1) ∧ (∀ i : Int, 0 ≤ i → i < 3 → 0 ≤ f 4 i ∧ f 4 i < 8)
def InT (f : zU) : Prop := InA f ∧ (0 ≤ f 0 4 ∧ f 0 4 ≤ 8) ∧ (0 ≤ f 0 5 ∧ f 0 5 ≤ 3) ∧ (0 ≤ f 0 6 ∧ f 0 6 ≤ 9) ∧ (0 ≤ f 0 7 ∧ f 0 7 ≤ 9) ∧ (1 ≤ f 0 8 ∧ f 0 8 ≤ 4) ∧ (∀ i : Int, 0 ≤ i → i < f 0 5 → f 4 i < f 0 4)
def InN (lv pp : Int) (f : zU) : Prop := (0 ≤ f 0 5 ∧ f 0 5 ≤ 999) ∧ (0 ≤ f 0 6 ∧ f 0 6 ≤ 9) ∧ (0 ≤ f 0 7 ∧ f 0 7 ≤ 8) ∧ (0 ≤ f 0 8 ∧ f 0 8 ≤ 6) ∧ (0 ≤ f 0 9 ∧ f 0 9 ≤ 8) ∧ (∀ i : Int, 0 ≤ i → i < 8 → 0 ≤ f 1 i ∧ f 1 i ≤ 60) ∧ (∀ i : Int, 0 ≤ i → i < 3 → 0 ≤ f 2 i ∧ f 2 i < 8) ∧ (∀ i : Int, 0 ≤ i → i < 6 → 0 ≤ f 3 i ∧ f 3 i ≤ 99) ∧ (∀ i : Int, 0 ≤ i → i < 6 → -99 ≤ f 4 i ∧ f 4 i ≤ 99) ∧ (∀ i : Int, 0 ≤ i → i < 8 → -99 ≤ f 5 i ∧ f 5 i ≤ 99) ∧ (∀ i j : Int, 0 ≤ i → i ≤ j → j < f 0 8 → f 3 i ≤ f 3 j) ∧ (∀ i : Int, 0 ≤ i → i < pp → f 2 i < lv)
def IB (u : zU) : Prop := InT (fun k => u (3 + k)) ∧ InA (fun k => u (8 + k)) ∧ InN (u 3 4) (u 3 5) (fun k => u (17 + k)) ∧ (u 36 0 = 0 ∨ u 36 0 = 1 ∧ InN (u 3 4) (u 3 5) (fun k => u (23 + k))) ∧ (u 36 1 = 0 ∨ u 36 1 = 1 ∧ InN (u 3 4) (u 3 5) (fun k => u (29 + k))) ∧ (0 ≤ u 1 1 ∧ u 1 1 ≤ 200) ∧ (∀ i : Int, 0 ≤ i → i < 200 → 0 ≤ u 2 i ∧ u 2 i ≤ 255)
theorem IB.lev {u : zU} (h : IB u) : 0 ≤ u 3 4 ∧ u 3 4 ≤ 8 := h.1.2.1
theorem IB.ppl {u : zU} (h : IB u) : 0 ≤ u 3 5 ∧ u 3 5 ≤ 3 := h.1.2.2.1
theorem IB.ear {u : zU} (h : IB u) : 0 ≤ u 3 6 ∧ u 3 6 ≤ 9 := h.1.2.2.2.1
theorem IB.pace {u : zU} (h : IB u) : 1 ≤ u 3 8 ∧ u 3 8 ≤ 4 := h.1.2.2.2.2.2.1
theorem IB.wear {u : zU} (h : IB u) (i : Int) (h0 : 0 ≤ i) (h8 : i < 8) : 0 ≤ u 5 i ∧ u 5 i ≤ 9 := h.1.1.2.1 i h0 h8
theorem IB.echo {u : zU} (h : IB u) (i : Int) (h0 : 0 ≤ i) (h8 : i < 8) : 0 ≤ u 6 i ∧ u 6 i ≤ 1 := h.1.1.2.2.1 i h0 h8
theorem IB.year {u : zU} (h : IB u) : 0 ≤ u 17 5 ∧ u 17 5 ≤ 999 := h.2.2.1.1
theorem IB.wet {u : zU} (h : IB u) : 0 ≤ u 17 6 ∧ u 17 6 ≤ 9 := h.2.2.1.2.1
theorem IB.rope {u : zU} (h : IB u) : 0 ≤ u 17 7 ∧ u 17 7 ≤ 8 := h.2.2.1.2.2.1
theorem IB.notes {u : zU} (h : IB u) : 0 ≤ u 17 8 ∧ u 17 8 ≤ 6 := h.2.2.1.2.2.2.1
theorem IB.sung {u : zU} (h : IB u) : 0 ≤ u 17 9 ∧ u 17 9 ≤ 8 := h.2.2.1.2.2.2.2.1
theorem IB.pitch {u : zU} (h : IB u) (i : Int) (h0 : 0 ≤ i) (h8 : i < 8) : 0 ≤ u 18 i ∧ u 18 i ≤ 60 := h.2.2.1.2.2.2.2.2.1 i h0 h8
theorem IB.stands {u : zU} (h : IB u) (i : Int) (h0 : 0 ≤ i) (h8 : i < 3) : 0 ≤ u 19 i ∧ u 19 i < 8 := h.2.2.1.2.2.2.2.2.2.1 i h0 h8
theorem IB.minute {u : zU} (h : IB u) (i : Int) (h0 : 0 ≤ i) (h8 : i < 6) : 0 ≤ u 20 i ∧ u 20 i ≤ 99 := h.2.2.1.2.2.2.2.2.2.2.1 i h0 h8
theorem IB.note {u : zU} (h : IB u) (i : Int) (h0 : 0 ≤ i) (h8 : i < 6) : -99 ≤ u 21 i ∧ u 21 i ≤ 99 := h.2.2.1.2.2.2.2.2.2.2.2.1 i h0 h8
theorem IB.hymn {u : zU} (h : IB u) (i : Int) (h0 : 0 ≤ i) (h8 : i < 8) : -99 ≤ u 22 i ∧ u 22 i ≤ 99 := h.2.2.1.2.2.2.2.2.2.2.2.2.1 i h0 h8
theorem IB.mono {u : zU} (h : IB u) (i j : Int) (h0 : 0 ≤ i) (h1 : i ≤ j) (h2 : j < u 17 8) : u 20 i ≤ u 20 j := h.2.2.1.2.2.2.2.2.2.2.2.2.2.1 i j h0 h1 h2
theorem IB.stand {u : zU} (h : IB u) (i : Int) (h0 : 0 ≤ i) (h1 : i < u 3 5) : u 19 i < u 3 4 := h.2.2.1.2.2.2.2.2.2.2.2.2.2.2 i h0 h1
theorem IB.tlen {u : zU} (h : IB u) : 0 ≤ u 1 1 ∧ u 1 1 ≤ 200 := h.2.2.2.2.2.1
theorem IB.byte {u : zU} (h : IB u) (i : Int) (h0 : 0 ≤ i) (h1 : i < 200) : 0 ≤ u 2 i ∧ u 2 i ≤ 255 := h.2.2.2.2.2.2 i h0 h1
