/-! ===== pure: the reference's choices of echoes ===== -/
section MO
variable (mi : Int → Int) (pc n : Int) (ec : Nat → Bool)
/-- s says whose echo each of the last r notes is (negative: nobody's) -/
def CSo (s : Int → Int) : Nat → (Int → Bool) → (Int → Nat → Bool) → Int → Prop
  | 0, E, X, t => Can mi pc n E X n.toNat (fun _ _ => false) (fun _ => 0) 0 t
  | r + 1, E, X, t => (s (n - 1 - (r : Int)) < 0 ∧ nz (X (n - 1 - (r : Int))) ∧ CSo s r E X t) ∨ ((0 ≤ s (n - 1 - (r : Int)) ∧ s (n - 1 - (r : Int)) < n - 1 - (r : Int)) ∧ E (s (n - 1 - (r : Int))) = false ∧ mi (s (n - 1 - (r : Int))) + 2 = mi (n - 1 - (r : Int)) ∧ nz (ech ec X (s (n - 1 - (r : Int))) (n - 1 - (r : Int))) ∧ CSo s r (fun k => if k = n - 1 - (r : Int) then true else E k) (fun k => if k = s (n - 1 - (r : Int)) then ech ec X (s (n - 1 - (r : Int))) (n - 1 - (r : Int)) else X k) t)
end MO
section MO2
variable {mi : Int → Int} {pc n : Int} {ec : Nat → Bool}
theorem CSo_congr {s s' : Int → Int} : ∀ {r : Nat} {E : Int → Bool} {X : Int → Nat → Bool} {t : Int}, (r : Int) ≤ n → (∀ k : Int, n - (r : Int) ≤ k → k < n → s k = s' k) → CSo mi pc n ec s r E X t → CSo mi pc n ec s' r E X t
  | 0, _, _, _, _, _, h => h
  | r + 1, E, X, t, hr, he, h => by
    have e := he (n - 1 - (r : Int)) (by omega) (by omega)
    unfold CSo at h ⊢
    rw [← e]
    rcases h with ⟨a, b, c⟩ | ⟨a, b, c, d, f⟩
    · exact Or.inl ⟨a, b, CSo_congr (by omega) (fun k h0 h1 => he k (by omega) h1) c⟩
    · exact Or.inr ⟨a, b, c, d, CSo_congr (by omega) (fun k h0 h1 => he k (by omega) h1) f⟩
theorem ech_nz {X : Int → Nat → Bool} {j i : Int} (h : nz (ech ec X j i)) : nz (X i) := by
  obtain ⟨q, hq, h⟩ := h
  unfold ech at h
  rw [Bool.and_eq_true] at h
  exact ⟨q, hq, h.2⟩
theorem CSo_nz {s : Int → Int} : ∀ {r : Nat} {E : Int → Bool} {X : Int → Nat → Bool} {t : Int}, CSo mi pc n ec s r E X t → ∀ k : Int, n - (r : Int) ≤ k → k < n → nz (X k)
  | 0, _, _, _, _, k, h0, h1 => by omega
  | r + 1, E, X, t, h, k, h0, h1 => by
    unfold CSo at h
    by_cases e : k = n - 1 - (r : Int)
    · rw [e]
      rcases h with ⟨a, b, c⟩ | ⟨a, b, c, d, f⟩
      · exact b
      · exact ech_nz d
    · rcases h with ⟨a, b, c⟩ | ⟨a, b, c, d, f⟩
      · exact CSo_nz c k (by omega) h1
      · have q := CSo_nz f k (by omega) h1
        rw [if_neg (by omega)] at q
        exact q
theorem CanE_of_s {s : Int → Int} : ∀ {r : Nat} {E : Int → Bool} {X : Int → Nat → Bool} {t : Int}, CSo mi pc n ec s r E X t → CanE mi pc n ec r E X t
  | 0, _, _, _, h => h
  | r + 1, E, X, t, h => by
    unfold CSo at h
    rcases h with ⟨a, b, c⟩ | ⟨a, b, c, d, f⟩
    · exact Or.inl (CanE_of_s c)
    · exact Or.inr ⟨s (n - 1 - (r : Int)), a, b, c, d, CanE_of_s f⟩
theorem CanE_s (hn : n ≤ 6) : ∀ {r : Nat} {E : Int → Bool} {X : Int → Nat → Bool} {t : Int}, (r : Int) ≤ n → (∀ k : Int, n - (r : Int) ≤ k → k < n → nz (X k)) → CanE mi pc n ec r E X t → ∃ s : Int → Int, (∀ k : Int, -1 ≤ s k ∧ s k ≤ 5) ∧ CSo mi pc n ec s r E X t
  | 0, _, _, _, _, _, h => ⟨fun _ => -1, fun _ => ⟨by show (-1 : Int) ≤ -1; decide, by show (-1 : Int) ≤ 5; decide⟩, h⟩
  | r + 1, E, X, t, hr, hz, h => by
    unfold CanE at h
    rcases h with h | ⟨j, hj, hE, hm, he, h⟩
    · obtain ⟨s, hb, hs⟩ := CanE_s hn (by omega) (fun k h0 h1 => hz k (by omega) h1) h
      refine ⟨fun k => if k = n - 1 - (r : Int) then -1 else s k, fun k => ?_, ?_⟩
      · show -1 ≤ (if k = n - 1 - (r : Int) then -1 else s k) ∧ (if k = n - 1 - (r : Int) then -1 else s k) ≤ 5
        have := hb k
        split <;> omega
      · unfold CSo
        refine Or.inl ⟨?_, hz _ (by omega) (by omega), CSo_congr (by omega) (fun k h0 h1 => ?_) hs⟩
        · rw [if_pos rfl]; decide
        · rw [if_neg (by omega)]
    · obtain ⟨s, hb, hs⟩ := CanE_s hn (by omega) (fun k h0 h1 => by rw [if_neg (by omega)]; exact hz k (by omega) h1) h
      refine ⟨fun k => if k = n - 1 - (r : Int) then j else s k, fun k => ?_, ?_⟩
      · show -1 ≤ (if k = n - 1 - (r : Int) then j else s k) ∧ (if k = n - 1 - (r : Int) then j else s k) ≤ 5
        have := hb k
        split <;> omega
      · unfold CSo
        rw [if_pos rfl]
        exact Or.inr ⟨hj, hE, hm, he, CSo_congr (by omega) (fun k h0 h1 => by rw [if_neg (by omega)]) hs⟩
/-- the digits of a -/
def dg (n a k : Int) : Int := a / 7 ^ (n - 1 - k).toNat % 7 - 1
theorem dg_bd (n a k : Int) : -1 ≤ dg n a k ∧ dg n a k ≤ 5 := by unfold dg; omega
theorem p7 (k : Nat) : (0 : Int) < 7 ^ k := Int.pow_pos (by decide)
theorem dg_up {n a d k : Int} (hd : 0 ≤ d ∧ d < 7) (hk : 0 ≤ k ∧ k < n) : dg (n + 1) (7 * a + d) k = dg n a k := by
  unfold dg
  rw [show (n + 1 - 1 - k).toNat = (n - 1 - k).toNat + 1 by omega, Int.pow_succ, Int.mul_comm (7 ^ (n - 1 - k).toNat) 7, ← Int.ediv_ediv_of_nonneg (by decide : (0 : Int) ≤ 7), show (7 * a + d) / 7 = a by omega]
theorem dg_ex {s : Int → Int} (hs : ∀ k : Int, -1 ≤ s k ∧ s k ≤ 5) : ∀ n : Nat, ∃ a : Int, (0 ≤ a ∧ a < 7 ^ n) ∧ ∀ k : Int, 0 ≤ k → k < n → dg n a k = s k
  | 0 => ⟨0, by omega, fun k h0 h1 => by omega⟩
  | n + 1 => by
    obtain ⟨a, ha, h⟩ := dg_ex hs n
    have hb := hs n
    refine ⟨7 * a + (s n + 1), by rw [Int.pow_succ]; omega, fun k h0 h1 => ?_⟩
    by_cases e : k = n
    · rw [e]
      unfold dg
      rw [show (((n + 1 : Nat) : Int) - 1 - (n : Int)).toNat = 0 by omega]
      show (7 * a + (s n + 1)) / 1 % 7 - 1 = s n
      omega
    · rw [show ((n + 1 : Nat) : Int) = (n : Int) + 1 by omega, dg_up (by omega) (by omega)]
      exact h k h0 (by omega)
theorem CanE_dg (hn : 0 ≤ n ∧ n ≤ 6) {X : Int → Nat → Bool} {t : Int} : ((∀ k : Int, 0 ≤ k → k < n → nz (X k)) ∧ CanE mi pc n ec n.toNat (fun _ => false) X t) ↔ ∃ a : Int, (0 ≤ a ∧ a < 7 ^ n.toNat) ∧ CSo mi pc n ec (dg n a) n.toNat (fun _ => false) X t := by
  constructor
  · rintro ⟨hz, h⟩
    obtain ⟨s, hb, hs⟩ := CanE_s hn.2 (by omega) (fun k h0 h1 => hz k (by omega) h1) h
    obtain ⟨a, ha, hd⟩ := dg_ex hb n.toNat
    rw [Int.toNat_of_nonneg hn.1] at hd
    exact ⟨a, ha, CSo_congr (by omega) (fun k h0 h1 => (hd k (by omega) h1).symm) hs⟩
  · rintro ⟨a, ha, h⟩
    exact ⟨fun k h0 h1 => CSo_nz h k (by omega) h1, CanE_of_s h⟩
theorem dg_same {a b w j : Int} (hw : w < n) (hj : 0 ≤ j ∧ j ≤ w) (h : a / 7 ^ (n - 1 - w).toNat = b / 7 ^ (n - 1 - w).toNat) : dg n a j = dg n b j := by
  unfold dg
  rw [show (n - 1 - j).toNat = (n - 1 - w).toNat + (w - j).toNat by omega, Int.pow_add, ← Int.ediv_ediv_of_nonneg (Int.le_of_lt (p7 _)), ← Int.ediv_ediv_of_nonneg (Int.le_of_lt (p7 _)), h]
theorem skip_same {a b p : Int} (hp : 0 < p) (h0 : a ≤ b) (h1 : b < (a / p + 1) * p) : b / p = a / p := by
  have h2 : a / p ≤ b / p := Int.ediv_le_ediv hp h0
  have h3 : b / p < a / p + 1 := Int.ediv_lt_of_lt_mul hp h1
  omega
/-- how far the reference has come with the choice s: k notes, E, X -/
def Run (M : Int → Nat → Bool) (mi : Int → Int) (pc n : Int) (ec : Nat → Bool) (s : Int → Int) (k : Int) (E : Int → Bool) (X : Int → Nat → Bool) : Prop := (∀ j : Int, 0 ≤ j → j < n → (E j = true ↔ j < k ∧ 0 ≤ s j)) ∧ (∀ j : Int, k ≤ j → j < n → X j = M j) ∧ ∀ s' : Int → Int, (∀ j : Int, 0 ≤ j → j < k → s' j = s j) → ∀ t : Int, CSo mi pc n ec s' n.toNat (fun _ => false) M t ↔ CSo mi pc n ec s' (n - k).toNat E X t
def Bad (M : Int → Nat → Bool) (mi : Int → Int) (pc n : Int) (ec : Nat → Bool) (s : Int → Int) (k : Int) : Prop := ∀ s' : Int → Int, (∀ j : Int, 0 ≤ j → j ≤ k → s' j = s j) → ∀ t : Int, ¬ CSo mi pc n ec s' n.toNat (fun _ => false) M t
theorem Run_0 {M : Int → Nat → Bool} {s : Int → Int} : Run M mi pc n ec s 0 (fun _ => false) M := ⟨fun j h0 h1 => ⟨fun h => absurd (show false = true from h) (by decide), fun h => absurd h.1 (by omega)⟩, fun _ _ _ => rfl, fun s' _ t => by rw [show n - 0 = n by omega]⟩
variable {M : Int → Nat → Bool} {s : Int → Int} {k : Int} {E : Int → Bool} {X : Int → Nat → Bool}
theorem Run_at (hk : 0 ≤ k ∧ k < n) (s' : Int → Int) (t : Int) : CSo mi pc n ec s' (n - k).toNat E X t ↔ (s' k < 0 ∧ nz (X k) ∧ CSo mi pc n ec s' (n - (k + 1)).toNat E X t) ∨ ((0 ≤ s' k ∧ s' k < k) ∧ E (s' k) = false ∧ mi (s' k) + 2 = mi k ∧ nz (ech ec X (s' k) k) ∧ CSo mi pc n ec s' (n - (k + 1)).toNat (fun j => if j = k then true else E j) (fun j => if j = s' k then ech ec X (s' k) k else X j) t) := by
  rw [show (n - k).toNat = (n - (k + 1)).toNat + 1 by omega]
  conv => lhs; unfold CSo
  rw [show n - 1 - (((n - (k + 1)).toNat : Nat) : Int) = k by omega]
theorem Run_bad (hk : 0 ≤ k ∧ k < n) (h : Run M mi pc n ec s k E X) (hb : ¬ (s k < 0 ∧ nz (X k)) ∧ ¬ ((0 ≤ s k ∧ s k < k) ∧ E (s k) = false ∧ mi (s k) + 2 = mi k ∧ nz (ech ec X (s k) k))) : Bad M mi pc n ec s k := by
  intro s' hs t hc
  rw [h.2.2 s' (fun j h0 h1 => hs j h0 (by omega)) t, Run_at hk, hs k hk.1 (Int.le_refl _)] at hc
  rcases hc with hc | hc
  · exact hb.1 ⟨hc.1, hc.2.1⟩
  · exact hb.2 ⟨hc.1, hc.2.1, hc.2.2.1, hc.2.2.2.1⟩
theorem Run_own (hk : 0 ≤ k ∧ k < n) (h : Run M mi pc n ec s k E X) (h0 : s k < 0) (hz : nz (X k)) : Run M mi pc n ec s (k + 1) E X := by
  refine ⟨fun j h1 h2 => ?_, fun j h1 h2 => h.2.1 j (by omega) h2, fun s' hs t => ?_⟩
  · rw [h.1 j h1 h2]
    constructor
    · exact fun q => ⟨by omega, q.2⟩
    · intro q
      by_cases e : j = k
      · rw [e] at q; omega
      · exact ⟨by omega, q.2⟩
  · rw [h.2.2 s' (fun j h1 h2 => hs j h1 (by omega)) t, Run_at hk, hs k hk.1 (by omega)]
    constructor
    · rintro (q | q)
      · exact q.2.2
      · omega
    · exact fun q => Or.inl ⟨h0, hz, q⟩
theorem Run_echo (hk : 0 ≤ k ∧ k < n) (h : Run M mi pc n ec s k E X) (h0 : 0 ≤ s k ∧ s k < k) (hE : s (s k) < 0) (hm : mi (s k) + 2 = mi k) (hz : nz (ech ec X (s k) k)) : Run M mi pc n ec s (k + 1) (fun j => if j = k then true else E j) (fun j => if j = s k then ech ec X (s k) k else X j) := by
  refine ⟨fun j h1 h2 => ?_, fun j h1 h2 => ?_, fun s' hs t => ?_⟩
  · show (if j = k then true else E j) = true ↔ _
    by_cases e : j = k
    · rw [if_pos e, e]
      exact ⟨fun _ => ⟨by omega, h0.1⟩, fun _ => rfl⟩
    · rw [if_neg e, h.1 j h1 h2]
      exact ⟨fun q => ⟨by omega, q.2⟩, fun q => ⟨by omega, q.2⟩⟩
  · show (if j = s k then ech ec X (s k) k else X j) = M j
    rw [if_neg (by omega)]; exact h.2.1 j (by omega) h2
  · rw [h.2.2 s' (fun j h1 h2 => hs j h1 (by omega)) t, Run_at hk, hs k hk.1 (by omega)]
    have hEf : E (s k) = false := by
      cases he : E (s k) with
      | false => rfl
      | true => have := ((h.1 (s k) h0.1 (by omega)).1 he).2; omega
    constructor
    · rintro (q | q)
      · omega
      · exact q.2.2.2.2
    · exact fun q => Or.inr ⟨h0, hEf, hm, hz, q⟩
theorem Run_end (h : Run M mi pc n ec s n E X) (t : Int) : CSo mi pc n ec s n.toNat (fun _ => false) M t ↔ Can mi pc n E X n.toNat (fun _ _ => false) (fun _ => 0) 0 t := by
  rw [h.2.2 s (fun _ _ _ => rfl) t, show (n - n).toNat = 0 by omega]
  exact Iff.rfl
/-- some state is alive -/
def Alv (mi : Int → Int) (pc n : Int) (E : Int → Bool) (X : Int → Nat → Bool) (f : Int → Int) (b : Int) (r : Nat) : Prop := ∃ j : Int, (0 ≤ j ∧ j < 20000) ∧ f j ≠ 0 ∧ CanK mi pc n E X r (6 * (j / 2500) + b) (j / 50 % 50) (j % 50)
def stt (q x y : Int) : Int := 2500 * q + 50 * (if x < y then x else y) + (if x < y then y else x)
theorem stt_bd {q x y : Int} (hq : 0 ≤ q ∧ q < 8) (hx : 0 ≤ x ∧ x < 50) (hy : 0 ≤ y ∧ y < 50) : 0 ≤ stt q x y ∧ stt q x y < 20000 := by unfold stt; split <;> omega
theorem Alv_put {f : Int → Int} {b q x y : Int} {r : Nat} (hq : 0 ≤ q ∧ q < 8) (hx : 0 ≤ x ∧ x < 50) (hy : 0 ≤ y ∧ y < 50) : Alv mi pc n E X (fun j => if j = stt q x y then 1 else f j) b r ↔ Alv mi pc n E X f b r ∨ CanK mi pc n E X r (6 * q + b) x y := by
  have hb := stt_bd hq hx hy
  have hk : CanK mi pc n E X r (6 * (stt q x y / 2500) + b) (stt q x y / 50 % 50) (stt q x y % 50) ↔ CanK mi pc n E X r (6 * q + b) x y := by
    unfold stt
    by_cases e : x < y
    · rw [if_pos e, if_pos e, show (2500 * q + 50 * x + y) / 2500 = q by omega, show (2500 * q + 50 * x + y) / 50 % 50 = x by omega, show (2500 * q + 50 * x + y) % 50 = y by omega]
    · rw [if_neg e, if_neg e, show (2500 * q + 50 * y + x) / 2500 = q by omega, show (2500 * q + 50 * y + x) / 50 % 50 = y by omega, show (2500 * q + 50 * y + x) % 50 = x by omega]
      exact ⟨CanK_s12, CanK_s12⟩
  constructor
  · rintro ⟨j, hj, hf, hc⟩
    by_cases e : j = stt q x y
    · rw [e] at hc
      exact Or.inr (hk.1 hc)
    · have hf2 : (if j = stt q x y then 1 else f j) ≠ 0 := hf
      rw [if_neg e] at hf2
      exact Or.inl ⟨j, hj, hf2, hc⟩
  · rintro (⟨j, hj, hf, hc⟩ | h)
    · refine ⟨j, hj, ?_, hc⟩
      show (if j = stt q x y then 1 else f j) ≠ 0
      split
      · decide
      · exact hf
    · refine ⟨stt q x y, hb, ?_, hk.2 h⟩
      show (if stt q x y = stt q x y then 1 else f (stt q x y)) ≠ 0
      rw [if_pos rfl]; decide
theorem Alv_congr {f g : Int → Int} {b : Int} {r : Nat} (h : ∀ j : Int, 0 ≤ j → j < 20000 → f j = g j) : Alv mi pc n E X f b r ↔ Alv mi pc n E X g b r :=
  ⟨fun ⟨j, hj, hf, hc⟩ => ⟨j, hj, by rw [← h j hj.1 hj.2]; exact hf, hc⟩, fun ⟨j, hj, hf, hc⟩ => ⟨j, hj, by rw [h j hj.1 hj.2]; exact hf, hc⟩⟩
theorem Alv_0 {f : Int → Int} {b : Int} {r : Nat} (h : ∀ j : Int, 0 ≤ j → j < 20000 → f j = 0) : ¬ Alv mi pc n E X f b r := fun ⟨j, hj, hf, _⟩ => hf (h j hj.1 hj.2)
theorem Alv_echo {f : Int → Int} {b : Int} {r : Nat} (h : E (n - 1 - (r : Int)) = true) : Alv mi pc n E X f b (r + 1) ↔ Alv mi pc n E X f b r := by
  constructor
  · rintro ⟨j, hj, hf, hc⟩
    rcases hc with hc | hc
    · exact ⟨j, hj, hf, hc.2⟩
    · rw [h] at hc; exact absurd hc.1 (by decide)
  · exact fun ⟨j, hj, hf, hc⟩ => ⟨j, hj, hf, Or.inl ⟨h, hc⟩⟩
/-- what one move makes of a state -/
def Mvs (mi : Int → Int) (pc n : Int) (E : Int → Bool) (X : Int → Nat → Bool) (r : Nat) (i k0 c1 c2 q : Int) : Prop := (okc mi pc k0 i q ∧ CanK mi pc n E X r (6 * q + i) c1 c2) ∨ (okc mi pc c1 i q ∧ CanK mi pc n E X r (6 * q + i) k0 c2) ∨ (okc mi pc c2 i q ∧ CanK mi pc n E X r (6 * q + i) c1 k0)
theorem CanK_mv {r : Nat} {i k0 c1 c2 : Int} (hi : i = n - 1 - (r : Int)) (h : E i = false) : CanK mi pc n E X (r + 1) k0 c1 c2 ↔ ∃ q : Nat, q < 8 ∧ X i q = true ∧ Mvs mi pc n E X r i k0 c1 c2 q := by
  subst hi
  constructor
  · rintro (a | ⟨_, q, hq, hX, a⟩)
    · rw [h] at a; exact absurd a.1 (by decide)
    · refine ⟨q, hq, hX, ?_⟩
      rcases a with a | a | a
      · exact Or.inl a
      · exact Or.inr (Or.inl ⟨a.1, CanK_s01 a.2⟩)
      · exact Or.inr (Or.inr ⟨a.1, CanK_s02 a.2⟩)
  · rintro ⟨q, hq, hX, a⟩
    refine Or.inr ⟨h, q, hq, hX, ?_⟩
    rcases a with a | a | a
    · exact Or.inl a
    · exact Or.inr (Or.inl ⟨a.1, CanK_s01 a.2⟩)
    · exact Or.inr (Or.inr ⟨a.1, CanK_s02 a.2⟩)
end MO2
