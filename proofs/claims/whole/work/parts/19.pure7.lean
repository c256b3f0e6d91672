/-! ===== pure: what the pluckers may do ===== -/
theorem up_self (u : zU) (c : Nat) (k : Int) : up u c k (u c k) = u := by
  funext d i
  unfold up
  split
  · next h =>
    split
    · next h2 => rw [h, h2]
    · rfl
  · rfl
/-- some level is left -/
def nz (f : Nat → Bool) : Prop := ∃ q : Nat, q < 8 ∧ f q = true
theorem nz_no {f g : Nat → Bool} (e : f = g) (h : ((bn g 8 : Nat) : Int) = 0) : ¬ nz f := by
  intro hn
  obtain ⟨q, hq, hf⟩ := hn
  have h0 : bn g 8 = 0 := by omega
  have h1 := (bn_zero g 8).1 h0 q hq
  rw [e, h1] at hf
  cases hf
theorem nz_yes {f g : Nat → Bool} (e : f = g) (h : ((bn g 8 : Nat) : Int) ≠ 0) : nz f := by
  by_cases hn : nz f
  · exact hn
  · exfalso
    apply h
    have h0 : bn g 8 = 0 := (bn_zero g 8).2 (fun q hq => by
      cases hg : g q with
      | false => rfl
      | true => exact absurd ⟨q, hq, by rw [e]; exact hg⟩ hn)
    omega
/-- b' is the least of b and what C allows -/
def Bst (b b' : Int) (C : Int → Prop) : Prop := (0 ≤ b' ∧ b' ≤ b) ∧ (b' = b ∨ C b') ∧ ∀ t : Int, C t → b' ≤ t
theorem Bst_none {b : Int} {C : Int → Prop} (hb : 0 ≤ b) (h : ∀ t : Int, C t → b ≤ t) : Bst b b C := ⟨⟨hb, Int.le_refl _⟩, Or.inl rfl, h⟩
theorem Bst_congr {b b' : Int} {C C' : Int → Prop} (h : Bst b b' C) (hc : ∀ t, C t ↔ C' t) : Bst b b' C' := ⟨h.1, h.2.1.imp id (hc _).1, fun t ht => h.2.2 t ((hc t).2 ht)⟩
theorem Bst_trans {b b1 b2 : Int} {C1 C2 C : Int → Prop} (h1 : Bst b b1 C1) (h2 : Bst b1 b2 C2) (hc : ∀ t, C t ↔ C1 t ∨ C2 t) : Bst b b2 C := by
  refine ⟨⟨h2.1.1, Int.le_trans h2.1.2 h1.1.2⟩, ?_, fun t ht => ?_⟩
  · rcases h2.2.1 with e | e
    · rcases h1.2.1 with e1 | e1
      · exact Or.inl (e.trans e1)
      · exact Or.inr ((hc _).2 (Or.inl (by rw [e]; exact e1)))
    · exact Or.inr ((hc _).2 (Or.inr e))
  · rcases (hc t).1 ht with q | q
    · exact Int.le_trans h2.1.2 (h1.2.2 t q)
    · exact h2.2.2 t q
theorem Bst_uniq {b b1 b2 : Int} {C1 C2 : Int → Prop} (h1 : Bst b b1 C1) (h2 : Bst b b2 C2) (hc : ∀ t, C1 t ↔ C2 t) : b1 = b2 := by
  rcases h1.2.1 with e1 | e1 <;> rcases h2.2.1 with e2 | e2
  · rw [e1, e2]
  · have := h1.2.2 _ ((hc _).2 e2); have := h2.1.2; omega
  · have := h2.2.2 _ ((hc _).1 e1); have := h1.1.2; omega
  · have := h1.2.2 _ ((hc _).2 e2); have := h2.2.2 _ ((hc _).1 e1); omega
section PL
variable (mi : Int → Int) (pc n : Int)
/-- the levels that man m may pluck note i from -/
def lvs (X L : Int → Nat → Bool) (T : Int → Int) (i m used : Int) : Nat → Bool := if m = used then X i else fun q => X i q && sprd (L m) (pc * (mi i - T m)) q
/-- t men can pluck the last r notes -/
def Can (E : Int → Bool) (X : Int → Nat → Bool) : Nat → (Int → Nat → Bool) → (Int → Int) → Int → Int → Prop
  | 0, _, _, used, t => t = used
  | r + 1, L, T, used, t => (E (n - 1 - (r : Int)) = true ∧ Can E X r L T used t) ∨ (E (n - 1 - (r : Int)) = false ∧ ∃ m : Int, (0 ≤ m ∧ m ≤ used ∧ m < 3) ∧ nz (lvs mi pc X L T (n - 1 - (r : Int)) m used) ∧ Can E X r (fun j => if j = m then lvs mi pc X L T (n - 1 - (r : Int)) m used else L j) (fun j => if j = m then mi (n - 1 - (r : Int)) else T j) (if m = used then used + 1 else used) t)
/-- man m plucks note i, r notes are left then -/
def Gv (E : Int → Bool) (X : Int → Nat → Bool) (r : Nat) (i : Int) (L : Int → Nat → Bool) (T : Int → Int) (used m t : Int) : Prop := nz (lvs mi pc X L T i m used) ∧ Can mi pc n E X r (fun j => if j = m then lvs mi pc X L T i m used else L j) (fun j => if j = m then mi i else T j) (if m = used then used + 1 else used) t
/-- what is left of note j's levels when i is its echo -/
def ech (ec : Nat → Bool) (X : Int → Nat → Bool) (j i : Int) : Nat → Bool := fun q => (X j q && ec q) && X i q
def CanE (ec : Nat → Bool) : Nat → (Int → Bool) → (Int → Nat → Bool) → Int → Prop
  | 0, E, X, t => Can mi pc n E X n.toNat (fun _ _ => false) (fun _ => 0) 0 t
  | r + 1, E, X, t => CanE ec r E X t ∨ ∃ j : Int, (0 ≤ j ∧ j < n - 1 - (r : Int)) ∧ E j = false ∧ mi j + 2 = mi (n - 1 - (r : Int)) ∧ nz (ech ec X j (n - 1 - (r : Int))) ∧ CanE ec r (fun k => if k = n - 1 - (r : Int) then true else E k) (fun k => if k = j then ech ec X j (n - 1 - (r : Int)) else X k) t
def ChE (ec : Nat → Bool) (r : Nat) (i : Int) (E : Int → Bool) (X : Int → Nat → Bool) (j t : Int) : Prop := nz (ech ec X j i) ∧ CanE mi pc n ec r (fun k => if k = i then true else E k) (fun k => if k = j then ech ec X j i else X k) t
end PL
section PL2
variable {mi : Int → Int} {pc n : Int} {E : Int → Bool} {X L : Int → Nat → Bool} {T : Int → Int} {ec : Nat → Bool}
theorem lvs_new {i m used : Int} (h : m = used) : lvs mi pc X L T i m used = X i := if_pos h
theorem lvs_old {i m used : Int} (h : m ≠ used) : lvs mi pc X L T i m used = fun q => X i q && sprd (L m) (pc * (mi i - T m)) q := if_neg h
theorem Can_ge : ∀ {r : Nat} {L : Int → Nat → Bool} {T : Int → Int} {used t : Int}, Can mi pc n E X r L T used t → used ≤ t
  | 0, _, _, _, _, h => by unfold Can at h; omega
  | r + 1, _, _, _, _, h => by
    unfold Can at h
    rcases h with ⟨_, h⟩ | ⟨_, m, _, _, h⟩
    · exact Can_ge h
    · have := Can_ge h
      split at this <;> omega
theorem Can_echo {r : Nat} {i used : Int} (hi : i = n - 1 - (r : Int)) (h : E i = true) (t : Int) : Can mi pc n E X r L T used t ↔ Can mi pc n E X (r + 1) L T used t := by
  subst hi
  constructor
  · exact fun q => Or.inl ⟨h, q⟩
  · intro q
    rcases q with q | q
    · exact q.2
    · rw [h] at q; exact absurd q.1 (by decide)
theorem Can_give {r : Nat} {i used m : Int} (hi : i = n - 1 - (r : Int)) (h : E i = false) (hm : m ≤ used + 1 ∧ m ≤ 3 ∧ (used < m ∨ 3 ≤ m)) (t : Int) : (∃ k : Int, 0 ≤ k ∧ k < m ∧ Gv mi pc n E X r i L T used k t) ↔ Can mi pc n E X (r + 1) L T used t := by
  subst hi
  constructor
  · rintro ⟨k, h0, h1, h2⟩
    exact Or.inr ⟨h, k, ⟨h0, by omega, by omega⟩, h2.1, h2.2⟩
  · intro q
    rcases q with q | q
    · rw [h] at q; exact absurd q.1 (by decide)
    · obtain ⟨_, k, h1, h2, h3⟩ := q
      exact ⟨k, h1.1, by omega, h2, h3⟩
theorem gv_grow {C : Int → Int → Prop} {m : Int} (hm : 0 ≤ m) (t : Int) : (∃ k : Int, 0 ≤ k ∧ k < m + 1 ∧ C k t) ↔ (∃ k : Int, 0 ≤ k ∧ k < m ∧ C k t) ∨ C m t := by
  constructor
  · rintro ⟨k, h0, h1, h2⟩
    by_cases e : k = m
    · exact Or.inr (by rw [← e]; exact h2)
    · exact Or.inl ⟨k, h0, by omega, h2⟩
  · intro h
    rcases h with ⟨k, h0, h1, h2⟩ | h
    · exact ⟨k, h0, by omega, h2⟩
    · exact ⟨m, hm, by omega, h⟩
theorem Bst_gv0 {b : Int} {C : Int → Int → Prop} (hb : 0 ≤ b) : Bst b b (fun t => ∃ k : Int, 0 ≤ k ∧ k < 0 ∧ C k t) := Bst_none hb (fun t h => by obtain ⟨k, h0, h1, _⟩ := h; omega)
theorem Bst_used {b used : Int} (h0 : 0 ≤ used) (h : used < b) : Bst b used (fun t => Can mi pc n E X 0 L T used t) := ⟨⟨h0, by omega⟩, Or.inr rfl, fun t ht => by have e : t = used := ht; omega⟩
theorem CanE_pos (hn : 1 ≤ n) : ∀ {r : Nat} {E : Int → Bool} {X : Int → Nat → Bool} {t : Int}, (r : Int) ≤ n → E 0 = false → CanE mi pc n ec r E X t → 1 ≤ t
  | 0, E, X, t, _, h0, h => by
    unfold CanE at h
    rw [show n.toNat = (n - 1).toNat + 1 by omega] at h
    unfold Can at h
    rw [show n - 1 - (((n - 1).toNat : Nat) : Int) = 0 by omega] at h
    rcases h with ⟨q, _⟩ | ⟨_, m, hm, _, h⟩
    · rw [h0] at q; cases q
    · have := Can_ge h
      rw [if_pos (by omega)] at this
      omega
  | r + 1, E, X, t, hr, h0, h => by
    unfold CanE at h
    rcases h with h | ⟨j, hj, _, _, _, h⟩
    · exact CanE_pos hn (by omega) h0 h
    · exact CanE_pos hn (by omega) (by show (if (0 : Int) = n - 1 - (r : Int) then true else E 0) = false; rw [if_neg (by omega)]; exact h0) h
theorem CanE_0 {k : Nat} {b b' : Int} (hB : Bst b b' (fun t => Can mi pc n E X k L T 0 t)) (hk : n.toNat = k) (hL : L = fun _ _ => false) (hT : T = fun _ => 0) : Bst b b' (fun t => CanE mi pc n ec 0 E X t) := by
  subst hL hT hk
  exact hB
def ChC (mi : Int → Int) (pc n : Int) (ec : Nat → Bool) (r : Nat) (i : Int) (E : Int → Bool) (X : Int → Nat → Bool) (j t : Int) : Prop := E j = false ∧ mi j + 2 = mi i ∧ ChE mi pc n ec r i E X j t
theorem CanE_end {r : Nat} {i j : Int} (hi : i = n - 1 - (r : Int)) (hj : i ≤ j ∧ j ≤ i) (t : Int) : (CanE mi pc n ec r E X t ∨ ∃ k : Int, 0 ≤ k ∧ k < j ∧ ChC mi pc n ec r i E X k t) ↔ CanE mi pc n ec (r + 1) E X t := by
  subst hi
  constructor
  · intro h
    rcases h with h | ⟨k, h0, h1, h2⟩
    · exact Or.inl h
    · exact Or.inr ⟨k, ⟨h0, by omega⟩, h2.1, h2.2.1, h2.2.2.1, h2.2.2.2⟩
  · intro h
    rcases h with h | ⟨k, h0, h1, h2, h3, h4⟩
    · exact Or.inl h
    · exact Or.inr ⟨k, h0.1, by omega, h1, h2, h3, h4⟩
theorem CanE_prune {r : Nat} {i j b0 b : Int} (hn : 1 ≤ n) (hi : i = n - 1 - (r : Int)) (h0i : 0 ≤ i) (hj : j ≤ i) (h0 : E 0 = false) (hb : b ≤ 1) (h : Bst b0 b (fun t => CanE mi pc n ec r E X t ∨ ∃ k : Int, 0 ≤ k ∧ k < j ∧ ChC mi pc n ec r i E X k t)) : Bst b0 b (fun t => CanE mi pc n ec (r + 1) E X t) := by
  refine ⟨h.1, ?_, fun t ht => ?_⟩
  · rcases h.2.1 with e | e
    · exact Or.inl e
    · right
      rcases e with e | ⟨k, h1, h2, h3⟩
      · exact Or.inl e
      · subst hi
        exact Or.inr ⟨k, ⟨h1, by omega⟩, h3.1, h3.2.1, h3.2.2.1, h3.2.2.2⟩
  · have := CanE_pos hn (r := r + 1) (by omega) h0 ht
    omega
theorem ch_first {r : Nat} {i : Int} (t : Int) : CanE mi pc n ec r E X t ↔ (CanE mi pc n ec r E X t ∨ ∃ k : Int, 0 ≤ k ∧ k < 0 ∧ ChC mi pc n ec r i E X k t) := ⟨Or.inl, fun h => h.elim id (fun ⟨k, h0, h1, _⟩ => absurd h1 (by omega))⟩
theorem ch_skip {r : Nat} {i j b b' : Int} (hj : 0 ≤ j) (hno : ¬ (E j = false ∧ mi j + 2 = mi i)) (h : Bst b b' (fun t => CanE mi pc n ec r E X t ∨ ∃ k : Int, 0 ≤ k ∧ k < j ∧ ChC mi pc n ec r i E X k t)) : Bst b b' (fun t => CanE mi pc n ec r E X t ∨ ∃ k : Int, 0 ≤ k ∧ k < j + 1 ∧ ChC mi pc n ec r i E X k t) := by
  refine Bst_congr h (fun t => or_congr Iff.rfl ⟨fun ⟨k, h0, h1, h2⟩ => ⟨k, h0, by omega, h2⟩, fun ⟨k, h0, h1, h2⟩ => ?_⟩)
  by_cases e : k = j
  · exact absurd ⟨by rw [← e]; exact h2.1, by rw [← e]; exact h2.2.1⟩ hno
  · exact ⟨k, h0, by omega, h2⟩
theorem ch_take {r : Nat} {i j b b1 b' : Int} (hj : 0 ≤ j) (hE : E j = false) (hm : mi j + 2 = mi i) (h : Bst b b1 (fun t => CanE mi pc n ec r E X t ∨ ∃ k : Int, 0 ≤ k ∧ k < j ∧ ChC mi pc n ec r i E X k t)) (h2 : Bst b1 b' (fun t => ChE mi pc n ec r i E X j t)) : Bst b b' (fun t => CanE mi pc n ec r E X t ∨ ∃ k : Int, 0 ≤ k ∧ k < j + 1 ∧ ChC mi pc n ec r i E X k t) := by
  refine Bst_trans h h2 (fun t => ?_)
  rw [gv_grow (C := fun k t => ChC mi pc n ec r i E X k t) hj t, or_assoc]
  exact or_congr Iff.rfl (or_congr Iff.rfl ⟨fun q => q.2.2, fun q => ⟨hE, hm, q⟩⟩)
end PL2
/-- what the walks keep -/
def PQ (n pc : Int) (mi : Int → Int) : Prop := (1 ≤ n ∧ n ≤ 6) ∧ (1 ≤ pc ∧ pc ≤ 4) ∧ (∀ i : Int, 0 ≤ i → i < 6 → 0 ≤ mi i ∧ mi i ≤ 99) ∧ ∀ i j : Int, 0 ≤ i → i ≤ j → j < n → mi i ≤ mi j
theorem pl_pc {pc d : Int} (hp : 1 ≤ pc ∧ pc ≤ 4) (hd : 0 ≤ d ∧ d ≤ 99) : 0 ≤ pc * d ∧ pc * d ≤ 396 := by
  rcases (by omega : pc = 1 ∨ pc = 2 ∨ pc = 3 ∨ pc = 4) with rfl | rfl | rfl | rfl <;> omega
theorem pl_rest (u : zU) (m x y b : Int) : up (up (up (up (up u 44 m x) 45 m y) 41 8 b) 44 m (u 44 m)) 45 m (u 45 m) = up u 41 8 b := by
  funext d i
  unfold up
  by_cases h4 : d = 44
  · subst h4
    by_cases hi : i = m
    · subst hi; simp
    · simp [hi]
  · by_cases h5 : d = 45
    · subst h5
      by_cases hi : i = m
      · subst hi; simp
      · simp [hi]
    · simp [h4, h5]
theorem pl_rest2 (u : zU) (j x : Int) : up (up u 42 j x) 42 j (u 42 j) = up u 41 8 (u 41 8) := by
  rw [up_self]
  funext d i
  unfold up
  by_cases h4 : d = 42
  · subst h4
    by_cases hi : i = j
    · subst hi; simp
    · simp [hi]
  · simp [h4]
theorem pl_rest3 (u : zU) {i : Int} (j x b : Int) (h : u 43 i = 0) : up (up (up (up (up u 42 j x) 43 i 1) 41 8 b) 43 i 0) 42 j (u 42 j) = up u 41 8 b := by
  funext d k
  unfold up
  by_cases h4 : d = 42
  · subst h4
    by_cases hi : k = j
    · subst hi; simp
    · simp [hi]
  · by_cases h5 : d = 43
    · subst h5
      by_cases hi : k = i
      · subst hi; simp [h]
      · simp [hi]
    · simp [h4, h5]
theorem pl_hL {u : zU} {L : Int → Nat → Bool} {g g' : Nat → Bool} {m used used' w : Int} (h : ∀ j : Int, 0 ≤ j → j < used → u 44 j = ((bn (L j) 8 : Nat) : Int)) (hu : used' ≤ used ∨ (used' = used + 1 ∧ m = used)) (hg : g = g') : ∀ j : Int, 0 ≤ j → j < used' → up (up u 44 m ((bn g' 8 : Nat) : Int)) 45 m w 44 j = ((bn ((fun j => if j = m then g else L j) j) 8 : Nat) : Int) := by
  intro j h0 h1
  show (if j = m then ((bn g' 8 : Nat) : Int) else u 44 j) = ((bn (if j = m then g else L j) 8 : Nat) : Int)
  by_cases e : j = m
  · rw [if_pos e, if_pos e, hg]
  · rw [if_neg e, if_neg e]; exact h j h0 (by omega)
theorem pl_hT {u : zU} {T : Int → Int} {m used used' v i n : Int} (hi : 0 ≤ i) (hw : 0 ≤ u 20 i) (hmo : ∀ i j : Int, 0 ≤ i → i ≤ j → j < n → u 20 i ≤ u 20 j) (h : ∀ j : Int, 0 ≤ j → j < used → u 45 j = T j ∧ 0 ≤ T j ∧ ∀ k : Int, i ≤ k → k < n → T j ≤ u 20 k) (hu : used' ≤ used ∨ (used' = used + 1 ∧ m = used)) : ∀ j : Int, 0 ≤ j → j < used' → up (up u 44 m v) 45 m (u 20 i) 45 j = (fun j => if j = m then u 20 i else T j) j ∧ 0 ≤ (fun j => if j = m then u 20 i else T j) j ∧ ∀ k : Int, i + 1 ≤ k → k < n → (fun j => if j = m then u 20 i else T j) j ≤ u 20 k := by
  intro j h0 h1
  show (if j = m then u 20 i else u 45 j) = (if j = m then u 20 i else T j) ∧ 0 ≤ (if j = m then u 20 i else T j) ∧ ∀ k : Int, i + 1 ≤ k → k < n → (if j = m then u 20 i else T j) ≤ u 20 k
  by_cases e : j = m
  · rw [if_pos e, if_pos e]; exact ⟨rfl, hw, fun k h2 h3 => hmo i k hi (by omega) h3⟩
  · rw [if_neg e, if_neg e]
    have q := h j h0 (by omega)
    exact ⟨q.1, q.2.1, fun k h2 h3 => q.2.2 k (by omega) h3⟩
theorem pl_hX {u : zU} {X : Int → Nat → Bool} {g : Nat → Bool} {j n i : Int} (h : ∀ k : Int, 0 ≤ k → k < n → u 42 k = ((bn (X k) 8 : Nat) : Int)) : ∀ k : Int, 0 ≤ k → k < n → up (up u 42 j ((bn g 8 : Nat) : Int)) 43 i 1 42 k = ((bn ((fun k => if k = j then g else X k) k) 8 : Nat) : Int) := by
  intro k h0 h1
  show (if k = j then ((bn g 8 : Nat) : Int) else u 42 k) = ((bn (if k = j then g else X k) 8 : Nat) : Int)
  by_cases e : k = j
  · rw [if_pos e, if_pos e]
  · rw [if_neg e, if_neg e]; exact h k h0 h1
theorem pl_hE {u : zU} {E : Int → Bool} {v j n i : Int} (h : ∀ k : Int, 0 ≤ k → k < n → u 43 k = if E k = true then 1 else 0) : ∀ k : Int, 0 ≤ k → k < n → up (up u 42 j v) 43 i 1 43 k = if (fun k => if k = i then true else E k) k = true then 1 else 0 := by
  intro k h0 h1
  show (if k = i then (1 : Int) else u 43 k) = if (if k = i then true else E k) = true then 1 else 0
  by_cases e : k = i
  · rw [if_pos e, if_pos e]; rfl
  · rw [if_neg e, if_neg e]; exact h k h0 h1
/-- the class's: who may pluck what -/
def plM (u : zU) (k : Int) (q : Nat) : Bool := alw (u 18) (u 17 6) (u 3 6) (u 3 4) (u 21 k) q
def plE (u : zU) (q : Nat) : Bool := decide ((q : Int) < u 3 4) && decide (u 6 q = 1)
def PlC (u : zU) (t : Int) : Prop := (∀ k : Int, 0 ≤ k → k < u 17 8 → nz (plM u k)) ∧ CanE (u 20) (u 3 8) (u 17 8) (plE u) (u 17 8).toNat (fun _ => false) (plM u) t
theorem plE_bn {u : zU} (h : 0 ≤ u 3 4 ∧ u 3 4 ≤ 8) : bn (fun q => decide (u 6 q = 1)) (u 3 4).toNat = bn (plE u) 8 := by
  rw [bn_more (f := plE u) (m := (u 3 4).toNat) (n := 8) (by omega) (fun i h1 h2 => by unfold plE; rw [decide_eq_false (by omega)]; rfl)]
  exact bn_congr (fun i hi => by unfold plE; rw [decide_eq_true (show (i : Int) < u 3 4 by omega)]; rfl)
theorem up_at (u : zU) (c : Nat) (k v : Int) : up u c k v c k = v := by unfold up; rw [if_pos rfl, if_pos rfl]
