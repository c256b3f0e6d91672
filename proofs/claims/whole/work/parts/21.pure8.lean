/-! ===== pure: the reference's men ===== -/
section MN
variable (mi : Int → Int) (pc n : Int)
/-- a man whose code is k can pluck note i from level q: 48 has not plucked yet, 49 is nobody -/
def okc (k i q : Int) : Prop := k = 48 ∨ (k < 48 ∧ k / 6 - q ≤ pc * (mi i - mi (k % 6)) ∧ q - k / 6 ≤ pc * (mi i - mi (k % 6)))
def CanK (E : Int → Bool) (X : Int → Nat → Bool) : Nat → Int → Int → Int → Prop
  | 0, _, _, _ => True
  | r + 1, k0, k1, k2 => (E (n - 1 - (r : Int)) = true ∧ CanK E X r k0 k1 k2) ∨ (E (n - 1 - (r : Int)) = false ∧ ∃ q : Nat, q < 8 ∧ X (n - 1 - (r : Int)) q = true ∧ ((okc mi pc k0 (n - 1 - (r : Int)) q ∧ CanK E X r (6 * (q : Int) + (n - 1 - (r : Int))) k1 k2) ∨ (okc mi pc k1 (n - 1 - (r : Int)) q ∧ CanK E X r k0 (6 * (q : Int) + (n - 1 - (r : Int))) k2) ∨ (okc mi pc k2 (n - 1 - (r : Int)) q ∧ CanK E X r k0 k1 (6 * (q : Int) + (n - 1 - (r : Int))))))
end MN
section MN2
variable {mi : Int → Int} {pc n : Int} {E : Int → Bool} {X : Int → Nat → Bool}
theorem CanK_s01 : ∀ {r : Nat} {k0 k1 k2 : Int}, CanK mi pc n E X r k0 k1 k2 → CanK mi pc n E X r k1 k0 k2
  | 0, _, _, _, _ => trivial
  | r + 1, k0, k1, k2, h => by
    rcases h with ⟨a, b⟩ | ⟨a, q, hq, hX, h⟩
    · exact Or.inl ⟨a, CanK_s01 b⟩
    · refine Or.inr ⟨a, q, hq, hX, ?_⟩
      rcases h with ⟨b, c⟩ | ⟨b, c⟩ | ⟨b, c⟩
      · exact Or.inr (Or.inl ⟨b, CanK_s01 c⟩)
      · exact Or.inl ⟨b, CanK_s01 c⟩
      · exact Or.inr (Or.inr ⟨b, CanK_s01 c⟩)
theorem CanK_s12 : ∀ {r : Nat} {k0 k1 k2 : Int}, CanK mi pc n E X r k0 k1 k2 → CanK mi pc n E X r k0 k2 k1
  | 0, _, _, _, _ => trivial
  | r + 1, k0, k1, k2, h => by
    rcases h with ⟨a, b⟩ | ⟨a, q, hq, hX, h⟩
    · exact Or.inl ⟨a, CanK_s12 b⟩
    · refine Or.inr ⟨a, q, hq, hX, ?_⟩
      rcases h with ⟨b, c⟩ | ⟨b, c⟩ | ⟨b, c⟩
      · exact Or.inl ⟨b, CanK_s12 c⟩
      · exact Or.inr (Or.inr ⟨b, CanK_s12 c⟩)
      · exact Or.inr (Or.inl ⟨b, CanK_s12 c⟩)
theorem CanK_s02 {r : Nat} {k0 k1 k2 : Int} (h : CanK mi pc n E X r k0 k1 k2) : CanK mi pc n E X r k2 k1 k0 := CanK_s01 (CanK_s12 (CanK_s01 h))
/-- a man's code -/
def cde (lim used : Int) (p tn : Int → Int) (j : Int) : Int := if j < used then 6 * p j + tn j else if j < lim then 48 else 49
/-- the levels may be chosen one by one -/
theorem sprd_ex {f : Nat → Bool} {s : Int} {q : Nat} : sprd f s q = true ↔ ∃ j : Nat, j < 8 ∧ f j = true ∧ near s j q = true := by
  unfold sprd
  exact decide_eq_true_iff
theorem near_iff {d i j : Int} : near d i j = true ↔ (i - j ≤ d ∧ j - i ≤ d) := by
  unfold near
  exact decide_eq_true_iff
theorem ite_self_at {α : Type} (j m : Int) (p : Int → α) : (if j = m then p m else p j) = p j := by
  split
  · next h => rw [h]
  · rfl
/-- what the class plans, level by level -/
def CanP (mi : Int → Int) (pc n : Int) (E : Int → Bool) (X : Int → Nat → Bool) : Nat → (Int → Nat) → (Int → Int) → Int → Int → Prop
  | 0, _, _, used, t => t = used
  | r + 1, p, tn, used, t => (E (n - 1 - (r : Int)) = true ∧ CanP mi pc n E X r p tn used t) ∨ (E (n - 1 - (r : Int)) = false ∧ ∃ m : Int, (0 ≤ m ∧ m ≤ used ∧ m < 3) ∧ ∃ q : Nat, q < 8 ∧ X (n - 1 - (r : Int)) q = true ∧ (m = used ∨ near (pc * (mi (n - 1 - (r : Int)) - mi (tn m))) (p m) q = true) ∧ CanP mi pc n E X r (fun j => if j = m then q else p j) (fun j => if j = m then n - 1 - (r : Int) else tn j) (if m = used then used + 1 else used) t)
theorem CanP_of : ∀ {r : Nat} {L : Int → Nat → Bool} {T tn : Int → Int} {used t : Int}, (∀ j : Int, 0 ≤ j → j < used → T j = mi (tn j)) → (∀ j : Int, 0 ≤ j → j < used → nz (L j)) → Can mi pc n E X r L T used t → ∃ p : Int → Nat, (∀ j : Int, 0 ≤ j → j < used → p j < 8 ∧ L j (p j) = true) ∧ CanP mi pc n E X r p tn used t
  | 0, L, T, tn, used, t, hT, hL, h => by
    refine ⟨fun j => if h : 0 ≤ j ∧ j < used then (hL j h.1 h.2).choose else 0, fun j h0 h1 => ?_, h⟩
    show (if h : 0 ≤ j ∧ j < used then (hL j h.1 h.2).choose else 0) < 8 ∧ L j (if h : 0 ≤ j ∧ j < used then (hL j h.1 h.2).choose else 0) = true
    rw [dif_pos ⟨h0, h1⟩]
    exact (hL j h0 h1).choose_spec
  | r + 1, L, T, tn, used, t, hT, hL, h => by
    rcases h with ⟨a, b⟩ | ⟨a, m, hm, hz, b⟩
    · obtain ⟨p, hp, h2⟩ := CanP_of hT hL b
      exact ⟨p, hp, Or.inl ⟨a, h2⟩⟩
    · have hT2 : ∀ j : Int, 0 ≤ j → j < (if m = used then used + 1 else used) → (fun j => if j = m then mi (n - 1 - (r : Int)) else T j) j = mi ((fun j => if j = m then n - 1 - (r : Int) else tn j) j) := by
        intro j h0 h1
        show (if j = m then mi (n - 1 - (r : Int)) else T j) = mi (if j = m then n - 1 - (r : Int) else tn j)
        by_cases e : j = m
        · rw [if_pos e, if_pos e]
        · rw [if_neg e, if_neg e]; exact hT j h0 (by split at h1 <;> omega)
      have hL2 : ∀ j : Int, 0 ≤ j → j < (if m = used then used + 1 else used) → nz ((fun j => if j = m then lvs mi pc X L T (n - 1 - (r : Int)) m used else L j) j) := by
        intro j h0 h1
        show nz (if j = m then lvs mi pc X L T (n - 1 - (r : Int)) m used else L j)
        by_cases e : j = m
        · rw [if_pos e]; exact hz
        · rw [if_neg e]; exact hL j h0 (by split at h1 <;> omega)
      obtain ⟨p, hp, h2⟩ := CanP_of hT2 hL2 b
      have hpm : p m < 8 ∧ (if m = m then lvs mi pc X L T (n - 1 - (r : Int)) m used else L m) (p m) = true := hp m hm.1 (by split <;> omega)
      rw [if_pos rfl] at hpm
      by_cases e : m = used
      · rw [lvs_new e] at hpm
        refine ⟨p, fun j h0 h1 => ?_, Or.inr ⟨a, m, hm, p m, hpm.1, hpm.2, Or.inl e, ?_⟩⟩
        · have q : p j < 8 ∧ (if j = m then lvs mi pc X L T (n - 1 - (r : Int)) m used else L j) (p j) = true := hp j h0 (by split <;> omega)
          rw [if_neg (by omega)] at q
          exact q
        · rw [show (fun j => if j = m then p m else p j) = p from funext fun j => ite_self_at j m p]
          exact h2
      · rw [lvs_old e] at hpm
        have hx : X (n - 1 - (r : Int)) (p m) = true ∧ sprd (L m) (pc * (mi (n - 1 - (r : Int)) - T m)) (p m) = true := by
          have := hpm.2
          rwa [Bool.and_eq_true] at this
        obtain ⟨l, hl, hLl, hnr⟩ := sprd_ex.1 hx.2
        refine ⟨fun j => if j = m then l else p j, fun j h0 h1 => ?_, Or.inr ⟨a, m, hm, p m, hpm.1, hx.1, Or.inr ?_, ?_⟩⟩
        · show (if j = m then l else p j) < 8 ∧ L j (if j = m then l else p j) = true
          by_cases e2 : j = m
          · rw [if_pos e2, e2]; exact ⟨hl, hLl⟩
          · rw [if_neg e2]
            have q : p j < 8 ∧ (if j = m then lvs mi pc X L T (n - 1 - (r : Int)) m used else L j) (p j) = true := hp j h0 (by split <;> omega)
            rw [if_neg e2] at q
            exact q
        · show near (pc * (mi (n - 1 - (r : Int)) - mi (tn m))) ((if m = m then l else p m : Nat) : Int) (p m) = true
          rw [if_pos rfl, ← hT m hm.1 (by omega)]
          exact hnr
        · rw [show (fun j => if j = m then p m else (fun j => if j = m then l else p j) j) = p from funext fun j => by
            show (if j = m then p m else if j = m then l else p j) = p j
            split
            · next h => rw [h]
            · rfl]
          exact h2
theorem Can_of : ∀ {r : Nat} {L : Int → Nat → Bool} {T tn : Int → Int} {p : Int → Nat} {used t : Int}, (∀ j : Int, 0 ≤ j → j < used → T j = mi (tn j)) → (∀ j : Int, 0 ≤ j → j < used → p j < 8 ∧ L j (p j) = true) → CanP mi pc n E X r p tn used t → Can mi pc n E X r L T used t
  | 0, L, T, tn, p, used, t, hT, hp, h => h
  | r + 1, L, T, tn, p, used, t, hT, hp, h => by
    rcases h with ⟨a, b⟩ | ⟨a, m, hm, q, hq, hX, hn, b⟩
    · exact Or.inl ⟨a, Can_of hT hp b⟩
    · have hlv : lvs mi pc X L T (n - 1 - (r : Int)) m used q = true := by
        by_cases e : m = used
        · rw [lvs_new e]; exact hX
        · rw [lvs_old e, Bool.and_eq_true]
          refine ⟨hX, sprd_ex.2 ⟨p m, (hp m hm.1 (by omega)).1, (hp m hm.1 (by omega)).2, ?_⟩⟩
          rw [hT m hm.1 (by omega)]
          rcases hn with h | h
          · exact absurd h e
          · exact h
      refine Or.inr ⟨a, m, hm, ⟨q, hq, hlv⟩, Can_of (tn := fun j => if j = m then n - 1 - (r : Int) else tn j) (fun j h0 h1 => ?_) (fun j h0 h1 => ?_) b⟩
      · show (if j = m then mi (n - 1 - (r : Int)) else T j) = mi (if j = m then n - 1 - (r : Int) else tn j)
        by_cases e : j = m
        · rw [if_pos e, if_pos e]
        · rw [if_neg e, if_neg e]; exact hT j h0 (by split at h1 <;> omega)
      · show (if j = m then q else p j) < 8 ∧ (if j = m then lvs mi pc X L T (n - 1 - (r : Int)) m used else L j) (if j = m then q else p j) = true
        by_cases e : j = m
        · rw [if_pos e, if_pos e]; exact ⟨hq, hlv⟩
        · rw [if_neg e, if_neg e]; exact hp j h0 (by split at h1 <;> omega)
/-- and so with the men's codes -/
theorem okc_of {p tn : Int → Int} {i m : Int} {q : Nat} (hp : 0 ≤ p m ∧ p m < 8) (ht : 0 ≤ tn m ∧ tn m < 6) : okc mi pc (6 * p m + tn m) i q ↔ near (pc * (mi i - mi (tn m))) (p m) q = true := by
  rw [near_iff]
  unfold okc
  rw [show (6 * p m + tn m) / 6 = p m by omega, show (6 * p m + tn m) % 6 = tn m by omega]
  constructor
  · rintro (h | h)
    · omega
    · exact h.2
  · exact fun h => Or.inr ⟨by omega, h⟩
theorem CanP_ge : ∀ {r : Nat} {p : Int → Nat} {tn : Int → Int} {used t : Int}, CanP mi pc n E X r p tn used t → used ≤ t
  | 0, _, _, _, _, h => by unfold CanP at h; omega
  | r + 1, _, _, _, _, h => by
    rcases h with ⟨_, h⟩ | ⟨_, m, _, q, _, _, _, h⟩
    · exact CanP_ge h
    · have := CanP_ge h
      split at this <;> omega
def CanS (mi : Int → Int) (pc n : Int) (E : Int → Bool) (X : Int → Nat → Bool) (r : Nat) (K : Int → Int) : Prop := CanK mi pc n E X r (K 0) (K 1) (K 2)
theorem CanS_congr {r : Nat} {K K' : Int → Int} (h : ∀ j : Int, 0 ≤ j → j < 3 → K j = K' j) (hc : CanS mi pc n E X r K) : CanS mi pc n E X r K' := by
  unfold CanS at hc ⊢
  rw [← h 0 (by omega) (by omega), ← h 1 (by omega) (by omega), ← h 2 (by omega) (by omega)]
  exact hc
theorem CanS_swap {r : Nat} {K : Int → Int} {v j u : Int} (hj : 0 ≤ j ∧ j < 3) (hu : 0 ≤ u ∧ u < 3) (e : K j = K u) (h : CanS mi pc n E X r (fun x => if x = j then v else K x)) : CanS mi pc n E X r (fun x => if x = u then v else K x) := by
  unfold CanS at h ⊢
  rcases (by omega : j = 0 ∨ j = 1 ∨ j = 2) with rfl | rfl | rfl <;> rcases (by omega : u = 0 ∨ u = 1 ∨ u = 2) with rfl | rfl | rfl <;> simp at h e ⊢
  · exact h
  · rw [e]; exact CanK_s01 h
  · rw [e]; exact CanK_s02 h
  · rw [e]; exact CanK_s01 h
  · exact h
  · rw [e]; exact CanK_s12 h
  · rw [e]; exact CanK_s02 h
  · rw [e]; exact CanK_s12 h
  · exact h
theorem CanS_step {r : Nat} {K : Int → Int} : CanS mi pc n E X (r + 1) K ↔ (E (n - 1 - (r : Int)) = true ∧ CanS mi pc n E X r K) ∨ (E (n - 1 - (r : Int)) = false ∧ ∃ q : Nat, q < 8 ∧ X (n - 1 - (r : Int)) q = true ∧ ∃ j : Int, (0 ≤ j ∧ j < 3) ∧ okc mi pc (K j) (n - 1 - (r : Int)) q ∧ CanS mi pc n E X r (fun x => if x = j then 6 * (q : Int) + (n - 1 - (r : Int)) else K x)) := by
  constructor
  · intro h
    rcases h with h | ⟨a, q, hq, hX, h⟩
    · exact Or.inl h
    · refine Or.inr ⟨a, q, hq, hX, ?_⟩
      rcases h with h | h | h
      · exact ⟨0, by omega, h⟩
      · exact ⟨1, by omega, h⟩
      · exact ⟨2, by omega, h⟩
  · intro h
    rcases h with h | ⟨a, q, hq, hX, j, hj, h⟩
    · exact Or.inl h
    · refine Or.inr ⟨a, q, hq, hX, ?_⟩
      rcases (by omega : j = 0 ∨ j = 1 ∨ j = 2) with rfl | rfl | rfl
      · exact Or.inl h
      · exact Or.inr (Or.inl h)
      · exact Or.inr (Or.inr h)
theorem cde_put {lim used m : Int} {p tn : Int → Int} {q i : Int} (hm : 0 ≤ m ∧ m ≤ used) (j : Int) : (if j = m then 6 * q + i else cde lim used p tn j) = cde lim (if m = used then used + 1 else used) (fun j => if j = m then q else p j) (fun j => if j = m then i else tn j) j := by
  show _ = if j < (if m = used then used + 1 else used) then 6 * (if j = m then q else p j) + (if j = m then i else tn j) else if j < lim then 48 else 49
  unfold cde
  by_cases e : j = m
  · rw [if_pos e, if_pos (show j < (if m = used then used + 1 else used) by split <;> omega), if_pos e, if_pos e]
  · rw [if_neg e, if_neg e, if_neg e]
    by_cases h1 : j < used
    · rw [if_pos h1, if_pos (by split <;> omega)]
    · rw [if_neg h1, if_neg (show ¬ j < (if m = used then used + 1 else used) by split <;> omega)]
theorem CanK_of {lim : Int} (hn : n ≤ 6) : ∀ {r : Nat} {p : Int → Nat} {tn : Int → Int} {used t : Int}, (r : Int) ≤ n → t ≤ lim → (∀ j : Int, 0 ≤ j → j < used → p j < 8 ∧ 0 ≤ tn j ∧ tn j < 6) → CanP mi pc n E X r p tn used t → CanS mi pc n E X r (cde lim used (fun j => (p j : Int)) tn)
  | 0, _, _, _, _, _, _, _, _ => trivial
  | r + 1, p, tn, used, t, hr, ht, hp, h => by
    rw [CanS_step]
    rcases h with ⟨a, b⟩ | ⟨a, m, hm, q, hq, hX, hnr, b⟩
    · exact Or.inl ⟨a, CanK_of hn (by omega) ht hp b⟩
    · have hge := CanP_ge b
      have hp2 : ∀ j : Int, 0 ≤ j → j < (if m = used then used + 1 else used) → (fun j => if j = m then q else p j) j < 8 ∧ 0 ≤ (fun j => if j = m then n - 1 - (r : Int) else tn j) j ∧ (fun j => if j = m then n - 1 - (r : Int) else tn j) j < 6 := by
        intro j h0 h1
        show (if j = m then q else p j) < 8 ∧ 0 ≤ (if j = m then n - 1 - (r : Int) else tn j) ∧ (if j = m then n - 1 - (r : Int) else tn j) < 6
        by_cases e : j = m
        · rw [if_pos e, if_pos e]; omega
        · rw [if_neg e, if_neg e]; exact hp j h0 (by split at h1 <;> omega)
      have ih := CanK_of (lim := lim) hn (by omega) ht hp2 b
      refine Or.inr ⟨a, q, hq, hX, m, by omega, ?_, CanS_congr (fun j h0 h1 => ?_) ih⟩
      · unfold cde
        by_cases e : m = used
        · rw [if_neg (by omega), if_pos (by rw [if_pos e] at hge; omega)]
          exact Or.inl rfl
        · rw [if_pos (by omega)]
          have q1 := hp m hm.1 (by omega)
          exact (okc_of (p := fun j => (p j : Int)) (by show 0 ≤ (p m : Int) ∧ (p m : Int) < 8; omega) q1.2).2 (hnr.resolve_left e)
      · rw [cde_put (p := fun j => (p j : Int)) ⟨hm.1, hm.2.1⟩ j]
        congr 1
        funext j
        show ((if j = m then q else p j : Nat) : Int) = if j = m then (q : Int) else (p j : Int)
        split <;> rfl
theorem CanP_ex {lim : Int} (hn : n ≤ 6) (hl : lim ≤ 3) : ∀ {r : Nat} {p : Int → Nat} {tn : Int → Int} {used : Int}, (r : Int) ≤ n → 0 ≤ used → used ≤ lim → (∀ j : Int, 0 ≤ j → j < used → p j < 8 ∧ 0 ≤ tn j ∧ tn j < 6) → CanS mi pc n E X r (cde lim used (fun j => (p j : Int)) tn) → ∃ t : Int, t ≤ lim ∧ CanP mi pc n E X r p tn used t
  | 0, _, _, used, _, _, hu, _, _ => ⟨used, hu, rfl⟩
  | r + 1, p, tn, used, hr, h0u, hu, hp, h => by
    rw [CanS_step] at h
    rcases h with ⟨a, b⟩ | ⟨a, q, hq, hX, j, hj, hok, b⟩
    · obtain ⟨t, ht, hc⟩ := CanP_ex hn hl (by omega) h0u hu hp b
      exact ⟨t, ht, Or.inl ⟨a, hc⟩⟩
    · have key : ∀ m : Int, 0 ≤ m → m ≤ used → m < lim → (m = used ∨ near (pc * (mi (n - 1 - (r : Int)) - mi (tn m))) (p m) q = true) → CanS mi pc n E X r (fun x => if x = m then 6 * (q : Int) + (n - 1 - (r : Int)) else cde lim used (fun j => (p j : Int)) tn x) → ∃ t : Int, t ≤ lim ∧ CanP mi pc n E X (r + 1) p tn used t := by
        intro m h0 h1 h2 h3 h4
        have hp2 : ∀ j : Int, 0 ≤ j → j < (if m = used then used + 1 else used) → (fun j => if j = m then q else p j) j < 8 ∧ 0 ≤ (fun j => if j = m then n - 1 - (r : Int) else tn j) j ∧ (fun j => if j = m then n - 1 - (r : Int) else tn j) j < 6 := by
          intro j h0 h1
          show (if j = m then q else p j) < 8 ∧ 0 ≤ (if j = m then n - 1 - (r : Int) else tn j) ∧ (if j = m then n - 1 - (r : Int) else tn j) < 6
          by_cases e : j = m
          · rw [if_pos e, if_pos e]; omega
          · rw [if_neg e, if_neg e]; exact hp j h0 (by split at h1 <;> omega)
        have h5 : CanS mi pc n E X r (cde lim (if m = used then used + 1 else used) (fun j => (((fun j => if j = m then q else p j) j : Nat) : Int)) (fun j => if j = m then n - 1 - (r : Int) else tn j)) := by
          refine CanS_congr (fun j _ _ => ?_) h4
          rw [cde_put (p := fun j => (p j : Int)) ⟨h0, h1⟩ j]
          congr 1
          funext j
          show (if j = m then (q : Int) else (p j : Int)) = ((if j = m then q else p j : Nat) : Int)
          split <;> rfl
        obtain ⟨t, ht, hc⟩ := CanP_ex (lim := lim) hn hl (by omega) (by split <;> omega) (by split <;> omega) hp2 h5
        exact ⟨t, ht, Or.inr ⟨a, m, ⟨h0, h1, by omega⟩, q, hq, hX, h3, hc⟩⟩
      by_cases e1 : j < used
      · have q1 := hp j hj.1 e1
        refine key j hj.1 (by omega) (by omega) (Or.inr ?_) b
        have e2 : cde lim used (fun j => (p j : Int)) tn j = 6 * (p j : Int) + tn j := if_pos e1
        rw [e2] at hok
        exact (okc_of (p := fun j => (p j : Int)) (by show 0 ≤ (p j : Int) ∧ (p j : Int) < 8; omega) q1.2).1 hok
      · by_cases e2 : j < lim
        · have c1 : cde lim used (fun j => (p j : Int)) tn j = 48 := by unfold cde; rw [if_neg e1, if_pos e2]
          have c2 : cde lim used (fun j => (p j : Int)) tn used = 48 := by unfold cde; rw [if_neg (by omega), if_pos (by omega)]
          exact key used h0u (Int.le_refl _) (by omega) (Or.inl rfl) (CanS_swap hj ⟨h0u, by omega⟩ (c1.trans c2.symm) b)
        · have c1 : cde lim used (fun j => (p j : Int)) tn j = 49 := by unfold cde; rw [if_neg e1, if_neg e2]
          rw [c1] at hok
          unfold okc at hok
          omega
/-- lim men can do it -/
def St (mi : Int → Int) (pc n : Int) (E : Int → Bool) (X : Int → Nat → Bool) (lim : Int) : Prop := CanK mi pc n E X n.toNat 48 (if 1 < lim then 48 else 49) (if 2 < lim then 48 else 49)
theorem cde_0 (lim : Int) (hl : 1 ≤ lim) (p tn : Int → Int) : cde lim 0 p tn 0 = 48 ∧ cde lim 0 p tn 1 = (if 1 < lim then 48 else 49) ∧ cde lim 0 p tn 2 = (if 2 < lim then 48 else 49) := by
  refine ⟨?_, ?_, ?_⟩
  · unfold cde; rw [if_neg (by omega), if_pos (by omega)]
  · unfold cde; rw [if_neg (by omega)]
  · unfold cde; rw [if_neg (by omega)]
theorem St_iff {L : Int → Nat → Bool} {T : Int → Int} {lim : Int} (hn : 0 ≤ n ∧ n ≤ 6) (hl : 1 ≤ lim ∧ lim ≤ 3) : St mi pc n E X lim ↔ ∃ t : Int, t ≤ lim ∧ Can mi pc n E X n.toNat L T 0 t := by
  have hv : ∀ j : Int, 0 ≤ j → j < 0 → False := fun j h0 h1 => by omega
  have e := cde_0 lim hl.1 (fun j => (((fun _ => 0 : Int → Nat) j : Nat) : Int)) (fun _ => 0)
  constructor
  · intro h
    have h2 : CanS mi pc n E X n.toNat (cde lim 0 (fun j => (((fun _ => 0 : Int → Nat) j : Nat) : Int)) (fun _ => 0)) := by
      unfold CanS
      rw [e.1, e.2.1, e.2.2]
      exact h
    obtain ⟨t, ht, hc⟩ := CanP_ex hn.2 hl.2 (by omega) (Int.le_refl 0) (by omega) (fun j h0 h1 => (hv j h0 h1).elim) h2
    exact ⟨t, ht, Can_of (fun j h0 h1 => (hv j h0 h1).elim) (fun j h0 h1 => (hv j h0 h1).elim) hc⟩
  · rintro ⟨t, ht, hc⟩
    obtain ⟨p, hp, h2⟩ := CanP_of (tn := fun _ => 0) (fun j h0 h1 => (hv j h0 h1).elim) (fun j h0 h1 => (hv j h0 h1).elim) hc
    have h3 := CanK_of (lim := lim) hn.2 (by omega) ht (fun j h0 h1 => (hv j h0 h1).elim) h2
    have e := cde_0 lim hl.1 (fun j => (p j : Int)) (fun _ => 0)
    unfold CanS at h3
    rw [e.1, e.2.1, e.2.2] at h3
    exact h3
theorem Can_3 : ∀ {r : Nat} {L : Int → Nat → Bool} {T : Int → Int} {used t : Int}, used ≤ 3 → Can mi pc n E X r L T used t → t ≤ 3
  | 0, _, _, _, _, hu, h => by unfold Can at h; omega
  | r + 1, _, _, _, _, hu, h => by
    rcases h with ⟨_, h⟩ | ⟨_, m, hm, _, h⟩
    · exact Can_3 hu h
    · exact Can_3 (by split <;> omega) h
theorem Bst_min {b b' : Int} {C C' : Int → Prop} (h1 : ∀ t, C t → ∃ t', t' ≤ t ∧ C' t') (h2 : ∀ t, C' t → C t) (h : Bst b b' C) : Bst b b' C' := by
  refine ⟨h.1, ?_, fun t ht => h.2.2 t (h2 t ht)⟩
  rcases h.2.1 with e | e
  · exact Or.inl e
  · right
    obtain ⟨t, ht, hc⟩ := h1 _ e
    have := h.2.2 t (h2 t hc)
    rw [show b' = t by omega]
    exact hc
end MN2
