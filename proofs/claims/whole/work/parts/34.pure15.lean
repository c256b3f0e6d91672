/-! ===== pure: class and reference plan alike ===== -/
section LW
variable {pc n : Int} {mi mi' : Int → Int} {ec : Nat → Bool}
theorem Can_imp (hm : ∀ i : Int, 0 ≤ i → i < n → mi i = mi' i) : ∀ {r : Nat} {E : Int → Bool} {X X' L : Int → Nat → Bool} {T : Int → Int} {used t : Int}, (r : Int) ≤ n → (∀ i : Int, 0 ≤ i → i < n → X i = X' i) → Can mi pc n E X r L T used t → Can mi' pc n E X' r L T used t
  | 0, _, _, _, _, _, _, _, _, _, h => h
  | r + 1, E, X, X', L, T, used, t, hr, hX, h => by
    have e1 := hm (n - 1 - (r : Int)) (by omega) (by omega)
    have e2 := hX (n - 1 - (r : Int)) (by omega) (by omega)
    rcases h with ⟨a, b⟩ | ⟨a, m, hm2, hz, b⟩
    · exact Or.inl ⟨a, Can_imp hm (by omega) hX b⟩
    · have e3 : lvs mi pc X L T (n - 1 - (r : Int)) m used = lvs mi' pc X' L T (n - 1 - (r : Int)) m used := by
        unfold lvs
        rw [e1, e2]
      refine Or.inr ⟨a, m, hm2, by rw [← e3]; exact hz, ?_⟩
      rw [← e3, ← e1]
      exact Can_imp hm (by omega) hX b
theorem CanE_imp (hm : ∀ i : Int, 0 ≤ i → i < n → mi i = mi' i) (hn : 0 ≤ n) : ∀ {r : Nat} {E : Int → Bool} {X X' : Int → Nat → Bool} {t : Int}, (r : Int) ≤ n → (∀ i : Int, 0 ≤ i → i < n → X i = X' i) → CanE mi pc n ec r E X t → CanE mi' pc n ec r E X' t
  | 0, _, _, _, _, _, hX, h => Can_imp hm (by omega) hX h
  | r + 1, E, X, X', t, hr, hX, h => by
    have e1 := hm (n - 1 - (r : Int)) (by omega) (by omega)
    have e2 := hX (n - 1 - (r : Int)) (by omega) (by omega)
    rcases h with h | ⟨j, hj, hE, hmj, hz, h⟩
    · exact Or.inl (CanE_imp hm hn (by omega) hX h)
    · have e3 := hm j hj.1 (by omega)
      have e4 := hX j hj.1 (by omega)
      have e5 : ech ec X j (n - 1 - (r : Int)) = ech ec X' j (n - 1 - (r : Int)) := by
        unfold ech
        rw [e2, e4]
      refine Or.inr ⟨j, hj, hE, by rw [← e1, ← e3]; exact hmj, by rw [← e5]; exact hz, CanE_imp hm hn (by omega) (fun i h0 h1 => ?_) h⟩
      show (if i = j then ech ec X j (n - 1 - (r : Int)) else X i) = (if i = j then ech ec X' j (n - 1 - (r : Int)) else X' i)
      rw [e5, hX i h0 h1]
end LW
theorem alw_congr {P P' : Int → Int} {w e lv s m : Int} (h : ∀ i : Int, 0 ≤ i → i < lv → P i = P' i) : alw P w e lv s m = alw P' w e lv s m := by
  unfold alw
  by_cases q : 0 ≤ m ∧ m < lv
  · rw [h m q.1 q.2]
  · rw [decide_eq_false (fun g => q ⟨g.1, g.2.1⟩), decide_eq_false (fun g => q ⟨g.1, g.2.1⟩)]
/-- the two plans of the pluckers are one -/
theorem Pl_same {u v : zU} (h1 : u 3 4 = v 0 12) (h2 : u 3 6 = v 9 0) (h3 : u 3 8 = v 9 2) (h4 : u 17 6 = v 9 1) (h5 : u 17 8 = v 0 21) (hn : 0 ≤ u 17 8) (hE : ∀ l : Int, 0 ≤ l → l < u 3 4 → u 6 l = v 7 l) (hP : ∀ l : Int, 0 ≤ l → l < u 3 4 → u 18 l = v 5 l) (hM : ∀ k : Int, 0 ≤ k → k < u 17 8 → u 20 k = v 10 k) (hN : ∀ k : Int, 0 ≤ k → k < u 17 8 → u 21 k = v 11 k) (t : Int) : PlC u t ↔ PlR v t := by
  have eX : ∀ k : Int, 0 ≤ k → k < u 17 8 → plM u k = plN v k := fun k g0 g1 => by
    funext q
    unfold plM plN mlw
    rw [alw_congr hP, h1, h2, h4, hN k g0 g1]
  have eE : plE u = plF v := by
    funext q
    unfold plE plF
    rw [← h1]
    by_cases g : (q : Int) < u 3 4
    · rw [hE q (by omega) g]
    · rw [decide_eq_false g]; rfl
  unfold PlC PlR
  rw [← h5, ← h3]
  constructor
  · rintro ⟨a, b⟩
    exact ⟨fun k g0 g1 => by rw [← eX k g0 g1]; exact a k g0 g1, by rw [eE] at b; exact CanE_imp hM hn (by omega) eX b⟩
  · rintro ⟨a, b⟩
    exact ⟨fun k g0 g1 => by rw [eX k g0 g1]; exact a k g0 g1, by rw [eE]; exact CanE_imp (fun i g0 g1 => (hM i g0 g1).symm) hn (by omega) (fun i g0 g1 => (eX i g0 g1).symm) b⟩
