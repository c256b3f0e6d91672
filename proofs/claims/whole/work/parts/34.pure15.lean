/-! ===== pure: class and reference plan alike ===== -/
section LW
variable {pc n : Int} {mi mi' : Int → Int} {ec : Nat → Bool}
theorem Can_imp (hm : ∀ i : Int, 0 ≤ i → i < n → mi i = mi' i) : ∀ {r : Nat} {E : Int → Bool} {X X' L : Int → Nat → Bool} {T : Int → Int} {used t : Int}, (r : Int) ≤ n → (∀ i : Int, 0 ≤ i → i < n → X i = X' i) → Can mi pc n E X r L T used t → Can mi' pc n E X' r L T used t
  | 0, _, _, _, _, _, _, _, _, _, h => h
  | r + 1, E, X, X', L, T, used, t, hr, hX, h => by
    have e1 := hm (n - 1 - (r : Int)) (by omega) (by omega)
    have e2 := hX (n - 1 - (r : Int)) (by omega) (by omega)
    rcases h with ⟨a, b⟩ | ⟨a, m, hm2, hz, b⟩
    · exact Or.inl ⟨a, Can_imp hm (by omega) hX b⟩
    · have e3 : lvs mi pc X L T (n - 1 - (r : Int)) m used = lvs mi' pc X' L T (n - 1 - (r : Int)) m used := by
        unfold lvs
        rw [e1, e2]
      refine Or.inr ⟨a, m, hm2, by rw [← e3]; exact hz, ?_⟩
      rw [← e3, ← e1]
      exact Can_imp hm (by omega) hX b
theorem CanE_imp (hm : ∀ i : Int, 0 ≤ i → i < n → mi i = mi' i) (hn : 0 ≤ n) : ∀ {r : Nat} {E : Int → Bool} {X X' : Int → Nat → Bool} {t : Int}, (r : Int) ≤ n → (∀ i : Int, 0 ≤ i → i < n → X i = X' i) → CanE mi pc n ec r E X t → CanE mi' pc n ec r E X' t
  | 0, _, _, _, _, _, hX, h => Can_imp hm (by omega) hX h
  | r + 1, E, X, X', t, hr, hX, h => by
    have e1 := hm (n - 1 - (r : Int)) (by omega) (by omega)
    have e2 := hX (n - 1 - (r : Int)) (by omega) (by omega)
    rcases h with h | ⟨j, hj, hE, hmj, hz, h⟩
    · exact Or.inl (CanE_imp hm hn (by omega) hX h)
    · have e3 := hm j hj.1 (by omega)
      have e4 := hX j hj.1 (by omega)
      have e5 : ech ec X j (n - 1 - (r : Int)) = ech ec X' j (n - 1 - (r : Int)) := by
        unfold ech
        rw [e2, e4]
      refine Or.inr ⟨j, hj, hE, by rw [← e1, ← e3]; exact hmj, by rw [← e5]; exact hz, CanE_imp hm hn (by omega) (fun i h0 h1 => ?_) h⟩
      show (if i = j then ech ec X j (n - 1 - (r : Int)) else X i) = (if i = j then ech ec X' j (n - 1 - (r : Int)) else X' i)
      rw [e5, hX i h0 h1]
end LW
theorem alw_congr {P P' : Int → Int} {w e lv s m : Int} (h : ∀ i : Int, 0 ≤ i → i < lv → P i = P' i) : alw P w e lv s m = alw P' w e lv s m := by
  unfold alw
  by_cases q : 0 ≤ m ∧ m < lv
  · rw [h m q.1 q.2]
  · rw [decide_eq_false (fun g => q ⟨g.1, g.2.1⟩), decide_eq_false (fun g => q ⟨g.1, g.2.1⟩)]
/-- the two plans of the pluckers are one -/
theorem Pl_same {u v : zU} (h1 : u 3 4 = v 0 12) (h2 : u 3 6 = v 9 0) (h3 : u 3 8 = v 9 2) (h4 : u 17 6 = v 9 1) (h5 : u 17 8 = v 0 21) (hn : 0 ≤ u 17 8) (hE : ∀ l : Int, 0 ≤ l → l < u 3 4 → u 6 l = v 7 l) (hP : ∀ l : Int, 0 ≤ l → l < u 3 4 → u 18 l = v 5 l) (hM : ∀ k : Int, 0 ≤ k → k < u 17 8 → u 20 k = v 10 k) (hN : ∀ k : Int, 0 ≤ k → k < u 17 8 → u 21 k = v 11 k) (t : Int) : PlC u t ↔ PlR v t := by
  have eX : ∀ k : Int, 0 ≤ k → k < u 17 8 → plM u k = plN v k := fun k g0 g1 => by
    funext q
    unfold plM plN mlw
    rw [alw_congr hP, h1, h2, h4, hN k g0 g1]
  have eE : plE u = plF v := by
    funext q
    unfold plE plF
    rw [← h1]
    by_cases g : (q : Int) < u 3 4
    · rw [hE q (by omega) g]
    · rw [decide_eq_false g]; rfl
  unfold PlC PlR
  rw [← h5, ← h3]
  constructor
  · rintro ⟨a, b⟩
    exact ⟨fun k g0 g1 => by rw [← eX k g0 g1]; exact a k g0 g1, by rw [eE] at b; exact CanE_imp hM hn (by omega) eX b⟩
  · rintro ⟨a, b⟩
    exact ⟨fun k g0 g1 => by rw [eX k g0 g1]; exact a k g0 g1, by rw [eE]; exact CanE_imp (fun i g0 g1 => (hM i g0 g1).symm) hn (by omega) (fun i g0 g1 => (eX i g0 g1).symm) b⟩
section HY
variable {pp n : Int} {A A' : Int → Int → Bool}
theorem hc_congr (hA : ∀ i : Int, 0 ≤ i → i < n → A i = A' i) : ∀ r : Nat, (r : Int) ≤ n → hc A pp n r = hc A' pp n r
  | 0, _ => by funext w; rfl
  | r + 1, hr => by
    funext w
    have ih := hc_congr hA r (by omega)
    have e := hA (n - 1 - (r : Int)) (by omega) (by omega)
    show mvc (A (n - 1 - (r : Int))) (hc A pp n r) w (8 * pp).toNat = mvc (A' (n - 1 - (r : Int))) (hc A' pp n r) w (8 * pp).toNat
    rw [ih, e]
theorem ebm_congr (hA : ∀ i : Int, 0 ≤ i → i < n → A i = A' i) {i : Int} (hi : 0 ≤ i ∧ i < n) (w : Int) : ebm A pp n i w = ebm A' pp n i w := by
  unfold ebm
  rw [hA i hi.1 hi.2, hc_congr hA _ (by omega), hc_congr hA _ (by omega)]
theorem stp_congr (hA : ∀ i : Int, 0 ≤ i → i < n → A i = A' i) {w0 : Int} : ∀ k : Nat, (k : Int) ≤ n → stp A pp n w0 k = stp A' pp n w0 k
  | 0, _ => rfl
  | k + 1, hk => by
    have ih := stp_congr hA (w0 := w0) k (by omega)
    show mv (stp A pp n w0 k) (ebm A pp n k (stp A pp n w0 k)) = mv (stp A' pp n w0 k) (ebm A' pp n k (stp A' pp n w0 k))
    rw [ih, ebm_congr hA (by omega)]
theorem byw_congr (hA : ∀ i : Int, 0 ≤ i → i < n → A i = A' i) {w0 i : Int} (hi : 0 ≤ i ∧ i < n) : byw A pp n w0 i = byw A' pp n w0 i := by
  unfold byw
  rw [hc_congr hA _ (by omega), stp_congr hA _ (by omega), ebm_congr hA hi]
theorem clw_congr (hA : ∀ i : Int, 0 ≤ i → i < n → A i = A' i) (hn : 0 ≤ n) {w0 : Int} : clw A pp n w0 = clw A' pp n w0 := by
  unfold clw
  rw [hc_congr hA _ (by omega)]
end HY
section TR
variable {n : Int} {A A' : Int → Int → Bool} {d d' : Int → Int}
theorem sm_eq {f g : Int → Int} (h : ∀ i : Int, f i = g i) : sm f 8 = sm g 8 := by rw [show f = g from funext h]
theorem fw_congr (hA : ∀ i : Int, 0 ≤ i → i < n → A i = A' i) (hd : ∀ i : Int, 0 < i → i < n → d i = d' i) : ∀ k : Nat, (k : Int) < n → fw A d k = fw A' d' k
  | 0, hk => by
    funext l
    show (if A 0 l = true then (1 : Int) else 0) = if A' 0 l = true then 1 else 0
    rw [hA 0 (by omega) hk]
  | k + 1, hk => by
    funext l
    have ih := fw_congr hA hd k (by omega)
    show (if A ((k : Int) + 1) l = true then sm (fun o => if near (d ((k : Int) + 1)) o l = true then fw A d k o else 0) 8 else 0) = if A' ((k : Int) + 1) l = true then sm (fun o => if near (d' ((k : Int) + 1)) o l = true then fw A' d' k o else 0) 8 else 0
    rw [ih, hA ((k : Int) + 1) (by omega) (by omega), hd ((k : Int) + 1) (by omega) (by omega)]
theorem bw_congr (hA : ∀ i : Int, 0 ≤ i → i < n → A i = A' i) (hd : ∀ i : Int, 0 < i → i < n → d i = d' i) : ∀ k : Nat, (k : Int) < n → bw A d n k = bw A' d' n k
  | 0, hk => by
    funext l
    show (if A (n - 1) l = true then (1 : Int) else 0) = if A' (n - 1) l = true then 1 else 0
    rw [hA (n - 1) (by omega) (by omega)]
  | k + 1, hk => by
    funext l
    have ih := bw_congr hA hd k (by omega)
    show (if A (n - 2 - (k : Int)) l = true then sm (fun o => if near (d (n - 1 - (k : Int))) l o = true then bw A d n k o else 0) 8 else 0) = if A' (n - 2 - (k : Int)) l = true then sm (fun o => if near (d' (n - 1 - (k : Int))) l o = true then bw A' d' n k o else 0) 8 else 0
    rw [ih, hA (n - 2 - (k : Int)) (by omega) (by omega), hd (n - 1 - (k : Int)) (by omega) (by omega)]
theorem trk_congr (hn : 0 ≤ n) (hA : ∀ i : Int, 0 ≤ i → i < n → A i = A' i) (hd : ∀ i : Int, 0 < i → i < n → d i = d' i) : trk A d n = trk A' d' n := by
  unfold trk
  by_cases h : n = 0
  · rw [if_pos h, if_pos h]
  · rw [if_neg h, if_neg h, fw_congr hA hd _ (by omega)]
theorem whr_congr {k : Int} (hk : 0 ≤ k ∧ k < n) (hA : ∀ i : Int, 0 ≤ i → i < n → A i = A' i) (hd : ∀ i : Int, 0 < i → i < n → d i = d' i) : whr A d n k = whr A' d' n k := by
  unfold whr
  rw [fw_congr hA hd _ (by omega), bw_congr hA hd _ (by omega)]
end TR
section TU
variable {P P' W W' : Int → Int} {e w lv : Int}
theorem clsh_congr {a b : Int} (ha : P a = P' a) (hb : P b = P' b) : clsh P e a b = clsh P' e a b := by
  unfold clsh
  rw [ha, hb]
theorem free_congr (h : ∀ i : Int, 0 ≤ i → i < lv → P i = P' i) (x : Nat) : free P e lv x = free P' e lv x := by
  have g : ∀ {Q Q' : Int → Int}, (∀ i : Int, 0 ≤ i → i < lv → Q i = Q' i) → free Q e lv x = true → free Q' e lv x = true := by
    intro Q Q' hq hf
    unfold free at hf ⊢
    have h1 := @of_decide_eq_true _ (Classical.propDecidable _) hf
    refine @decide_eq_true _ (Classical.propDecidable _) (fun a ha b hb hal hbl hne hxa hxb => ?_)
    rw [← clsh_congr (hq a (by omega) hal) (hq b (by omega) hbl)]
    exact h1 a ha b hb hal hbl hne hxa hxb
  cases h1 : free P e lv x with
  | true => exact (g h h1).symm
  | false =>
    cases h2 : free P' e lv x with
    | false => rfl
    | true => rw [g (fun i a b => (h i a b).symm) h2] at h1; cases h1
theorem kst_congr (h : ∀ i : Int, 0 ≤ i → i < lv → P i = P' i) : ∀ n : Nat, kst P e lv n = kst P' e lv n
  | 0 => rfl
  | n + 1 => by
    unfold kst
    rw [kst_congr h n, free_congr h n]
theorem mtf_congr {a b : Int} (h1 : P a = P' a) (h2 : P b = P' b) (h3 : W a = W' a) (h4 : W b = W' b) : ∀ (f : Nat) (y : Int), mtf P W w e a b f y = mtf P' W' w e a b f y
  | 0, _ => rfl
  | f + 1, y => by
    unfold mtf
    rw [h1, h2, h3, h4, mtf_congr h1 h2 h3 h4 f (y + 1)]
theorem mt_congr {a b : Int} (h1 : P a = P' a) (h2 : P b = P' b) (h3 : W a = W' a) (h4 : W b = W' b) : mt P W w e a b = mt P' W' w e a b := mtf_congr h1 h2 h3 h4 _ _
theorem prb_congr {M M' : Int → Int → Int} {a : Int} (h : ∀ b : Int, a < b → b < lv → M a b = M' a b) : ∀ (f : Nat) (b : Int) (s : Int × Int), a < b → b + (f : Int) ≤ lv → prb M a f b s = prb M' a f b s
  | 0, _, _, _, _ => rfl
  | f + 1, b, s, h1, h2 => by
    unfold prb
    rw [h b h1 (by omega), prb_congr h f (b + 1) _ (by omega) (by omega)]
theorem pra_congr {M M' : Int → Int → Int} (h : ∀ a b : Int, 0 ≤ a → a < b → b < lv → M a b = M' a b) : ∀ (f : Nat) (a : Int) (s : Int × Int), 0 ≤ a → a + (f : Int) ≤ lv → pra M lv f a s = pra M' lv f a s
  | 0, _, _, _, _ => rfl
  | f + 1, a, s, h1, h2 => by
    unfold pra
    rw [prb_congr (lv := lv) (fun b g0 g1 => h a b h1 g0 g1) _ (a + 1) s (by omega) (by omega), pra_congr h f (a + 1) _ (by omega) (by omega)]
theorem prf_congr {M M' : Int → Int → Int} (hl : 0 ≤ lv) (h : ∀ a b : Int, 0 ≤ a → a < b → b < lv → M a b = M' a b) : prf M lv = prf M' lv := by
  unfold prf
  rw [pra_congr h _ 0 _ (Int.le_refl _) (by omega)]
end TU
