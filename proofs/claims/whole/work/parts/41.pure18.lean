/-! ===== pure: the class's words and tokens ===== -/
/-- between p and e stands the i-th word -/
def Mw (tx : Int → Int) (i : Nat) (p e : Int) : Prop := e - p = sLn i ∧ ∀ k : Int, 0 ≤ k → k < sLn i → tx (p + k) = sCh i k
section MW
variable {tx : Int → Int} {b e : Int}
theorem Mw_0 : Mw tx 0 b e ↔ e - b = 5 ∧ tx b = 108 ∧ tx (b + 1) = 101 ∧ tx (b + 2) = 118 ∧ tx (b + 3) = 101 ∧ tx (b + 4) = 108 := by
  refine ⟨fun ⟨h, g⟩ => ?_, fun ⟨h, t0, t1, t2, t3, t4⟩ => ⟨h, fun k k0 k1 => ?_⟩⟩
  · have g0 := g 0 (by decide +kernel) (by decide +kernel)
    have g1 := g 1 (by decide +kernel) (by decide +kernel)
    have g2 := g 2 (by decide +kernel) (by decide +kernel)
    have g3 := g 3 (by decide +kernel) (by decide +kernel)
    have g4 := g 4 (by decide +kernel) (by decide +kernel)
    rw [Int.add_zero] at g0
    exact ⟨h, g0.trans (by decide +kernel), g1.trans (by decide +kernel), g2.trans (by decide +kernel), g3.trans (by decide +kernel), g4.trans (by decide +kernel)⟩
  · have k2 : k < 5 := k1
    rcases (by omega : k = 0 ∨ k = 1 ∨ k = 2 ∨ k = 3 ∨ k = 4) with r | r | r | r | r
    · rw [r, Int.add_zero, t0]; decide +kernel
    · rw [r, t1]; decide +kernel
    · rw [r, t2]; decide +kernel
    · rw [r, t3]; decide +kernel
    · rw [r, t4]; decide +kernel
theorem Mw_3a {i : Nat} {x0 x1 x2 : Int} (hl : sLn i = 3) (h0 : sCh i 0 = x0) (h1 : sCh i 1 = x1) (h2 : sCh i 2 = x2) : Mw tx i b e ↔ e - b = 3 ∧ tx b = x0 ∧ tx (b + 1) = x1 ∧ tx (b + 2) = x2 := by
  unfold Mw
  rw [hl]
  refine ⟨fun ⟨h, g⟩ => ?_, fun ⟨h, t0, t1, t2⟩ => ⟨h, fun k k0 k1 => ?_⟩⟩
  · have g0 := g 0 (by decide) (by decide)
    have g1 := g 1 (by decide) (by decide)
    have g2 := g 2 (by decide) (by decide)
    rw [Int.add_zero] at g0
    exact ⟨h, g0.trans h0, g1.trans h1, g2.trans h2⟩
  · rcases (by omega : k = 0 ∨ k = 1 ∨ k = 2) with r | r | r
    · rw [r, Int.add_zero, t0, h0]
    · rw [r, t1, h1]
    · rw [r, t2, h2]
theorem Mw_1 : Mw tx 1 b e ↔ e - b = 3 ∧ tx b = 109 ∧ tx (b + 1) = 97 ∧ tx (b + 2) = 110 := Mw_3a (by decide +kernel) (by decide +kernel) (by decide +kernel) (by decide +kernel)
theorem Mw_2 : Mw tx 2 b e ↔ e - b = 3 ∧ tx b = 101 ∧ tx (b + 1) = 97 ∧ tx (b + 2) = 114 := Mw_3a (by decide +kernel) (by decide +kernel) (by decide +kernel) (by decide +kernel)
theorem Mw_3 : Mw tx 3 b e ↔ e - b = 3 ∧ tx b = 119 ∧ tx (b + 1) = 101 ∧ tx (b + 2) = 116 := Mw_3a (by decide +kernel) (by decide +kernel) (by decide +kernel) (by decide +kernel)
theorem Mw_4 : Mw tx 4 b e ↔ e - b = 4 ∧ tx b = 112 ∧ tx (b + 1) = 97 ∧ tx (b + 2) = 99 ∧ tx (b + 3) = 101 := by
  refine ⟨fun ⟨h, g⟩ => ?_, fun ⟨h, t0, t1, t2, t3⟩ => ⟨h, fun k k0 k1 => ?_⟩⟩
  · have g0 := g 0 (by decide +kernel) (by decide +kernel)
    have g1 := g 1 (by decide +kernel) (by decide +kernel)
    have g2 := g 2 (by decide +kernel) (by decide +kernel)
    have g3 := g 3 (by decide +kernel) (by decide +kernel)
    rw [Int.add_zero] at g0
    exact ⟨h, g0.trans (by decide +kernel), g1.trans (by decide +kernel), g2.trans (by decide +kernel), g3.trans (by decide +kernel)⟩
  · have k2 : k < 4 := k1
    rcases (by omega : k = 0 ∨ k = 1 ∨ k = 2 ∨ k = 3) with r | r | r | r
    · rw [r, Int.add_zero, t0]; decide +kernel
    · rw [r, t1]; decide +kernel
    · rw [r, t2]; decide +kernel
    · rw [r, t3]; decide +kernel
theorem wk_of {z : Int} (h : (Mw tx 0 b e ∧ z = 4) ∨ (¬ Mw tx 0 b e ∧ Mw tx 1 b e ∧ z = 5) ∨ (¬ Mw tx 0 b e ∧ ¬ Mw tx 1 b e ∧ Mw tx 2 b e ∧ z = 6) ∨ (¬ Mw tx 0 b e ∧ ¬ Mw tx 1 b e ∧ ¬ Mw tx 2 b e ∧ Mw tx 3 b e ∧ z = 7) ∨ (¬ Mw tx 0 b e ∧ ¬ Mw tx 1 b e ∧ ¬ Mw tx 2 b e ∧ ¬ Mw tx 3 b e ∧ Mw tx 4 b e ∧ z = 8) ∨ (¬ Mw tx 0 b e ∧ ¬ Mw tx 1 b e ∧ ¬ Mw tx 2 b e ∧ ¬ Mw tx 3 b e ∧ ¬ Mw tx 4 b e ∧ z = 1)) : z = wk tx b e := by
  rw [Mw_0, Mw_1, Mw_2, Mw_3, Mw_4] at h
  unfold wk
  rcases h with ⟨h0, h⟩ | ⟨h0, h1, h⟩ | ⟨h0, h1, h2, h⟩ | ⟨h0, h1, h2, h3, h⟩ | ⟨h0, h1, h2, h3, h4, h⟩ | ⟨h0, h1, h2, h3, h4, h⟩
  · rw [if_pos h0]; exact h
  · rw [if_neg h0, if_pos h1]; exact h
  · rw [if_neg h0, if_neg h1, if_pos h2]; exact h
  · rw [if_neg h0, if_neg h1, if_neg h2, if_pos h3]; exact h
  · rw [if_neg h0, if_neg h1, if_neg h2, if_neg h3, if_pos h4]; exact h
  · rw [if_neg h0, if_neg h1, if_neg h2, if_neg h3, if_neg h4]; exact h
end MW
theorem Mw_put {tx : Int → Int} {i : Nat} {p k : Int} (h : ∀ j : Int, 0 ≤ j → j < k → tx (p + j) = sCh i j) (hk : tx (p + k) = sCh i k) : ∀ j : Int, 0 ≤ j → j < k + 1 → tx (p + j) = sCh i j := fun j j0 j1 => by
  by_cases e : j = k
  · rw [e]; exact hk
  · exact h j j0 (by omega)
/-- only the tokens may have changed -/
def FrT (u u' : zU) : Prop := ∀ (c : Nat) (i : Int), ¬ (14 ≤ c ∧ c ≤ 16) → u' c i = u c i
def glt (u v : zU) : zU := fun c i => if 14 ≤ c ∧ c ≤ 16 then v c i else u c i
theorem FrT_rf (u : zU) : FrT u u := fun _ _ _ => rfl
theorem FrT_up {u w : zU} {d : Nat} {k x : Int} (hd : 14 ≤ d ∧ d ≤ 16) (h : FrT u w) : FrT u (up w d k x) := fun c i q => by
  rw [up_ne w (Or.inl (by intro e; rw [e] at q; exact q hd))]
  exact h c i q
theorem FrT_glt {u u' : zU} (h : FrT u u') : u' = glt u u' := by
  funext c i
  unfold glt
  by_cases q : 14 ≤ c ∧ c ≤ 16
  · rw [if_pos q]
  · rw [if_neg q]; exact h c i q
theorem FrT.ib {u u' : zU} (h : FrT u u') (hI : IB u) : IB u' := by
  rw [FrT_glt h]; exact hI
theorem FrT.tx {u u' : zU} (h : FrT u u') : u' 2 = u 2 := funext (fun i => h 2 i (by omega))
theorem FrT.tn {u u' : zU} (h : FrT u u') : u' 1 1 = u 1 1 := h 1 1 (by omega)
/-- the i-th token is taken at p -/
def TkP (u u' : zU) (i p z : Int) : Prop := (∀ (d : Nat) (k : Int), ¬ ((d = 14 ∨ d = 16) ∧ k = i) → u' d k = u d k) ∧ u' 14 i = kd (u 2) (u 1 1) p ∧ (kd (u 2) (u 1 1) p = 2 → u' 16 i = nmb (u 2) (u 1 1) p) ∧ z = nxt (u 2) (u 1 1) p
theorem tk_word {u : zU} {i p : Int} (hp : 0 ≤ p ∧ p < u 1 1) (hl : 97 ≤ u 2 p ∧ u 2 p ≤ 122) : TkP u (up u 14 i (wk (u 2) p (eor (u 2) (u 1 1) 97 122 (p + 1)))) i p (eor (u 2) (u 1 1) 97 122 (p + 1)) := by
  have hn : nxt (u 2) (u 1 1) p = eor (u 2) (u 1 1) 97 122 (p + 1) := by
    unfold nxt
    rw [if_neg (by omega), if_pos hl]
  have hk : kd (u 2) (u 1 1) p = wk (u 2) p (eor (u 2) (u 1 1) 97 122 (p + 1)) := by
    unfold kd
    rw [if_neg (by omega), if_pos hl, hn]
  refine ⟨fun d k q => up_ne _ (by omega), by rw [up_eq, hk], fun h2 => ?_, hn.symm⟩
  have := wk_bd (u 2) p (eor (u 2) (u 1 1) 97 122 (p + 1))
  omega
theorem tk_num {u : zU} {i p v x : Int} (hp : 0 ≤ p ∧ p < u 1 1) (hl : 48 ≤ u 2 p ∧ u 2 p ≤ 57) (hv : v = nmv (u 2) p (eor (u 2) (u 1 1) 48 57 (p + 1))) (hx : (v < 0 ∧ x = 1) ∨ (0 ≤ v ∧ x = 2)) : TkP u (up (up u 16 i v) 14 i x) i p (eor (u 2) (u 1 1) 48 57 (p + 1)) := by
  have hn : nxt (u 2) (u 1 1) p = eor (u 2) (u 1 1) 48 57 (p + 1) := by
    unfold nxt
    rw [if_neg (by omega), if_neg (by omega), if_pos hl]
  have hk : kd (u 2) (u 1 1) p = x := by
    unfold kd
    rw [if_neg (by omega), if_neg (by omega), if_pos hl, hn, ← hv]
    rcases hx with h | h
    · rw [if_pos h.1]; exact h.2.symm
    · rw [if_neg (by omega)]; exact h.2.symm
  refine ⟨fun d k q => (up_ne _ (by omega)).trans (up_ne _ (by omega)), by rw [up_eq, hk], fun h2 => ?_, hn.symm⟩
  rw [up_ne _ (Or.inl (by decide)), up_eq, hv]
  unfold nmb
  rw [hn]
theorem tk_one {u : zU} {i p x : Int} (hp : 0 ≤ p ∧ p < u 1 1) (h1 : ¬ (97 ≤ u 2 p ∧ u 2 p ≤ 122)) (h2 : ¬ (48 ≤ u 2 p ∧ u 2 p ≤ 57)) (hx : (u 2 p = 59 ∧ x = 3) ∨ (u 2 p ≠ 59 ∧ x = 1)) : TkP u (up u 14 i x) i p (p + 1) := by
  have hn : nxt (u 2) (u 1 1) p = p + 1 := by
    unfold nxt
    rw [if_neg (by omega), if_neg h1, if_neg h2]
  have hk : kd (u 2) (u 1 1) p = x := by
    unfold kd
    rw [if_neg (by omega), if_neg h1, if_neg h2]
    rcases hx with h | h
    · rw [if_pos h.1]; exact h.2.symm
    · rw [if_neg h.1]; exact h.2.symm
  refine ⟨fun d k q => up_ne _ (by omega), by rw [up_eq, hk], fun h2 => by omega, hn.symm⟩
section SPL
variable {u v w : zU} {f p z : Int}
theorem sp_step (hI : IB u) (hF : FrT u v) (hf : 0 ≤ f) (hp : 0 ≤ p ∧ p < u 1 1) (hs : skp (u 2) (u 1 1) p = ps (u 2) (u 1 1) f.toNat) (hL : Liv (KT (u 2) (u 1 1)) f) (hT : ∀ j : Int, 0 ≤ j → j < f → v 14 j = KT (u 2) (u 1 1) j ∧ v 15 j = ST (u 2) (u 1 1) j ∧ (KT (u 2) (u 1 1) j = 2 → v 16 j = NTk (u 2) (u 1 1) j)) (h32 : u 2 p ≠ 32) (hk : TkP (up v 15 f p) w f p z) :
    FrT u w ∧ (p < z ∧ z ≤ u 1 1) ∧ skp (u 2) (u 1 1) z = ps (u 2) (u 1 1) (f + 1).toNat ∧ Liv (KT (u 2) (u 1 1)) (f + 1) ∧ ∀ j : Int, 0 ≤ j → j < f + 1 → w 14 j = KT (u 2) (u 1 1) j ∧ w 15 j = ST (u 2) (u 1 1) j ∧ (KT (u 2) (u 1 1) j = 2 → w 16 j = NTk (u 2) (u 1 1) j) := by
  obtain ⟨k1, k2, k3, k4⟩ := hk
  have e2 : (up v 15 f p) 2 = u 2 := hF.tx
  have e1 : (up v 15 f p) 1 1 = u 1 1 := hF.tn
  rw [e2, e1] at k2 k3 k4
  have hps : ps (u 2) (u 1 1) f.toNat = p := by rw [← hs, skp_at (by omega)]
  have hz := nxt_bd (tx := u 2) hp.2
  have hK : KT (u 2) (u 1 1) f = kd (u 2) (u 1 1) p := by unfold KT; rw [hps]
  have hkn : KT (u 2) (u 1 1) f ≠ 0 := by
    rw [hK]
    intro h
    have := kd_0 h
    omega
  refine ⟨fun c i q => ?_, by omega, ?_, Liv_next hL hkn, fun j j0 j1 => ?_⟩
  · rw [k1 c i (by omega), up_ne v (Or.inl (by omega))]
    exact hF c i q
  · rw [show (f + 1).toNat = f.toNat + 1 by omega, k4]
    show _ = skp (u 2) (u 1 1) (nxt (u 2) (u 1 1) (ps (u 2) (u 1 1) f.toNat))
    rw [hps]
  · by_cases e : j = f
    · subst e
      refine ⟨by rw [k2, hK], ?_, fun h2 => ?_⟩
      · rw [k1 15 j (by omega), up_eq]
        unfold ST
        rw [hps]
      · unfold NTk
        rw [hps]
        exact k3 (by rw [← hK]; exact h2)
    · have g := hT j j0 (by omega)
      refine ⟨?_, ?_, fun h2 => ?_⟩
      · rw [k1 14 j (by omega), up_ne v (Or.inl (by decide))]; exact g.1
      · rw [k1 15 j (by omega), up_ne v (Or.inr e)]; exact g.2.1
      · rw [k1 16 j (by omega), up_ne v (Or.inl (by decide))]; exact g.2.2 h2
theorem sp_e1 (hp : 0 ≤ p ∧ p ≤ u 1 1) (hs : skp (u 2) (u 1 1) p = ps (u 2) (u 1 1) f.toNat) (h : u 1 1 ≤ p) : KT (u 2) (u 1 1) f = 0 ∧ ST (u 2) (u 1 1) f = u 1 1 := by
  rw [skp_at (by omega)] at hs
  unfold KT ST
  rw [← hs]
  exact ⟨kd_end h, by omega⟩
theorem sp_e2 (hI : IB u) (hf : 200 ≤ f) : KT (u 2) (u 1 1) f = 0 ∧ ST (u 2) (u 1 1) f = u 1 1 := by
  have ht := hI.tlen
  have h1 := ps_bd (tx := u 2) ht.1 f.toNat
  rcases (by omega : ps (u 2) (u 1 1) f.toNat < u 1 1 ∨ ps (u 2) (u 1 1) f.toNat = u 1 1) with h | h
  · have := ps_ge ht.1 _ h
    omega
  · unfold KT ST
    exact ⟨kd_end (by omega), h⟩
theorem sp_fin (hF : FrT u v) (hf : 0 ≤ f) (hT : ∀ j : Int, 0 ≤ j → j < f → v 14 j = KT (u 2) (u 1 1) j ∧ v 15 j = ST (u 2) (u 1 1) j ∧ (KT (u 2) (u 1 1) j = 2 → v 16 j = NTk (u 2) (u 1 1) j)) (h : KT (u 2) (u 1 1) f = 0 ∧ ST (u 2) (u 1 1) f = u 1 1) : FrT u (up (up v 14 f 0) 15 f (v 1 1)) ∧ ∀ j : Int, Liv (KT (u 2) (u 1 1)) j → (up (up v 14 f 0) 15 f (v 1 1)) 14 j = KT (u 2) (u 1 1) j ∧ (up (up v 14 f 0) 15 f (v 1 1)) 15 j = ST (u 2) (u 1 1) j ∧ (KT (u 2) (u 1 1) j = 2 → (up (up v 14 f 0) 15 f (v 1 1)) 16 j = NTk (u 2) (u 1 1) j) := by
  refine ⟨FrT_up (by decide) (FrT_up (by decide) hF), fun j hj => ?_⟩
  have hjf : j ≤ f := by
    rcases (by omega : j ≤ f ∨ f < j) with q | q
    · exact q
    · exact absurd h.1 (hj.2 f hf q)
  have hj0 := hj.1
  show (if j = f then 0 else v 14 j) = KT (u 2) (u 1 1) j ∧ (if j = f then v 1 1 else v 15 j) = ST (u 2) (u 1 1) j ∧ (KT (u 2) (u 1 1) j = 2 → v 16 j = NTk (u 2) (u 1 1) j)
  by_cases e : j = f
  · rw [if_pos e, if_pos e, e]
    exact ⟨h.1.symm, by rw [h.2]; exact hF.tn, fun h2 => by omega⟩
  · rw [if_neg e, if_neg e]
    exact hT j hj0 (by omega)
end SPL
theorem Liv_no {K N : Int → Int} {D : zU} {i j : Int} (h : Liv K i) (hk : K i ≠ 0) (ho : ItNo K N D i j) : Liv K j := by
  unfold ItNo Nu at ho
  have g : ∀ q : Int, 0 ≤ q → q < i → K q ≠ 0 := h.2
  have h0 := h.1
  have a1 : K (i + 1) = 2 → Liv K (i + 1 + 1) := fun e => Liv_next (Liv_next h hk) (by omega)
  have a2 : K (i + 1) = 2 → K (i + 1 + 1) = 2 → Liv K (i + 1 + 1 + 1) := fun e e2 => Liv_next (a1 e) (by omega)
  have a3 : K (i + 1) = 2 → K (i + 1 + 1) = 2 → K (i + 1 + 1 + 1) = 2 → Liv K (i + 1 + 1 + 1 + 1) := fun e e2 e3 => Liv_next (a2 e e2) (by omega)
  have a0 : Liv K (i + 1) := Liv_next h hk
  rcases ho with ⟨_, o | o | o | o | o⟩ | ⟨_, o | o | o⟩ | ⟨_, o | o | o⟩ | ⟨_, o | o | o⟩ | ⟨_, o | o | o⟩ | o
  · rw [o.2]; exact h
  · rw [o.2.2]; exact a0
  · rw [o.2.2.2]; exact a1 o.2.1.1
  · rw [o.2.2.2.2]; exact a2 o.2.1.1 o.2.2.1.1
  · rw [o.2.2.2.2.2]; exact a3 o.2.1.1 o.2.2.1.1 o.2.2.2.1.1
  · rw [o.2]; exact h
  · rw [o.2.2]; exact a0
  · rw [o.2.2.2]; exact a1 o.2.1.1
  · rw [o.2]; exact h
  · rw [o.2.2]; exact a0
  · rw [o.2.2.2]; exact a1 o.2.1.1
  · rw [o.2]; exact h
  · rw [o.2.2]; exact a0
  · rw [o.2.2.2]; exact a1 o.2.1.1
  · rw [o.2]; exact h
  · rw [o.2.2]; exact a0
  · rw [o.2.2.2]; exact a1 o.2.1.1
  · rw [o.2]; exact h
theorem Frm_ib {u w : zU} (h : Frm u w) (hI : IB u) : IB w := by
  obtain ⟨v, e, hA⟩ := h
  subst e
  exact ⟨hI.1, hA hI.2.1, hI.2.2⟩
theorem Frm_tok {u w : zU} {K N S : Int → Int} (h : Frm u w) (hT : Tok (u 14) (u 15) (u 16) K N S) : Tok (w 14) (w 15) (w 16) K N S := by
  obtain ⟨v, e, _⟩ := h
  subst e
  exact hT
theorem Frm_pt {u w : zU} (h : Frm u w) : ∀ (c : Nat) (i : Int), ¬ (8 ≤ c ∧ c ≤ 13) → w c i = u c i := by
  obtain ⟨v, e, _⟩ := h
  subst e
  intro c i q
  unfold glu
  rw [if_neg q]
theorem DC_0 (u : zU) : DC (up (up (up (up (up (up (up (up (up u 8 4 0) 8 5 0) 8 6 0) 8 7 0) 8 8 1) 13 6 0) 13 7 0) 13 8 0) 13 5 0) D0 :=
  ⟨⟨(show (0 : Int) ≤ 0 ∧ (0 : Int) ≤ 8 by decide), rfl⟩, ⟨(show (0 : Int) ≤ 0 ∧ (0 : Int) ≤ 3 by decide), rfl⟩, ⟨(show (0 : Int) ≤ 0 ∧ (0 : Int) ≤ 9 by decide), rfl, (show (0 : Int) ≤ 0 ∧ (0 : Int) ≤ 9 by decide), rfl, (show (1 : Int) ≤ 1 ∧ (1 : Int) ≤ 4 by decide), rfl⟩, ⟨Or.inl rfl, rfl, Or.inl rfl, rfl, Or.inl rfl, rfl⟩, fun l h0 h1 => absurd (show l < 0 from h1) (by omega), fun l h0 h1 => absurd (show l < 0 from h1) (by omega)⟩
/-- what the class holds behind a text -/
def ShB (u u' D : zU) : Prop := (u' 3 4 = D 0 0 ∧ u' 3 5 = D 0 1) ∧ (u' 3 6 = D 0 2 ∧ u' 17 6 = D 0 3 ∧ u' 3 8 = D 0 4) ∧ (∀ l : Int, 0 ≤ l → l < D 0 0 → u' 18 l = D 1 l ∧ u' 5 l = D 2 l ∧ u' 6 l = D 3 l) ∧ (∀ m : Int, 0 ≤ m → m < D 0 1 → u' 19 m = D 4 m) ∧ (u' 17 5 = 0 ∧ u' 17 7 = 8 ∧ u' 17 8 = 0 ∧ u' 17 9 = 0) ∧ (u' 36 0 = 0 ∧ u' 36 1 = 0) ∧ u' 1 1 = 0 ∧ u' 60 2 = u 60 2 ∧ u' 2 = u 2
def shC (y : zU) : zU := up (up (up (bgN (cpT y)) 36 0 0) 36 1 0) 1 1 0
theorem sh_B {u y D : zU} (hF : ∀ (c : Nat) (i : Int), ¬ (8 ≤ c ∧ c ≤ 16) → y c i = u c i) (hD : DC y D) : ShB u (shC y) D := by
  obtain ⟨d1, d2, d3, d4, d5, d6⟩ := hD
  refine ⟨⟨d1.2.symm, d2.2.symm⟩, ⟨d3.2.1.symm, d3.2.2.2.1.symm, d3.2.2.2.2.2.symm⟩, fun l h0 h1 => ?_, fun m h0 h1 => ?_, ⟨rfl, rfl, rfl, rfl⟩, ⟨rfl, rfl⟩, rfl, hF 60 2 (by omega), funext (fun i => hF 2 i (by omega))⟩
  · have g := d5 l h0 (by omega)
    show (if l < 8 then (if l < 8 then y 9 l else y 4 l) else y 18 l) = D 1 l ∧ (if l < 8 then y 10 l else y 5 l) = D 2 l ∧ (if l < 8 then y 11 l else y 6 l) = D 3 l
    rw [if_pos (by omega), if_pos (by omega), if_pos (by omega), if_pos (by omega)]
    exact ⟨g.1.symm, g.2.1.symm, g.2.2.symm⟩
  · have g := d6 m h0 (by omega)
    show (if m < 3 then (if m < 3 then y 12 m else y 7 m) else y 19 m) = D 4 m
    rw [if_pos (by omega), if_pos (by omega)]
    exact g.1.symm
theorem sh_IB {y D : zU} (hI : IB y) (hD : DC y D) : IB (shC y) := by
  obtain ⟨d1, d2, d3, d4, d5, d6⟩ := hD
  obtain ⟨_, ⟨a1, a2, a3, a4⟩, ⟨_, _, _, _, _, n1, n2, n3, n4, n5, _, _⟩, _, _, _, t2⟩ := hI
  have p9 : ∀ i : Int, 0 ≤ i → i < 8 → 0 ≤ (if i < 8 then y 9 i else y 4 i) ∧ (if i < 8 then y 9 i else y 4 i) ≤ 60 := fun i h0 h1 => by rw [if_pos h1]; exact a1 i h0 h1
  have p12 : ∀ i : Int, 0 ≤ i → i < 3 → 0 ≤ (if i < 3 then y 12 i else y 7 i) ∧ (if i < 3 then y 12 i else y 7 i) < 8 := fun i h0 h1 => by rw [if_pos h1]; exact a4 i h0 h1
  have q12 : ∀ i : Int, 0 ≤ i → i < y 8 5 → (if i < 3 then y 12 i else y 7 i) < y 8 4 := fun i h0 h1 => by rw [if_pos (by omega)]; exact (d6 i h0 h1).2.2
  refine ⟨⟨⟨p9, fun i h0 h1 => ?_, fun i h0 h1 => ?_, p12⟩, d1.1, d2.1, d3.1, d3.2.2.1, d3.2.2.2.2.1, q12⟩, ⟨a1, a2, a3, a4⟩, ⟨(show (0 : Int) ≤ 0 ∧ (0 : Int) ≤ 999 by decide), d3.2.2.1, (show (0 : Int) ≤ 8 ∧ (8 : Int) ≤ 8 by decide), (show (0 : Int) ≤ 0 ∧ (0 : Int) ≤ 6 by decide), (show (0 : Int) ≤ 0 ∧ (0 : Int) ≤ 8 by decide), fun i h0 h1 => ?_, fun i h0 h1 => ?_, n3, n4, n5, fun i j h0 h1 h2 => absurd (show j < 0 from h2) (by omega), fun i h0 h1 => ?_⟩, Or.inl rfl, Or.inl rfl, (show (0 : Int) ≤ 0 ∧ (0 : Int) ≤ 200 by decide), t2⟩
  · show 0 ≤ (if i < 8 then y 10 i else y 5 i) ∧ (if i < 8 then y 10 i else y 5 i) ≤ 9
    rw [if_pos h1]; exact a2 i h0 h1
  · show 0 ≤ (if i < 8 then y 11 i else y 6 i) ∧ (if i < 8 then y 11 i else y 6 i) ≤ 1
    rw [if_pos h1]; exact a3 i h0 h1
  · show 0 ≤ (if i < 8 then (if i < 8 then y 9 i else y 4 i) else y 18 i) ∧ (if i < 8 then (if i < 8 then y 9 i else y 4 i) else y 18 i) ≤ 60
    rw [if_pos h1]; exact p9 i h0 h1
  · show 0 ≤ (if i < 3 then (if i < 3 then y 12 i else y 7 i) else y 19 i) ∧ (if i < 3 then (if i < 3 then y 12 i else y 7 i) else y 19 i) < 8
    rw [if_pos h1]; exact p12 i h0 h1
  · have h1' : i < y 8 5 := h1
    show (if i < 3 then (if i < 3 then y 12 i else y 7 i) else y 19 i) < y 8 4
    rw [if_pos (by omega)]; exact q12 i h0 h1'
theorem fig_all {tx : Int → Int} {p e lo hi : Int} (h : lo ≤ tx p ∧ tx p ≤ hi) (g : ∀ q : Int, p + 1 ≤ q → q < e → lo ≤ tx q ∧ tx q ≤ hi) : ∀ q : Int, p ≤ q → q < e → lo ≤ tx q ∧ tx q ≤ hi := fun q q0 q1 => by
  by_cases c : q = p
  · rw [c]; exact h
  · exact g q (by omega) q1
theorem nmv_rng {tx : Int → Int} {b e : Int} (he : b < e) (h : ∀ q : Int, b ≤ q → q < e → 48 ≤ tx q ∧ tx q ≤ 57) : -1 ≤ nmv tx b e ∧ nmv tx b e ≤ 99 := by
  have h0 := h b (Int.le_refl _) he
  unfold nmv
  by_cases c : e - b = 1
  · rw [if_pos c]; omega
  · rw [if_neg c]
    by_cases c2 : e - b = 2 ∧ tx b ≠ 48
    · have h1 := h (b + 1) (by omega) (by omega)
      rw [if_pos c2]; omega
    · rw [if_neg c2]; omega
theorem lt_toN (x : Int) : x < ((x.toNat + 1 : Nat) : Int) := by omega
