/-! ===== pure: the reference's tokens ===== -/
theorem nmb_bd {tx : Int → Int} {n b : Int} (h : kd tx n b = 2) : 0 ≤ nmb tx n b ∧ nmb tx n b ≤ 99 := by
  by_cases h0 : n ≤ b
  · rw [kd_end h0] at h; omega
  · by_cases h1 : 97 ≤ tx b ∧ tx b ≤ 122
    · unfold kd at h
      rw [if_neg h0, if_pos h1] at h
      have := wk_bd tx b (nxt tx n b)
      omega
    · by_cases h2 : 48 ≤ tx b ∧ tx b ≤ 57
      · unfold kd at h
        rw [if_neg h0, if_neg h1, if_pos h2] at h
        have hn : nxt tx n b = eor tx n 48 57 (b + 1) := by
          unfold nxt
          rw [if_neg h0, if_neg h1, if_pos h2]
        have he := eor_bd (tx := tx) (lo := 48) (hi := 57) (show b + 1 ≤ n by omega)
        have h3 := he.2 (b + 1) (Int.le_refl _)
        rw [← hn] at he h3
        split at h
        · omega
        · next c =>
          unfold nmb
          unfold nmv at c ⊢
          split at c
          · next g => rw [if_pos g]; omega
          · next g =>
            split at c
            · next g2 => rw [if_neg g, if_pos g2]; omega
            · omega
      · unfold kd at h
        rw [if_neg h0, if_neg h1, if_neg h2] at h
        split at h <;> omega
/-- the reference holds the i-th token -/
def Cur (u : zU) (i : Nat) : Prop := u 0 3 = ps (u 1) (u 0 1) i ∧ RdP (u 1) (u 0 1) (ps (u 1) (u 0 1) i) (u 0 4) (u 0 5) (u 0 2)
theorem nextR {u : zU} {i : Nat} (h : Cur u i) (hk : kd (u 1) (u 0 1) (ps (u 1) (u 0 1) i) ≠ 1) : skp (u 1) (u 0 1) (u 0 2) = ps (u 1) (u 0 1) (i + 1) := by
  obtain ⟨h1, h2, h3⟩ := h
  by_cases e : kd (u 1) (u 0 1) (ps (u 1) (u 0 1) i) = 0
  · have g := kd_0 e
    rw [ps_stay g, skp_at (by omega)]
    omega
  · have g : u 0 2 = nxt (u 1) (u 0 1) (ps (u 1) (u 0 1) i) := by omega
    rw [g]
    rfl
theorem Cur_rds {u : zU} {i : Nat} {tok td pt : Int} (h : RdP (u 1) (u 0 1) (ps (u 1) (u 0 1) i) tok td pt) : Cur (rds u (ps (u 1) (u 0 1) i) tok td pt) i := ⟨rfl, h⟩
/-- the tokens of a text, by their places -/
def KT (tx : Int → Int) (n j : Int) : Int := kd tx n (ps tx n j.toNat)
def NTk (tx : Int → Int) (n j : Int) : Int := nmb tx n (ps tx n j.toNat)
def ST (tx : Int → Int) (n j : Int) : Int := ps tx n j.toNat
theorem Liv_200 {tx : Int → Int} {n j : Int} (hn : 0 ≤ n ∧ n ≤ 200) (h : Liv (KT tx n) j) : j ≤ 200 := by
  by_cases e : j ≤ 0
  · omega
  · have h1 := h.2 (j - 1) (by omega) (by omega)
    have h2 : ps tx n (j - 1).toNat < n := by
      rcases (by omega : ps tx n (j - 1).toNat < n ∨ n ≤ ps tx n (j - 1).toNat) with q | q
      · exact q
      · exact absurd (kd_end q) h1
    have h3 := ps_ge hn.1 _ h2
    omega
theorem Tok_of {tx tk st nb : Int → Int} {n : Int} (hn : 0 ≤ n ∧ n ≤ 200) (h : ∀ j : Int, Liv (KT tx n) j → tk j = KT tx n j ∧ st j = ST tx n j ∧ (KT tx n j = 2 → nb j = NTk tx n j)) : Tok tk st nb (KT tx n) (NTk tx n) (ST tx n) := fun j hj => by
  have a := h j hj
  have b := kd_bd tx n (ps tx n j.toNat)
  exact ⟨Liv_200 hn hj, a.1, a.2.1, a.2.2, b.1, b.2, fun q => nmb_bd q⟩
theorem ST_0 {tx : Int → Int} {n j : Int} (hn : 0 ≤ n) : 0 ≤ ST tx n j := (ps_bd hn _).1
/-- the draft at the start -/
def D0 : zU := fun c i => if c = 0 ∧ i = 4 then 1 else 0
/-- going on is as good as from the start -/
def Pon (K N S : Int → Int) (D : zU) (i c : Int) : Prop := ∀ (f : Nat) (z : Int) (D' : zU), Prs K N S f D i c z D' → ∃ f' : Nat, Prs K N S f' D0 0 0 z D'
theorem Pon_0 {K N S : Int → Int} : Pon K N S D0 0 0 := fun f _ _ h => ⟨f, h⟩
theorem Pon_ok {K N S : Int → Int} {D D1 : zU} {i c j : Int} (h : Pon K N S D i c) (hk : K i ≠ 0) (ho : ItOk K N D i j D1) : Pon K N S D1 (j + 1) (c + 1) := fun f z D' q => h (f + 1) z D' (Or.inr ⟨hk, Or.inr ⟨j, D1, ho, q⟩⟩)
theorem Pon_no {K N S : Int → Int} {D : zU} {i c j : Int} (h : Pon K N S D i c) (hk : K i ≠ 0) (ho : ItNo K N D i j) (D' : zU) : ∃ f' : Nat, Prs K N S f' D0 0 0 (-10 - S j) D' := h 1 _ D' (Or.inr ⟨hk, Or.inl ⟨j, ho, rfl⟩⟩)
theorem Pon_end {K N S : Int → Int} {D : zU} {i c : Int} (h : Pon K N S D i c) (hk : K i = 0) : ∃ f' : Nat, Prs K N S f' D0 0 0 c D := h 1 _ D (Or.inl ⟨hk, rfl, rfl⟩)
