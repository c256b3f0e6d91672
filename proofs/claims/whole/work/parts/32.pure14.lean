/-! ===== pure: the reference's tokens ===== -/
theorem nmb_bd {tx : Int → Int} {n b : Int} (h : kd tx n b = 2) : 0 ≤ nmb tx n b ∧ nmb tx n b ≤ 99 := by
  by_cases h0 : n ≤ b
  · rw [kd_end h0] at h; omega
  · by_cases h1 : 97 ≤ tx b ∧ tx b ≤ 122
    · unfold kd at h
      rw [if_neg h0, if_pos h1] at h
      have := wk_bd tx b (nxt tx n b)
      omega
    · by_cases h2 : 48 ≤ tx b ∧ tx b ≤ 57
      · unfold kd at h
        rw [if_neg h0, if_neg h1, if_pos h2] at h
        have hn : nxt tx n b = eor tx n 48 57 (b + 1) := by
          unfold nxt
          rw [if_neg h0, if_neg h1, if_pos h2]
        have he := eor_bd (tx := tx) (lo := 48) (hi := 57) (show b + 1 ≤ n by omega)
        have h3 := he.2 (b + 1) (Int.le_refl _)
        rw [← hn] at he h3
        split at h
        · omega
        · next c =>
          unfold nmb
          unfold nmv at c ⊢
          split at c
          · next g => rw [if_pos g]; omega
          · next g =>
            split at c
            · next g2 => rw [if_neg g, if_pos g2]; omega
            · omega
      · unfold kd at h
        rw [if_neg h0, if_neg h1, if_neg h2] at h
        split at h <;> omega
/-- the reference holds the i-th token -/
def Cur (u : zU) (i : Nat) : Prop := u 0 3 = ps (u 1) (u 0 1) i ∧ RdP (u 1) (u 0 1) (ps (u 1) (u 0 1) i) (u 0 4) (u 0 5) (u 0 2)
theorem nextR {u : zU} {i : Nat} (h : Cur u i) (hk : kd (u 1) (u 0 1) (ps (u 1) (u 0 1) i) ≠ 1) : skp (u 1) (u 0 1) (u 0 2) = ps (u 1) (u 0 1) (i + 1) := by
  obtain ⟨h1, h2, h3⟩ := h
  by_cases e : kd (u 1) (u 0 1) (ps (u 1) (u 0 1) i) = 0
  · have g := kd_0 e
    rw [ps_stay g, skp_at (by omega)]
    omega
  · have g : u 0 2 = nxt (u 1) (u 0 1) (ps (u 1) (u 0 1) i) := by omega
    rw [g]
    rfl
theorem Cur_rds {u : zU} {i : Nat} {tok td pt : Int} (h : RdP (u 1) (u 0 1) (ps (u 1) (u 0 1) i) tok td pt) : Cur (rds u (ps (u 1) (u 0 1) i) tok td pt) i := ⟨rfl, h⟩
