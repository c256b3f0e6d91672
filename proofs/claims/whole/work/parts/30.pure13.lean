/-! ===== pure: how the reference reads a word ===== -/
theorem p256 {k : Nat} (hk : k ≤ 7) : (256 : Int) ^ k ≤ 72057594037927936 := by
  have h : ∀ k : Fin 8, (256 : Int) ^ k.val ≤ 72057594037927936 := by decide +kernel
  exact h ⟨k, by omega⟩
theorem p256b {k : Nat} (hk : k ≤ 8) : (256 : Int) ^ k ≤ 18446744073709551616 := by
  have h : ∀ k : Fin 9, (256 : Int) ^ k.val ≤ 18446744073709551616 := by decide +kernel
  exact h ⟨k, by omega⟩
theorem lvl_rng {tx : Int → Int} {b : Int} (k : Nat) (h : ∀ q : Int, b ≤ q → q < b + (k : Int) → 97 ≤ tx q ∧ tx q ≤ 122) : -1 ≤ lvl tx b k ∧ lvl tx b k < 9223372036854775808 ∧ (k ≤ 7 → 0 ≤ lvl tx b k ∧ lvl tx b k < 36028797018963968) := by
  by_cases q : 9 ≤ k
  · rw [lvl_big q]; exact ⟨by decide, by decide, fun c => by omega⟩
  · have h1 := lvl_bd k (by omega) h
    have h2 := p256b (k := k) (by omega)
    refine ⟨by omega, by omega, fun c => ?_⟩
    have h3 := p256 c
    omega
/-- the figures' number, as the reference reckons it -/
def nva (tx : Int → Int) (b : Int) : Nat → Int
  | 0 => 0
  | k + 1 => if 99 < nva tx b k then nva tx b k else 10 * nva tx b k + tx (b + (k : Int)) - 48
theorem nva_bd {tx : Int → Int} {b : Int} : ∀ k : Nat, (∀ q : Int, b ≤ q → q < b + (k : Int) → 48 ≤ tx q ∧ tx q ≤ 57) → 0 ≤ nva tx b k ∧ nva tx b k ≤ 999
  | 0, _ => by unfold nva; decide
  | k + 1, h => by
    have ih := nva_bd (tx := tx) (b := b) k (fun q h0 h1 => h q h0 (by omega))
    have h1 := h (b + (k : Int)) (by omega) (by omega)
    unfold nva
    split <;> omega
theorem nva_1 {tx : Int → Int} {b : Int} : nva tx b 1 = tx b - 48 := by
  show (if 99 < (0 : Int) then 0 else 10 * (0 : Int) + tx (b + ((0 : Nat) : Int)) - 48) = tx b - 48
  rw [if_neg (by decide), show b + ((0 : Nat) : Int) = b by omega]
  omega
theorem nva_2 {tx : Int → Int} {b : Int} (h : tx b ≤ 57) : nva tx b 2 = 10 * (tx b - 48) + tx (b + 1) - 48 := by
  show (if 99 < nva tx b 1 then nva tx b 1 else 10 * nva tx b 1 + tx (b + 1) - 48) = _
  rw [nva_1, if_neg (by omega)]
theorem nva_3 {tx : Int → Int} {b : Int} (h0 : 49 ≤ tx b ∧ tx b ≤ 57) : ∀ k : Nat, (∀ q : Int, b ≤ q → q < b + ((k + 3 : Nat) : Int) → 48 ≤ tx q ∧ tx q ≤ 57) → 99 < nva tx b (k + 3)
  | 0, h => by
    have h1 := h (b + 1) (by omega) (by omega)
    have h2 := h (b + 2) (by omega) (by omega)
    show 99 < (if 99 < nva tx b 2 then nva tx b 2 else 10 * nva tx b 2 + tx (b + 2) - 48)
    rw [nva_2 h0.2]
    split <;> omega
  | k + 1, h => by
    have ih := nva_3 h0 k (fun q g0 g1 => h q g0 (by omega))
    show 99 < (if 99 < nva tx b (k + 3) then nva tx b (k + 3) else _)
    rw [if_pos ih]
    exact ih
theorem nmv_nva {tx : Int → Int} {b e : Int} (he : b < e) (h : ∀ q : Int, b ≤ q → q < e → 48 ≤ tx q ∧ tx q ≤ 57) : nmv tx b e = if 99 < nva tx b (e - b).toNat ∨ (1 < e - b ∧ tx b = 48) then -1 else nva tx b (e - b).toNat := by
  have g0 := h b (Int.le_refl _) he
  unfold nmv
  by_cases e1 : e - b = 1
  · rw [if_pos e1, show (e - b).toNat = 1 by omega, nva_1, if_neg (by omega)]
  · by_cases e2 : e - b = 2
    · have g1 := h (b + 1) (by omega) (by omega)
      rw [if_neg e1, show (e - b).toNat = 2 by omega, nva_2 g0.2]
      by_cases e3 : tx b = 48
      · rw [if_neg (fun q => q.2 e3), if_pos (Or.inr ⟨by omega, e3⟩)]
      · rw [if_pos ⟨e2, e3⟩, if_neg (by omega)]
        omega
    · rw [if_neg e1, if_neg (by omega)]
      by_cases e3 : tx b = 48
      · rw [if_pos (Or.inr ⟨by omega, e3⟩)]
      · have g := nva_3 (tx := tx) (b := b) (by omega) ((e - b).toNat - 3) (fun q g0 g1 => h q g0 (by omega))
        rw [show (e - b).toNat - 3 + 3 = (e - b).toNat by omega] at g
        rw [if_pos (Or.inl g)]
/-- what stands in the reference's hands when it has read the token at b -/
def RdP (tx : Int → Int) (n b tok td at' : Int) : Prop := (b ≤ at' ∧ at' ≤ n) ∧ ((kd tx n b = 0 ∧ tok = 0) ∨ (kd tx n b = 1 ∧ tok = 4) ∨ (kd tx n b = 2 ∧ tok = 2 ∧ td = nmb tx n b ∧ at' = nxt tx n b) ∨ (kd tx n b = 3 ∧ tok = 3 ∧ at' = nxt tx n b) ∨ (4 ≤ kd tx n b ∧ tok = 1 ∧ td = kd tx n b - 4 ∧ at' = nxt tx n b))
def rds (u : zU) (b tok td at' : Int) : zU := fun c i => if c = 0 then (if i = 2 then at' else if i = 3 then b else if i = 4 then tok else if i = 5 then td else u 0 i) else u c i
theorem rd_end {tx : Int → Int} {n b td : Int} (h : b = n) : RdP tx n b 0 td b := ⟨by omega, Or.inl ⟨kd_end (by omega), rfl⟩⟩
theorem rd_word {tx : Int → Int} {n b q v td tok : Int} (hb : b < n) (h0 : 97 ≤ tx b ∧ tx b ≤ 122) (hq : b ≤ q ∧ q ≤ n) (hl : ∀ j : Int, b ≤ j → j < q → 97 ≤ tx j ∧ tx j ≤ 122) (he : q = b ∨ eor tx n 97 122 (b + 1) = eor tx n 97 122 q) (hx : ¬ (q < n ∧ 97 ≤ tx q ∧ tx q ≤ 122)) (hv : v = lvl tx b (q - b).toNat)
    (ht : (v = 465558725996 ∧ td = 0 ∧ tok = 1) ∨ (v ≠ 465558725996 ∧ v = 7168366 ∧ td = 1 ∧ tok = 1) ∨ (v ≠ 465558725996 ∧ v ≠ 7168366 ∧ v = 6644082 ∧ td = 2 ∧ tok = 1) ∨ (v ≠ 465558725996 ∧ v ≠ 7168366 ∧ v ≠ 6644082 ∧ v = 7824756 ∧ td = 3 ∧ tok = 1) ∨ (v ≠ 465558725996 ∧ v ≠ 7168366 ∧ v ≠ 6644082 ∧ v ≠ 7824756 ∧ v = 1885430629 ∧ td = 4 ∧ tok = 1) ∨ (v ≠ 465558725996 ∧ v ≠ 7168366 ∧ v ≠ 6644082 ∧ v ≠ 7824756 ∧ v ≠ 1885430629 ∧ tok = 4)) : RdP tx n b tok td q := by
  have hbq : b < q := by
    rcases (by omega : q = b ∨ b < q) with e | e
    · rw [e] at hx; omega
    · exact e
  have hn : nxt tx n b = q := by
    unfold nxt
    rw [if_neg (by omega), if_pos h0, he.resolve_left (by omega), eor_at hx]
  have hk : kd tx n b = wk tx b q := by
    unfold kd
    rw [if_neg (by omega), if_pos h0, hn]
  rw [lvl_wk hl hbq, ← hv] at hk
  unfold RdP
  rw [hn]
  refine ⟨by omega, ?_⟩
  rcases ht with h | h | h | h | h | h
  · rw [if_pos h.1] at hk; omega
  · rw [if_neg h.1, if_pos h.2.1] at hk; omega
  · rw [if_neg h.1, if_neg h.2.1, if_pos h.2.2.1] at hk; omega
  · rw [if_neg h.1, if_neg h.2.1, if_neg h.2.2.1, if_pos h.2.2.2.1] at hk; omega
  · rw [if_neg h.1, if_neg h.2.1, if_neg h.2.2.1, if_neg h.2.2.2.1, if_pos h.2.2.2.2.1] at hk; omega
  · rw [if_neg h.1, if_neg h.2.1, if_neg h.2.2.1, if_neg h.2.2.2.1, if_neg h.2.2.2.2.1] at hk; omega
theorem rd_num {tx : Int → Int} {n b q v tok : Int} (hb : b < n) (h0 : 48 ≤ tx b ∧ tx b ≤ 57) (hq : b ≤ q ∧ q ≤ n) (hl : ∀ j : Int, b ≤ j → j < q → 48 ≤ tx j ∧ tx j ≤ 57) (he : q = b ∨ eor tx n 48 57 (b + 1) = eor tx n 48 57 q) (hx : ¬ (q < n ∧ 48 ≤ tx q ∧ tx q ≤ 57)) (hv : v = nva tx b (q - b).toNat)
    (ht : ((99 < v ∨ (1 < q - b ∧ tx b = 48)) ∧ tok = 4) ∨ (¬ (99 < v ∨ (1 < q - b ∧ tx b = 48)) ∧ tok = 2)) : RdP tx n b tok v q := by
  have hbq : b < q := by
    rcases (by omega : q = b ∨ b < q) with e | e
    · rw [e] at hx; omega
    · exact e
  have hn : nxt tx n b = q := by
    unfold nxt
    rw [if_neg (by omega), if_neg (by omega), if_pos h0, he.resolve_left (by omega), eor_at hx]
  have hk : kd tx n b = if nmv tx b q < 0 then 1 else 2 := by
    unfold kd
    rw [if_neg (by omega), if_neg (by omega), if_pos h0, hn]
  have hm := nmv_nva hbq hl
  have hvb := nva_bd (tx := tx) (b := b) (q - b).toNat (fun j g0 g1 => hl j g0 (by omega))
  rw [← hv] at hm hvb
  unfold RdP nmb
  rw [hn]
  refine ⟨by omega, ?_⟩
  rcases ht with ⟨h, e⟩ | ⟨h, e⟩
  · rw [if_pos h] at hm
    rw [if_pos (by omega)] at hk
    omega
  · rw [if_neg h] at hm
    rw [if_neg (by omega)] at hk
    omega
theorem rd_semi {tx : Int → Int} {n b td : Int} (hb : b < n) (h : tx b = 59) : RdP tx n b 3 td (b + 1) := by
  have hn : nxt tx n b = b + 1 := by
    unfold nxt
    rw [if_neg (by omega), if_neg (by omega), if_neg (by omega)]
  have hk : kd tx n b = 3 := by
    unfold kd
    rw [if_neg (by omega), if_neg (by omega), if_neg (by omega), if_pos h]
  unfold RdP
  rw [hn]
  omega
theorem rd_bad {tx : Int → Int} {n b td : Int} (hb : b < n) (h1 : ¬ (97 ≤ tx b ∧ tx b ≤ 122)) (h2 : ¬ (48 ≤ tx b ∧ tx b ≤ 57)) (h3 : tx b ≠ 59) : RdP tx n b 4 td b := by
  have hk : kd tx n b = 1 := by
    unfold kd
    rw [if_neg (by omega), if_neg h1, if_neg h2, if_neg h3]
  unfold RdP
  omega
