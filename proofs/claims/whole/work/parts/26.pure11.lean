/-! ===== pure: the words of a text ===== -/
def sko (tx : Int → Int) (n : Int) : Nat → Int → Int
  | 0, p => p
  | f + 1, p => if p < n ∧ tx p = 32 then sko tx n f (p + 1) else p
/-- the first place from p on that is no blank -/
def skp (tx : Int → Int) (n p : Int) : Int := sko tx n (n - p).toNat p
theorem skp_on {tx : Int → Int} {n p : Int} (h : p < n ∧ tx p = 32) : skp tx n p = skp tx n (p + 1) := by
  unfold skp
  rw [show (n - p).toNat = (n - (p + 1)).toNat + 1 by omega, sko, if_pos h]
theorem skp_at {tx : Int → Int} {n p : Int} (h : ¬ (p < n ∧ tx p = 32)) : skp tx n p = p := by
  unfold skp
  cases e : (n - p).toNat with
  | zero => rfl
  | succ f => rw [sko, if_neg h]
theorem sko_bd {tx : Int → Int} {n : Int} : ∀ (f : Nat) (p : Int), p ≤ n → p ≤ sko tx n f p ∧ sko tx n f p ≤ n
  | 0, p, h => by unfold sko; omega
  | f + 1, p, h => by
    unfold sko
    split
    · have := sko_bd (tx := tx) (n := n) f (p + 1) (by omega); omega
    · omega
theorem skp_bd {tx : Int → Int} {n p : Int} (h : p ≤ n) : p ≤ skp tx n p ∧ skp tx n p ≤ n := sko_bd _ _ h
def eoo (tx : Int → Int) (n lo hi : Int) : Nat → Int → Int
  | 0, p => p
  | f + 1, p => if p < n ∧ lo ≤ tx p ∧ tx p ≤ hi then eoo tx n lo hi f (p + 1) else p
/-- the end of a run of bytes between lo and hi -/
def eor (tx : Int → Int) (n lo hi p : Int) : Int := eoo tx n lo hi (n - p).toNat p
theorem eor_on {tx : Int → Int} {n lo hi p : Int} (h : p < n ∧ lo ≤ tx p ∧ tx p ≤ hi) : eor tx n lo hi p = eor tx n lo hi (p + 1) := by
  unfold eor
  rw [show (n - p).toNat = (n - (p + 1)).toNat + 1 by omega, eoo, if_pos h]
theorem eor_at {tx : Int → Int} {n lo hi p : Int} (h : ¬ (p < n ∧ lo ≤ tx p ∧ tx p ≤ hi)) : eor tx n lo hi p = p := by
  unfold eor
  cases e : (n - p).toNat with
  | zero => rfl
  | succ f => rw [eoo, if_neg h]
theorem eoo_bd {tx : Int → Int} {n lo hi : Int} : ∀ (f : Nat) (p : Int), p ≤ n → (p ≤ eoo tx n lo hi f p ∧ eoo tx n lo hi f p ≤ n) ∧ ∀ q : Int, p ≤ q → q < eoo tx n lo hi f p → lo ≤ tx q ∧ tx q ≤ hi
  | 0, p, h => by unfold eoo; exact ⟨by omega, fun q h0 h1 => by omega⟩
  | f + 1, p, h => by
    unfold eoo
    split
    · next c =>
      have ih := eoo_bd (tx := tx) (n := n) (lo := lo) (hi := hi) f (p + 1) (by omega)
      refine ⟨by omega, fun q h0 h1 => ?_⟩
      by_cases e : q = p
      · rw [e]; exact c.2
      · exact ih.2 q (by omega) h1
    · exact ⟨by omega, fun q h0 h1 => by omega⟩
theorem eor_bd {tx : Int → Int} {n lo hi p : Int} (h : p ≤ n) : (p ≤ eor tx n lo hi p ∧ eor tx n lo hi p ≤ n) ∧ ∀ q : Int, p ≤ q → q < eor tx n lo hi p → lo ≤ tx q ∧ tx q ≤ hi := eoo_bd _ _ h
/-- which word stands between b and e -/
def wk (tx : Int → Int) (b e : Int) : Int :=
  if e - b = 5 ∧ tx b = 108 ∧ tx (b + 1) = 101 ∧ tx (b + 2) = 118 ∧ tx (b + 3) = 101 ∧ tx (b + 4) = 108 then 4
  else if e - b = 3 ∧ tx b = 109 ∧ tx (b + 1) = 97 ∧ tx (b + 2) = 110 then 5
  else if e - b = 3 ∧ tx b = 101 ∧ tx (b + 1) = 97 ∧ tx (b + 2) = 114 then 6
  else if e - b = 3 ∧ tx b = 119 ∧ tx (b + 1) = 101 ∧ tx (b + 2) = 116 then 7
  else if e - b = 4 ∧ tx b = 112 ∧ tx (b + 1) = 97 ∧ tx (b + 2) = 99 ∧ tx (b + 3) = 101 then 8
  else 1
/-- the number between b and e, -1 where it is none -/
def nmv (tx : Int → Int) (b e : Int) : Int := if e - b = 1 then tx b - 48 else if e - b = 2 ∧ tx b ≠ 48 then (tx b - 48) * 10 + (tx (b + 1) - 48) else -1
/-- the end of the token at p -/
def nxt (tx : Int → Int) (n p : Int) : Int := if n ≤ p then p else if 97 ≤ tx p ∧ tx p ≤ 122 then eor tx n 97 122 (p + 1) else if 48 ≤ tx p ∧ tx p ≤ 57 then eor tx n 48 57 (p + 1) else p + 1
/-- the kind of the token at p -/
def kd (tx : Int → Int) (n p : Int) : Int := if n ≤ p then 0 else if 97 ≤ tx p ∧ tx p ≤ 122 then wk tx p (nxt tx n p) else if 48 ≤ tx p ∧ tx p ≤ 57 then (if nmv tx p (nxt tx n p) < 0 then 1 else 2) else if tx p = 59 then 3 else 1
/-- its number -/
def nmb (tx : Int → Int) (n p : Int) : Int := nmv tx p (nxt tx n p)
/-- where the i-th token begins -/
def ps (tx : Int → Int) (n : Int) : Nat → Int
  | 0 => skp tx n 0
  | i + 1 => skp tx n (nxt tx n (ps tx n i))
theorem wk_bd (tx : Int → Int) (b e : Int) : wk tx b e = 1 ∨ (4 ≤ wk tx b e ∧ wk tx b e ≤ 8) := by
  unfold wk
  repeat' split
  all_goals omega
theorem nxt_bd {tx : Int → Int} {n p : Int} (h : p < n) : p < nxt tx n p ∧ nxt tx n p ≤ n := by
  unfold nxt
  rw [if_neg (by omega)]
  have h1 := (eor_bd (tx := tx) (lo := 97) (hi := 122) (show p + 1 ≤ n by omega)).1
  have h2 := (eor_bd (tx := tx) (lo := 48) (hi := 57) (show p + 1 ≤ n by omega)).1
  repeat' split
  all_goals omega
theorem nxt_end {tx : Int → Int} {n p : Int} (h : n ≤ p) : nxt tx n p = p := if_pos h
theorem kd_end {tx : Int → Int} {n p : Int} (h : n ≤ p) : kd tx n p = 0 := if_pos h
theorem kd_0 {tx : Int → Int} {n p : Int} (h : kd tx n p = 0) : n ≤ p := by
  by_cases q : n ≤ p
  · exact q
  · exfalso
    unfold kd at h
    rw [if_neg q] at h
    have := wk_bd tx p (nxt tx n p)
    repeat' split at h
    all_goals omega
theorem kd_bd (tx : Int → Int) (n p : Int) : 0 ≤ kd tx n p ∧ kd tx n p ≤ 8 := by
  have := wk_bd tx p (nxt tx n p)
  unfold kd
  repeat' split
  all_goals omega
theorem ps_bd {tx : Int → Int} {n : Int} (hn : 0 ≤ n) : ∀ i : Nat, 0 ≤ ps tx n i ∧ ps tx n i ≤ n
  | 0 => skp_bd hn
  | i + 1 => by
    have h := ps_bd (tx := tx) hn i
    by_cases q : ps tx n i < n
    · have h1 := nxt_bd (tx := tx) q
      have h2 := skp_bd (tx := tx) h1.2
      show 0 ≤ skp tx n (nxt tx n (ps tx n i)) ∧ skp tx n (nxt tx n (ps tx n i)) ≤ n
      omega
    · have e : nxt tx n (ps tx n i) = ps tx n i := nxt_end (by omega)
      have h2 := skp_bd (tx := tx) (n := n) (p := ps tx n i) (by omega)
      show 0 ≤ skp tx n (nxt tx n (ps tx n i)) ∧ skp tx n (nxt tx n (ps tx n i)) ≤ n
      rw [e]; omega
theorem ps_ge {tx : Int → Int} {n : Int} (hn : 0 ≤ n) : ∀ i : Nat, ps tx n i < n → (i : Int) ≤ ps tx n i
  | 0, _ => (ps_bd hn 0).1
  | i + 1, h => by
    by_cases q : ps tx n i < n
    · have h1 := nxt_bd (tx := tx) q
      have h2 := skp_bd (tx := tx) h1.2
      have h3 := ps_ge hn i q
      show ((i + 1 : Nat) : Int) ≤ skp tx n (nxt tx n (ps tx n i))
      omega
    · exfalso
      have h2 : ps tx n (i + 1) = skp tx n (ps tx n i) := congrArg (skp tx n) (nxt_end (by omega))
      rw [skp_at (by omega)] at h2
      omega
theorem ps_stay {tx : Int → Int} {n : Int} {i : Nat} (h : n ≤ ps tx n i) : ps tx n (i + 1) = ps tx n i := by
  show skp tx n (nxt tx n (ps tx n i)) = ps tx n i
  rw [nxt_end h, skp_at (by omega)]
/-- the letters' number, as the reference reckons it -/
def lvl (tx : Int → Int) (b : Int) : Nat → Int
  | 0 => 0
  | k + 1 => if 7 < k then -1 else lvl tx b k * 256 + tx (b + (k : Int))
theorem lvl_bd {tx : Int → Int} {b : Int} : ∀ k : Nat, k ≤ 8 → (∀ q : Int, b ≤ q → q < b + (k : Int) → 97 ≤ tx q ∧ tx q ≤ 122) → 0 ≤ lvl tx b k ∧ 2 * lvl tx b k < 256 ^ k
  | 0, _, _ => by unfold lvl; decide
  | k + 1, hk, h => by
    have ih := lvl_bd (tx := tx) (b := b) k (by omega) (fun q h0 h1 => h q h0 (by omega))
    have h1 := h (b + (k : Int)) (by omega) (by omega)
    unfold lvl
    rw [if_neg (by omega), Int.pow_succ]
    omega
theorem lvl_S {tx : Int → Int} {b : Int} {k : Nat} (hk : k ≤ 7) : lvl tx b (k + 1) = lvl tx b k * 256 + tx (b + (k : Int)) := by
  show (if 7 < k then -1 else lvl tx b k * 256 + tx (b + (k : Int))) = _
  rw [if_neg (by omega)]
theorem lvl_big {tx : Int → Int} {b : Int} {k : Nat} (hk : 9 ≤ k) : lvl tx b k = -1 := by
  rw [show k = (k - 1) + 1 by omega]
  show (if 7 < k - 1 then -1 else _) = _
  rw [if_pos (by omega)]
section LV
variable {tx : Int → Int} {b e : Int}
theorem lvl_1 (hl : ∀ q : Int, b ≤ q → q < e → 97 ≤ tx q ∧ tx q ≤ 122) (he : e - b = 1) : 97 ≤ lvl tx b 1 ∧ lvl tx b 1 ≤ 122 := by
  have L0 : lvl tx b 0 = 0 := rfl
  have L1 : lvl tx b 1 = lvl tx b 0 * 256 + tx b := by
    have h := lvl_S (tx := tx) (b := b) (k := 0) (by omega)
    rw [show b + ((0 : Nat) : Int) = b by omega] at h
    exact h
  have g0 := hl b (by omega) (by omega)
  omega
theorem lvl_2 (hl : ∀ q : Int, b ≤ q → q < e → 97 ≤ tx q ∧ tx q ≤ 122) (he : e - b = 2) : 24929 ≤ lvl tx b 2 ∧ lvl tx b 2 ≤ 31354 := by
  have L0 : lvl tx b 0 = 0 := rfl
  have L1 : lvl tx b 1 = lvl tx b 0 * 256 + tx b := by
    have h := lvl_S (tx := tx) (b := b) (k := 0) (by omega)
    rw [show b + ((0 : Nat) : Int) = b by omega] at h
    exact h
  have L2 : lvl tx b 2 = lvl tx b 1 * 256 + tx (b + 1) := lvl_S (k := 1) (by omega)
  have g0 := hl b (by omega) (by omega)
  have g1 := hl (b + 1) (by omega) (by omega)
  omega
theorem lvl_3 (hl : ∀ q : Int, b ≤ q → q < e → 97 ≤ tx q ∧ tx q ≤ 122) (he : e - b = 3) : 6381921 ≤ lvl tx b 3 ∧ lvl tx b 3 ≤ 8026746 := by
  have L0 : lvl tx b 0 = 0 := rfl
  have L1 : lvl tx b 1 = lvl tx b 0 * 256 + tx b := by
    have h := lvl_S (tx := tx) (b := b) (k := 0) (by omega)
    rw [show b + ((0 : Nat) : Int) = b by omega] at h
    exact h
  have L2 : lvl tx b 2 = lvl tx b 1 * 256 + tx (b + 1) := lvl_S (k := 1) (by omega)
  have L3 : lvl tx b 3 = lvl tx b 2 * 256 + tx (b + 2) := lvl_S (k := 2) (by omega)
  have g0 := hl b (by omega) (by omega)
  have g1 := hl (b + 1) (by omega) (by omega)
  have g2 := hl (b + 2) (by omega) (by omega)
  omega
theorem lvl_4 (hl : ∀ q : Int, b ≤ q → q < e → 97 ≤ tx q ∧ tx q ≤ 122) (he : e - b = 4) : 1633771873 ≤ lvl tx b 4 ∧ lvl tx b 4 ≤ 2054847098 := by
  have L0 : lvl tx b 0 = 0 := rfl
  have L1 : lvl tx b 1 = lvl tx b 0 * 256 + tx b := by
    have h := lvl_S (tx := tx) (b := b) (k := 0) (by omega)
    rw [show b + ((0 : Nat) : Int) = b by omega] at h
    exact h
  have L2 : lvl tx b 2 = lvl tx b 1 * 256 + tx (b + 1) := lvl_S (k := 1) (by omega)
  have L3 : lvl tx b 3 = lvl tx b 2 * 256 + tx (b + 2) := lvl_S (k := 2) (by omega)
  have L4 : lvl tx b 4 = lvl tx b 3 * 256 + tx (b + 3) := lvl_S (k := 3) (by omega)
  have g0 := hl b (by omega) (by omega)
  have g1 := hl (b + 1) (by omega) (by omega)
  have g2 := hl (b + 2) (by omega) (by omega)
  have g3 := hl (b + 3) (by omega) (by omega)
  omega
theorem lvl_5 (hl : ∀ q : Int, b ≤ q → q < e → 97 ≤ tx q ∧ tx q ≤ 122) (he : e - b = 5) : 418245599585 ≤ lvl tx b 5 ∧ lvl tx b 5 ≤ 526040857210 := by
  have L0 : lvl tx b 0 = 0 := rfl
  have L1 : lvl tx b 1 = lvl tx b 0 * 256 + tx b := by
    have h := lvl_S (tx := tx) (b := b) (k := 0) (by omega)
    rw [show b + ((0 : Nat) : Int) = b by omega] at h
    exact h
  have L2 : lvl tx b 2 = lvl tx b 1 * 256 + tx (b + 1) := lvl_S (k := 1) (by omega)
  have L3 : lvl tx b 3 = lvl tx b 2 * 256 + tx (b + 2) := lvl_S (k := 2) (by omega)
  have L4 : lvl tx b 4 = lvl tx b 3 * 256 + tx (b + 3) := lvl_S (k := 3) (by omega)
  have L5 : lvl tx b 5 = lvl tx b 4 * 256 + tx (b + 4) := lvl_S (k := 4) (by omega)
  have g0 := hl b (by omega) (by omega)
  have g1 := hl (b + 1) (by omega) (by omega)
  have g2 := hl (b + 2) (by omega) (by omega)
  have g3 := hl (b + 3) (by omega) (by omega)
  have g4 := hl (b + 4) (by omega) (by omega)
  omega
theorem lvl_6 (hl : ∀ q : Int, b ≤ q → q < e → 97 ≤ tx q ∧ tx q ≤ 122) (he : e - b = 6) : 107070873493857 ≤ lvl tx b 6 ∧ lvl tx b 6 ≤ 134666459445882 := by
  have L0 : lvl tx b 0 = 0 := rfl
  have L1 : lvl tx b 1 = lvl tx b 0 * 256 + tx b := by
    have h := lvl_S (tx := tx) (b := b) (k := 0) (by omega)
    rw [show b + ((0 : Nat) : Int) = b by omega] at h
    exact h
  have L2 : lvl tx b 2 = lvl tx b 1 * 256 + tx (b + 1) := lvl_S (k := 1) (by omega)
  have L3 : lvl tx b 3 = lvl tx b 2 * 256 + tx (b + 2) := lvl_S (k := 2) (by omega)
  have L4 : lvl tx b 4 = lvl tx b 3 * 256 + tx (b + 3) := lvl_S (k := 3) (by omega)
  have L5 : lvl tx b 5 = lvl tx b 4 * 256 + tx (b + 4) := lvl_S (k := 4) (by omega)
  have L6 : lvl tx b 6 = lvl tx b 5 * 256 + tx (b + 5) := lvl_S (k := 5) (by omega)
  have g0 := hl b (by omega) (by omega)
  have g1 := hl (b + 1) (by omega) (by omega)
  have g2 := hl (b + 2) (by omega) (by omega)
  have g3 := hl (b + 3) (by omega) (by omega)
  have g4 := hl (b + 4) (by omega) (by omega)
  have g5 := hl (b + 5) (by omega) (by omega)
  omega
theorem lvl_7 (hl : ∀ q : Int, b ≤ q → q < e → 97 ≤ tx q ∧ tx q ≤ 122) (he : e - b = 7) : 27410143614427489 ≤ lvl tx b 7 ∧ lvl tx b 7 ≤ 34474613618145914 := by
  have L0 : lvl tx b 0 = 0 := rfl
  have L1 : lvl tx b 1 = lvl tx b 0 * 256 + tx b := by
    have h := lvl_S (tx := tx) (b := b) (k := 0) (by omega)
    rw [show b + ((0 : Nat) : Int) = b by omega] at h
    exact h
  have L2 : lvl tx b 2 = lvl tx b 1 * 256 + tx (b + 1) := lvl_S (k := 1) (by omega)
  have L3 : lvl tx b 3 = lvl tx b 2 * 256 + tx (b + 2) := lvl_S (k := 2) (by omega)
  have L4 : lvl tx b 4 = lvl tx b 3 * 256 + tx (b + 3) := lvl_S (k := 3) (by omega)
  have L5 : lvl tx b 5 = lvl tx b 4 * 256 + tx (b + 4) := lvl_S (k := 4) (by omega)
  have L6 : lvl tx b 6 = lvl tx b 5 * 256 + tx (b + 5) := lvl_S (k := 5) (by omega)
  have L7 : lvl tx b 7 = lvl tx b 6 * 256 + tx (b + 6) := lvl_S (k := 6) (by omega)
  have g0 := hl b (by omega) (by omega)
  have g1 := hl (b + 1) (by omega) (by omega)
  have g2 := hl (b + 2) (by omega) (by omega)
  have g3 := hl (b + 3) (by omega) (by omega)
  have g4 := hl (b + 4) (by omega) (by omega)
  have g5 := hl (b + 5) (by omega) (by omega)
  have g6 := hl (b + 6) (by omega) (by omega)
  omega
theorem lvl_8 (hl : ∀ q : Int, b ≤ q → q < e → 97 ≤ tx q ∧ tx q ≤ 122) (he : e - b = 8) : 7016996765293437281 ≤ lvl tx b 8 ∧ lvl tx b 8 ≤ 8825501086245354106 := by
  have L0 : lvl tx b 0 = 0 := rfl
  have L1 : lvl tx b 1 = lvl tx b 0 * 256 + tx b := by
    have h := lvl_S (tx := tx) (b := b) (k := 0) (by omega)
    rw [show b + ((0 : Nat) : Int) = b by omega] at h
    exact h
  have L2 : lvl tx b 2 = lvl tx b 1 * 256 + tx (b + 1) := lvl_S (k := 1) (by omega)
  have L3 : lvl tx b 3 = lvl tx b 2 * 256 + tx (b + 2) := lvl_S (k := 2) (by omega)
  have L4 : lvl tx b 4 = lvl tx b 3 * 256 + tx (b + 3) := lvl_S (k := 3) (by omega)
  have L5 : lvl tx b 5 = lvl tx b 4 * 256 + tx (b + 4) := lvl_S (k := 4) (by omega)
  have L6 : lvl tx b 6 = lvl tx b 5 * 256 + tx (b + 5) := lvl_S (k := 5) (by omega)
  have L7 : lvl tx b 7 = lvl tx b 6 * 256 + tx (b + 6) := lvl_S (k := 6) (by omega)
  have L8 : lvl tx b 8 = lvl tx b 7 * 256 + tx (b + 7) := lvl_S (k := 7) (by omega)
  have g0 := hl b (by omega) (by omega)
  have g1 := hl (b + 1) (by omega) (by omega)
  have g2 := hl (b + 2) (by omega) (by omega)
  have g3 := hl (b + 3) (by omega) (by omega)
  have g4 := hl (b + 4) (by omega) (by omega)
  have g5 := hl (b + 5) (by omega) (by omega)
  have g6 := hl (b + 6) (by omega) (by omega)
  have g7 := hl (b + 7) (by omega) (by omega)
  omega
theorem lvw_level (hl : ∀ q : Int, b ≤ q → q < e → 97 ≤ tx q ∧ tx q ≤ 122) (he : b < e) : lvl tx b (e - b).toNat = 465558725996 ↔ e - b = 5 ∧ tx b = 108 ∧ tx (b + 1) = 101 ∧ tx (b + 2) = 118 ∧ tx (b + 3) = 101 ∧ tx (b + 4) = 108 := by
  by_cases h9 : 9 ≤ e - b
  · rw [lvl_big (by omega)]
    exact ⟨fun h => absurd h (by decide), fun h => by omega⟩
  · rcases (by omega : e - b = 1 ∨ e - b = 2 ∨ e - b = 3 ∨ e - b = 4 ∨ e - b = 5 ∨ e - b = 6 ∨ e - b = 7 ∨ e - b = 8) with h | h | h | h | h | h | h | h
    · rw [show (e - b).toNat = 1 by omega]
      have v := lvl_1 hl h
      exact ⟨fun h2 => by omega, fun h2 => by omega⟩
    · rw [show (e - b).toNat = 2 by omega]
      have v := lvl_2 hl h
      exact ⟨fun h2 => by omega, fun h2 => by omega⟩
    · rw [show (e - b).toNat = 3 by omega]
      have v := lvl_3 hl h
      exact ⟨fun h2 => by omega, fun h2 => by omega⟩
    · rw [show (e - b).toNat = 4 by omega]
      have v := lvl_4 hl h
      exact ⟨fun h2 => by omega, fun h2 => by omega⟩
    · rw [show (e - b).toNat = 5 by omega]
      have L0 : lvl tx b 0 = 0 := rfl
      have L1 : lvl tx b 1 = lvl tx b 0 * 256 + tx b := by
        have h := lvl_S (tx := tx) (b := b) (k := 0) (by omega)
        rw [show b + ((0 : Nat) : Int) = b by omega] at h
        exact h
      have L2 : lvl tx b 2 = lvl tx b 1 * 256 + tx (b + 1) := lvl_S (k := 1) (by omega)
      have L3 : lvl tx b 3 = lvl tx b 2 * 256 + tx (b + 2) := lvl_S (k := 2) (by omega)
      have L4 : lvl tx b 4 = lvl tx b 3 * 256 + tx (b + 3) := lvl_S (k := 3) (by omega)
      have L5 : lvl tx b 5 = lvl tx b 4 * 256 + tx (b + 4) := lvl_S (k := 4) (by omega)
      have g0 := hl b (by omega) (by omega)
      have g1 := hl (b + 1) (by omega) (by omega)
      have g2 := hl (b + 2) (by omega) (by omega)
      have g3 := hl (b + 3) (by omega) (by omega)
      have g4 := hl (b + 4) (by omega) (by omega)
      exact ⟨fun h2 => by refine ⟨h, ?_, ?_, ?_, ?_, ?_⟩ <;> omega, fun h2 => by omega⟩
    · rw [show (e - b).toNat = 6 by omega]
      have v := lvl_6 hl h
      exact ⟨fun h2 => by omega, fun h2 => by omega⟩
    · rw [show (e - b).toNat = 7 by omega]
      have v := lvl_7 hl h
      exact ⟨fun h2 => by omega, fun h2 => by omega⟩
    · rw [show (e - b).toNat = 8 by omega]
      have v := lvl_8 hl h
      exact ⟨fun h2 => by omega, fun h2 => by omega⟩
theorem lvw_man (hl : ∀ q : Int, b ≤ q → q < e → 97 ≤ tx q ∧ tx q ≤ 122) (he : b < e) : lvl tx b (e - b).toNat = 7168366 ↔ e - b = 3 ∧ tx b = 109 ∧ tx (b + 1) = 97 ∧ tx (b + 2) = 110 := by
  by_cases h9 : 9 ≤ e - b
  · rw [lvl_big (by omega)]
    exact ⟨fun h => absurd h (by decide), fun h => by omega⟩
  · rcases (by omega : e - b = 1 ∨ e - b = 2 ∨ e - b = 3 ∨ e - b = 4 ∨ e - b = 5 ∨ e - b = 6 ∨ e - b = 7 ∨ e - b = 8) with h | h | h | h | h | h | h | h
    · rw [show (e - b).toNat = 1 by omega]
      have v := lvl_1 hl h
      exact ⟨fun h2 => by omega, fun h2 => by omega⟩
    · rw [show (e - b).toNat = 2 by omega]
      have v := lvl_2 hl h
      exact ⟨fun h2 => by omega, fun h2 => by omega⟩
    · rw [show (e - b).toNat = 3 by omega]
      have L0 : lvl tx b 0 = 0 := rfl
      have L1 : lvl tx b 1 = lvl tx b 0 * 256 + tx b := by
        have h := lvl_S (tx := tx) (b := b) (k := 0) (by omega)
        rw [show b + ((0 : Nat) : Int) = b by omega] at h
        exact h
      have L2 : lvl tx b 2 = lvl tx b 1 * 256 + tx (b + 1) := lvl_S (k := 1) (by omega)
      have L3 : lvl tx b 3 = lvl tx b 2 * 256 + tx (b + 2) := lvl_S (k := 2) (by omega)
      have g0 := hl b (by omega) (by omega)
      have g1 := hl (b + 1) (by omega) (by omega)
      have g2 := hl (b + 2) (by omega) (by omega)
      exact ⟨fun h2 => by refine ⟨h, ?_, ?_, ?_⟩ <;> omega, fun h2 => by omega⟩
    · rw [show (e - b).toNat = 4 by omega]
      have v := lvl_4 hl h
      exact ⟨fun h2 => by omega, fun h2 => by omega⟩
    · rw [show (e - b).toNat = 5 by omega]
      have v := lvl_5 hl h
      exact ⟨fun h2 => by omega, fun h2 => by omega⟩
    · rw [show (e - b).toNat = 6 by omega]
      have v := lvl_6 hl h
      exact ⟨fun h2 => by omega, fun h2 => by omega⟩
    · rw [show (e - b).toNat = 7 by omega]
      have v := lvl_7 hl h
      exact ⟨fun h2 => by omega, fun h2 => by omega⟩
    · rw [show (e - b).toNat = 8 by omega]
      have v := lvl_8 hl h
      exact ⟨fun h2 => by omega, fun h2 => by omega⟩
theorem lvw_ear (hl : ∀ q : Int, b ≤ q → q < e → 97 ≤ tx q ∧ tx q ≤ 122) (he : b < e) : lvl tx b (e - b).toNat = 6644082 ↔ e - b = 3 ∧ tx b = 101 ∧ tx (b + 1) = 97 ∧ tx (b + 2) = 114 := by
  by_cases h9 : 9 ≤ e - b
  · rw [lvl_big (by omega)]
    exact ⟨fun h => absurd h (by decide), fun h => by omega⟩
  · rcases (by omega : e - b = 1 ∨ e - b = 2 ∨ e - b = 3 ∨ e - b = 4 ∨ e - b = 5 ∨ e - b = 6 ∨ e - b = 7 ∨ e - b = 8) with h | h | h | h | h | h | h | h
    · rw [show (e - b).toNat = 1 by omega]
      have v := lvl_1 hl h
      exact ⟨fun h2 => by omega, fun h2 => by omega⟩
    · rw [show (e - b).toNat = 2 by omega]
      have v := lvl_2 hl h
      exact ⟨fun h2 => by omega, fun h2 => by omega⟩
    · rw [show (e - b).toNat = 3 by omega]
      have L0 : lvl tx b 0 = 0 := rfl
      have L1 : lvl tx b 1 = lvl tx b 0 * 256 + tx b := by
        have h := lvl_S (tx := tx) (b := b) (k := 0) (by omega)
        rw [show b + ((0 : Nat) : Int) = b by omega] at h
        exact h
      have L2 : lvl tx b 2 = lvl tx b 1 * 256 + tx (b + 1) := lvl_S (k := 1) (by omega)
      have L3 : lvl tx b 3 = lvl tx b 2 * 256 + tx (b + 2) := lvl_S (k := 2) (by omega)
      have g0 := hl b (by omega) (by omega)
      have g1 := hl (b + 1) (by omega) (by omega)
      have g2 := hl (b + 2) (by omega) (by omega)
      exact ⟨fun h2 => by refine ⟨h, ?_, ?_, ?_⟩ <;> omega, fun h2 => by omega⟩
    · rw [show (e - b).toNat = 4 by omega]
      have v := lvl_4 hl h
      exact ⟨fun h2 => by omega, fun h2 => by omega⟩
    · rw [show (e - b).toNat = 5 by omega]
      have v := lvl_5 hl h
      exact ⟨fun h2 => by omega, fun h2 => by omega⟩
    · rw [show (e - b).toNat = 6 by omega]
      have v := lvl_6 hl h
      exact ⟨fun h2 => by omega, fun h2 => by omega⟩
    · rw [show (e - b).toNat = 7 by omega]
      have v := lvl_7 hl h
      exact ⟨fun h2 => by omega, fun h2 => by omega⟩
    · rw [show (e - b).toNat = 8 by omega]
      have v := lvl_8 hl h
      exact ⟨fun h2 => by omega, fun h2 => by omega⟩
theorem lvw_wet (hl : ∀ q : Int, b ≤ q → q < e → 97 ≤ tx q ∧ tx q ≤ 122) (he : b < e) : lvl tx b (e - b).toNat = 7824756 ↔ e - b = 3 ∧ tx b = 119 ∧ tx (b + 1) = 101 ∧ tx (b + 2) = 116 := by
  by_cases h9 : 9 ≤ e - b
  · rw [lvl_big (by omega)]
    exact ⟨fun h => absurd h (by decide), fun h => by omega⟩
  · rcases (by omega : e - b = 1 ∨ e - b = 2 ∨ e - b = 3 ∨ e - b = 4 ∨ e - b = 5 ∨ e - b = 6 ∨ e - b = 7 ∨ e - b = 8) with h | h | h | h | h | h | h | h
    · rw [show (e - b).toNat = 1 by omega]
      have v := lvl_1 hl h
      exact ⟨fun h2 => by omega, fun h2 => by omega⟩
    · rw [show (e - b).toNat = 2 by omega]
      have v := lvl_2 hl h
      exact ⟨fun h2 => by omega, fun h2 => by omega⟩
    · rw [show (e - b).toNat = 3 by omega]
      have L0 : lvl tx b 0 = 0 := rfl
      have L1 : lvl tx b 1 = lvl tx b 0 * 256 + tx b := by
        have h := lvl_S (tx := tx) (b := b) (k := 0) (by omega)
        rw [show b + ((0 : Nat) : Int) = b by omega] at h
        exact h
      have L2 : lvl tx b 2 = lvl tx b 1 * 256 + tx (b + 1) := lvl_S (k := 1) (by omega)
      have L3 : lvl tx b 3 = lvl tx b 2 * 256 + tx (b + 2) := lvl_S (k := 2) (by omega)
      have g0 := hl b (by omega) (by omega)
      have g1 := hl (b + 1) (by omega) (by omega)
      have g2 := hl (b + 2) (by omega) (by omega)
      exact ⟨fun h2 => by refine ⟨h, ?_, ?_, ?_⟩ <;> omega, fun h2 => by omega⟩
    · rw [show (e - b).toNat = 4 by omega]
      have v := lvl_4 hl h
      exact ⟨fun h2 => by omega, fun h2 => by omega⟩
    · rw [show (e - b).toNat = 5 by omega]
      have v := lvl_5 hl h
      exact ⟨fun h2 => by omega, fun h2 => by omega⟩
    · rw [show (e - b).toNat = 6 by omega]
      have v := lvl_6 hl h
      exact ⟨fun h2 => by omega, fun h2 => by omega⟩
    · rw [show (e - b).toNat = 7 by omega]
      have v := lvl_7 hl h
      exact ⟨fun h2 => by omega, fun h2 => by omega⟩
    · rw [show (e - b).toNat = 8 by omega]
      have v := lvl_8 hl h
      exact ⟨fun h2 => by omega, fun h2 => by omega⟩
theorem lvw_pace (hl : ∀ q : Int, b ≤ q → q < e → 97 ≤ tx q ∧ tx q ≤ 122) (he : b < e) : lvl tx b (e - b).toNat = 1885430629 ↔ e - b = 4 ∧ tx b = 112 ∧ tx (b + 1) = 97 ∧ tx (b + 2) = 99 ∧ tx (b + 3) = 101 := by
  by_cases h9 : 9 ≤ e - b
  · rw [lvl_big (by omega)]
    exact ⟨fun h => absurd h (by decide), fun h => by omega⟩
  · rcases (by omega : e - b = 1 ∨ e - b = 2 ∨ e - b = 3 ∨ e - b = 4 ∨ e - b = 5 ∨ e - b = 6 ∨ e - b = 7 ∨ e - b = 8) with h | h | h | h | h | h | h | h
    · rw [show (e - b).toNat = 1 by omega]
      have v := lvl_1 hl h
      exact ⟨fun h2 => by omega, fun h2 => by omega⟩
    · rw [show (e - b).toNat = 2 by omega]
      have v := lvl_2 hl h
      exact ⟨fun h2 => by omega, fun h2 => by omega⟩
    · rw [show (e - b).toNat = 3 by omega]
      have v := lvl_3 hl h
      exact ⟨fun h2 => by omega, fun h2 => by omega⟩
    · rw [show (e - b).toNat = 4 by omega]
      have L0 : lvl tx b 0 = 0 := rfl
      have L1 : lvl tx b 1 = lvl tx b 0 * 256 + tx b := by
        have h := lvl_S (tx := tx) (b := b) (k := 0) (by omega)
        rw [show b + ((0 : Nat) : Int) = b by omega] at h
        exact h
      have L2 : lvl tx b 2 = lvl tx b 1 * 256 + tx (b + 1) := lvl_S (k := 1) (by omega)
      have L3 : lvl tx b 3 = lvl tx b 2 * 256 + tx (b + 2) := lvl_S (k := 2) (by omega)
      have L4 : lvl tx b 4 = lvl tx b 3 * 256 + tx (b + 3) := lvl_S (k := 3) (by omega)
      have g0 := hl b (by omega) (by omega)
      have g1 := hl (b + 1) (by omega) (by omega)
      have g2 := hl (b + 2) (by omega) (by omega)
      have g3 := hl (b + 3) (by omega) (by omega)
      exact ⟨fun h2 => by refine ⟨h, ?_, ?_, ?_, ?_⟩ <;> omega, fun h2 => by omega⟩
    · rw [show (e - b).toNat = 5 by omega]
      have v := lvl_5 hl h
      exact ⟨fun h2 => by omega, fun h2 => by omega⟩
    · rw [show (e - b).toNat = 6 by omega]
      have v := lvl_6 hl h
      exact ⟨fun h2 => by omega, fun h2 => by omega⟩
    · rw [show (e - b).toNat = 7 by omega]
      have v := lvl_7 hl h
      exact ⟨fun h2 => by omega, fun h2 => by omega⟩
    · rw [show (e - b).toNat = 8 by omega]
      have v := lvl_8 hl h
      exact ⟨fun h2 => by omega, fun h2 => by omega⟩
/-- the reference's words are the class's -/
theorem lvl_wk (hl : ∀ q : Int, b ≤ q → q < e → 97 ≤ tx q ∧ tx q ≤ 122) (he : b < e) : wk tx b e = if lvl tx b (e - b).toNat = 465558725996 then 4 else if lvl tx b (e - b).toNat = 7168366 then 5 else if lvl tx b (e - b).toNat = 6644082 then 6 else if lvl tx b (e - b).toNat = 7824756 then 7 else if lvl tx b (e - b).toNat = 1885430629 then 8 else 1 := by
  unfold wk
  simp only [lvw_level hl he, lvw_man hl he, lvw_ear hl he, lvw_wet hl he, lvw_pace hl he]
end LV
