/-! ===== pure: the reference's hymns and images ===== -/
theorem us_us (u : zU) (c : Nat) (f g : Int → Int) : us (us u c f) c g = us u c g := by
  funext d i
  unfold us
  split <;> rfl
theorem us_self (u : zU) (c : Nat) : us u c (u c) = u := by
  funext d i
  unfold us
  split
  · next h => rw [h]
  · rfl
theorem plm_of {w m : Int} (hw : 0 ≤ w ∧ w < 512) (hm : 0 ≤ m ∧ m < 3) : (zI ((zI w >>> (zI (3 * m) &&& 31)).toInt) &&& zI 7).toInt = pl w m := by
  have h : ∀ w : Fin 512, ∀ m : Fin 3, (fun w m : Int => (zI ((zI w >>> (zI (3 * m) &&& 31)).toInt) &&& zI 7).toInt = pl w m) w.val m.val := by decide +kernel
  have q := h ⟨w.toNat, by omega⟩ ⟨m.toNat, by omega⟩
  simp only [] at q
  rw [Int.toNat_of_nonneg hw.1, Int.toNat_of_nonneg hm.1] at q
  exact q
theorem mvm_of {w m l : Int} (hw : 0 ≤ w ∧ w < 512) (hm : 0 ≤ m ∧ m < 3) (hl : 0 ≤ l ∧ l < 8) : (zI (l - pl w m) <<< (zI (3 * m) &&& 31)).toInt = mv w (8 * m + l) - w := by
  have h : ∀ w : Fin 512, ∀ m : Fin 3, ∀ l : Fin 8, (fun w m l : Int => (zI (l - pl w m) <<< (zI (3 * m) &&& 31)).toInt = mv w (8 * m + l) - w) w.val m.val l.val := by decide +kernel
  have q := h ⟨w.toNat, by omega⟩ ⟨m.toNat, by omega⟩ ⟨l.toNat, by omega⟩
  simp only [] at q
  rw [Int.toNat_of_nonneg hw.1, Int.toNat_of_nonneg hm.1, Int.toNat_of_nonneg hl.1] at q
  exact q
theorem enc_bd {G : Int} (h : G = 1000 ∨ (0 ≤ G ∧ G ≤ 56)) : -9 ≤ enc G ∧ enc G ≤ 56 := by unfold enc; split <;> omega
theorem dab_m {a b r : Int} (h : (b < a ∧ r = a - b) ∨ (a ≤ b ∧ r = b - a)) : r = dab b a := by unfold dab; split <;> omega
theorem cst_yes {G d : Int} (h : G = 1000 ∨ (0 ≤ G ∧ G ≤ 56)) (hn : enc G ≠ -9) (hd : 0 ≤ d ∧ d ≤ 7) : enc G + d = enc (d + G) := by
  unfold enc at hn ⊢
  split at hn
  · exact absurd rfl hn
  · rw [if_neg (by omega), if_neg (by omega)]; omega
theorem cst_no {G d : Int} (h : G = 1000 ∨ (0 ≤ G ∧ G ≤ 56)) (hn : enc G = -9) (hd : 0 ≤ d ∧ d ≤ 7) : -9 = enc (d + G) := by
  unfold enc at hn ⊢
  split at hn
  · rw [if_pos (by omega)]
  · omega
theorem cst_bd {G d : Int} (hd : 0 ≤ d ∧ d ≤ 7) (h : G = 1000 ∨ (0 ≤ G ∧ G ≤ 56)) : -9 ≤ enc (d + G) ∧ enc (d + G) ≤ 63 := by unfold enc; split <;> omega
theorem enc_e {b B : Int} (h : 0 ≤ B ∧ B ≤ 1000) (hb : b = enc B) : -9 ≤ b ∧ b ≤ 1000 := by unfold enc at hb; split at hb <;> omega
def PlS (u : zU) (s : Int → Int) (j : Int) : Prop := ∀ k : Int, j ≤ k → k ≤ u 0 31 → ∀ w : Int, 0 ≤ w → w < 512 → s (512 * k + w) = enc (hc (mhw u) (u 0 13) (u 0 31) (u 0 31 - k).toNat w)
def PlT (u : zU) (s : Int → Int) (k w : Int) : Prop := PlS u s (k + 1) ∧ ∀ v : Int, 0 ≤ v → v < w → s (512 * k + v) = enc (hc (mhw u) (u 0 13) (u 0 31) (u 0 31 - k).toNat v)
theorem z0_step {n i : Int} {s : Int → Int} (hs : ∀ v : Int, 0 ≤ v → v < i → s (512 * n + v) = 0) : ∀ v : Int, 0 ≤ v → v < i + 1 → (fun j : Int => if j = 512 * n + i then 0 else s j) (512 * n + v) = 0 := by
  intro v h0 h1
  show (if 512 * n + v = 512 * n + i then 0 else s (512 * n + v)) = 0
  split
  · rfl
  · exact hs v h0 (by omega)
theorem PlS_0 {u : zU} {s : Int → Int} {i : Int} (hi : 512 ≤ i) (hs : ∀ v : Int, 0 ≤ v → v < i → s (512 * u 0 31 + v) = 0) : PlS u s (u 0 31 - 1 + 1) := by
  intro k h0 h1 w h2 h3
  rw [show k = u 0 31 by omega, show u 0 31 - u 0 31 = 0 by omega, hs w h2 (by omega)]
  rfl
theorem PlS_end {u : zU} {s : Int → Int} {k w : Int} (h : PlT u s k w) (hw : 512 ≤ w) : PlS u s (k + -1 + 1) := by
  intro j h0 h1 v h2 h3
  by_cases e : j = k
  · rw [e]; exact h.2 v h2 (by omega)
  · exact h.1 j (by omega) h1 v h2 h3
theorem PlT_put {u : zU} {s : Int → Int} {k w v : Int} (hw : 0 ≤ w ∧ w < 512) (h : PlT u s k w) (hv : v = enc (hc (mhw u) (u 0 13) (u 0 31) (u 0 31 - k).toNat w)) : PlT u (fun j => if j = 512 * k + w then v else s j) k (w + 1) := by
  refine ⟨fun j h0 h1 q h2 h3 => ?_, fun q h0 h1 => ?_⟩
  · show (if 512 * j + q = 512 * k + w then v else s (512 * j + q)) = _
    rw [if_neg (by omega)]; exact h.1 j h0 h1 q h2 h3
  · show (if 512 * k + q = 512 * k + w then v else s (512 * k + q)) = _
    by_cases e : q = w
    · rw [if_pos (by rw [e]), e, hv]
    · rw [if_neg (by omega)]; exact h.2 q h0 (by omega)
theorem pl_val {u : zU} {k w b m : Int} (hk : 0 ≤ k ∧ k < u 0 31) (hp : 0 ≤ u 0 13 ∧ u 0 13 ≤ 3) (hb : b = enc (mvc (mhw u k) (hc (mhw u) (u 0 13) (u 0 31) (u 0 31 - 1 - k).toNat) w m.toNat)) (hm : m = 8 * u 0 13) : b = enc (hc (mhw u) (u 0 13) (u 0 31) (u 0 31 - k).toNat w) := by
  rw [hb, show (u 0 31 - k).toNat = (u 0 31 - 1 - k).toNat + 1 by omega, hc, show u 0 31 - 1 - (((u 0 31 - 1 - k).toNat : Nat) : Int) = k by omega, hm]
theorem pls_yes {A : Int → Bool} {G : Int → Int} {w m b v : Int} (hm : 0 ≤ m) (hb : b = enc (mvc A G w m.toNat)) (hA : A (m % 8) = true) (hG : G (mv w m) = 1000 ∨ (0 ≤ G (mv w m) ∧ G (mv w m) ≤ 56)) (hB : 0 ≤ mvc A G w m.toNat ∧ mvc A G w m.toNat ≤ 1000) (hd : 0 ≤ dab (m % 8) (pl w (m / 8)) ∧ dab (m % 8) (pl w (m / 8)) ≤ 7)
    (hv : (enc (dab (m % 8) (pl w (m / 8)) + G (mv w m)) ≠ -9 ∧ (b = -9 ∨ enc (dab (m % 8) (pl w (m / 8)) + G (mv w m)) < b) ∧ v = enc (dab (m % 8) (pl w (m / 8)) + G (mv w m))) ∨ ((enc (dab (m % 8) (pl w (m / 8)) + G (mv w m)) = -9 ∨ (b ≠ -9 ∧ b ≤ enc (dab (m % 8) (pl w (m / 8)) + G (mv w m)))) ∧ v = b)) : v = enc (mvc A G w (m + 1).toNat) := by
  rw [mvc_step hm, if_pos hA]
  generalize mvc A G w m.toNat = B at *
  generalize dab (m % 8) (pl w (m / 8)) = d at *
  generalize G (mv w m) = g at *
  unfold enc at *
  by_cases h1 : 1000 ≤ d + g
  · rw [if_pos h1] at hv
    have h2 : ¬ (d + g < B) := by omega
    rw [if_neg h2, ← hb]
    omega
  · rw [if_neg h1] at hv
    by_cases h2 : d + g < B
    · rw [if_pos h2, if_neg h1]
      by_cases h3 : 1000 ≤ B
      · rw [if_pos h3] at hb; omega
      · rw [if_neg h3] at hb; omega
    · rw [if_neg h2, ← hb]
      rw [if_neg (by omega)] at hb
      omega
theorem pls_no {A : Int → Bool} {G : Int → Int} {w m b v : Int} (hm : 0 ≤ m) (hb : b = enc (mvc A G w m.toNat)) (hA : A (m % 8) = false) (hv : v = b) : v = enc (mvc A G w (m + 1).toNat) := by
  rw [mvc_step hm, if_neg (by rw [hA]; decide), hv, hb]
theorem hc_56 {A : Int → Int → Bool} {pp n : Int} {r : Nat} (hr : r ≤ 8) (w : Int) : hc A pp n r w = 1000 ∨ (0 ≤ hc A pp n r w ∧ hc A pp n r w ≤ 56) := by
  have h1 := hc_bd A pp n r w
  rcases hc_small A pp n r w with h | h
  · exact Or.inl h
  · exact Or.inr (by omega)
theorem pl_G {u : zU} {s : Int → Int} {k w v : Int} (h : PlT u s k w) (hk : 0 ≤ k ∧ k < u 0 31) (hv : 0 ≤ v ∧ v < 512) : s (512 * k + 512 + v) = enc (hc (mhw u) (u 0 13) (u 0 31) (u 0 31 - 1 - k).toNat v) := by
  have q := h.1 (k + 1) (by omega) (by omega) v hv.1 hv.2
  rw [show 512 * (k + 1) + v = 512 * k + 512 + v by omega, show (u 0 31 - (k + 1)).toNat = (u 0 31 - 1 - k).toNat by omega] at q
  exact q
theorem pl_G2 {u : zU} {s : Int → Int} {k v : Int} (h : PlS u s 0) (hk : 0 ≤ k ∧ k < u 0 31) (hv : 0 ≤ v ∧ v < 512) : s (512 * k + 512 + v) = enc (hc (mhw u) (u 0 13) (u 0 31) (u 0 31 - 1 - k).toNat v) := by
  have q := h (k + 1) (by omega) (by omega) v hv.1 hv.2
  rw [show 512 * (k + 1) + v = 512 * k + 512 + v by omega, show (u 0 31 - (k + 1)).toNat = (u 0 31 - 1 - k).toNat by omega] at q
  exact q
theorem pl_T {u : zU} {s : Int → Int} {k v : Int} (h : PlS u s 0) (hk : 0 ≤ k ∧ k < u 0 31) (hv : 0 ≤ v ∧ v < 512) : s (512 * k + v) = enc (hc (mhw u) (u 0 13) (u 0 31) (u 0 31 - k).toNat v) := h k hk.1 (by omega) v hv.1 hv.2
theorem pl_S {u : zU} {s : Int → Int} {v : Int} (hn : 0 ≤ u 0 31) (hv : 0 ≤ v ∧ v < 512) (h : PlS u s 0) : s v = enc (hc (mhw u) (u 0 13) (u 0 31) (u 0 31).toNat v) := by
  have q := h 0 (Int.le_refl _) hn v hv.1 hv.2
  rw [show 512 * 0 + v = v by omega, show u 0 31 - 0 = u 0 31 by omega] at q
  exact q
theorem stw_m {S : Int → Int} {pp : Int} (hp : 0 ≤ pp ∧ pp ≤ 3) (hz : ∀ i : Int, pp ≤ i → i < 3 → S i = 0) : S 0 + 8 * S 1 + 64 * S 2 = stw S pp := by
  have z0 := hz 0
  have z1 := hz 1
  have z2 := hz 2
  unfold stw
  split <;> split <;> split <;> omega
theorem pl_clw {u : zU} {s : Int → Int} {v : Int} (hn : 0 ≤ u 0 31) (hv : 0 ≤ v ∧ v < 512) (h : PlS u s 0) : s v = clw (mhw u) (u 0 13) (u 0 31) v := by
  rw [pl_S hn hv h]; rfl
theorem pl_ne {u : zU} {s : Int → Int} {v : Int} (hn : 0 ≤ u 0 31) (hv : 0 ≤ v ∧ v < 512) (h : PlS u s 0) (h9 : s v ≠ -9) : ¬ 1000 ≤ hc (mhw u) (u 0 13) (u 0 31) (u 0 31).toNat v := fun q => h9 (by rw [pl_S hn hv h]; exact if_pos q)
theorem pl_ge {u : zU} {s : Int → Int} {v : Int} (hn : 0 ≤ u 0 31) (hv : 0 ≤ v ∧ v < 512) (h : PlS u s 0) (h9 : s v = -9) : 1000 ≤ hc (mhw u) (u 0 13) (u 0 31) (u 0 31).toNat v := by
  rw [pl_S hn hv h] at h9
  have := (hc_bd (mhw u) (u 0 13) (u 0 31) (u 0 31).toNat v).1
  unfold enc at h9
  split at h9 <;> omega
theorem fgm_min {A : Int → Bool} {G : Int → Int} {w t : Int} : ∀ (f : Nat) (m j : Int), 0 ≤ m → m ≤ j → j < fgm A G w t f m → ¬ (A (j % 8) = true ∧ dab (j % 8) (pl w (j / 8)) + G (mv w j) = t)
  | 0, m, j, h, h0, h1 => by
    unfold fgm at h1
    omega
  | f + 1, m, j, h, h0, h1 => by
    unfold fgm at h1
    by_cases q : A (m % 8) = true ∧ dab (m % 8) (pl w (m / 8)) + G (mv w m) = t
    · rw [if_pos q] at h1; omega
    · rw [if_neg q] at h1
      by_cases e : j = m
      · rw [e]; exact q
      · exact fgm_min f (m + 1) j (by omega) (by omega) h1
theorem eb_min {A : Int → Int → Bool} {pp n i w m : Int} (hm : 0 ≤ m ∧ m ≤ ebm A pp n i w) (hA : A i (m % 8) = true) (hy : dab (m % 8) (pl w (m / 8)) + hc A pp n (n - 1 - i).toNat (mv w m) = hc A pp n (n - i).toNat w) : m = ebm A pp n i w := by
  by_cases e : m = ebm A pp n i w
  · exact e
  · exact absurd ⟨hA, hy⟩ (fgm_min _ 0 m (Int.le_refl _) hm.1 (show m < ebm A pp n i w by omega))
theorem ebm_eq {A : Int → Int → Bool} {pp n i w : Int} (hp : 0 ≤ pp ∧ pp ≤ 3) (hi : 0 ≤ i ∧ i < n) (h : hc A pp n (n - i).toNat w < 1000) : A i (ebm A pp n i w % 8) = true ∧ dab (ebm A pp n i w % 8) (pl w (ebm A pp n i w / 8)) + hc A pp n (n - 1 - i).toNat (mv w (ebm A pp n i w)) = hc A pp n (n - i).toNat w := by
  have e : (n - i).toNat = (n - 1 - i).toNat + 1 := by omega
  have e2 : hc A pp n (n - i).toNat w = mvc (A i) (hc A pp n (n - 1 - i).toNat) w (8 * pp).toNat := by
    rw [e]
    show mvc (A (n - 1 - (((n - 1 - i).toNat : Nat) : Int))) _ _ _ = _
    rw [show n - 1 - (((n - 1 - i).toNat : Nat) : Int) = i by omega]
  rw [e2] at h
  obtain ⟨m1, h0, h1, h2, h3⟩ := mvc_ex _ h
  have q := fgm_ok (w := w) (t := hc A pp n (n - i).toNat w) h2 (by rw [e2]; exact h3) (8 * pp).toNat 0 h0 (by omega)
  exact ⟨q.1, q.2.1⟩
theorem eb_ne {A : Int → Bool} {G : Int → Int} {w t m e : Int} (hno : ¬ (A (m % 8) = true ∧ dab (m % 8) (pl w (m / 8)) + G (mv w m) = t)) (h : A (e % 8) = true ∧ dab (e % 8) (pl w (e / 8)) + G (mv w e) = t) : m ≠ e := fun q => hno (by rw [q]; exact h)
theorem stp_m {A : Int → Int → Bool} {pp n w0 k m : Int} (hk : 0 ≤ k) (hm : m = ebm A pp n k (stp A pp n w0 k.toNat)) : mv (stp A pp n w0 k.toNat) m = stp A pp n w0 (k + 1).toNat := by
  rw [show (k + 1).toNat = k.toNat + 1 by omega, hm]
  show _ = mv _ (ebm A pp n ((k.toNat : Nat) : Int) _)
  rw [Int.toNat_of_nonneg hk]
theorem enc_inj {d g t : Int} (hd : 0 ≤ d ∧ d ≤ 7) (hg : g = 1000 ∨ (0 ≤ g ∧ g ≤ 56)) (ht : t < 1000) (ht0 : 0 ≤ t) (h : enc (d + g) = enc t) : d + g = t := by
  unfold enc at h
  rw [if_neg (show ¬ 1000 ≤ t by omega)] at h
  split at h <;> omega
theorem byw_no {A : Int → Int → Bool} {pp n w0 i : Int} (h : 1000 ≤ hc A pp n n.toNat w0) : byw A pp n w0 i = -9 := if_pos h
theorem byw_at {A : Int → Int → Bool} {pp n w0 i k m : Int} (hk : k = i + 1) (hi : 0 ≤ i) (h : ¬ 1000 ≤ hc A pp n n.toNat w0) (hm : 0 < k → m = ebm A pp n (k - 1) (stp A pp n w0 (k - 1).toNat)) : byw A pp n w0 i = m := by
  unfold byw
  rw [if_neg h, hm (by omega), show k - 1 = i by omega]
def ly (f : Int → Int) (n b : Int) (K : Int → Int) : Int → Int := fun j => if b ≤ j ∧ j < b + n then f (j - b) else K j
theorem ly_0 (f : Int → Int) (b : Int) (K : Int → Int) : ly f 0 b K = K := funext fun j => if_neg (by omega)
theorem ly_step {f K K0 : Int → Int} {i b : Int} (hi : 0 ≤ i) (h : K = ly f i b K0) : (fun j => if j = b + i then f i else K j) = ly f (i + 1) b K0 := by
  subst h
  funext j
  unfold ly
  by_cases e : j = b + i
  · rw [if_pos e, if_pos (by omega), show j - b = i by omega]
  · rw [if_neg e]
    by_cases q : b ≤ j ∧ j < b + i
    · rw [if_pos q, if_pos (by omega)]
    · rw [if_neg q, if_neg (by omega)]
def gv (K : Int → Int) (n b : Int) (f : Int → Int) : Int → Int := fun j => if 0 ≤ j ∧ j < n then K (b + j) else f j
theorem gv_0 (K : Int → Int) (b : Int) (f : Int → Int) : gv K 0 b f = f := funext fun j => if_neg (by omega)
theorem gv_step {f K K0 : Int → Int} {i b : Int} (hi : 0 ≤ i) (h : K = gv K0 i b f) : (fun j => if j = i then K0 (b + i) else K j) = gv K0 (i + 1) b f := by
  subst h
  funext j
  unfold gv
  by_cases e : j = i
  · rw [if_pos e, if_pos (by omega), e]
  · rw [if_neg e]
    by_cases q : 0 ≤ j ∧ j < i
    · rw [if_pos q, if_pos (by omega)]
    · rw [if_neg q, if_neg (by omega)]
def kp5 (u : zU) (b : Int) (K : Int → Int) : Int → Int := fun j => if j = b + 4 then u 0 31 else if j = b + 3 then u 0 21 else if j = b + 2 then u 0 20 else if j = b + 1 then u 9 1 else if j = b then u 0 19 else K j
def kpt (u : zU) (b : Int) (K : Int → Int) : Int → Int := ly (u 18) 8 (b + 5 + 8 + 3 + 6 + 6) (ly (u 11) 6 (b + 5 + 8 + 3 + 6) (ly (u 10) 6 (b + 5 + 8 + 3) (ly (u 8) 3 (b + 5 + 8) (ly (u 5) 8 (b + 5) (kp5 u b K)))))
def bck (u : zU) (b : Int) : zU := us (us (us (us (us (up (up (up (up (up u 0 19 (u 20 b)) 9 1 (u 20 (b + 1))) 0 20 (u 20 (b + 2))) 0 21 (u 20 (b + 3))) 0 31 (u 20 (b + 4))) 5 (gv (u 20) 8 (b + 5) (u 5))) 8 (gv (u 20) 3 (b + 5 + 8) (u 8))) 10 (gv (u 20) 6 (b + 5 + 8 + 3) (u 10))) 11 (gv (u 20) 6 (b + 5 + 8 + 3 + 6) (u 11))) 18 (gv (u 20) 8 (b + 5 + 8 + 3 + 6 + 6) (u 18))
theorem pl_sbd {u : zU} {s : Int → Int} {v : Int} (hn : 0 ≤ u 0 31) (hv : 0 ≤ v ∧ v < 512) (h : PlS u s 0) : -9 ≤ s v ∧ s v ≤ 1000 := by
  rw [pl_clw hn hv h]
  exact clw_bd _ _ _ _
theorem kb_bd {u : zU} {k : Int} (hI : IM u) (hk : k = 0 ∨ k = 1) : -1 ≤ u 20 (36 * k) ∧ u 20 (36 * k) ≤ 999 := by
  rcases hk with rfl | rfl
  · rw [show (36 : Int) * 0 = 0 by decide]
    rcases hI.2.2.2.2.2.2.2.1 with h | h
    · omega
    · have q : 0 ≤ u 20 0 ∧ u 20 0 ≤ 999 := h.1.1
      omega
  · rw [show (36 : Int) * 1 = 36 by decide]
    rcases hI.2.2.2.2.2.2.2.2.1 with h | h
    · omega
    · have q : 0 ≤ u 20 36 ∧ u 20 36 ≤ 999 := h.1.1
      omega
