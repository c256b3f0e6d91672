/-! ===== pure: what the reference counts is what the class counts ===== -/
def mlw (u : zU) (k l : Int) : Bool := alw (u 5) (u 9 1) (u 9 0) (u 0 12) (u 11 k) l
def mdt (u : zU) (k : Int) : Int := u 9 2 * (u 10 k - u 10 (k - 1))
def mhw (u : zU) (k l : Int) : Bool := alw (u 5) (u 9 1) (u 9 0) (u 0 12) (u 18 k) l
/-- ways on from l, without whether l itself may be -/
def bw1 (A : Int → Int → Bool) (d : Int → Int) (n : Int) : Nat → Int → Int
  | 0, _ => 1
  | j + 1, l => sm (fun o => if near (d (n - 1 - (j : Int))) l o = true then bw A d n j o else 0) 8
theorem bw_bw1 (A : Int → Int → Bool) (d : Int → Int) (n : Int) (j : Nat) (l : Int) : bw A d n j l = if A (n - 1 - (j : Int)) l = true then bw1 A d n j l else 0 := by
  cases j with
  | zero => show (if A (n - 1) l = true then (1 : Int) else 0) = _; rw [show n - 1 - ((0 : Nat) : Int) = n - 1 by omega]; rfl
  | succ j =>
    show (if A (n - 2 - (j : Int)) l = true then sm (fun o => if near (d (n - 1 - (j : Int))) l o = true then bw A d n j o else 0) 8 else 0) = _
    rw [show n - 1 - ((j + 1 : Nat) : Int) = n - 2 - (j : Int) by omega]
    rfl
theorem sm_mull (f : Int → Int) (c : Int) (n : Nat) : sm (fun i => c * f i) n = c * sm f n := by
  have h := sm_mul f c n
  rw [Int.mul_comm c, ← h]
  exact sm_congr n (fun i _ _ => Int.mul_comm _ _)
theorem fb_step (A : Int → Int → Bool) (d : Int → Int) (n : Int) {j r : Nat} (h : (j : Int) + 1 + (r : Int) = n - 1) : sm (fun l => fw A d j l * bw1 A d n (r + 1) l) 8 = sm (fun l => fw A d (j + 1) l * bw1 A d n r l) 8 := by
  have e1 : ∀ l : Int, fw A d j l * bw1 A d n (r + 1) l = sm (fun o => fw A d j l * (if near (d (n - 1 - (r : Int))) l o = true then bw A d n r o else 0)) 8 := fun l => (sm_mull _ _ 8).symm
  rw [sm_congr 8 (fun l _ _ => e1 l), sm_swap]
  refine sm_congr 8 (fun o _ _ => ?_)
  show sm (fun l => fw A d j l * (if near (d (n - 1 - (r : Int))) l o = true then bw A d n r o else 0)) 8 = fw A d (j + 1) o * bw1 A d n r o
  rw [bw_bw1, show n - 1 - (r : Int) = (j : Int) + 1 by omega]
  show _ = (if A ((j : Int) + 1) o = true then sm (fun l => if near (d ((j : Int) + 1)) l o = true then fw A d j l else 0) 8 else 0) * bw1 A d n r o
  by_cases hA : A ((j : Int) + 1) o = true
  · rw [if_pos hA, if_pos hA, ← sm_mul]
    refine sm_congr 8 (fun l _ _ => ?_)
    show fw A d j l * (if near (d ((j : Int) + 1)) l o = true then bw1 A d n r o else 0) = (if near (d ((j : Int) + 1)) l o = true then fw A d j l else 0) * bw1 A d n r o
    split
    · rfl
    · rw [Int.mul_zero, Int.zero_mul]
  · rw [if_neg hA, if_neg hA, Int.zero_mul]
    refine Eq.trans (sm_congr 8 (fun l _ _ => ?_)) (sm_zero 8)
    show fw A d j l * (if near (d ((j : Int) + 1)) l o = true then (0 : Int) else 0) = 0
    split <;> rw [Int.mul_zero]
theorem fb_all (A : Int → Int → Bool) (d : Int → Int) (n : Int) : ∀ (r j : Nat), (j : Int) + (r : Int) = n - 1 → sm (fun l => fw A d j l * bw1 A d n r l) 8 = sm (fw A d (j + r)) 8
  | 0, j, _ => sm_congr 8 (fun l _ _ => Int.mul_one _)
  | r + 1, j, h => by
    rw [fb_step A d n (by omega), fb_all A d n r (j + 1) (by omega), show j + 1 + r = j + (r + 1) by omega]
theorem trk_bw (A : Int → Int → Bool) (d : Int → Int) {n : Int} (h : 0 < n) : sm (bw A d n (n - 1).toNat) 8 = trk A d n := by
  unfold trk
  rw [if_neg (by omega)]
  have q := fb_all A d n (n - 1).toNat 0 (by omega)
  rw [Nat.zero_add] at q
  rw [← q]
  refine sm_congr 8 (fun l _ _ => ?_)
  rw [bw_bw1, show n - 1 - (((n - 1).toNat : Nat) : Int) = 0 by omega]
  show _ = (if A 0 l = true then (1 : Int) else 0) * bw1 A d n (n - 1).toNat l
  split
  · rw [Int.one_mul]
  · rw [Int.zero_mul]
theorem fw_at {A : Int → Int → Bool} {d : Int → Int} {k l b : Int} (hk : 0 < k) (hb : b = sm (fun q => if near (d k) q l = true then fw A d (k - 1).toNat q else 0) 8) : fw A d k.toNat l = if A k l = true then b else 0 := by
  rw [show k.toNat = (k - 1).toNat + 1 by omega]
  show (if A ((((k - 1).toNat : Nat) : Int) + 1) l = true then sm (fun o => if near (d ((((k - 1).toNat : Nat) : Int) + 1)) o l = true then fw A d (k - 1).toNat o else 0) 8 else 0) = _
  rw [show (((k - 1).toNat : Nat) : Int) + 1 = k by omega, hb]
theorem bw_at {A : Int → Int → Bool} {d : Int → Int} {n k l b : Int} (hk : 0 ≤ k ∧ k < n - 1) (hb : b = sm (fun q => if near (d (k + 1)) l q = true then bw A d n (n - 2 - k).toNat q else 0) 8) : bw A d n (n - 1 - k).toNat l = if A k l = true then b else 0 := by
  rw [show (n - 1 - k).toNat = (n - 2 - k).toNat + 1 by omega]
  show (if A (n - 2 - (((n - 2 - k).toNat : Nat) : Int)) l = true then sm (fun o => if near (d (n - 1 - (((n - 2 - k).toNat : Nat) : Int))) l o = true then bw A d n (n - 2 - k).toNat o else 0) 8 else 0) = _
  rw [show n - 2 - (((n - 2 - k).toNat : Nat) : Int) = k by omega, show n - 1 - (((n - 2 - k).toNat : Nat) : Int) = k + 1 by omega, hb]
def Fk (A : Int → Int → Bool) (d : Int → Int) (f : Int → Int) (k : Int) : Prop := ∀ j : Int, 0 ≤ j → j < k → ∀ l : Int, 0 ≤ l → l < 8 → f (8 * j + l) = fw A d j.toNat l
def Fl (A : Int → Int → Bool) (d : Int → Int) (f : Int → Int) (k l : Int) : Prop := Fk A d f k ∧ ∀ o : Int, 0 ≤ o → o < l → f (8 * k + o) = fw A d k.toNat o
def Bk (A : Int → Int → Bool) (d : Int → Int) (n : Int) (f : Int → Int) (k : Int) : Prop := ∀ j : Int, k < j → j < n → ∀ l : Int, 0 ≤ l → l < 8 → f (8 * j + l) = bw A d n (n - 1 - j).toNat l
def Bl (A : Int → Int → Bool) (d : Int → Int) (n : Int) (f : Int → Int) (k l : Int) : Prop := Bk A d n f k ∧ ∀ o : Int, 0 ≤ o → o < l → f (8 * k + o) = bw A d n (n - 1 - k).toNat o
theorem Fl_put {A : Int → Int → Bool} {d : Int → Int} {f : Int → Int} {k l v : Int} (hk : 0 ≤ k) (hl : 0 ≤ l) (h : Fl A d f k l) (hv : v = fw A d k.toNat l) : Fl A d (fun j => if j = 8 * k + l then v else f j) k (l + 1) := by
  refine ⟨fun j h0 h1 o h2 h3 => ?_, fun o h0 h1 => ?_⟩
  · show (if 8 * j + o = 8 * k + l then v else f (8 * j + o)) = _
    by_cases e : 8 * j + o = 8 * k + l
    · exfalso
      have := h.1
      omega
    · rw [if_neg e]; exact h.1 j h0 h1 o h2 h3
  · show (if 8 * k + o = 8 * k + l then v else f (8 * k + o)) = _
    by_cases e : o = l
    · rw [if_pos (by rw [e]), e, hv]
    · rw [if_neg (by omega)]; exact h.2 o h0 (by omega)
theorem Fl_end {A : Int → Int → Bool} {d : Int → Int} {f : Int → Int} {k l : Int} (h : Fl A d f k l) (hl : 8 ≤ l) : Fk A d f (k + 1) := by
  intro j h0 h1 o h2 h3
  by_cases e : j = k
  · rw [e]; exact h.2 o h2 (by omega)
  · exact h.1 j h0 (by omega) o h2 h3
theorem Bl_put {A : Int → Int → Bool} {d : Int → Int} {n : Int} {f : Int → Int} {k l v : Int} (hl : 0 ≤ l ∧ l < 8) (h : Bl A d n f k l) (hv : v = bw A d n (n - 1 - k).toNat l) : Bl A d n (fun j => if j = 8 * k + l then v else f j) k (l + 1) := by
  refine ⟨fun j h0 h1 o h2 h3 => ?_, fun o h0 h1 => ?_⟩
  · show (if 8 * j + o = 8 * k + l then v else f (8 * j + o)) = _
    rw [if_neg (by omega)]; exact h.1 j h0 h1 o h2 h3
  · show (if 8 * k + o = 8 * k + l then v else f (8 * k + o)) = _
    by_cases e : o = l
    · rw [if_pos (by rw [e]), e, hv]
    · rw [if_neg (by omega)]; exact h.2 o h0 (by omega)
theorem Bl_end {A : Int → Int → Bool} {d : Int → Int} {n : Int} {f : Int → Int} {k l : Int} (h : Bl A d n f k l) (hl : 8 ≤ l) : Bk A d n f (k + (-1)) := by
  intro j h0 h1 o h2 h3
  by_cases e : j = k
  · rw [e]; exact h.2 o h2 (by omega)
  · exact h.1 j (by omega) h1 o h2 h3
theorem pcn_less : ∀ m : Fin 256, 0 < m.val → (m.val &&& (m.val - 1)) < m.val ∧ pcn (m.val &&& (m.val - 1)) = pcn m.val - 1 := by decide +kernel
def fr2 (P : Int → Int) (e : Int) (x : Nat) (a : Int) : Prop := ∀ c b : Nat, (c : Int) < a → b < c → x.testBit c = true → x.testBit b = true → clsh P e c b = false
def fr3 (P : Int → Int) (e : Int) (x : Nat) (a b : Int) : Prop := fr2 P e x a ∧ ∀ c : Nat, (c : Int) < b → x.testBit a.toNat = true → x.testBit c = true → clsh P e a c = false
theorem fr3_0 {P : Int → Int} {e : Int} {x : Nat} {a : Int} (h : fr2 P e x a) : fr3 P e x a 0 := ⟨h, fun c hc => absurd hc (by omega)⟩
theorem fr3_step {P : Int → Int} {e : Int} {x : Nat} {a b : Int} (hb : 0 ≤ b) (h : fr3 P e x a b) (h2 : x.testBit a.toNat = true → x.testBit b.toNat = true → clsh P e a b = false) : fr3 P e x a (b + 1) := ⟨h.1, fun c hc h3 h4 => by
  by_cases q : (c : Int) < b
  · exact h.2 c q h3 h4
  · have e1 : (c : Int) = b := by omega
    rw [e1]
    exact h2 h3 (by rw [← e1]; exact h4)⟩
theorem fr2_step {P : Int → Int} {e : Int} {x : Nat} {a b : Int} (ha : 0 ≤ a) (h : fr3 P e x a b) (hb : a ≤ b) : fr2 P e x (a + 1) := fun c d h1 h2 h3 h4 => by
  by_cases q : (c : Int) < a
  · exact h.1 c d q h2 h3 h4
  · have e1 : (c : Int) = a := by omega
    rw [e1]
    exact h.2 d (by omega) (by rw [← e1]; exact h3) h4
theorem fr2_0 {P : Int → Int} {e : Int} {x : Nat} : fr2 P e x 0 := fun c _ h => absurd h (by omega)
theorem fr2_end {P : Int → Int} {e lv : Int} {x : Nat} {a : Int} (h : fr2 P e x a) (ha : lv ≤ a) : free P e lv x = true := @decide_eq_true _ (Classical.propDecidable _) (fun c _ b _ hc hb hne hxc hxb => by
  by_cases q : b < c
  · exact h c b (by omega) q hxc hxb
  · rw [clsh_sym]
    exact h b c (by omega) (by omega) hxb hxc)
theorem fr_no {P : Int → Int} {e lv : Int} {x : Nat} {a b : Int} (ha : 0 ≤ a ∧ a < lv ∧ a < 8) (hb : 0 ≤ b ∧ b < a) (h1 : x.testBit a.toNat = true) (h2 : x.testBit b.toNat = true) (h3 : clsh P e a b = true) : free P e lv x = false := @decide_eq_false _ (Classical.propDecidable _) (fun hf => by
  have r := hf a.toNat (by omega) b.toNat (by omega) (by omega) (by omega) (by omega) h1 h2
  rw [Int.toNat_of_nonneg ha.1, Int.toNat_of_nonneg hb.1, h3] at r
  cases r)
theorem wrn_of2 {p w y r : Int} (h : (y * w < p ∧ r = p - y * w) ∨ (p ≤ y * w ∧ r = 0)) : r = wrn p w y := by
  rw [Int.mul_comm y w] at h
  unfold wrn
  rcases h with ⟨a, b⟩ | ⟨a, b⟩
  · rw [if_pos (by omega), b]
  · rw [if_neg (by omega), b]
theorem hc_small (A : Int → Int → Bool) (pp n : Int) : ∀ (r : Nat) (w : Int), hc A pp n r w = 1000 ∨ hc A pp n r w ≤ 7 * (r : Int)
  | 0, w => Or.inr (by unfold hc; omega)
  | r + 1, w => by
    have h : ∀ k : Nat, mvc (A (n - 1 - (r : Int))) (hc A pp n r) w k = 1000 ∨ mvc (A (n - 1 - (r : Int))) (hc A pp n r) w k ≤ 7 * ((r + 1 : Nat) : Int) := by
      intro k
      induction k with
      | zero => exact Or.inl rfl
      | succ k ih =>
        have h1 := hc_small A pp n r (mv w k)
        have h2 := (dab_bd (a := (k : Int) % 8) (b := pl w ((k : Int) / 8)) (by omega) (pl_bd _ _))
        have h3 := mvc_bd (A := A (n - 1 - (r : Int))) (G := hc A pp n r) w (fun w => (hc_bd A pp n r w).1) k
        unfold mvc
        split
        · split <;> omega
        · exact ih
    exact h _
def enc (t : Int) : Int := if 1000 ≤ t then -9 else t
