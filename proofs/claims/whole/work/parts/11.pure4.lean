/-! ===== pure: hymns ===== -/
section ZAL
variable {x : zT} {k n : Nat} {ws : va_W} {lv : List (Nat × Value)} {pc : Nat} {st : List Value} {cc : ByteArray} {nL : Nat} {Ts : List Cond} {own : String} {d : Nat} {tys : List (ClassId × FieldType)}
theorem z_alen (C : Cx x cc nL Ts own d) (hK : Kx x tys) (t0 : Nat) {a : Nat} {cA : ClassId} {N : Nat} {f : Nat → Int32} (q0 : Nat) (he : ws[q0]? = some (a, .inl (cA, N, .inl f))) (ht : tys[t0]? = some (cA, .int)) (hN : N ≤ 1000000) (hd : decode cc pc = .ok (.arraylength, 1))
    (kk : Z x k n ws lv (pc + 1) (.int (zI (N : Int)) :: st)) : Z x k n ws lv pc (.ref a :: st) := by
  obtain ⟨p, l, e, R, s, m, args, below, meth, c, A, H0, D, Q⟩ := x
  obtain ⟨hx, hb, hml, hown, hts, hR, hA⟩ := C
  replace hK : KK D tys s := hK
  intro H locs ls hP hS hl
  exact va_alen hx hb hK.1 hP q0 t0 he ht (v := zI (N : Int)) (by unfold zI; rw [Int32.ofInt_eq_ofNat]) hd (kk H locs ls hP hS hl)
end ZAL
theorem up_us (u : zU) (c : Nat) (f : Int → Int) (k v : Int) : up (us u c f) c k v = us u c (fun j => if j = k then v else f j) := by
  funext c' i
  unfold up us
  by_cases h : c' = c
  · rw [if_pos h, if_pos h, if_pos h]
  · rw [if_neg h, if_neg h, if_neg h]
/-- the hymn plan's rows: what may come (cell 50), the rows (cells 51 and on) -/
def rws (p : Int → Int) (r : Nat → Int → Int) (u : zU) : zU := fun c i => if c = 50 then p i else if 51 ≤ c ∧ c < 60 then r (c - 51) i else u c i
def rup (r : Nat → Int → Int) (j : Nat) (k v : Int) : Nat → Int → Int := fun c i => if c = j then (if i = k then v else r c i) else r c i
theorem rws_row {p : Int → Int} {r : Nat → Int → Int} {u : zU} {j : Nat} (h : j < 9) (k : Int) : rws p r u (51 + j) k = r j k := by
  unfold rws
  rw [if_neg (by omega), if_pos (by omega), show 51 + j - 51 = j by omega]
theorem up_rws {p : Int → Int} {r : Nat → Int → Int} {u : zU} {j : Nat} (h : j < 9) {k v : Int} : up (rws p r u) (51 + j) k v = rws p (rup r j k v) u := by
  funext c i
  unfold up
  by_cases h1 : c = 51 + j
  · subst h1
    rw [if_pos rfl, rws_row h, rws_row h]
    unfold rup
    rw [if_pos rfl]
  · rw [if_neg h1]
    unfold rws rup
    by_cases h2 : c = 50
    · rw [if_pos h2, if_pos h2]
    · rw [if_neg h2, if_neg h2]
      by_cases h3 : 51 ≤ c ∧ c < 60
      · rw [if_pos h3, if_pos h3, if_neg (by omega)]
      · rw [if_neg h3, if_neg h3]
theorem us_rws {p : Int → Int} {r : Nat → Int → Int} {u : zU} {j : Nat} (h : j < 9) {f : Int → Int} : us (rws p r u) (51 + j) f = rws p (fun c => if c = j then f else r c) u := by
  funext c i
  unfold us
  by_cases h1 : c = 51 + j
  · subst h1
    rw [if_pos rfl, rws_row h]
    show f i = (if j = j then f else r j) i
    rw [if_pos rfl]
  · rw [if_neg h1]
    unfold rws
    by_cases h2 : c = 50
    · rw [if_pos h2, if_pos h2]
    · rw [if_neg h2, if_neg h2]
      by_cases h3 : 51 ≤ c ∧ c < 60
      · rw [if_pos h3, if_pos h3]
        show r (c - 51) i = (if c - 51 = j then f else r (c - 51)) i
        rw [if_neg (by omega)]
      · rw [if_neg h3, if_neg h3]
theorem rup_ne {r : Nat → Int → Int} {j c : Nat} {k v i : Int} (h : c ≠ j ∨ i ≠ k) : rup r j k v c i = r c i := by
  unfold rup
  by_cases e : c = j
  · rw [if_pos e, if_neg (h.resolve_left (fun q => q e))]
  · rw [if_neg e]
theorem rup_eq (r : Nat → Int → Int) (j : Nat) (k v : Int) : rup r j k v j k = v := by unfold rup; rw [if_pos rfl, if_pos rfl]
/-- where the q-th man stands, in the standing w -/
def pl (w q : Int) : Int := (w / 8 ^ q.toNat) % 8
/-- the standing behind a move: the man times eight, and his level -/
def mv (w m : Int) : Int := w + (m % 8 - pl w (m / 8)) * 8 ^ (m / 8).toNat
def dab (a b : Int) : Int := if 0 ≤ a - b then a - b else 0 - (a - b)
theorem dab_of {a b r : Int} (h : (0 ≤ a - b ∧ r = a - b) ∨ (a - b < 0 ∧ r = 0 - (a - b))) : r = dab a b := by
  unfold dab
  rcases h with ⟨q, e⟩ | ⟨q, e⟩
  · rw [if_pos q, e]
  · rw [if_neg (by omega), e]
theorem dab_bd {a b : Int} (ha : 0 ≤ a ∧ a ≤ 7) (hb : 0 ≤ b ∧ b ≤ 7) : 0 ≤ dab a b ∧ dab a b ≤ 7 := by unfold dab; split <;> omega
theorem pl_bd (w q : Int) : 0 ≤ pl w q ∧ pl w q ≤ 7 := by unfold pl; omega
theorem tdiv8 {m : Int} (h : 0 ≤ m) : m.tdiv 8 = m / 8 := Int.tdiv_eq_ediv_of_nonneg h
theorem tmod8 {m : Int} (h : 0 ≤ m) : m.tmod 8 = m % 8 := Int.tmod_eq_emod_of_nonneg h
theorem mv_bd {w m : Int} (hw : 0 ≤ w ∧ w < 512) (hm : 0 ≤ m ∧ m < 24) : 0 ≤ mv w m ∧ mv w m < 512 := by
  have h : ∀ w : Fin 512, ∀ m : Fin 24, (fun w m : Int => 0 ≤ mv w m ∧ mv w m < 512) w.val m.val := by decide +kernel
  have q := h ⟨w.toNat, by omega⟩ ⟨m.toNat, by omega⟩
  simp only [] at q
  rw [Int.toNat_of_nonneg hw.1, Int.toNat_of_nonneg hm.1] at q
  exact q
/-- where all men stand, as one number -/
def stw (S : Int → Int) (pp : Int) : Int := (if 0 < pp then S 0 else 0) + (if 1 < pp then S 1 * 8 else 0) + (if 2 < pp then S 2 * 64 else 0)
theorem stw_bd {S : Int → Int} {pp : Int} (hS : ∀ i : Int, 0 ≤ i → i < 3 → 0 ≤ S i ∧ S i < 8) : 0 ≤ stw S pp ∧ stw S pp < 512 := by
  have h0 := hS 0 (by omega) (by omega)
  have h1 := hS 1 (by omega) (by omega)
  have h2 := hS 2 (by omega) (by omega)
  unfold stw
  split <;> split <;> split <;> omega
/-- the least of all moves below k: steps, and what G says of the standing behind -/
def mvc (A : Int → Bool) (G : Int → Int) (w : Int) : Nat → Int
  | 0 => 1000
  | k + 1 => if A ((k : Int) % 8) = true then (if dab ((k : Int) % 8) (pl w ((k : Int) / 8)) + G (mv w k) < mvc A G w k then dab ((k : Int) % 8) (pl w ((k : Int) / 8)) + G (mv w k) else mvc A G w k) else mvc A G w k
/-- the least steps for the last r of n notes -/
def hc (A : Int → Int → Bool) (pp n : Int) : Nat → Int → Int
  | 0, _ => 0
  | r + 1, w => mvc (A (n - 1 - (r : Int))) (hc A pp n r) w (8 * pp).toNat
theorem mvc_bd {A : Int → Bool} {G : Int → Int} (w : Int) (hG : ∀ w, 0 ≤ G w) : ∀ k : Nat, 0 ≤ mvc A G w k ∧ mvc A G w k ≤ 1000
  | 0 => by unfold mvc; omega
  | k + 1 => by
    have h := mvc_bd w hG k (A := A)
    have h2 := hG (mv w k)
    have h3 : 0 ≤ dab ((k : Int) % 8) (pl w ((k : Int) / 8)) := (dab_bd (by omega) (pl_bd _ _)).1
    unfold mvc
    split
    · split <;> omega
    · exact h
theorem hc_bd (A : Int → Int → Bool) (pp n : Int) : ∀ (r : Nat) (w : Int), 0 ≤ hc A pp n r w ∧ hc A pp n r w ≤ 1000
  | 0, w => by unfold hc; omega
  | r + 1, w => by
    unfold hc
    exact mvc_bd w (fun w => (hc_bd A pp n r w).1) _
theorem mvc_congr {A : Int → Bool} {G G' : Int → Int} {w : Int} : ∀ k : Nat, (∀ m : Int, 0 ≤ m → m < k → A (m % 8) = true → G (mv w m) = G' (mv w m)) → mvc A G w k = mvc A G' w k
  | 0, _ => rfl
  | k + 1, h => by
    have ih := mvc_congr k (fun m h0 h1 h2 => h m h0 (by omega) h2)
    unfold mvc
    by_cases hA : A ((k : Int) % 8) = true
    · rw [if_pos hA, if_pos hA, ih, h k (by omega) (by omega) hA]
    · rw [if_neg hA, if_neg hA, ih]
/-- the first move from m on (f of them) that keeps to t -/
def fgm (A : Int → Bool) (G : Int → Int) (w t : Int) : Nat → Int → Int
  | 0, _ => 0
  | f + 1, m => if A (m % 8) = true ∧ dab (m % 8) (pl w (m / 8)) + G (mv w m) = t then m else fgm A G w t f (m + 1)
def ebm (A : Int → Int → Bool) (pp n i w : Int) : Int := fgm (A i) (hc A pp n (n - 1 - i).toNat) w (hc A pp n (n - i).toNat w) (8 * pp).toNat 0
/-- the standing ahead of the k-th note -/
def stp (A : Int → Int → Bool) (pp n w0 : Int) : Nat → Int
  | 0 => w0
  | k + 1 => mv (stp A pp n w0 k) (ebm A pp n k (stp A pp n w0 k))
theorem fgm_bd {A : Int → Bool} {G : Int → Int} {w t : Int} : ∀ (f : Nat) (m : Int), 0 ≤ m → 0 ≤ fgm A G w t f m ∧ fgm A G w t f m ≤ m + f
  | 0, m, h => by unfold fgm; omega
  | f + 1, m, h => by
    unfold fgm
    split
    · omega
    · have := fgm_bd (A := A) (G := G) (w := w) (t := t) f (m + 1) (by omega)
      omega
theorem fgm_lt {A : Int → Bool} {G : Int → Int} {w t : Int} : ∀ (f : Nat) (m : Int), 0 ≤ m → fgm A G w t f m = 0 ∨ (m ≤ fgm A G w t f m ∧ fgm A G w t f m < m + f)
  | 0, m, h => Or.inl rfl
  | f + 1, m, h => by
    unfold fgm
    split
    · right; omega
    · have := fgm_lt (A := A) (G := G) (w := w) (t := t) f (m + 1) (by omega)
      omega
theorem ebm_bd {A : Int → Int → Bool} {pp n i w : Int} (hp : 0 ≤ pp ∧ pp ≤ 3) : 0 ≤ ebm A pp n i w ∧ ebm A pp n i w < 24 := by
  have := fgm_lt (A := A i) (G := hc A pp n (n - 1 - i).toNat) (w := w) (t := hc A pp n (n - i).toNat w) (8 * pp).toNat 0 (by omega)
  unfold ebm
  omega
theorem stp_bd {A : Int → Int → Bool} {pp n w0 : Int} (hp : 0 ≤ pp ∧ pp ≤ 3) (h0 : 0 ≤ w0 ∧ w0 < 512) : ∀ k : Nat, 0 ≤ stp A pp n w0 k ∧ stp A pp n w0 k < 512
  | 0 => h0
  | k + 1 => mv_bd (stp_bd hp h0 k) (ebm_bd hp)
/-- by: the i-th move, times; none -/
def byw (A : Int → Int → Bool) (pp n w0 i : Int) : Int := if 1000 ≤ hc A pp n n.toNat w0 then -9 else ebm A pp n i (stp A pp n w0 i.toNat)
def clw (A : Int → Int → Bool) (pp n w0 : Int) : Int := if 1000 ≤ hc A pp n n.toNat w0 then -9 else hc A pp n n.toNat w0
/-- the class's: what level may the i-th note of the hymn come from -/
def hlw (u : zU) (i l : Int) : Bool := alw (u 18) (u 17 6) (u 3 6) (u 3 4) (u 22 i) l
/-- the plan's rows are as they must be -/
def Mk (u : zU) (r : Nat → Int → Int) : Prop := r 0 (stw (u 19) (u 3 5)) ≠ -1 ∧ ∀ i : Int, 0 ≤ i → i < u 17 9 → ∀ w : Int, 0 ≤ w → w < 512 → r i.toNat w ≠ -1 → ∀ m : Int, 0 ≤ m → m < u 3 5 * 8 → hlw u i (m % 8) = true → r (i + 1).toNat (mv w m) ≠ -1
def Pk (u : zU) (p : Int → Int) : Prop := ∀ i : Int, 0 ≤ i → i < u 17 9 → p i = ((like (u 18) (u 17 6) (u 3 6) (u 3 4) (u 22 i) : Nat) : Int)
def Rk (u : zU) (r : Nat → Int → Int) (j : Int) : Prop := ∀ i : Int, j ≤ i → i ≤ u 17 9 → ∀ w : Int, 0 ≤ w → w < 512 → r i.toNat w ≠ -1 → r i.toNat w = hc (hlw u) (u 3 5) (u 17 9) (u 17 9 - i).toNat w
def RB (r : Nat → Int → Int) : Prop := ∀ (c : Nat) (i : Int), -1 ≤ r c i ∧ r c i ≤ 1000
theorem mvc_step {A : Int → Bool} {G : Int → Int} {w k : Int} (hk : 0 ≤ k) : mvc A G w (k + 1).toNat = if A (k % 8) = true then (if dab (k % 8) (pl w (k / 8)) + G (mv w k) < mvc A G w k.toNat then dab (k % 8) (pl w (k / 8)) + G (mv w k) else mvc A G w k.toNat) else mvc A G w k.toNat := by
  rw [show (k + 1).toNat = k.toNat + 1 by omega]
  show (if A (((k.toNat : Nat) : Int) % 8) = true then _ else _) = _
  rw [Int.toNat_of_nonneg hk]
theorem rws_self (u : zU) : rws (u 50) (fun c => u (51 + c)) u = u := by
  funext c i
  unfold rws
  by_cases h : c = 50
  · rw [if_pos h, h]
  · rw [if_neg h]
    by_cases h2 : 51 ≤ c ∧ c < 60
    · rw [if_pos h2]
      show u (51 + (c - 51)) i = u c i
      rw [show 51 + (c - 51) = c by omega]
    · rw [if_neg h2]
section MKS
variable {u : zU} {r r2 r3 r4 r5 : Nat → Int → Int} {i w k : Int}
theorem mk_skip {b : Int} (h : (∀ c : Nat, c ≠ (i + 1).toNat → r2 c = r c) ∧ (∀ m : Int, 0 ≤ m → m < k → hlw u i (m % 8) = true → r2 (i + 1).toNat (mv w m) = 0) ∧ ∀ j : Int, r2 (i + 1).toNat j = r (i + 1).toNat j ∨ r2 (i + 1).toNat j = 0) (hA : hlw u i (k % 8) = false) (hb : b = k + 1 := by rfl) : (∀ c : Nat, c ≠ (i + 1).toNat → r2 c = r c) ∧ (∀ m : Int, 0 ≤ m → m < b → hlw u i (m % 8) = true → r2 (i + 1).toNat (mv w m) = 0) ∧ ∀ j : Int, r2 (i + 1).toNat j = r (i + 1).toNat j ∨ r2 (i + 1).toNat j = 0 := by
  refine ⟨h.1, fun m h0 h1 h2 => ?_, h.2.2⟩
  by_cases e : m = k
  · rw [e, hA] at h2; cases h2
  · exact h.2.1 m h0 (by omega) h2
theorem mk_take {b : Int} (h : (∀ c : Nat, c ≠ (i + 1).toNat → r2 c = r c) ∧ (∀ m : Int, 0 ≤ m → m < k → hlw u i (m % 8) = true → r2 (i + 1).toNat (mv w m) = 0) ∧ ∀ j : Int, r2 (i + 1).toNat j = r (i + 1).toNat j ∨ r2 (i + 1).toNat j = 0) (hb : b = k + 1 := by rfl) : (∀ c : Nat, c ≠ (i + 1).toNat → rup r2 (i + 1).toNat (mv w k) 0 c = r c) ∧ (∀ m : Int, 0 ≤ m → m < b → hlw u i (m % 8) = true → rup r2 (i + 1).toNat (mv w k) 0 (i + 1).toNat (mv w m) = 0) ∧ ∀ j : Int, rup r2 (i + 1).toNat (mv w k) 0 (i + 1).toNat j = r (i + 1).toNat j ∨ rup r2 (i + 1).toNat (mv w k) 0 (i + 1).toNat j = 0 := by
  refine ⟨fun c hc => (funext fun z => rup_ne (Or.inl hc)).trans (h.1 c hc), fun m h0 h1 h2 => ?_, fun j => ?_⟩
  · by_cases e : mv w m = mv w k
    · rw [e]; exact rup_eq _ _ _ _
    · rw [rup_ne (Or.inr e)]
      exact h.2.1 m h0 (by
        have : m ≠ k := fun q => e (by rw [q])
        omega) h2
  · by_cases e : j = mv w k
    · rw [e]; exact Or.inr (rup_eq _ _ _ _)
    · rw [rup_ne (Or.inr e)]; exact h.2.2 j
theorem fl_step {f : Int → Int} (hi : 0 ≤ i) (hr : ∀ j : Int, 0 ≤ j → j < i → ∀ w : Int, 0 ≤ w → w < 512 → r2 j.toNat w = -1) (hf : ∀ j : Int, 0 ≤ j → j < 512 → f j = -1) : ∀ j : Int, 0 ≤ j → j < i + 1 → ∀ w : Int, 0 ≤ w → w < 512 → (fun q => if q = i.toNat then f else r2 q) j.toNat w = -1 := by
  intro j h0 h1 w h2 h3
  show (if j.toNat = i.toNat then f else r2 j.toNat) w = -1
  by_cases e : j = i
  · rw [if_pos (by rw [e])]; exact hf w h2 h3
  · rw [if_neg (by omega)]; exact hr j h0 (by omega) w h2 h3
def Zr (u : zU) (r : Nat → Int → Int) : Prop := ∀ i : Int, 0 ≤ i → i ≤ u 17 9 → ∀ w : Int, 0 ≤ w → w < 512 → r i.toNat w = -1 ∨ r i.toNat w = 0
def Cl (u : zU) (r : Nat → Int → Int) (i : Int) : Prop := ∀ j : Int, 0 ≤ j → j < i → ∀ w : Int, 0 ≤ w → w < 512 → r j.toNat w ≠ -1 → ∀ m : Int, 0 ≤ m → m < u 3 5 * 8 → hlw u j (m % 8) = true → r (j + 1).toNat (mv w m) ≠ -1
def Cm (u : zU) (r : Nat → Int → Int) (i w : Int) : Prop := Cl u r i ∧ ∀ v : Int, 0 ≤ v → v < w → r i.toNat v ≠ -1 → ∀ m : Int, 0 ≤ m → m < u 3 5 * 8 → hlw u i (m % 8) = true → r (i + 1).toNat (mv v m) ≠ -1
theorem Zr_start {st : Int} (hr : ∀ j : Int, 0 ≤ j → j < i → ∀ w : Int, 0 ≤ w → w < 512 → r2 j.toNat w = -1) (hi : u 17 9 < i) : Zr u (rup r2 0 st 0) := by
  intro j h0 h1 w h2 h3
  by_cases e : j.toNat = 0 ∧ w = st
  · right; rw [e.1, e.2]; exact rup_eq _ _ _ _
  · left
    rw [rup_ne (by omega)]
    exact hr j h0 (by omega) w h2 h3
theorem m0_keep {st : Int} (hi : 0 ≤ i) (hk : ∀ c : Nat, c ≠ (i + 1).toNat → r5 c = r4 c) (h : r4 0 st ≠ -1) : r5 0 st ≠ -1 := by rw [hk 0 (by omega)]; exact h
theorem Zr_keep (hk : (∀ c : Nat, c ≠ (i + 1).toNat → r5 c = r4 c) ∧ (∀ m : Int, 0 ≤ m → m < k → hlw u i (m % 8) = true → r5 (i + 1).toNat (mv w m) = 0) ∧ ∀ j : Int, r5 (i + 1).toNat j = r4 (i + 1).toNat j ∨ r5 (i + 1).toNat j = 0) (h : Zr u r4) : Zr u r5 := by
  intro j h0 h1 w h2 h3
  by_cases e : j.toNat = (i + 1).toNat
  · rw [e]
    rcases hk.2.2 w with q | q
    · rw [q, ← e]; exact h j h0 h1 w h2 h3
    · exact Or.inr q
  · rw [hk.1 _ e]; exact h j h0 h1 w h2 h3
theorem Cm_skip (h : Cm u r4 i w) (hun : r4 i.toNat w = -1) : Cm u r4 i (w + 1) := ⟨h.1, fun v h0 h1 h2 => by
  by_cases e : v = w
  · rw [e] at h2; exact absurd hun h2
  · exact h.2 v h0 (by omega) h2⟩
theorem Cm_take (hi : 0 ≤ i) (h : Cm u r4 i w) (hk : (∀ c : Nat, c ≠ (i + 1).toNat → r5 c = r4 c) ∧ (∀ m : Int, 0 ≤ m → m < u 3 5 * 8 → hlw u i (m % 8) = true → r5 (i + 1).toNat (mv w m) = 0) ∧ ∀ j : Int, r5 (i + 1).toNat j = r4 (i + 1).toNat j ∨ r5 (i + 1).toNat j = 0) : Cm u r5 i (w + 1) := by
  have keep : ∀ (c : Nat) (z : Int), r4 c z ≠ -1 → r5 c z ≠ -1 := by
    intro c z q
    by_cases e : c = (i + 1).toNat
    · rw [e] at q ⊢
      rcases hk.2.2 z with q2 | q2
      · rw [q2]; exact q
      · rw [q2]; decide
    · rw [hk.1 c e]; exact q
  refine ⟨fun j h0 h1 v h2 h3 h4 m h5 h6 h7 => ?_, fun v h0 h1 h2 m h3 h4 h5 => ?_⟩
  · rw [hk.1 _ (by omega)] at h4
    exact keep _ _ (h.1 j h0 h1 v h2 h3 h4 m h5 h6 h7)
  · rw [hk.1 _ (by omega)] at h2
    by_cases e : v = w
    · rw [e, hk.2.1 m h3 h4 h5]; decide
    · exact keep _ _ (h.2 v h0 (by omega) h2 m h3 h4 h5)
theorem Cl_done (h : Cm u r4 i w) (hw : 512 ≤ w) : Cl u r4 (i + 1) := by
  intro j h0 h1 v h2 h3
  by_cases e : j = i
  · subst e; exact h.2 v h2 (by omega)
  · exact h.1 j h0 (by omega) v h2 h3
/-- the same standings are marked -/
def Sm (u : zU) (r r' : Nat → Int → Int) : Prop := ∀ i : Int, 0 ≤ i → i ≤ u 17 9 → ∀ w : Int, 0 ≤ w → w < 512 → (r' i.toNat w = -1 ↔ r i.toNat w = -1) ∧ (r' i.toNat w = r i.toNat w ∨ (0 ≤ r' i.toNat w ∧ r' i.toNat w ≤ 1000))
theorem Sm_rf : Sm u r r := fun _ _ _ _ _ _ => ⟨Iff.rfl, Or.inl rfl⟩
theorem Sm_put {v : Int} (h : Sm u r2 r3) (hm : r3 i.toNat w ≠ -1) (hv : 0 ≤ v ∧ v ≤ 1000) : Sm u r2 (rup r3 i.toNat w v) := by
  intro j h0 h1 z h2 h3
  have q := h j h0 h1 z h2 h3
  by_cases e : j.toNat = i.toNat ∧ z = w
  · rw [e.1, e.2] at q ⊢
    rw [rup_eq]
    refine ⟨⟨fun z => absurd z (by omega), fun z => absurd (q.1.mpr z) hm⟩, Or.inr hv⟩
  · rw [rup_ne (by omega)]; exact q
theorem l3_skip {n : Nat} (h : ∀ v : Int, 0 ≤ v → v < w → r3 n v = -1 ∨ r3 n v = 0) (hun : r3 n w = -1) : ∀ v : Int, 0 ≤ v → v < w + 1 → r3 n v = -1 ∨ r3 n v = 0 := by
  intro v h0 h1
  by_cases e : v = w
  · rw [e]; exact Or.inl hun
  · exact h v h0 (by omega)
theorem l3_put {n : Nat} (h : ∀ v : Int, 0 ≤ v → v < w → r3 n v = -1 ∨ r3 n v = 0) : ∀ v : Int, 0 ≤ v → v < w + 1 → rup r3 n w 0 n v = -1 ∨ rup r3 n w 0 n v = 0 := by
  intro v h0 h1
  by_cases e : v = w
  · rw [e]; exact Or.inr (rup_eq _ _ _ _)
  · rw [rup_ne (Or.inr e)]; exact h v h0 (by omega)
theorem Rk_last (hw : 512 ≤ w) (h : ∀ v : Int, 0 ≤ v → v < w → r3 (u 17 9).toNat v = -1 ∨ r3 (u 17 9).toNat v = 0) : Rk u r3 (u 17 9) := by
  intro i h0 h1 v h2 h3 h4
  have e : i = u 17 9 := by omega
  rw [e] at h4 ⊢
  rw [show (u 17 9 - u 17 9).toNat = 0 by omega]
  rcases h v h2 (by omega) with q | q
  · exact absurd q h4
  · rw [q]; rfl
def Rm (u : zU) (r : Nat → Int → Int) (i w : Int) : Prop := Rk u r (i + 1) ∧ ∀ v : Int, 0 ≤ v → v < w → r i.toNat v ≠ -1 → r i.toNat v = hc (hlw u) (u 3 5) (u 17 9) (u 17 9 - i).toNat v
theorem Rm_skip (h : Rm u r5 i w) (hun : r5 i.toNat w = -1) : Rm u r5 i (w + 1) := ⟨h.1, fun v h0 h1 h2 => by
  by_cases e : v = w
  · rw [e] at h2; exact absurd hun h2
  · exact h.2 v h0 (by omega) h2⟩
theorem Rm_put (hi : 0 ≤ i) (h : Rm u r5 i w) : Rm u (rup r5 i.toNat w (hc (hlw u) (u 3 5) (u 17 9) (u 17 9 - i).toNat w)) i (w + 1) := by
  refine ⟨fun j h0 h1 v h2 h3 h4 => ?_, fun v h0 h1 h2 => ?_⟩
  · rw [rup_ne (Or.inl (by omega))] at h4 ⊢
    exact h.1 j h0 h1 v h2 h3 h4
  · by_cases e : v = w
    · rw [e]; exact rup_eq _ _ _ _
    · rw [rup_ne (Or.inr e)] at h2 ⊢
      exact h.2 v h0 (by omega) h2
theorem Rk_done (h : Rm u r5 i w) (hw : 512 ≤ w) : Rk u r5 i := by
  intro j h0 h1 v h2 h3 h4
  by_cases e : j = i
  · subst e; exact h.2 v h2 (by omega) h4
  · exact h.1 j (by omega) h1 v h2 h3 h4
theorem Sm_Mk (hI : IB u) (h : Sm u r2 r4) (hM : Mk u r2) : Mk u r4 := by
  have hs := stw_bd (pp := u 3 5) hI.stands
  have hn := hI.sung
  have hp := hI.ppl
  refine ⟨fun q => hM.1 ((h 0 (Int.le_refl 0) hn.1 _ hs.1 hs.2).1.mp q), fun i h0 h1 w h2 h3 h4 m h5 h6 h7 q => ?_⟩
  have hb := mv_bd (w := w) (m := m) ⟨h2, h3⟩ (by omega)
  exact hM.2 i h0 h1 w h2 h3 (fun z => h4 ((h i h0 (by omega) w h2 h3).1.mpr z)) m h5 h6 h7 ((h (i + 1) (by omega) (by omega) _ hb.1 hb.2).1.mp q)
theorem Sm_bd (h : Sm u r2 r4) (hz : ∀ i : Int, 0 ≤ i → i ≤ u 17 9 → ∀ w : Int, 0 ≤ w → w < 512 → r2 i.toNat w = -1 ∨ r2 i.toNat w = 0) (i : Int) (h0 : 0 ≤ i) (h1 : i ≤ u 17 9) (w : Int) (h2 : 0 ≤ w) (h3 : w < 512) : -1 ≤ r4 i.toNat w ∧ r4 i.toNat w ≤ 1000 := by
  have q1 := (h i h0 h1 w h2 h3).2
  have q2 := hz i h0 h1 w h2 h3
  omega
theorem Mk_G (hI : IB u) (hM : Mk u r5) (hR : Rk u r5 (i + 1)) (hi : 0 ≤ i ∧ i < u 17 9) (hw : 0 ≤ w ∧ w < 512) (hma : r5 i.toNat w ≠ -1) : ∀ m : Int, 0 ≤ m → m < u 3 5 * 8 → hlw u i (m % 8) = true → r5 (i + 1).toNat (mv w m) = hc (hlw u) (u 3 5) (u 17 9) (u 17 9 - 1 - i).toNat (mv w m) := by
  intro m h0 h1 h2
  have hp := hI.ppl
  have hb := mv_bd hw (m := m) (by omega)
  have q := hR (i + 1) (Int.le_refl _) (by omega) _ hb.1 hb.2 (hM.2 i hi.1 hi.2 w hw.1 hw.2 hma m h0 h1 h2)
  rw [show (u 17 9 - (i + 1)).toNat = (u 17 9 - 1 - i).toNat by omega] at q
  exact q
end MKS
theorem mvc_ex {A : Int → Bool} {G : Int → Int} {w : Int} : ∀ k : Nat, mvc A G w k < 1000 → ∃ m : Int, 0 ≤ m ∧ m < k ∧ A (m % 8) = true ∧ dab (m % 8) (pl w (m / 8)) + G (mv w m) = mvc A G w k
  | 0, h => by unfold mvc at h; omega
  | k + 1, h => by
    unfold mvc at h ⊢
    by_cases hA : A ((k : Int) % 8) = true
    · rw [if_pos hA] at h ⊢
      by_cases hl : dab ((k : Int) % 8) (pl w ((k : Int) / 8)) + G (mv w k) < mvc A G w k
      · rw [if_pos hl]
        exact ⟨k, by omega, by omega, hA, rfl⟩
      · rw [if_neg hl] at h ⊢
        obtain ⟨m, h0, h1, h2⟩ := mvc_ex k h
        exact ⟨m, h0, by omega, h2⟩
    · rw [if_neg hA] at h ⊢
      obtain ⟨m, h0, h1, h2⟩ := mvc_ex k h
      exact ⟨m, h0, by omega, h2⟩
theorem fgm_ok {A : Int → Bool} {G : Int → Int} {w t m1 : Int} (hA : A (m1 % 8) = true) (ht : dab (m1 % 8) (pl w (m1 / 8)) + G (mv w m1) = t) : ∀ (f : Nat) (m : Int), m ≤ m1 → m1 < m + f → A (fgm A G w t f m % 8) = true ∧ dab (fgm A G w t f m % 8) (pl w (fgm A G w t f m / 8)) + G (mv w (fgm A G w t f m)) = t ∧ m ≤ fgm A G w t f m ∧ fgm A G w t f m ≤ m1
  | 0, m, h0, h1 => by omega
  | f + 1, m, h0, h1 => by
    unfold fgm
    by_cases q : A (m % 8) = true ∧ dab (m % 8) (pl w (m / 8)) + G (mv w m) = t
    · rw [if_pos q]
      exact ⟨q.1, q.2, Int.le_refl m, h0⟩
    · rw [if_neg q]
      have hne : m ≠ m1 := fun e => q (by rw [e]; exact ⟨hA, ht⟩)
      obtain ⟨a, b, c, d⟩ := fgm_ok (w := w) hA ht f (m + 1) (by omega) (by omega)
      exact ⟨a, b, by omega, d⟩
theorem ebm_ok {A : Int → Int → Bool} {pp n i w : Int} (hp : 0 ≤ pp ∧ pp ≤ 3) (hi : 0 ≤ i ∧ i < n) (h : hc A pp n (n - i).toNat w < 1000) : A i (ebm A pp n i w % 8) = true ∧ (0 ≤ ebm A pp n i w ∧ ebm A pp n i w < pp * 8) ∧ hc A pp n (n - 1 - i).toNat (mv w (ebm A pp n i w)) < 1000 := by
  have e : (n - i).toNat = (n - 1 - i).toNat + 1 := by omega
  have e2 : hc A pp n (n - i).toNat w = mvc (A i) (hc A pp n (n - 1 - i).toNat) w (8 * pp).toNat := by
    rw [e]
    show mvc (A (n - 1 - (((n - 1 - i).toNat : Nat) : Int))) _ _ _ = _
    rw [show n - 1 - (((n - 1 - i).toNat : Nat) : Int) = i by omega]
  rw [e2] at h
  obtain ⟨m1, h0, h1, h2, h3⟩ := mvc_ex _ h
  have q := fgm_ok (w := w) (t := hc A pp n (n - i).toNat w) h2 (by rw [e2]; exact h3) (8 * pp).toNat 0 h0 (by omega)
  obtain ⟨a, b, c, d⟩ := q
  have hd := (dab_bd (a := ebm A pp n i w % 8) (b := pl w (ebm A pp n i w / 8)) (by omega) (pl_bd _ _)).1
  refine ⟨a, ⟨c, ?_⟩, ?_⟩
  · have d2 : ebm A pp n i w ≤ m1 := d
    omega
  · have b2 : dab (ebm A pp n i w % 8) (pl w (ebm A pp n i w / 8)) + hc A pp n (n - 1 - i).toNat (mv w (ebm A pp n i w)) = hc A pp n (n - i).toNat w := b
    rw [e2] at b2
    omega
theorem clw_bd (A : Int → Int → Bool) (pp n w0 : Int) : -9 ≤ clw A pp n w0 ∧ clw A pp n w0 ≤ 1000 := by
  have := hc_bd A pp n n.toNat w0
  unfold clw
  split <;> omega
theorem byw_bd {A : Int → Int → Bool} {pp n w0 i : Int} (hp : 0 ≤ pp ∧ pp ≤ 3) : byw A pp n w0 i = -9 ∨ (0 ≤ byw A pp n w0 i ∧ byw A pp n w0 i < 24) := by
  have := ebm_bd (A := A) (n := n) (i := i) (w := stp A pp n w0 i.toNat) hp
  unfold byw
  split
  · exact Or.inl rfl
  · exact Or.inr this
theorem Rk_mono {u : zU} {r : Nat → Int → Int} {i j : Int} (h : Rk u r i) (hij : i ≤ j) : Rk u r j := fun k h0 h1 => h k (by omega) h1
