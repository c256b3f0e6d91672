/-! ===== pure: the steps of the reference's men ===== -/
def B01 (f : Int → Int) : Prop := ∀ j : Int, 0 ≤ j → j < 20000 → f j = 0 ∨ f j = 1
theorem B01_put {f : Int → Int} {i : Int} (h : B01 f) : B01 (fun j => if j = i then 1 else f j) := by
  intro j h0 h1
  show (if j = i then 1 else f j) = 0 ∨ (if j = i then 1 else f j) = 1
  split
  · exact Or.inr rfl
  · exact h j h0 h1
theorem bn_bitZ {f : Nat → Bool} {i : Int} (hi : 0 ≤ i ∧ i < 8) : zI ((bn f 8 >>> i.toNat : Nat) : Int) &&& zI 1 = zI (if f i.toNat = true then 1 else 0) := by
  rw [zI_and1, bn_bit]
  by_cases h : f i.toNat = true
  · rw [if_pos h, if_pos ⟨by omega, h⟩]; rfl
  · rw [if_neg h, if_neg (fun q => h q.2)]; rfl
theorem or_no {A P Q : Prop} (h : ¬ P) : A ↔ A ∨ (P ∧ Q) := ⟨Or.inl, fun q => q.elim id (fun q => absurd q.1 h)⟩
theorem or_yes {A A' P Q : Prop} (h : P) (hA : A' ↔ A ∨ Q) : A' ↔ A ∨ (P ∧ Q) := hA.trans (or_congr Iff.rfl ⟨fun q => ⟨h, q⟩, fun q => q.2⟩)
theorem okc_lt {mi : Int → Int} {pc k i q : Int} (h : k < 48) : okc mi pc k i q ↔ (k / 6 - q ≤ pc * (mi i - mi (k % 6)) ∧ q - k / 6 ≤ pc * (mi i - mi (k % 6))) := by
  unfold okc
  exact ⟨fun a => a.elim (fun a => by omega) (fun a => a.2), fun a => Or.inr ⟨h, a⟩⟩
theorem okc_me {mi : Int → Int} {pc o b i q : Int} (ho : 0 ≤ o ∧ o < 8) (hb : 0 ≤ b ∧ b < 6) : okc mi pc (6 * o + b) i q ↔ (o - q ≤ pc * (mi i - mi b) ∧ q - o ≤ pc * (mi i - mi b)) := by
  rw [okc_lt (by omega), show (6 * o + b) / 6 = o by omega, show (6 * o + b) % 6 = b by omega]
theorem okc_no {mi : Int → Int} {pc k i q : Int} (h1 : k ≠ 48) (h2 : 48 ≤ k) : ¬ okc mi pc k i q := by
  unfold okc
  omega
section MP
variable {mi : Int → Int} {pc n : Int} {E : Int → Bool} {X : Int → Nat → Bool} {r : Nat} {i k0 c1 c2 q : Int}
theorem mv_all {A A1 A2 A3 : Prop} (h1 : A1 ↔ A ∨ (okc mi pc k0 i q ∧ CanK mi pc n E X r (6 * q + i) c1 c2)) (h2 : A2 ↔ A1 ∨ (okc mi pc c1 i q ∧ CanK mi pc n E X r (6 * q + i) k0 c2)) (h3 : A3 ↔ A2 ∨ (okc mi pc c2 i q ∧ CanK mi pc n E X r (6 * q + i) c1 k0)) : A3 ↔ A ∨ Mvs mi pc n E X r i k0 c1 c2 q := by
  unfold Mvs
  rw [h3, h2, h1, or_assoc, or_assoc]
/-- the bits gone through so far -/
theorem bit_no {A A' : Prop} {P : Nat → Prop} {f : Nat → Bool} {l : Int} (hl : 0 ≤ l) (hf : f l.toNat = false) (h : A' ↔ A ∨ ∃ q : Nat, q < 8 ∧ (q : Int) < l ∧ f q = true ∧ P q) : A' ↔ A ∨ ∃ q : Nat, q < 8 ∧ (q : Int) < l + 1 ∧ f q = true ∧ P q := by
  refine h.trans (or_congr Iff.rfl ⟨fun ⟨q, a, b, c⟩ => ⟨q, a, by omega, c⟩, fun ⟨q, a, b, c⟩ => ⟨q, a, ?_, c⟩⟩)
  by_cases e : (q : Int) = l
  · rw [← e, Int.toNat_natCast] at hf
    rw [hf] at c
    exact absurd c.1 (by decide)
  · omega
theorem bit_yes {A A' A2 : Prop} {P : Nat → Prop} {f : Nat → Bool} {l : Int} (hl : 0 ≤ l ∧ l < 8) (hf : f l.toNat = true) (h : A' ↔ A ∨ ∃ q : Nat, q < 8 ∧ (q : Int) < l ∧ f q = true ∧ P q) (h2 : A2 ↔ A' ∨ P l.toNat) : A2 ↔ A ∨ ∃ q : Nat, q < 8 ∧ (q : Int) < l + 1 ∧ f q = true ∧ P q := by
  rw [h2, h, or_assoc]
  refine or_congr Iff.rfl ⟨fun a => ?_, fun ⟨q, a, b, c⟩ => ?_⟩
  · rcases a with ⟨q, a, b, c⟩ | a
    · exact ⟨q, a, by omega, c⟩
    · exact ⟨l.toNat, by omega, by omega, hf, a⟩
  · by_cases e : (q : Int) = l
    · right
      rw [← e, Int.toNat_natCast]
      exact c.2
    · exact Or.inl ⟨q, a, by omega, c⟩
theorem bit_end {A A' : Prop} {P : Nat → Prop} {f : Nat → Bool} {l : Int} (hf : ∀ q : Nat, f q = true → (q : Int) < l) (h : A' ↔ A ∨ ∃ q : Nat, q < 8 ∧ (q : Int) < l ∧ f q = true ∧ P q) : A' ↔ A ∨ ∃ q : Nat, q < 8 ∧ f q = true ∧ P q :=
  h.trans (or_congr Iff.rfl ⟨fun ⟨q, a, _, c⟩ => ⟨q, a, c⟩, fun ⟨q, a, c⟩ => ⟨q, a, hf q c.1, c⟩⟩)
theorem bit_0 {A : Prop} {P : Nat → Prop} {f : Nat → Bool} : A ↔ A ∨ ∃ q : Nat, q < 8 ∧ (q : Int) < 0 ∧ f q = true ∧ P q := ⟨Or.inl, fun a => a.elim id (fun ⟨q, _, b, _⟩ => by omega)⟩
/-- the states gone through so far -/
def Gon (mi : Int → Int) (pc n : Int) (E : Int → Bool) (X : Int → Nat → Bool) (f : Int → Int) (b i : Int) (r : Nat) (j : Int) : Prop := ∃ j' : Int, (0 ≤ j' ∧ j' < j) ∧ f j' ≠ 0 ∧ ∃ q : Nat, q < 8 ∧ X i q = true ∧ Mvs mi pc n E X r i (6 * (j' / 2500) + b) (j' / 50 % 50) (j' % 50) q
variable {f : Int → Int} {b j : Int}
theorem gon_0 {A : Prop} : A ↔ A ∨ Gon mi pc n E X f b i r 0 := ⟨Or.inl, fun a => a.elim id (fun ⟨q, b, _⟩ => by omega)⟩
theorem gon_no {A A' : Prop} (hj : f j = 0) (h : A' ↔ A ∨ Gon mi pc n E X f b i r j) : A' ↔ A ∨ Gon mi pc n E X f b i r (j + 1) := by
  refine h.trans (or_congr Iff.rfl ⟨fun ⟨q, a, c⟩ => ⟨q, by omega, c⟩, fun ⟨q, a, c, d⟩ => ⟨q, ?_, c, d⟩⟩)
  by_cases e : q = j
  · rw [e] at c; exact absurd hj c
  · omega
theorem gon_yes {A A' A2 : Prop} (h0 : 0 ≤ j) (hj : f j ≠ 0) (h : A' ↔ A ∨ Gon mi pc n E X f b i r j) (h2 : A2 ↔ A' ∨ ∃ q : Nat, q < 8 ∧ X i q = true ∧ Mvs mi pc n E X r i (6 * (j / 2500) + b) (j / 50 % 50) (j % 50) q) : A2 ↔ A ∨ Gon mi pc n E X f b i r (j + 1) := by
  rw [h2, h, or_assoc]
  refine or_congr Iff.rfl ⟨fun a => ?_, fun ⟨q, a, c, d⟩ => ?_⟩
  · rcases a with ⟨q, a, c⟩ | a
    · exact ⟨q, by omega, c⟩
    · exact ⟨j, by omega, hj, a⟩
  · by_cases e : q = j
    · right; rw [← e]; exact d
    · exact Or.inl ⟨q, by omega, c, d⟩
theorem gon_end {A A' : Prop} (hi : i = n - 1 - (r : Int)) (hE : E i = false) (h : A' ↔ A ∨ Gon mi pc n E X f b i r 20000) : A' ↔ A ∨ Alv mi pc n E X f b (r + 1) := by
  refine h.trans (or_congr Iff.rfl ⟨fun ⟨q, a, c, d⟩ => ⟨q, a, c, (CanK_mv hi hE).2 d⟩, fun ⟨q, a, c, d⟩ => ⟨q, a, c, (CanK_mv hi hE).1 d⟩⟩)
/-- the first note: anybody's -/
theorem St_first {lim : Int} (hn : 1 ≤ n) (hE : E 0 = false) : St mi pc n E X lim ↔ ∃ q : Nat, q < 8 ∧ X 0 q = true ∧ CanK mi pc n E X (n - 1).toNat (6 * (q : Int) + 0) (if 1 < lim then 48 else 49) (if 2 < lim then 48 else 49) := by
  unfold St
  rw [show n.toNat = (n - 1).toNat + 1 by omega, CanK_mv (i := 0) (by omega) hE]
  constructor
  · rintro ⟨q, hq, hX, a⟩
    refine ⟨q, hq, hX, ?_⟩
    rcases a with ⟨_, a⟩ | ⟨o, a⟩ | ⟨o, a⟩
    · exact a
    · by_cases e : 1 < lim
      · rw [if_pos e]; exact a
      · rw [if_neg e] at o; exact absurd o (okc_no (by decide) (by decide))
    · by_cases e : 2 < lim
      · rw [if_pos e]; exact a
      · rw [if_neg e] at o; exact absurd o (okc_no (by decide) (by decide))
  · rintro ⟨q, hq, hX, a⟩
    exact ⟨q, hq, hX, Or.inl ⟨Or.inl rfl, a⟩⟩
theorem goes_b {lim : Int} {t2 t3 : Int → Int} (hn : 1 ≤ n) (hE : E 0 = false) (hz : ∀ j : Int, 0 ≤ j → j < 20000 → t2 j = 0) (h : Alv mi pc n E X t3 0 r ↔ Alv mi pc n E X t2 0 r ∨ ∃ q : Nat, q < 8 ∧ X 0 q = true ∧ CanK mi pc n E X r (6 * (q : Int) + 0) (if 1 < lim then 48 else 49) (if 2 < lim then 48 else 49)) (hr : r = (n - 1).toNat) : Alv mi pc n E X t3 0 r ↔ St mi pc n E X lim := by
  rw [h, St_first hn hE, hr]
  exact ⟨fun a => a.elim (fun a => absurd a (Alv_0 hz)) id, Or.inr⟩
theorem goes_g {lim k : Int} {s t2 t3 : Int → Int} {r2 : Nat} (hz : ∀ j : Int, 0 ≤ j → j < 20000 → t2 j = 0) (h : Alv mi pc n E X t3 k r ↔ Alv mi pc n E X t2 k r ∨ Alv mi pc n E X s b (r + 1)) (hr : r + 1 = r2) (hs : Alv mi pc n E X s b r2 ↔ St mi pc n E X lim) : Alv mi pc n E X t3 k r ↔ St mi pc n E X lim := by
  rw [h, hr, hs]
  exact ⟨fun a => a.elim (fun a => absurd a (Alv_0 hz)) id, Or.inr⟩
theorem any_no {f : Int → Int} {v j : Int} (h : (v = 0 ∧ ∀ i : Int, 0 ≤ i → i < j → f i = 0) ∨ (v = 1 ∧ ∃ i : Int, (0 ≤ i ∧ i < j) ∧ f i ≠ 0)) (hv : v = 0) (hj : f j = 0) : ((0 : Int) = 0 ∧ ∀ i : Int, 0 ≤ i → i < j + 1 → f i = 0) ∨ ((0 : Int) = 1 ∧ ∃ i : Int, (0 ≤ i ∧ i < j + 1) ∧ f i ≠ 0) := by
  refine Or.inl ⟨rfl, fun i h0 h1 => ?_⟩
  rcases h with h | h
  · by_cases e : i = j
    · rw [e]; exact hj
    · exact h.2 i h0 (by omega)
  · omega
theorem any_yes {f : Int → Int} {v j : Int} (hj0 : 0 ≤ j) (h : (v = 0 ∧ ∀ i : Int, 0 ≤ i → i < j → f i = 0) ∨ (v = 1 ∧ ∃ i : Int, (0 ≤ i ∧ i < j) ∧ f i ≠ 0)) (hv : v ≠ 0 ∨ f j ≠ 0) : ((1 : Int) = 0 ∧ ∀ i : Int, 0 ≤ i → i < j + 1 → f i = 0) ∨ ((1 : Int) = 1 ∧ ∃ i : Int, (0 ≤ i ∧ i < j + 1) ∧ f i ≠ 0) := by
  refine Or.inr ⟨rfl, ?_⟩
  rcases hv with hv | hv
  · rcases h with h | ⟨_, i, h0, h1⟩
    · exact absurd h.1 hv
    · exact ⟨i, by omega, h1⟩
  · exact ⟨j, by omega, hv⟩
theorem any_end {f : Int → Int} {v j lim : Int} (hj : j = 20000) (h : (v = 0 ∧ ∀ i : Int, 0 ≤ i → i < j → f i = 0) ∨ (v = 1 ∧ ∃ i : Int, (0 ≤ i ∧ i < j) ∧ f i ≠ 0)) (hs : Alv mi pc n E X f b 0 ↔ St mi pc n E X lim) : (v = 1 ∧ St mi pc n E X lim) ∨ (v = 0 ∧ ¬ St mi pc n E X lim) := by
  subst hj
  rcases h with ⟨a, h⟩ | ⟨a, i, h0, h1⟩
  · exact Or.inr ⟨a, fun q => Alv_0 h (hs.2 q)⟩
  · exact Or.inl ⟨a, hs.1 ⟨i, h0, h1, trivial⟩⟩
/-- looks -/
def Lk (S : Int → Prop) (F0 m F : Int) : Prop := (F = F0 ∧ ∀ t : Int, 1 ≤ t → t < m → ¬ S t) ∨ ((1 ≤ F ∧ F < m ∧ F < F0 ∧ F ≤ 3) ∧ S F ∧ ∀ t : Int, 1 ≤ t → t < F → ¬ S t)
theorem Lk_no {S : Int → Prop} {F0 m F : Int} (h : Lk S F0 m F) (hm : m < F) (hs : ¬ S m) : Lk S F0 (m + 1) F := by
  rcases h with ⟨a, b⟩ | ⟨a, _⟩
  · refine Or.inl ⟨a, fun t h0 h1 => ?_⟩
    by_cases e : t = m
    · rw [e]; exact hs
    · exact b t h0 (by omega)
  · omega
theorem Lk_yes {S : Int → Prop} {F0 m F : Int} (h : Lk S F0 m F) (hm : 1 ≤ m ∧ m < 4 ∧ m < F) (hs : S m) : Lk S F0 (m + 1) m := by
  rcases h with ⟨a, b⟩ | ⟨a, _⟩
  · exact Or.inr ⟨by omega, hs, b⟩
  · omega
theorem Lk_end {S : Int → Prop} {F0 m F : Int} (h : Lk S F0 m F) (h0 : 0 ≤ F0) (hm : 4 ≤ m ∨ F ≤ m) : Bst F0 F (fun t => (1 ≤ t ∧ t ≤ 3) ∧ S t) := by
  rcases h with ⟨a, b⟩ | ⟨a, b, c⟩
  · refine ⟨by omega, Or.inl a, fun t ht => ?_⟩
    by_cases q : t < m
    · exact absurd ht.2 (b t ht.1.1 q)
    · omega
  · refine ⟨by omega, Or.inr ⟨by omega, b⟩, fun t ht => ?_⟩
    by_cases q : t < F
    · exact absurd ht.2 (c t ht.1.1 q)
    · omega
end MP
/-- the reference's: who may pluck what -/
def plN (u : zU) (k : Int) (q : Nat) : Bool := mlw u k q
def plF (u : zU) (q : Nat) : Bool := decide ((q : Int) < u 0 12) && decide (u 7 q = 1)
def PlR (u : zU) (t : Int) : Prop := (∀ k : Int, 0 ≤ k → k < u 0 21 → nz (plN u k)) ∧ CanE (u 10) (u 9 2) (u 0 21) (plF u) (u 0 21).toNat (fun _ => false) (plN u) t
theorem plF_bn {u : zU} (h : 0 ≤ u 0 12 ∧ u 0 12 ≤ 8) {i : Int} (hi : i = u 0 12) : bn (fun q => decide (u 7 q = 1)) i.toNat = bn (plF u) 8 := by
  subst hi
  rw [bn_more (f := plF u) (m := (u 0 12).toNat) (n := 8) (by omega) (fun i h1 h2 => by unfold plF; rw [decide_eq_false (by omega)]; rfl)]
  exact bn_congr (fun i hi => by unfold plF; rw [decide_eq_true (show (i : Int) < u 0 12 by omega)]; rfl)
def XL (n lv : Int) (X : Int → Nat → Bool) : Prop := ∀ j : Int, 0 ≤ j → j < n → ∀ q : Nat, X j q = true → (q : Int) < lv
theorem XL_0 (u : zU) : XL (u 0 21) (u 0 12) (plN u) := fun j _ _ q h => by
  unfold plN mlw alw at h
  exact (of_decide_eq_true h).2.1
theorem XL_ech {n lv j0 i0 : Int} {X : Int → Nat → Bool} {ec : Nat → Bool} (h0 : 0 ≤ i0 ∧ i0 < n) (h : XL n lv X) : XL n lv (fun j => if j = j0 then ech ec X j0 i0 else X j) := fun j h1 h2 q hq => by
  have hq2 : (if j = j0 then ech ec X j0 i0 else X j) q = true := hq
  by_cases e : j = j0
  · rw [if_pos e] at hq2
    unfold ech at hq2
    rw [Bool.and_eq_true] at hq2
    exact h i0 h0.1 h0.2 q hq2.2
  · rw [if_neg e] at hq2
    exact h j h1 h2 q hq2
theorem up_off (u : zU) {c : Nat} {k i v : Int} (h : i ≠ k) : up u c k v c i = u c i := by unfold up; rw [if_pos rfl, if_neg h]
theorem ech_and {ec : Nat → Bool} {X M : Int → Nat → Bool} {j i : Int} (h : X i = M i) : bn (X j) 8 &&& bn (fun q => M i q && ec q) 8 = bn (ech ec X j i) 8 := by
  rw [bn_and]
  refine bn_congr (fun q _ => ?_)
  unfold ech
  rw [h]
  cases X j q <;> cases M i q <;> cases ec q <;> rfl
theorem dg_put {n a x k : Int} {f : Int → Int} (hk : 0 ≤ k ∧ k < n) (hx : x = a / 7 ^ (n - 1 - k).toNat) (h : ∀ j : Int, k < j → j < n → f j = dg n a j) : ∀ j : Int, k + -1 < j → j < n → (fun j => if j = k then x % 7 - 1 else f j) j = dg n a j := by
  intro j h0 h1
  show (if j = k then x % 7 - 1 else f j) = dg n a j
  by_cases e : j = k
  · rw [if_pos e, e, hx]; rfl
  · rw [if_neg e]; exact h j (by omega) h1
theorem dg_next {n a x k : Int} (hk : 0 ≤ k ∧ k < n) (hx : x = a / 7 ^ (n - 1 - k).toNat) : x / 7 = a / 7 ^ (n - 1 - (k + -1)).toNat := by
  rw [hx, show (n - 1 - (k + -1)).toNat = (n - 1 - k).toNat + 1 by omega, Int.pow_succ, Int.ediv_ediv_of_nonneg (Int.le_of_lt (p7 _))]
theorem al_put {n k c : Int} {al : Int → Int} {X M : Int → Nat → Bool} (hk : 0 ≤ k ∧ k < n) (hX : X k = M k) (hc : c = ((bn (M k) 8 : Nat) : Int)) (h : ∀ j : Int, 0 ≤ j → j < k → al j = ((bn (X j) 8 : Nat) : Int)) : ∀ j : Int, 0 ≤ j → j < k + 1 → (fun j => if j = k then c else al j) j = ((bn (X j) 8 : Nat) : Int) := by
  intro j h0 h1
  show (if j = k then c else al j) = _
  by_cases e : j = k
  · rw [if_pos e, e, hX, hc]
  · rw [if_neg e]; exact h j h0 (by omega)
theorem al_put2 {n k c g j0 : Int} {al : Int → Int} {X M : Int → Nat → Bool} {ec : Nat → Bool} (hk : 0 ≤ k ∧ k < n) (hj : 0 ≤ j0 ∧ j0 < k) (hX : X k = M k) (hc : c = ((bn (M k) 8 : Nat) : Int)) (hg : g = ((bn (ech ec X j0 k) 8 : Nat) : Int)) (h : ∀ j : Int, 0 ≤ j → j < k → al j = ((bn (X j) 8 : Nat) : Int)) : ∀ j : Int, 0 ≤ j → j < k + 1 → (fun j => if j = j0 then g else if j = k then c else al j) j = ((bn ((fun j => if j = j0 then ech ec X j0 k else X j) j) 8 : Nat) : Int) := by
  intro j h0 h1
  show (if j = j0 then g else if j = k then c else al j) = ((bn (if j = j0 then ech ec X j0 k else X j) 8 : Nat) : Int)
  by_cases e : j = j0
  · rw [if_pos e, if_pos e, hg]
  · rw [if_neg e, if_neg e]
    exact al_put hk hX hc h j h0 h1
theorem p7_bd {k : Nat} (hk : k ≤ 6) : (1 : Int) ≤ 7 ^ k ∧ (7 : Int) ^ k ≤ 117649 := by
  have h := p7 k
  have h2 : (7 : Int) ^ k ≤ 7 ^ 6 := by
    have := Nat.pow_le_pow_right (n := 7) (by decide) hk
    exact_mod_cast this
  exact ⟨by omega, h2⟩
theorem p7_step {i : Int} (hi : 0 ≤ i) : (7 : Int) ^ i.toNat * 7 = 7 ^ (i + 1).toNat := by
  rw [show (i + 1).toNat = i.toNat + 1 by omega, Int.pow_succ]
theorem skip_bd {a : Int} {e N : Nat} (h0 : 0 ≤ a) (h1 : a < 7 ^ N) (he : e ≤ N) : a < (a / 7 ^ e + 1) * 7 ^ e ∧ (a / 7 ^ e + 1) * 7 ^ e ≤ 7 ^ N ∧ 0 ≤ a / 7 ^ e ∧ a / 7 ^ e ≤ a := by
  have hp := p7 e
  have e1 : (7 : Int) ^ N = 7 ^ (N - e) * 7 ^ e := by rw [← Int.pow_add]; congr 1; omega
  refine ⟨Int.lt_mul_of_ediv_lt hp (by omega), ?_, Int.ediv_nonneg h0 (Int.le_of_lt hp), Int.ediv_le_self _ h0⟩
  rw [e1]
  refine Int.mul_le_mul_of_nonneg_right ?_ (Int.le_of_lt hp)
  rw [e1] at h1
  have := Int.ediv_lt_of_lt_mul hp h1
  omega
/-- the choices gone through so far -/
def Tri (M : Int → Nat → Bool) (mi : Int → Int) (pc n : Int) (ec : Nat → Bool) (a t : Int) : Prop := ∃ a' : Int, (0 ≤ a' ∧ a' < a) ∧ CSo mi pc n ec (dg n a') n.toNat (fun _ => false) M t
section TR
variable {M : Int → Nat → Bool} {mi : Int → Int} {pc n : Int} {ec : Nat → Bool} {so : Int → Int} {a F F2 : Int} {E : Int → Bool} {X : Int → Nat → Bool}
theorem so_cs {r : Nat} {a : Int} {X : Int → Nat → Bool} {E : Int → Bool} (hr : (r : Int) ≤ n) (hs : ∀ j : Int, 0 ≤ j → j < n → so j = dg n a j) (t : Int) : CSo mi pc n ec (dg n a) r E X t ↔ CSo mi pc n ec so r E X t :=
  ⟨CSo_congr hr (fun k h0 h1 => (hs k (by omega) h1).symm), CSo_congr hr (fun k h0 h1 => hs k (by omega) h1)⟩
theorem tri_0 : Bst 4 4 (fun t => Tri M mi pc n ec 0 t) := Bst_none (by decide) (fun t ⟨a, h, _⟩ => by omega)
theorem tri_next (hn : 1 ≤ n ∧ n ≤ 6) (ha : 0 ≤ a) (hs : ∀ j : Int, 0 ≤ j → j < n → so j = dg n a j) (hR : Run M mi pc n ec so n E X) (h : Bst 4 F (fun t => Tri M mi pc n ec a t)) (h2 : Bst F F2 (fun t => (1 ≤ t ∧ t ≤ 3) ∧ St mi pc n E X t)) : Bst 4 F2 (fun t => Tri M mi pc n ec (a + 1) t) := by
  have e : ∀ t : Int, CSo mi pc n ec (dg n a) n.toNat (fun _ => false) M t ↔ Can mi pc n E X n.toNat (fun _ _ => false) (fun _ => 0) 0 t := fun t => (so_cs (by omega) hs t).trans (Run_end hR t)
  have h3 : Bst F F2 (fun t => CSo mi pc n ec (dg n a) n.toNat (fun _ => false) M t) := by
    refine Bst_min (fun t ht => ?_) (fun t ht => ?_) h2
    · obtain ⟨t', h0, h1⟩ := (St_iff (by omega) ht.1).1 ht.2
      exact ⟨t', h0, (e t').2 h1⟩
    · have h1 : 1 ≤ t := CanE_pos hn.1 (r := n.toNat) (by omega) rfl (CanE_of_s ht)
      have h4 := (e t).1 ht
      have h5 := Can_3 (by decide) h4
      exact ⟨⟨h1, h5⟩, (St_iff (by omega) ⟨h1, h5⟩).2 ⟨t, Int.le_refl _, h4⟩⟩
  refine Bst_trans h h3 (fun t => ⟨fun ⟨a', h0, h1⟩ => ?_, fun q => ?_⟩)
  · by_cases q : a' = a
    · rw [q] at h1; exact Or.inr h1
    · exact Or.inl ⟨a', by omega, h1⟩
  · rcases q with ⟨a', h0, h1⟩ | q
    · exact ⟨a', by omega, h1⟩
    · exact ⟨a, by omega, q⟩
theorem tri_skip {w b : Int} (hw : 0 ≤ w ∧ w < n) (hs : ∀ j : Int, 0 ≤ j → j < n → so j = dg n a j) (hB : Bad M mi pc n ec so w) (hb : b = (a / 7 ^ (n - 1 - w).toNat + 1) * 7 ^ (n - 1 - w).toNat) (hab : a ≤ b) (h : Bst 4 F (fun t => Tri M mi pc n ec a t)) : Bst 4 F (fun t => Tri M mi pc n ec b t) := by
  refine Bst_congr h (fun t => ⟨fun ⟨a', h0, h1⟩ => ⟨a', by omega, h1⟩, fun ⟨a', h0, h1⟩ => ⟨a', ?_, h1⟩⟩)
  by_cases q : a' < a
  · exact ⟨h0.1, q⟩
  · exfalso
    have e := skip_same (p7 _) (show a ≤ a' by omega) (by rw [← hb]; exact h0.2)
    exact hB (dg n a') (fun j h2 h3 => (dg_same hw.2 ⟨h2, h3⟩ e).trans (hs j h2 (by omega)).symm) t h1
theorem tri_end (hn : 0 ≤ n ∧ n ≤ 6) (ha : a = 7 ^ n.toNat) (h : Bst 4 F (fun t => Tri M mi pc n ec a t)) : Bst 4 F (fun t => (∀ k : Int, 0 ≤ k → k < n → nz (M k)) ∧ CanE mi pc n ec n.toNat (fun _ => false) M t) := by
  subst ha
  exact Bst_congr h (fun t => (CanE_dg hn).symm)
end TR
