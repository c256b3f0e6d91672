/-! ===== more rows ===== -/
section ZW
variable {x : zT} {k n : Nat} {ws : va_W} {lv : List (Nat × Value)} {pc : Nat} {st : List Value} {cc : ByteArray} {nL : Nat} {Ts : List Cond} {own : String} {d : Nat}
theorem z_ldcw (C : Cx x cc nL Ts own d) {i : Nat} {v : Int32} {z : Int} (hv : v = zI z) (hc : Jvm.Cond.constant own i v ∈ Ts) (hd : decode cc pc = .ok (.ldc_w i, 3))
    (kk : Z x k n ws lv (pc + 3) (.int (zI z) :: st)) : Z x k n ws lv pc st := by
  obtain ⟨p, l, e, R, s, m, args, below, meth, c, A, H0, D, Q⟩ := x
  obtain ⟨hx, hb, hml, hown, hts, hR, hA⟩ := C
  intro H locs ls hP hS hl
  subst hv; exact lv_ldcw hx hb hown (hts _ hc) hd (kk H locs ls hP hS hl)
theorem z_iushr (C : Cx x cc nL Ts own d) {a b : Int} (r : Int) (hd : decode cc pc = .ok (.iushr, 1)) (hr : ((zI a).toUInt32 >>> ((zI b).toUInt32 &&& Int32.toUInt32 31)).toInt32 = zI r)
    (kk : Z x k n ws lv (pc + 1) (.int (zI r) :: st)) : Z x k n ws lv pc (.int (zI b) :: .int (zI a) :: st) := by
  obtain ⟨p, l, e, R, s, m, args, below, meth, c, A, H0, D, Q⟩ := x
  obtain ⟨hx, hb, hml, hown, hts, hR, hA⟩ := C
  intro H locs ls hP hS hl
  exact lv_iushr hx hb hd hr (kk H locs ls hP hS hl)
end ZW
section ZJ
variable {x : zT} {lv : List (Nat × Value)} {pc : Nat} {st : List Value} {cc : ByteArray} {nL : Nat} {Ts : List Cond} {own : String} {d : Nat} {tys : List (ClassId × FieldType)} {S : Type} {WW : S → va_W} {u : S} {index maxL dd n : Nat} {y : MethodName} {bytes : ByteArray} {ret : Option FieldType} {wsy ws' : List Cond} {b : Nat} {As : List Value} {rv : Int → Option Value} {post : Int → S → Prop}
theorem z_callJ (C : Cx x cc nL Ts own d) (hK : Kx x tys) (hDD : ∀ u : S, va_D (zA x) (WW u)) (hM : ZM (zl x) (zG x) tys WW y wsy dd As u rv post) (hG : GoodIn Ts (va_wsS own index y wsy)) (hw : wsy = .code y bytes maxL ret :: ws') (hy : zY y n) (hr : dd + 1 ≤ d ∧ maxL ≤ 20) (hn : As.length = n) (hcat : (st.map fun v => v.category).sum ≤ 8) {stk : List Value} {stk2 : Int → List Value} (hst : stk = As.reverse ++ st) (hrv : ∀ z : Int, (rv z).toList ++ st = stk2 z) (hd : decode cc pc = .ok (.invokestatic index, 3))
    (kk : ∀ (z : Int) (u2 : S), post z u2 → Z x 0 0 (WW u2) lv (pc + 3) (stk2 z)) : Z x 0 0 (WW u) lv pc stk := by
  obtain ⟨p, l, e, R, s, m, args, below, meth, c, A, H0, D, Q⟩ := x
  obtain ⟨hx, hb, hml, hown, hts, hR, hA⟩ := C
  replace hK : KK D tys s := hK
  replace hDD : ∀ u : S, va_D A (WW u) := hDD
  replace hM : ZM l D tys WW y wsy dd As u rv post := hM
  intro H locs ls hP hS hl
  refine zrun (va_runS ⟨hx, hb, hml, hown, hts⟩ (hM H.size) (va_cwS n hts hG hw rfl rfl hy ⟨by have := hr.1; show dd + 1 ≤ R.frames; omega, by have := hr.1; show 8 + (maxL + 11) + 40 * dd ≤ R.locals; omega⟩) ⟨zblind, fun U hU hW => ⟨rfl, by rw [hU], by rw [hU]; exact hP, KK.warm hW hK, (hDD u).weaken (fun _ _ _ _ => trivial)⟩⟩ rfl hn (hl.1.trans hml) hst (lv_room hcat) hd ⟨Nat.zero_le _, Nat.zero_le _⟩) hS (fun q _ h => zfree (hDD u) hS hA q h) (zfree (hDD u) hS hA) (fun z u2 H1 locs1 hp hP1 _ _ hS1 => by rw [hrv z]; exact kk z u2 hp H1 locs1 ls hP1 hS1 hl)
end ZJ
/-! ===== pure: one man's ways; spreads ===== -/
/-- f 0 + .. + f (n - 1) -/
def sm (f : Int → Int) : Nat → Int
  | 0 => 0
  | n + 1 => sm f n + f n
def near (d i j : Int) : Bool := decide (i - j ≤ d ∧ j - i ≤ d)
theorem near_t {d i j : Int} (h : i - j ≤ d ∧ j - i ≤ d) : near d i j = true := decide_eq_true h
theorem near_f {d i j : Int} (h : ¬ (i - j ≤ d ∧ j - i ≤ d)) : near d i j = false := decide_eq_false h
/-- ways to have come to l by the k-th note -/
def fw (A : Int → Int → Bool) (d : Int → Int) : Nat → Int → Int
  | 0, l => if A 0 l = true then 1 else 0
  | k + 1, l => if A ((k : Int) + 1) l = true then sm (fun o => if near (d ((k : Int) + 1)) o l = true then fw A d k o else 0) 8 else 0
theorem sm_nonneg {f : Int → Int} : ∀ n : Nat, (∀ i : Int, 0 ≤ i → i < n → 0 ≤ f i) → 0 ≤ sm f n
  | 0, _ => Int.le_refl 0
  | n + 1, h => by
    have h1 := sm_nonneg n (fun i h0 hn => h i h0 (by omega))
    have h2 := h n (by omega) (by omega)
    show 0 ≤ sm f n + f n
    omega
theorem sm_congr {f g : Int → Int} : ∀ n : Nat, (∀ i : Int, 0 ≤ i → i < n → f i = g i) → sm f n = sm g n
  | 0, _ => rfl
  | n + 1, h => by
    show sm f n + f n = sm g n + g n
    rw [sm_congr n (fun i h0 hn => h i h0 (by omega)), h n (by omega) (by omega)]
theorem sm_pos {f : Int → Int} : ∀ n : Nat, (∀ i : Int, 0 ≤ i → i < n → 0 ≤ f i) → (0 < sm f n ↔ ∃ i : Int, 0 ≤ i ∧ i < n ∧ 0 < f i)
  | 0, _ => ⟨fun h => absurd h (by show ¬ (0 : Int) < 0; omega), fun ⟨i, h0, h1, _⟩ => by omega⟩
  | n + 1, h => by
    have h1 := sm_nonneg n (fun i h0 hn => h i h0 (by omega))
    have h2 := h n (by omega) (by omega)
    have ih := sm_pos n (fun i h0 hn => h i h0 (by omega))
    show 0 < sm f n + f n ↔ _
    constructor
    · intro q
      by_cases q2 : 0 < sm f n
      · obtain ⟨i, a, b, c⟩ := ih.mp q2
        exact ⟨i, a, by omega, c⟩
      · exact ⟨n, by omega, by omega, by omega⟩
    · rintro ⟨i, a, b, c⟩
      by_cases e : i = n
      · subst e; omega
      · have := ih.mpr ⟨i, a, by omega, c⟩
        omega
theorem sm_add (f g : Int → Int) : ∀ n : Nat, sm (fun i => f i + g i) n = sm f n + sm g n
  | 0 => rfl
  | n + 1 => by
    show sm (fun i => f i + g i) n + (f n + g n) = (sm f n + f n) + (sm g n + g n)
    rw [sm_add f g n]; omega
theorem sm_zero (n : Nat) : sm (fun _ => 0) n = 0 := by
  induction n with
  | zero => rfl
  | succ n ih => show sm (fun _ => 0) n + 0 = 0; omega
theorem sm_swap (f : Int → Int → Int) (m : Nat) : ∀ n : Nat, sm (fun i => sm (fun j => f i j) m) n = sm (fun j => sm (fun i => f i j) n) m
  | 0 => (sm_zero m).symm
  | n + 1 => by
    show sm (fun i => sm (fun j => f i j) m) n + sm (fun j => f n j) m = sm (fun j => sm (fun i => f i j) n + f n j) m
    rw [sm_swap f m n, sm_add]
theorem sm_mul (f : Int → Int) (c : Int) : ∀ n : Nat, sm (fun i => f i * c) n = sm f n * c
  | 0 => by show (0 : Int) = 0 * c; omega
  | n + 1 => by
    show sm (fun i => f i * c) n + f n * c = (sm f n + f n) * c
    rw [sm_mul f c n, Int.add_mul]
theorem fw_nonneg (A : Int → Int → Bool) (d : Int → Int) : ∀ (k : Nat) (l : Int), 0 ≤ fw A d k l
  | 0, l => by unfold fw; split <;> omega
  | k + 1, l => by
    unfold fw
    split
    · exact sm_nonneg 8 (fun i _ _ => by split; exact fw_nonneg A d k i; omega)
    · omega
/-- who is within s steps of one of f's places -/
def sprd (f : Nat → Bool) (s : Int) : Nat → Bool := fun l => decide (∃ j : Nat, j < 8 ∧ f j = true ∧ near s j l = true)
theorem sprd_0 (f : Nat → Bool) : bn f 8 = bn (sprd f 0) 8 := by
  refine bn_congr (fun i hi => ?_)
  unfold sprd
  cases h : f i with
  | true => exact (decide_eq_true ⟨i, hi, h, near_t (by omega)⟩).symm
  | false =>
    refine (decide_eq_false ?_).symm
    rintro ⟨j, h1, h2, h3⟩
    have := of_decide_eq_true h3
    rw [show j = i by omega] at h2
    rw [h] at h2
    cases h2
theorem sprd_step (f : Nat → Bool) {i : Int} (hi : 0 ≤ i) {l : Nat} (hl : l < 8) : sprd f (i + 1) l = (sprd f i l || (decide (0 < l) && sprd f i (l - 1)) || (decide (l < 7) && sprd f i (l + 1))) := by
  unfold sprd
  by_cases h : ∃ j : Nat, j < 8 ∧ f j = true ∧ near (i + 1) j l = true
  · rw [decide_eq_true h]
    obtain ⟨j, h1, h2, h3⟩ := h
    have q := of_decide_eq_true h3
    symm
    simp only [Bool.or_eq_true, Bool.and_eq_true, decide_eq_true_eq]
    by_cases e1 : near i j l = true
    · exact Or.inl (Or.inl ⟨j, h1, h2, e1⟩)
    · have e2 : ¬ ((j : Int) - l ≤ i ∧ (l : Int) - j ≤ i) := fun z => e1 (near_t z)
      by_cases e3 : j < l
      · exact Or.inl (Or.inr ⟨by omega, j, h1, h2, near_t (by omega)⟩)
      · exact Or.inr ⟨by omega, j, h1, h2, near_t (by omega)⟩
  · rw [decide_eq_false h]
    symm
    rw [Bool.eq_false_iff]
    intro q
    simp only [Bool.or_eq_true, Bool.and_eq_true, decide_eq_true_eq] at q
    apply h
    rcases q with (⟨j, h1, h2, h3⟩ | ⟨h0, j, h1, h2, h3⟩) | ⟨h0, j, h1, h2, h3⟩ <;>
      (have q := of_decide_eq_true h3; exact ⟨j, h1, h2, near_t (by omega)⟩)
theorem sprd_far (f : Nat → Bool) {s : Int} (hs : 7 ≤ s) {l : Nat} (hl : l < 8) : sprd f s l = sprd f 7 l := by
  unfold sprd
  refine decide_eq_decide.mpr ⟨fun ⟨j, h1, h2, _⟩ => ⟨j, h1, h2, near_t (by omega)⟩, fun ⟨j, h1, h2, _⟩ => ⟨j, h1, h2, near_t (by omega)⟩⟩
theorem spr_bits (g : Nat → Bool) : (((bn g 8 ||| bn g 8 * 2) ||| bn g 8 / 2) &&& 255) = bn (fun l => g l || (decide (0 < l) && g (l - 1)) || (decide (l < 7) && g (l + 1))) 8 := by
  apply Nat.eq_of_testBit_eq
  intro i
  have e1 : bn g 8 * 2 = bn g 8 <<< 1 := by rw [Nat.shiftLeft_eq]
  have e2 : bn g 8 / 2 = bn g 8 >>> 1 := by rw [Nat.shiftRight_eq_div_pow]
  have e3 : (255 : Nat) = 2 ^ 8 - 1 := rfl
  rw [e1, e2, e3, Nat.testBit_and, Nat.testBit_or, Nat.testBit_or, Nat.testBit_shiftLeft, Nat.testBit_shiftRight, Nat.testBit_two_pow_sub_one, bn_testBit, bn_testBit, bn_testBit, bn_testBit]
  by_cases hi : i < 8
  · by_cases h0 : 0 < i
    · by_cases h7 : i < 7
      · simp [hi, h0, h7, show i ≥ 1 by omega, show i - 1 < 8 by omega, show 1 + i < 8 by omega, show i + 1 < 8 by omega, Nat.add_comm 1 i]
      · simp [hi, h0, h7, show i ≥ 1 by omega, show i - 1 < 8 by omega, show ¬ (1 + i < 8) by omega]
    · simp [show i = 0 by omega]
  · simp [hi]
theorem zI_shl1 (m : Nat) : zI (m : Int) <<< (zI 1 &&& 31) = zI ((m * 2 : Nat) : Int) := by
  rw [zI_shlE (by omega)]
  congr 1
theorem zI_shr1 {m : Nat} (h : m < 2147483648) : zI (m : Int) >>> (zI 1 &&& 31) = zI ((m / 2 : Nat) : Int) := by
  rw [zI_shrN h (by omega)]
  congr 1
theorem sprd_next (f : Nat → Bool) {i : Int} (hi : 0 ≤ i) : (((bn (sprd f i) 8 ||| bn (sprd f i) 8 * 2) ||| bn (sprd f i) 8 / 2) &&& 255) = bn (sprd f (i + 1)) 8 := by
  rw [spr_bits]
  exact bn_congr (fun l hl => (sprd_step f hi hl).symm)
theorem pc_bd {p a b : Int} (hp : 1 ≤ p ∧ p ≤ 4) (ha : 0 ≤ a ∧ a ≤ 99) (hb : 0 ≤ b ∧ b ≤ 99) : -396 ≤ p * (b - a) ∧ p * (b - a) ≤ 396 := by
  rcases (by omega : p = 1 ∨ p = 2 ∨ p = 3 ∨ p = 4) with rfl | rfl | rfl | rfl <;> omega
theorem pc_nn {p a b : Int} (hp : 1 ≤ p ∧ p ≤ 4) (hab : a ≤ b) : 0 ≤ p * (b - a) := Int.mul_nonneg (by omega) (by omega)
/-- the class's: what level may the k-th note come from; how far the man may go ahead of it -/
def ulw (u : zU) (k l : Int) : Bool := alw (u 18) (u 17 6) (u 3 6) (u 3 4) (u 21 k) l
def udt (u : zU) (k : Int) : Int := u 3 8 * (u 20 k - u 20 (k - 1))
theorem ways_0 {u : zU} {j : Int} : (if ulw u 0 j = true then (1 : Int) else 0) = fw (ulw u) (udt u) 0 j := rfl
/-- which levels may be reached by the k-th note -/
theorem fw_reach {A : Int → Int → Bool} {d : Int → Int} {k : Nat} {f : Nat → Bool} (hf : ∀ l : Nat, l < 8 → (f l = true ↔ 0 < fw A d k l)) {l : Nat} (hl : l < 8) : ((sprd f (d ((k : Int) + 1)) l && A ((k : Int) + 1) l) = true ↔ 0 < fw A d (k + 1) l) := by
  have hs := sm_pos (f := fun o => if near (d ((k : Int) + 1)) o l = true then fw A d k o else 0) 8 (fun i _ _ => by
    show 0 ≤ (if near (d ((k : Int) + 1)) i l = true then fw A d k i else 0)
    split
    · exact fw_nonneg A d k i
    · omega)
  unfold fw
  by_cases hA : A ((k : Int) + 1) l = true
  · rw [if_pos hA, hs, hA, Bool.and_true]
    unfold sprd
    rw [decide_eq_true_eq]
    constructor
    · rintro ⟨j, h1, h2, h3⟩
      refine ⟨j, by omega, by omega, ?_⟩
      show 0 < (if near (d ((k : Int) + 1)) (j : Int) l = true then fw A d k j else 0)
      rw [if_pos h3]
      exact (hf j h1).mp h2
    · rintro ⟨i, h1, h2, h3⟩
      replace h3 : 0 < (if near (d ((k : Int) + 1)) i l = true then fw A d k i else 0) := h3
      by_cases q : near (d ((k : Int) + 1)) i l = true
      · rw [if_pos q] at h3
        refine ⟨i.toNat, by omega, (hf i.toNat (by omega)).mpr ?_, ?_⟩
        · rw [Int.toNat_of_nonneg h1]; exact h3
        · rw [Int.toNat_of_nonneg h1]; exact q
      · rw [if_neg q] at h3
        omega
  · rw [if_neg hA]
    simp [hA]
/-- ways on from l, j notes ahead of the last (of n) -/
def bw (A : Int → Int → Bool) (d : Int → Int) (n : Int) : Nat → Int → Int
  | 0, l => if A (n - 1) l = true then 1 else 0
  | j + 1, l => if A (n - 2 - (j : Int)) l = true then sm (fun o => if near (d (n - 1 - (j : Int))) l o = true then bw A d n j o else 0) 8 else 0
theorem bw_nonneg (A : Int → Int → Bool) (d : Int → Int) (n : Int) : ∀ (k : Nat) (l : Int), 0 ≤ bw A d n k l
  | 0, l => by unfold bw; split <;> omega
  | k + 1, l => by
    unfold bw
    split
    · exact sm_nonneg 8 (fun i _ _ => by split; exact bw_nonneg A d n k i; omega)
    · omega
theorem near_sym (d i j : Int) : near d i j = near d j i := by
  unfold near
  exact decide_eq_decide.mpr And.comm
theorem bw_reach {A : Int → Int → Bool} {d : Int → Int} {n : Int} {k : Nat} {f : Nat → Bool} (hf : ∀ l : Nat, l < 8 → (f l = true ↔ 0 < bw A d n k l)) {l : Nat} (hl : l < 8) : ((sprd f (d (n - 1 - (k : Int))) l && A (n - 2 - (k : Int)) l) = true ↔ 0 < bw A d n (k + 1) l) := by
  have hs := sm_pos (f := fun o => if near (d (n - 1 - (k : Int))) l o = true then bw A d n k o else 0) 8 (fun i _ _ => by
    show 0 ≤ (if near (d (n - 1 - (k : Int))) l i = true then bw A d n k i else 0)
    split
    · exact bw_nonneg A d n k i
    · omega)
  unfold bw
  by_cases hA : A (n - 2 - (k : Int)) l = true
  · rw [if_pos hA, hs, hA, Bool.and_true]
    unfold sprd
    rw [decide_eq_true_eq]
    constructor
    · rintro ⟨j, h1, h2, h3⟩
      refine ⟨j, by omega, by omega, ?_⟩
      show 0 < (if near (d (n - 1 - (k : Int))) l (j : Int) = true then bw A d n k j else 0)
      rw [near_sym] at h3
      rw [if_pos h3]
      exact (hf j h1).mp h2
    · rintro ⟨i, h1, h2, h3⟩
      replace h3 : 0 < (if near (d (n - 1 - (k : Int))) l i = true then bw A d n k i else 0) := h3
      by_cases q : near (d (n - 1 - (k : Int))) l i = true
      · rw [if_pos q] at h3
        refine ⟨i.toNat, by omega, (hf i.toNat (by omega)).mpr ?_, ?_⟩
        · rw [Int.toNat_of_nonneg h1]; exact h3
        · rw [Int.toNat_of_nonneg h1, near_sym]; exact q
      · rw [if_neg q] at h3
        omega
  · rw [if_neg hA]
    simp [hA]
/-- where he can have been by the k-th of n notes -/
def whr (A : Int → Int → Bool) (d : Int → Int) (n k : Int) : Nat := bn (fun l : Nat => decide (0 < fw A d k.toNat l ∧ 0 < bw A d n (n - 1 - k).toNat l)) 8
/-- in how many ways -/
def trk (A : Int → Int → Bool) (d : Int → Int) (n : Int) : Int := if n = 0 then 1 else sm (fw A d (n - 1).toNat) 8
theorem sm_stepI {f : Int → Int} {i : Int} (hi : 0 ≤ i) : sm f (i + 1).toNat = sm f i.toNat + f i := by
  rw [show (i + 1).toNat = i.toNat + 1 by omega]
  show sm f i.toNat + f (i.toNat : Int) = _
  rw [Int.toNat_of_nonneg hi]
theorem spr_fin {f : Nat → Bool} {s r i : Int} (hr : (7 < s ∧ r = 7) ∨ (s ≤ 7 ∧ r = s)) (hi : i ≤ r) (h : r ≤ i) : bn (sprd f i) 8 = bn (sprd f s) 8 := by
  rcases hr with ⟨a, b⟩ | ⟨a, b⟩
  · rw [show i = 7 by omega]
    exact bn_congr (fun l hl => (sprd_far f (by omega) hl).symm)
  · rw [show i = s by omega]
theorem like_bitZ {P : Int → Int} {w e lv s i : Int} (hi : 0 ≤ i ∧ i < 8) : zI ((like P w e lv s >>> i.toNat : Nat) : Int) &&& zI 1 = zI (if alw P w e lv s i = true then 1 else 0) := by
  rw [zI_and1, like_bit hi]
  congr 1
  split <;> rfl
theorem ite01_ne {b : Bool} (h : (if b = true then (1 : Int) else 0) ≠ 0) : b = true := by
  cases b with
  | true => rfl
  | false => exact absurd rfl h
theorem ite01_eq {b : Bool} (h : (if b = true then (1 : Int) else 0) = 0) : b = false := by
  cases b with
  | false => rfl
  | true => exact absurd h (by decide)
theorem ways_v {g h : Int → Int} {s i : Int} : sm (fun o => if near s o i = true then (fun j => if j < 8 then g j else h j) o else 0) 8 = sm (fun o => if near s o i = true then g o else 0) 8 := by
  refine sm_congr 8 (fun o h0 h1 => ?_)
  show (if near s o i = true then (if o < 8 then g o else h o) else 0) = _
  rw [if_pos (show o < 8 by omega)]
theorem ways_step {w G : Int → Int} {i v : Int} (hw : ∀ j : Int, 0 ≤ j → j < i → w j = G j) (hv : v = G i) : ∀ j : Int, 0 ≤ j → j < i + 1 → (if j = i then v else w j) = G j := by
  intro j h0 h1
  by_cases e : j = i
  · rw [if_pos e, e, hv]
  · rw [if_neg e, hw j h0 (by omega)]
theorem fw_next {A : Int → Int → Bool} {d : Int → Int} {k : Int} (hk : 1 ≤ k) {w : Int → Int} (hw : ∀ j : Int, 0 ≤ j → j < 8 → w j = fw A d (k - 1).toNat j) (j : Int) : (if A k j = true then sm (fun o => if near (d k) o j = true then w o else 0) 8 else 0) = fw A d (k + 1 - 1).toNat j := by
  rw [show (k + 1 - 1).toNat = (k - 1).toNat + 1 by omega]
  unfold fw
  rw [show (((k - 1).toNat : Nat) : Int) + 1 = k by omega]
  by_cases h : A k j = true
  · rw [if_pos h, if_pos h]
    refine sm_congr 8 (fun o h0 h1 => ?_)
    show (if near (d k) o j = true then w o else 0) = if near (d k) o j = true then fw A d (k - 1).toNat o else 0
    rw [hw o h0 h1]
  · rw [if_neg h, if_neg h]
theorem reach_next {A : Int → Int → Bool} {d : Int → Int} {i s : Int} (hi : 1 ≤ i) (hs : s = d i) {f : Nat → Bool} (hf : ∀ l : Nat, l < 8 → (f l = true ↔ 0 < fw A d (i - 1).toNat l)) : ∀ l : Nat, l < 8 → ((sprd f s l && A i l) = true ↔ 0 < fw A d (i + 1 - 1).toNat l) := by
  intro l hl
  have h := fw_reach hf hl
  rw [show (((i - 1).toNat : Nat) : Int) + 1 = i by omega] at h
  rw [show (i + 1 - 1).toNat = (i - 1).toNat + 1 by omega, hs]
  exact h
theorem back_next {A : Int → Int → Bool} {d : Int → Int} {n i s : Int} (hi : 0 ≤ i ∧ i ≤ n - 2) (hs : s = d (i + 1)) {f : Nat → Bool} (hf : ∀ l : Nat, l < 8 → (f l = true ↔ 0 < bw A d n (n - 2 - i).toNat l)) : ∀ l : Nat, l < 8 → ((sprd f s l && A i l) = true ↔ 0 < bw A d n (n - 2 - (i + (-1))).toNat l) := by
  intro l hl
  have h := bw_reach hf hl
  rw [show n - 1 - (((n - 2 - i).toNat : Nat) : Int) = i + 1 by omega, show n - 2 - (((n - 2 - i).toNat : Nat) : Int) = i by omega] at h
  rw [show (n - 2 - (i + (-1))).toNat = (n - 2 - i).toNat + 1 by omega, hs]
  exact h
theorem whr_of {A : Int → Int → Bool} {d : Int → Int} {n k : Int} {f g : Nat → Bool} (hf : ∀ l : Nat, l < 8 → (f l = true ↔ 0 < fw A d k.toNat l)) (hg : ∀ l : Nat, l < 8 → (g l = true ↔ 0 < bw A d n (n - 1 - k).toNat l)) : bn (fun q => f q && g q) 8 = whr A d n k := by
  refine bn_congr (fun l hl => ?_)
  have h1 := hf l hl
  have h2 := hg l hl
  show (f l && g l) = decide (0 < fw A d k.toNat l ∧ 0 < bw A d n (n - 1 - k).toNat l)
  by_cases q : 0 < fw A d k.toNat l ∧ 0 < bw A d n (n - 1 - k).toNat l
  · rw [decide_eq_true q, h1.mpr q.1, h2.mpr q.2]; rfl
  · rw [decide_eq_false q, Bool.eq_false_iff]
    intro z
    rw [Bool.and_eq_true] at z
    exact q ⟨h1.mp z.1, h2.mp z.2⟩
/-! ===== pure: tuning ===== -/
def clsh (P : Int → Int) (e a b : Int) : Bool := decide (∃ w : Nat, w < 10 ∧ snd (P a) w a - snd (P b) w b ≤ e ∧ snd (P b) w b - snd (P a) w a ≤ e)
theorem clsh_t {P : Int → Int} {e a b w : Int} (hw : 0 ≤ w ∧ w < 10) (h : snd (P a) w a - snd (P b) w b ≤ e ∧ snd (P b) w b - snd (P a) w a ≤ e) : clsh P e a b = true := decide_eq_true ⟨w.toNat, by omega, by rw [Int.toNat_of_nonneg hw.1]; exact h⟩
theorem clsh_f {P : Int → Int} {e a b : Int} (h : ∀ w : Int, 0 ≤ w → w < 10 → ¬ (snd (P a) w a - snd (P b) w b ≤ e ∧ snd (P b) w b - snd (P a) w a ≤ e)) : clsh P e a b = false := decide_eq_false (fun ⟨w, h1, h2⟩ => h w (by omega) (by omega) h2)
theorem clsh_sym (P : Int → Int) (e a b : Int) : clsh P e a b = clsh P e b a := decide_eq_decide.mpr ⟨fun ⟨w, h1, h2⟩ => ⟨w, h1, h2.2, h2.1⟩, fun ⟨w, h1, h2⟩ => ⟨w, h1, h2.2, h2.1⟩⟩
/-- the other levels that clash with a -/
def ckf (P : Int → Int) (e lv a : Int) : Nat → Bool := fun q => decide ((q : Int) < lv ∧ a ≠ q) && clsh P e a q
/-- no two of the set clash -/
noncomputable def free (P : Int → Int) (e lv : Int) (x : Nat) : Bool := @decide (∀ a : Nat, a < 8 → ∀ b : Nat, b < 8 → (a : Int) < lv → (b : Int) < lv → a ≠ b → x.testBit a = true → x.testBit b = true → clsh P e a b = false) (Classical.propDecidable _)
/-- how many bits -/
def pcn (x : Nat) : Int := sm (fun i => if x.testBit i.toNat = true then 1 else 0) 8
/-- the best of the sets below n -/
noncomputable def kst (P : Int → Int) (e lv : Int) : Nat → Nat
  | 0 => 0
  | n + 1 => if pcn (kst P e lv n) < pcn n ∧ free P e lv n = true then n else kst P e lv n
theorem kst_le (P : Int → Int) (e lv : Int) : ∀ n : Nat, kst P e lv n ≤ n
  | 0 => Nat.le_refl 0
  | n + 1 => by
    have := kst_le P e lv n
    unfold kst
    split <;> omega
theorem ck_and {P : Int → Int} {e lv a : Int} {x : Nat} (hx : x < 256) : (bn (ckf P e lv a) 8 &&& x = 0) ↔ ∀ b : Nat, b < 8 → (b : Int) < lv → a ≠ b → x.testBit b = true → clsh P e a b = false := by
  constructor
  · intro h b hb hl hne hx2
    have q := congrArg (fun z => Nat.testBit z b) h
    simp only [Nat.testBit_and, bn_testBit, Nat.zero_testBit] at q
    unfold ckf at q
    rw [hx2, Bool.and_true, decide_eq_true hb, Bool.true_and, decide_eq_true (show (b : Int) < lv ∧ a ≠ b from ⟨hl, hne⟩), Bool.true_and] at q
    exact q
  · intro h
    apply Nat.eq_of_testBit_eq
    intro i
    rw [Nat.testBit_and, bn_testBit, Nat.zero_testBit]
    by_cases hi : i < 8
    · unfold ckf
      by_cases h2 : (i : Int) < lv ∧ a ≠ i
      · cases hx3 : x.testBit i with
        | false => rw [Bool.and_false]
        | true => rw [h i hi h2.1 h2.2 hx3]; simp
      · rw [decide_eq_false h2]; simp
    · rw [decide_eq_false hi]; simp
theorem tb_bit {x : Nat} {i : Int} (hi : 0 ≤ i) : zI ((x >>> i.toNat : Nat) : Int) &&& zI 1 = zI (if x.testBit i.toNat = true then 1 else 0) := by
  rw [zI_and1, Nat.shiftRight_eq_div_pow, ← Nat.toNat_testBit]
  congr 1
  cases x.testBit i.toNat <;> rfl
/-- behind how many years two bells meet, from y on, f years to try -/
def mtf (P W : Int → Int) (w e a b : Int) : Nat → Int → Int
  | 0, _ => -9
  | f + 1, y => if snd (wrn (P a) (W a) y) w a - snd (wrn (P b) (W b) y) w b ≤ e ∧ snd (wrn (P b) (W b) y) w b - snd (wrn (P a) (W a) y) w a ≤ e then y else mtf P W w e a b f (y + 1)
def mt (P W : Int → Int) (w e a b : Int) : Int := mtf P W w e a b 100 0
theorem mtf_bd (P W : Int → Int) (w e a b : Int) : ∀ (f : Nat) (y : Int), mtf P W w e a b f y = -9 ∨ (y ≤ mtf P W w e a b f y ∧ mtf P W w e a b f y < y + f)
  | 0, y => Or.inl rfl
  | f + 1, y => by
    unfold mtf
    split
    · right; omega
    · have := mtf_bd P W w e a b f (y + 1)
      omega
theorem mt_bd (P W : Int → Int) (w e a b : Int) : mt P W w e a b = -9 ∨ (0 ≤ mt P W w e a b ∧ mt P W w e a b < 100) := by
  have := mtf_bd P W w e a b 100 0
  unfold mt
  omega
/-- first pair: over b from b0, for one a; (pair, years) packed as the state (best, least) -/
def prb (M : Int → Int → Int) (a : Int) : Nat → Int → Int × Int → Int × Int
  | 0, _, s => s
  | f + 1, b, s => prb M a f (b + 1) (if M a b ≠ -9 ∧ M a b < s.2 then (10 * a + b, M a b) else s)
def pra (M : Int → Int → Int) (lv : Int) : Nat → Int → Int × Int → Int × Int
  | 0, _, s => s
  | f + 1, a, s => pra M lv f (a + 1) (prb M a (lv - (a + 1)).toNat (a + 1) s)
def prf (M : Int → Int → Int) (lv : Int) : Int := (pra M lv lv.toNat 0 (-9, 100)).1
theorem ckf_t {P : Int → Int} {e lv a k : Int} (hk : 0 ≤ k) (h1 : k < lv) (h2 : a ≠ k) (h3 : clsh P e a k = true) : ckf P e lv a k.toNat = true := by
  unfold ckf
  rw [Int.toNat_of_nonneg hk, h3, Bool.and_true]
  exact decide_eq_true ⟨h1, h2⟩
theorem ckf_eq {P : Int → Int} {e lv a k : Int} (hk : 0 ≤ k) (h : a = k) : ckf P e lv a k.toNat = false := by
  unfold ckf
  rw [Int.toNat_of_nonneg hk, decide_eq_false (fun q => q.2 h)]
  rfl
theorem ckf_cl {P : Int → Int} {e lv a k : Int} (hk : 0 ≤ k) (h3 : clsh P e a k = false) : ckf P e lv a k.toNat = false := by
  unfold ckf
  rw [Int.toNat_of_nonneg hk, h3, Bool.and_false]
theorem ck_end {P : Int → Int} {e lv a : Int} (h : 0 ≤ lv ∧ lv ≤ 8) : bn (ckf P e lv a) lv.toNat = bn (ckf P e lv a) 8 := by
  refine (bn_more (by omega) (fun i h1 _ => ?_)).symm
  unfold ckf
  rw [decide_eq_false (fun q => absurd q.1 (by omega))]
  rfl
theorem ite01_n1 {b : Bool} (h : (if b = true then (1 : Int) else 0) ≠ 1) : b = false := by
  cases b with
  | false => rfl
  | true => exact absurd rfl h
theorem ite01_1 {b : Bool} (h : (if b = true then (1 : Int) else 0) = 1) : b = true := by
  cases b with
  | true => rfl
  | false => exact absurd h (by decide)
/-- no level below i of the set clashes with one of it -/
def clr (P : Int → Int) (e lv : Int) (x : Nat) (i : Int) : Prop := ∀ a : Nat, (a : Int) < i → x.testBit a = true → ∀ b : Nat, b < 8 → (b : Int) < lv → (a : Int) ≠ b → x.testBit b = true → clsh P e a b = false
theorem clr_step {P : Int → Int} {e lv : Int} {x : Nat} {i : Int} (hi : 0 ≤ i) (h : clr P e lv x i) (h2 : x.testBit i.toNat = true → ∀ b : Nat, b < 8 → (b : Int) < lv → i ≠ b → x.testBit b = true → clsh P e i b = false) : clr P e lv x (i + 1) := by
  intro a ha hx b hb hl hne hxb
  by_cases q : (a : Int) < i
  · exact h a q hx b hb hl hne hxb
  · have e1 : (a : Int) = i := by omega
    rw [e1] at hne ⊢
    exact h2 (by rw [← e1]; exact hx) b hb hl hne hxb
theorem clr_end {P : Int → Int} {e lv : Int} {x : Nat} {i : Int} (h : clr P e lv x i) (hi : lv ≤ i) : free P e lv x = true := @decide_eq_true _ (Classical.propDecidable _) (fun a _ b hb ha hlb hne hxa hxb => h a (by omega) hxa b hb hlb (by omega) hxb)
theorem clr_no {P : Int → Int} {e lv : Int} {x : Nat} {i : Int} (hx : x < 256) (hi : 0 ≤ i ∧ i < lv ∧ i < 8) (h1 : x.testBit i.toNat = true) (h2 : ((bn (ckf P e lv i) 8 &&& x : Nat) : Int) ≠ 0) : free P e lv x = false := by
  refine @decide_eq_false _ (Classical.propDecidable _) (fun hf => h2 ?_)
  have q := (ck_and (P := P) (e := e) (lv := lv) (a := i) hx).mpr (fun b hb hlb hne hxb => by
    have r := hf i.toNat (by omega) b hb (by omega) hlb (by omega) h1 hxb
    rw [Int.toNat_of_nonneg hi.1] at r
    exact r)
  rw [q]; rfl
theorem pcn_bd (x : Nat) : 0 ≤ pcn x ∧ pcn x ≤ 8 := by
  have h : ∀ n : Nat, 0 ≤ sm (fun i => if x.testBit i.toNat = true then 1 else 0) n ∧ sm (fun i => if x.testBit i.toNat = true then 1 else 0) n ≤ n := by
    intro n
    induction n with
    | zero => exact ⟨Int.le_refl 0, Int.le_refl 0⟩
    | succ n ih =>
      show 0 ≤ sm _ n + (if x.testBit ((n : Int)).toNat = true then 1 else 0) ∧ sm _ n + (if x.testBit ((n : Int)).toNat = true then 1 else 0) ≤ ((n + 1 : Nat) : Int)
      split <;> omega
  exact h 8
theorem kst_skip {P : Int → Int} {e lv i : Int} (hi : 0 ≤ i) (h : ¬ (pcn (kst P e lv i.toNat) < pcn i.toNat ∧ free P e lv i.toNat = true)) : kst P e lv (i + 1).toNat = kst P e lv i.toNat := by
  rw [show (i + 1).toNat = i.toNat + 1 by omega]
  show (if pcn (kst P e lv i.toNat) < pcn i.toNat ∧ free P e lv i.toNat = true then i.toNat else kst P e lv i.toNat) = _
  rw [if_neg h]
theorem kst_take {P : Int → Int} {e lv i : Int} (hi : 0 ≤ i) (h : pcn (kst P e lv i.toNat) < pcn i.toNat ∧ free P e lv i.toNat = true) : kst P e lv (i + 1).toNat = i.toNat := by
  rw [show (i + 1).toNat = i.toNat + 1 by omega]
  show (if pcn (kst P e lv i.toNat) < pcn i.toNat ∧ free P e lv i.toNat = true then i.toNat else kst P e lv i.toNat) = _
  rw [if_pos h]
theorem kst_1 (P : Int → Int) (e lv : Int) : kst P e lv 1 = 0 := by
  show (if pcn (kst P e lv 0) < pcn 0 ∧ free P e lv 0 = true then 0 else kst P e lv 0) = 0
  split <;> rfl
theorem kst_lt {P : Int → Int} {e lv : Int} : ∀ {n : Nat}, 0 < n → kst P e lv n < n
  | n + 1, _ => by
    show (if pcn (kst P e lv n) < pcn n ∧ free P e lv n = true then n else kst P e lv n) < n + 1
    have := kst_le P e lv n
    split <;> omega
theorem pow8 {n : Nat} (h : n ≤ 8) : 1 ≤ 2 ^ n ∧ 2 ^ n ≤ 256 := ⟨Nat.one_le_two_pow, (Nat.pow_le_pow_right (by decide) h : 2 ^ n ≤ 2 ^ 8)⟩
