/-! ===== what the reference's numbers always keep ===== -/
/-- the reference's NOW, in the order of the class's -/
def nv (u : zU) : zU := fun c i => match c with
  | 0 => if i = 5 then u 0 19 else if i = 6 then u 9 1 else if i = 7 then u 0 20 else if i = 8 then u 0 21 else u 0 31
  | 1 => u 5 i
  | 2 => u 8 i
  | 3 => u 10 i
  | 4 => u 11 i
  | _ => u 18 i
/-- an image's -/
def kv (K : Int → Int) (b : Int) : zU := fun c i => match c with
  | 0 => if i = 5 then K b else if i = 6 then K (b + 1) else if i = 7 then K (b + 2) else if i = 8 then K (b + 3) else K (b + 4)
  | 1 => K (b + 5 + i)
  | 2 => K (b + 13 + i)
  | 3 => K (b + 16 + i)
  | 4 => K (b + 22 + i)
  | _ => K (b + 28 + i)
def Zm (pp : Int) (f : zU) : Prop := ∀ i : Int, pp ≤ i → i < 3 → f 2 i = 0
def IM (u : zU) : Prop := (0 ≤ u 0 12 ∧ u 0 12 ≤ 8) ∧ (0 ≤ u 0 13 ∧ u 0 13 ≤ 3) ∧ (0 ≤ u 9 0 ∧ u 9 0 ≤ 9) ∧ (1 ≤ u 9 2 ∧ u 9 2 ≤ 4) ∧ (∀ i : Int, 0 ≤ i → i < 8 → 0 ≤ u 6 i ∧ u 6 i ≤ 9) ∧ (∀ i : Int, 0 ≤ i → i < 8 → 0 ≤ u 7 i ∧ u 7 i ≤ 1) ∧ (InN (u 0 12) (u 0 13) (nv u) ∧ Zm (u 0 13) (nv u)) ∧ (u 20 0 = -1 ∨ InN (u 0 12) (u 0 13) (kv (u 20) 0) ∧ Zm (u 0 13) (kv (u 20) 0)) ∧ (u 20 36 = -1 ∨ InN (u 0 12) (u 0 13) (kv (u 20) 36) ∧ Zm (u 0 13) (kv (u 20) 36)) ∧ (0 ≤ u 0 1 ∧ u 0 1 ≤ 200) ∧ (∀ i : Int, 0 ≤ i → i < 200 → 0 ≤ u 1 i ∧ u 1 i ≤ 255)
theorem IM.lev {u : zU} (h : IM u) : 0 ≤ u 0 12 ∧ u 0 12 ≤ 8 := h.1
theorem IM.ppl {u : zU} (h : IM u) : 0 ≤ u 0 13 ∧ u 0 13 ≤ 3 := h.2.1
theorem IM.ear {u : zU} (h : IM u) : 0 ≤ u 9 0 ∧ u 9 0 ≤ 9 := h.2.2.1
theorem IM.pace {u : zU} (h : IM u) : 1 ≤ u 9 2 ∧ u 9 2 ≤ 4 := h.2.2.2.1
theorem IM.wear {u : zU} (h : IM u) (i : Int) (h0 : 0 ≤ i) (h8 : i < 8) : 0 ≤ u 6 i ∧ u 6 i ≤ 9 := h.2.2.2.2.1 i h0 h8
theorem IM.echo {u : zU} (h : IM u) (i : Int) (h0 : 0 ≤ i) (h8 : i < 8) : 0 ≤ u 7 i ∧ u 7 i ≤ 1 := h.2.2.2.2.2.1 i h0 h8
theorem IM.now {u : zU} (h : IM u) : InN (u 0 12) (u 0 13) (nv u) := h.2.2.2.2.2.2.1.1
theorem IM.zero {u : zU} (h : IM u) (i : Int) (h0 : u 0 13 ≤ i) (h8 : i < 3) : u 8 i = 0 := h.2.2.2.2.2.2.1.2 i h0 h8
theorem IM.year {u : zU} (h : IM u) : 0 ≤ u 0 19 ∧ u 0 19 ≤ 999 := h.now.1
theorem IM.wet {u : zU} (h : IM u) : 0 ≤ u 9 1 ∧ u 9 1 ≤ 9 := h.now.2.1
theorem IM.rope {u : zU} (h : IM u) : 0 ≤ u 0 20 ∧ u 0 20 ≤ 8 := h.now.2.2.1
theorem IM.notes {u : zU} (h : IM u) : 0 ≤ u 0 21 ∧ u 0 21 ≤ 6 := h.now.2.2.2.1
theorem IM.sung {u : zU} (h : IM u) : 0 ≤ u 0 31 ∧ u 0 31 ≤ 8 := h.now.2.2.2.2.1
theorem IM.pitch {u : zU} (h : IM u) (i : Int) (h0 : 0 ≤ i) (h8 : i < 8) : 0 ≤ u 5 i ∧ u 5 i ≤ 60 := h.now.2.2.2.2.2.1 i h0 h8
theorem IM.stands {u : zU} (h : IM u) (i : Int) (h0 : 0 ≤ i) (h8 : i < 3) : 0 ≤ u 8 i ∧ u 8 i < 8 := h.now.2.2.2.2.2.2.1 i h0 h8
theorem IM.minute {u : zU} (h : IM u) (i : Int) (h0 : 0 ≤ i) (h8 : i < 6) : 0 ≤ u 10 i ∧ u 10 i ≤ 99 := h.now.2.2.2.2.2.2.2.1 i h0 h8
theorem IM.note {u : zU} (h : IM u) (i : Int) (h0 : 0 ≤ i) (h8 : i < 6) : -99 ≤ u 11 i ∧ u 11 i ≤ 99 := h.now.2.2.2.2.2.2.2.2.1 i h0 h8
theorem IM.hymn {u : zU} (h : IM u) (i : Int) (h0 : 0 ≤ i) (h8 : i < 8) : -99 ≤ u 18 i ∧ u 18 i ≤ 99 := h.now.2.2.2.2.2.2.2.2.2.1 i h0 h8
theorem IM.mono {u : zU} (h : IM u) (i j : Int) (h0 : 0 ≤ i) (h1 : i ≤ j) (h2 : j < u 0 21) : u 10 i ≤ u 10 j := h.now.2.2.2.2.2.2.2.2.2.2.1 i j h0 h1 h2
theorem IM.stand {u : zU} (h : IM u) (i : Int) (h0 : 0 ≤ i) (h1 : i < u 0 13) : u 8 i < u 0 12 := h.now.2.2.2.2.2.2.2.2.2.2.2 i h0 h1
theorem IM.tlen {u : zU} (h : IM u) : 0 ≤ u 0 1 ∧ u 0 1 ≤ 200 := h.2.2.2.2.2.2.2.2.2.1
theorem IM.byte {u : zU} (h : IM u) (i : Int) (h0 : 0 ≤ i) (h1 : i < 200) : 0 ≤ u 1 i ∧ u 1 i ≤ 255 := h.2.2.2.2.2.2.2.2.2.2 i h0 h1
theorem byt_l {V i : Int} (hi : 0 ≤ i ∧ i ≤ 7) : (((zL V >>> ((zI (8 * i)).toInt64 &&& 63)) &&& zL 255).toInt32) = zI (byt V i) := by
  have hk : ∀ k : Fin 8, ((zI (8 * (k.val : Int))).toInt64 &&& 63) = Int64.ofNat (8 * k.val) ∧ (Int64.ofNat (8 * k.val)).toBitVec.smod 64 = BitVec.ofNat 64 (8 * k.val) := by decide
  have h1 := hk ⟨i.toNat, by omega⟩
  rw [show ((i.toNat : Nat) : Int) = i by omega] at h1
  rw [h1.1]
  have h2 : ∀ X : Int64, (X &&& zL 255).toInt32 = zI ((X.toBitVec.toNat % 256 : Nat) : Int) := by
    intro X
    apply Int32.toBitVec.inj
    rw [Int64.toBitVec_toInt32, Int64.toBitVec_and, zI_bv (X.toBitVec.toNat % 256)]
    apply BitVec.eq_of_toNat_eq
    rw [BitVec.signExtend_eq_setWidth_of_le _ (by decide), BitVec.toNat_setWidth, BitVec.toNat_and, show (zL 255).toBitVec.toNat = 2 ^ 8 - 1 by decide, Nat.and_two_pow_sub_one_eq_mod, BitVec.toNat_ofNat]
    try omega
  rw [h2]
  congr 1
  have h3 : (zL V >>> Int64.ofNat (8 * i.toNat)).toBitVec = (BitVec.ofInt 64 V).sshiftRight (8 * i.toNat) := by
    rw [Int64.toBitVec_shiftRight, h1.2]
    show (BitVec.ofInt 64 V).sshiftRight' (BitVec.ofNat 64 (8 * i.toNat)) = _
    unfold BitVec.sshiftRight'
    rw [BitVec.toNat_ofNat, Nat.mod_eq_of_lt (by omega)]
  rw [h3]
  have g4 : ∀ X : Int, (X % 18446744073709551616).toNat % 256 = (X % 256).toNat := fun X => by omega
  have h4 : ((BitVec.ofInt 64 V).sshiftRight (8 * i.toNat)).toNat % 256 = (((BitVec.ofInt 64 V).toInt / 2 ^ (8 * i.toNat)) % 256).toNat := by
    unfold BitVec.sshiftRight
    rw [BitVec.toNat_ofInt, Int.shiftRight_eq_div_pow]
    exact g4 _
  rw [h4, BitVec.toInt_ofInt]
  unfold byt
  rcases (by omega : i = 0 ∨ i = 1 ∨ i = 2 ∨ i = 3 ∨ i = 4 ∨ i = 5 ∨ i = 6 ∨ i = 7) with e | e | e | e | e | e | e | e <;> subst e <;> simp only [Int.bmod, show (0 : Int).toNat = 0 from rfl, show (1 : Int).toNat = 1 from rfl, show (2 : Int).toNat = 2 from rfl, show (3 : Int).toNat = 3 from rfl, show (4 : Int).toNat = 4 from rfl, show (5 : Int).toNat = 5 from rfl, show (6 : Int).toNat = 6 from rfl, show (7 : Int).toNat = 7 from rfl, Nat.reduceMul, Nat.reducePow, Int.reducePow] <;> omega
section ZLA
variable {x : zT} {k n : Nat} {ws : va_W} {lv : List (Nat × Value)} {pc : Nat} {st : List Value} {cc : ByteArray} {nL : Nat} {Ts : List Cond} {own : String} {d : Nat}
theorem z_landW (C : Cx x cc nL Ts own d) {v w : Int64} (r : Int64) (hd : decode cc pc = .ok (.land, 1)) (hr : v &&& w = r)
    (kk : Z x k n ws lv (pc + 1) (.long r :: st)) : Z x k n ws lv pc (.long w :: .long v :: st) := by
  obtain ⟨p, l, e, R, s, m, args, below, meth, c, A, H0, D, Q⟩ := x
  obtain ⟨hx, hb, hml, hown, hts, hR, hA⟩ := C
  intro H locs ls hP hS hl
  exact lv_land hx hb hd (by rw [hr]; exact kk H locs ls hP hS hl)
end ZLA
/-- how far apart -/
theorem away_ab {a b r e : Int} (h : (b < a ∧ r = a - b) ∨ (a ≤ b ∧ r = b - a)) : r ≤ e ↔ a - b ≤ e ∧ b - a ≤ e := by omega
