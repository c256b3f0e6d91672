/-! ===== Z: the machine's rows over mathematical ints ===== -/
def zI (z : Int) : Int32 := Int32.ofInt z
def zL (z : Int) : Int64 := Int64.ofInt z
theorem zI_add (a b : Int) : zI a + zI b = zI (a + b) := (Int32.ofInt_add a b).symm
theorem zI_sub (a b : Int) : zI a - zI b = zI (a - b) := (Int32.ofInt_sub a b).symm
theorem zI_mul (a b : Int) : zI a * zI b = zI (a * b) := (Int32.ofInt_mul a b).symm
theorem zI_neg (a : Int) : - zI a = zI (-a) := (Int32.ofInt_neg a).symm
theorem zI_of (x : Int32) : x = zI x.toInt := (Int32.ofInt_toInt x).symm
theorem zI_toInt {a : Int} (h : -2147483648 ≤ a ∧ a < 2147483648) : (zI a).toInt = a := Int32.toInt_ofInt_of_le (by omega) (by omega)
theorem zI_rng (x : Int32) : -2147483648 ≤ x.toInt ∧ x.toInt < 2147483648 := ⟨by have := x.le_toInt; omega, by have := x.toInt_lt; omega⟩
theorem zI_lt {a b : Int} (ha : -2147483648 ≤ a ∧ a < 2147483648) (hb : -2147483648 ≤ b ∧ b < 2147483648) : zI a < zI b ↔ a < b := by rw [Int32.lt_iff_toInt_lt, zI_toInt ha, zI_toInt hb]
theorem zI_le {a b : Int} (ha : -2147483648 ≤ a ∧ a < 2147483648) (hb : -2147483648 ≤ b ∧ b < 2147483648) : zI a ≤ zI b ↔ a ≤ b := by rw [Int32.le_iff_toInt_le, zI_toInt ha, zI_toInt hb]
theorem zI_eq {a b : Int} (ha : -2147483648 ≤ a ∧ a < 2147483648) (hb : -2147483648 ≤ b ∧ b < 2147483648) : zI a = zI b ↔ a = b := by rw [← Int32.toInt_inj, zI_toInt ha, zI_toInt hb]
theorem zI_0 : zI 0 = 0 := rfl
theorem zI_clamp {a : Int} (h0 : 0 ≤ a) (h1 : a < 2147483648) : (zI a).toNatClampNeg = a.toNat := Int32.toNatClampNeg_ofInt_of_le (by omega) (by omega)
theorem zI_in {k : Int} {n : Nat} (h : 0 ≤ k ∧ k < (n : Int)) (hn : n ≤ 1000000) : vp_in (zI k) n := by
  intro q
  rcases q with q | q
  · rw [show (0 : Int32) = zI 0 from rfl, zI_lt (by omega) (by omega)] at q
    omega
  · rw [zI_clamp (by omega) (by omega)] at q
    omega
theorem zI_div {a b : Int} (ha : -2147483648 ≤ a ∧ a < 2147483648) (hb : 0 < b ∧ b < 2147483648) : zI a / zI b = zI (a.tdiv b) := by
  have h := Int32.toInt_div_of_ne_right (zI a) (zI b) (by
    rw [show (-1 : Int32) = zI (-1) from rfl, Ne, zI_eq (by omega) (by omega)]; omega)
  rw [zI_toInt ha, zI_toInt ⟨by omega, hb.2⟩] at h
  rw [zI_of (zI a / zI b), h]
theorem zI_rem {a b : Int} (ha : -2147483648 ≤ a ∧ a < 2147483648) (hb : 0 < b ∧ b < 2147483648) : zI a - zI a / zI b * zI b = zI (a.tmod b) := by
  rw [zI_div ha hb, zI_mul, zI_sub, Int.tmod_def, Int.mul_comm b]
theorem zL_add (a b : Int) : zL a + zL b = zL (a + b) := (Int64.ofInt_add a b).symm
theorem zL_sub (a b : Int) : zL a - zL b = zL (a - b) := (Int64.ofInt_sub a b).symm
theorem zL_mul (a b : Int) : zL a * zL b = zL (a * b) := (Int64.ofInt_mul a b).symm
theorem zL_of (x : Int64) : x = zL x.toInt := (Int64.ofInt_toInt x).symm
theorem zL_toInt {a : Int} (h : -9223372036854775808 ≤ a ∧ a < 9223372036854775808) : (zL a).toInt = a := Int64.toInt_ofInt_of_le (by omega) (by omega)
theorem zL_rng (x : Int64) : -9223372036854775808 ≤ x.toInt ∧ x.toInt < 9223372036854775808 := ⟨by have := x.le_toInt; omega, by have := x.toInt_lt; omega⟩
theorem zL_lt {a b : Int} (ha : -9223372036854775808 ≤ a ∧ a < 9223372036854775808) (hb : -9223372036854775808 ≤ b ∧ b < 9223372036854775808) : zL a < zL b ↔ a < b := by rw [Int64.lt_iff_toInt_lt, zL_toInt ha, zL_toInt hb]
theorem zL_eq {a b : Int} (ha : -9223372036854775808 ≤ a ∧ a < 9223372036854775808) (hb : -9223372036854775808 ≤ b ∧ b < 9223372036854775808) : zL a = zL b ↔ a = b := by rw [← Int64.toInt_inj, zL_toInt ha, zL_toInt hb]
theorem zI_toL {a : Int} (h : -2147483648 ≤ a ∧ a < 2147483648) : (zI a).toInt64 = zL a := by
  rw [zL_of (zI a).toInt64, Int32.toInt_toInt64, zI_toInt h]
theorem zI_sh (k : Nat) (hk : k < 32) : (((zI k) &&& 31).toBitVec.smod 32).toNat = k := by
  have : ∀ k : Fin 32, (((zI (k.val : Int)) &&& 31).toBitVec.smod 32).toNat = k.val := by decide
  exact this ⟨k, hk⟩
/-- what an array of ints holds behind a store -/
theorem zI_upd {g : Int → Int} {k x : Int} (h : 0 ≤ k) : upd (fun i : Nat => zI (g i)) k.toNat (zI x) = fun i : Nat => zI (if (i : Int) = k then x else g i) := by
  funext j
  unfold upd
  by_cases e : j = k.toNat
  · rw [if_pos e, if_pos (by omega)]
  · rw [if_neg e, if_neg (by omega)]
/-- a state's numbers: cell, place -/
abbrev zU : Type := Nat → Int → Int
def up (u : zU) (c : Nat) (k x : Int) : zU := fun c' i => if c' = c then (if i = k then x else u c' i) else u c' i
theorem up_eq (u : zU) (c : Nat) (k x : Int) : up u c k x c k = x := by simp [up]
theorem up_ne (u : zU) {c c' : Nat} {k i x : Int} (h : c' ≠ c ∨ i ≠ k) : up u c k x c' i = u c' i := by
  unfold up
  rcases h with h | h
  · rw [if_neg h]
  · by_cases e : c' = c
    · rw [if_pos e, if_neg h]
    · rw [if_neg e]
theorem up_c (u : zU) {c c' : Nat} {k x : Int} (h : c' ≠ c) : up u c k x c' = u c' := by funext i; exact up_ne u (Or.inl h)
/-- the context of a walk -/
abbrev zT : Type := Program × Launch × Env × Room × State × MethodId × Array Value × List Frame × Method × Code × (Nat → Prop) × Heap × va_G × (State → Prop)
def zl (x : zT) : Launch := x.2.1
def zs (x : zT) : State := x.2.2.2.2.1
def zA (x : zT) : Nat → Prop := x.2.2.2.2.2.2.2.2.2.2.1
def zG (x : zT) : va_G := x.2.2.2.2.2.2.2.2.2.2.2.2.1
def zR (d : Nat) : Room := { frames := d, cells := 0, slots := 0, locals := 40 * d }
def Z (x : zT) (k n : Nat) (ws : va_W) (lv : List (Nat × Value)) (pc : Nat) (st : List Value) : Prop := match x with
  | (p, l, e, R, s, m, args, below, meth, c, A, H0, D, Q) => ∀ (H : Heap) (locs : List Loc) (ls : Array Slot), va_P D vwCl ws H → va_S A H0 H locs → lv_has ls c.maxLocals lv → W p l e R s m args below meth c H locs k n Q (F0 m pc ls st)
/-- the machine's facts of a walk: the code cc, nL locals, the words Ts, its class, its rank of room -/
def Cx (x : zT) (cc : ByteArray) (nL : Nat) (Ts : List Cond) (own : String) (d : Nat) : Prop := match x with
  | (p, l, e, R, s, m, args, below, meth, c, A, H0, D, Q) => p.tables.exec = Jvm.exec ∧ c.code = cc ∧ c.maxLocals = nL ∧ s.vm.findClass own = some m.cls ∧ (∀ w ∈ Ts, w.before args s = true) ∧ (d ≤ R.frames ∧ 40 * d ≤ R.locals) ∧ ∀ q : Nat, H0.size ≤ q → A q
section ZZ
variable {x : zT} {k n : Nat} {ws : va_W} {lv : List (Nat × Value)} {pc : Nat} {st : List Value} {cc : ByteArray} {nL : Nat} {Ts : List Cond} {own : String} {d : Nat}
theorem Cx.hts (C : Cx x cc nL Ts own d) {p : Prop} (h : (∀ (args : Array Value) (s : State), (∀ w ∈ Ts, w.before args s = true) → p)) : p := by
  obtain ⟨p0, l, e, R, s, m, args, below, meth, c, A, H0, D, Q⟩ := x
  exact h args s C.2.2.2.2.1

theorem z_iconst (C : Cx x cc nL Ts own d) {a : Int} (hd : decode cc pc = .ok (.iconst a, 1))
    (kk : Z x k n ws lv (pc + 1) (.int (zI a) :: st)) : Z x k n ws lv pc st := by
  obtain ⟨p, l, e, R, s, m, args, below, meth, c, A, H0, D, Q⟩ := x
  obtain ⟨hx, hb, hml, hown, hts, hR, hA⟩ := C
  intro H locs ls hP hS hl
  exact lv_iconst hx hb hd rfl (kk H locs ls hP hS hl)
theorem z_bipush (C : Cx x cc nL Ts own d) {a : Int} (hd : decode cc pc = .ok (.bipush a, 2)) (hv : (Int8.ofInt a).toInt32 = zI a)
    (kk : Z x k n ws lv (pc + 2) (.int (zI a) :: st)) : Z x k n ws lv pc st := by
  obtain ⟨p, l, e, R, s, m, args, below, meth, c, A, H0, D, Q⟩ := x
  obtain ⟨hx, hb, hml, hown, hts, hR, hA⟩ := C
  intro H locs ls hP hS hl
  exact lv_bipush hx hb hd hv (kk H locs ls hP hS hl)
theorem z_sipush (C : Cx x cc nL Ts own d) {a : Int} (hd : decode cc pc = .ok (.sipush a, 3)) (hv : (Int16.ofInt a).toInt32 = zI a)
    (kk : Z x k n ws lv (pc + 3) (.int (zI a) :: st)) : Z x k n ws lv pc st := by
  obtain ⟨p, l, e, R, s, m, args, below, meth, c, A, H0, D, Q⟩ := x
  obtain ⟨hx, hb, hml, hown, hts, hR, hA⟩ := C
  intro H locs ls hP hS hl
  exact lv_sipush hx hb hd hv (kk H locs ls hP hS hl)
theorem z_lconst (C : Cx x cc nL Ts own d) {a : Fin 2} {z : Int} (hd : decode cc pc = .ok (.lconst a, 1)) (hv : Int64.ofNat (a : Nat) = zL z)
    (kk : Z x k n ws lv (pc + 1) (.long (zL z) :: st)) : Z x k n ws lv pc st := by
  obtain ⟨p, l, e, R, s, m, args, below, meth, c, A, H0, D, Q⟩ := x
  obtain ⟨hx, hb, hml, hown, hts, hR, hA⟩ := C
  intro H locs ls hP hS hl
  exact lv_lconst hx hb hd hv (kk H locs ls hP hS hl)
theorem z_ldc (C : Cx x cc nL Ts own d) {i : Nat} {v : Int32} {z : Int} (hv : v = zI z) (hc : Jvm.Cond.constant own i v ∈ Ts) (hd : decode cc pc = .ok (.ldc i, 2))
    (kk : Z x k n ws lv (pc + 2) (.int (zI z) :: st)) : Z x k n ws lv pc st := by
  obtain ⟨p, l, e, R, s, m, args, below, meth, c, A, H0, D, Q⟩ := x
  obtain ⟨hx, hb, hml, hown, hts, hR, hA⟩ := C
  intro H locs ls hP hS hl
  subst hv; exact lv_ldc hx hb hown (hts _ hc) hd (kk H locs ls hP hS hl)
theorem z_ldc2 (C : Cx x cc nL Ts own d) {i : Nat} {v : Int64} {z : Int} (hv : v = zL z) (hc : Jvm.Cond.constantLong own i v ∈ Ts) (hd : decode cc pc = .ok (.ldc2_w i, 3))
    (kk : Z x k n ws lv (pc + 3) (.long (zL z) :: st)) : Z x k n ws lv pc st := by
  obtain ⟨p, l, e, R, s, m, args, below, meth, c, A, H0, D, Q⟩ := x
  obtain ⟨hx, hb, hml, hown, hts, hR, hA⟩ := C
  intro H locs ls hP hS hl
  subst hv; exact lv_ldc2 hx hb hown (hts _ hc) hd (kk H locs ls hP hS hl)
theorem z_iload_n (C : Cx x cc nL Ts own d) {i : Fin 4} {v : Int32} (j : Nat) (hd : decode cc pc = .ok (.iload_n i, 1)) (h : lv[j]? = some ((i : Nat), .int v))
    (kk : Z x k n ws lv (pc + 1) (.int v :: st)) : Z x k n ws lv pc st := by
  obtain ⟨p, l, e, R, s, m, args, below, meth, c, A, H0, D, Q⟩ := x
  obtain ⟨hx, hb, hml, hown, hts, hR, hA⟩ := C
  intro H locs ls hP hS hl
  exact lv_iload_n hx hb hd rfl (lv_at hl j h) (kk H locs ls hP hS hl)
theorem z_iload (C : Cx x cc nL Ts own d) {i : Nat} {v : Int32} (j : Nat) (hd : decode cc pc = .ok (.iload i, 2)) (h : lv[j]? = some (i, .int v))
    (kk : Z x k n ws lv (pc + 2) (.int v :: st)) : Z x k n ws lv pc st := by
  obtain ⟨p, l, e, R, s, m, args, below, meth, c, A, H0, D, Q⟩ := x
  obtain ⟨hx, hb, hml, hown, hts, hR, hA⟩ := C
  intro H locs ls hP hS hl
  exact lv_iload hx hb hd (lv_at hl j h) (kk H locs ls hP hS hl)
theorem z_lload_n (C : Cx x cc nL Ts own d) {i : Fin 4} {v : Int64} (j : Nat) (hd : decode cc pc = .ok (.lload_n i, 1)) (h : lv[j]? = some ((i : Nat), .long v))
    (kk : Z x k n ws lv (pc + 1) (.long v :: st)) : Z x k n ws lv pc st := by
  obtain ⟨p, l, e, R, s, m, args, below, meth, c, A, H0, D, Q⟩ := x
  obtain ⟨hx, hb, hml, hown, hts, hR, hA⟩ := C
  intro H locs ls hP hS hl
  exact lv_lload_n hx hb hd rfl (lv_at hl j h) (kk H locs ls hP hS hl)
theorem z_lload (C : Cx x cc nL Ts own d) {i : Nat} {v : Int64} (j : Nat) (hd : decode cc pc = .ok (.lload i, 2)) (h : lv[j]? = some (i, .long v))
    (kk : Z x k n ws lv (pc + 2) (.long v :: st)) : Z x k n ws lv pc st := by
  obtain ⟨p, l, e, R, s, m, args, below, meth, c, A, H0, D, Q⟩ := x
  obtain ⟨hx, hb, hml, hown, hts, hR, hA⟩ := C
  intro H locs ls hP hS hl
  exact lv_lload hx hb hd (lv_at hl j h) (kk H locs ls hP hS hl)
theorem z_aload_n (C : Cx x cc nL Ts own d) {i : Fin 4} {v : Nat} (j : Nat) (hd : decode cc pc = .ok (.aload_n i, 1)) (h : lv[j]? = some ((i : Nat), .ref v))
    (kk : Z x k n ws lv (pc + 1) (.ref v :: st)) : Z x k n ws lv pc st := by
  obtain ⟨p, l, e, R, s, m, args, below, meth, c, A, H0, D, Q⟩ := x
  obtain ⟨hx, hb, hml, hown, hts, hR, hA⟩ := C
  intro H locs ls hP hS hl
  exact lv_aload_n hx hb hd rfl (lv_at hl j h) (kk H locs ls hP hS hl)
theorem z_aload (C : Cx x cc nL Ts own d) {i : Nat} {v : Nat} (j : Nat) (hd : decode cc pc = .ok (.aload i, 2)) (h : lv[j]? = some (i, .ref v))
    (kk : Z x k n ws lv (pc + 2) (.ref v :: st)) : Z x k n ws lv pc st := by
  obtain ⟨p, l, e, R, s, m, args, below, meth, c, A, H0, D, Q⟩ := x
  obtain ⟨hx, hb, hml, hown, hts, hR, hA⟩ := C
  intro H locs ls hP hS hl
  exact lv_aload hx hb hd (lv_at hl j h) (kk H locs ls hP hS hl)
theorem z_istore_n (C : Cx x cc nL Ts own d) {i : Fin 4} {j : Nat} {v : Int32} (lv' : List (Nat × Value)) (hd : decode cc pc = .ok (.istore_n i, 1)) (hi : (i : Nat) = j) (hn : j < nL) (hlv : (j, Value.int v) :: lv.filter (fun q => !(q.1 == j) && !(q.1 + 1 == j && q.2.category == 2)) = lv')
    (kk : Z x k n ws lv' (pc + 1) st) : Z x k n ws lv pc (.int v :: st) := by
  obtain ⟨p, l, e, R, s, m, args, below, meth, c, A, H0, D, Q⟩ := x
  obtain ⟨hx, hb, hml, hown, hts, hR, hA⟩ := C
  intro H locs ls hP hS hl
  exact lv_istore_n hx hb hd hi (hml ▸ hl) hn hlv (fun ls hl => kk H locs ls hP hS (hml.symm ▸ hl))
theorem z_istore (C : Cx x cc nL Ts own d) {i : Nat} {v : Int32} (lv' : List (Nat × Value)) (hd : decode cc pc = .ok (.istore i, 2)) (hn : i < nL) (hlv : (i, Value.int v) :: lv.filter (fun q => !(q.1 == i) && !(q.1 + 1 == i && q.2.category == 2)) = lv')
    (kk : Z x k n ws lv' (pc + 2) st) : Z x k n ws lv pc (.int v :: st) := by
  obtain ⟨p, l, e, R, s, m, args, below, meth, c, A, H0, D, Q⟩ := x
  obtain ⟨hx, hb, hml, hown, hts, hR, hA⟩ := C
  intro H locs ls hP hS hl
  exact lv_istore hx hb hd (hml ▸ hl) hn hlv (fun ls hl => kk H locs ls hP hS (hml.symm ▸ hl))
theorem z_lstore_n (C : Cx x cc nL Ts own d) {i : Fin 4} {j : Nat} {v : Int64} (lv' : List (Nat × Value)) (hd : decode cc pc = .ok (.lstore_n i, 1)) (hi : (i : Nat) = j) (hn : j + 1 < nL) (hlv : (j, Value.long v) :: lv.filter (fun q => !(q.1 == j) && (!(q.1 == j + 1) && !(q.1 + 1 == j && q.2.category == 2))) = lv')
    (kk : Z x k n ws lv' (pc + 1) st) : Z x k n ws lv pc (.long v :: st) := by
  obtain ⟨p, l, e, R, s, m, args, below, meth, c, A, H0, D, Q⟩ := x
  obtain ⟨hx, hb, hml, hown, hts, hR, hA⟩ := C
  intro H locs ls hP hS hl
  exact lv_lstore_n hx hb hd hi (hml ▸ hl) hn hlv (fun ls hl => kk H locs ls hP hS (hml.symm ▸ hl))
theorem z_lstore (C : Cx x cc nL Ts own d) {i : Nat} {v : Int64} (lv' : List (Nat × Value)) (hd : decode cc pc = .ok (.lstore i, 2)) (hn : i + 1 < nL) (hlv : (i, Value.long v) :: lv.filter (fun q => !(q.1 == i) && (!(q.1 == i + 1) && !(q.1 + 1 == i && q.2.category == 2))) = lv')
    (kk : Z x k n ws lv' (pc + 2) st) : Z x k n ws lv pc (.long v :: st) := by
  obtain ⟨p, l, e, R, s, m, args, below, meth, c, A, H0, D, Q⟩ := x
  obtain ⟨hx, hb, hml, hown, hts, hR, hA⟩ := C
  intro H locs ls hP hS hl
  exact lv_lstore hx hb hd (hml ▸ hl) hn hlv (fun ls hl => kk H locs ls hP hS (hml.symm ▸ hl))
theorem z_astore_n (C : Cx x cc nL Ts own d) {i : Fin 4} {j : Nat} {v : Nat} (lv' : List (Nat × Value)) (hd : decode cc pc = .ok (.astore_n i, 1)) (hi : (i : Nat) = j) (hn : j < nL) (hlv : (j, Value.ref v) :: lv.filter (fun q => !(q.1 == j) && !(q.1 + 1 == j && q.2.category == 2)) = lv')
    (kk : Z x k n ws lv' (pc + 1) st) : Z x k n ws lv pc (.ref v :: st) := by
  obtain ⟨p, l, e, R, s, m, args, below, meth, c, A, H0, D, Q⟩ := x
  obtain ⟨hx, hb, hml, hown, hts, hR, hA⟩ := C
  intro H locs ls hP hS hl
  exact lv_astore_n hx hb hd hi (hml ▸ hl) hn hlv (fun ls hl => kk H locs ls hP hS (hml.symm ▸ hl))
theorem z_iinc (C : Cx x cc nL Ts own d) {i : Nat} {n0 : Int} {a : Int} (j : Nat) (lv' : List (Nat × Value)) (hd : decode cc pc = .ok (.iinc i n0, 3)) (h : lv[j]? = some (i, .int (zI a))) (hn : i < nL) (hlv : (i, Value.int (zI (a + n0))) :: lv.filter (fun q => !(q.1 == i) && !(q.1 + 1 == i && q.2.category == 2)) = lv')
    (kk : Z x k n ws lv' (pc + 3) st) : Z x k n ws lv pc st := by
  obtain ⟨p, l, e, R, s, m, args, below, meth, c, A, H0, D, Q⟩ := x
  obtain ⟨hx, hb, hml, hown, hts, hR, hA⟩ := C
  intro H locs ls hP hS hl
  exact lv_iinc hx hb hd (hml ▸ hl) h (zI_add a n0) hn hlv (fun ls hl => kk H locs ls hP hS (hml.symm ▸ hl))
theorem z_iadd (C : Cx x cc nL Ts own d) {a b : Int} (hd : decode cc pc = .ok (.iadd, 1))
    (kk : Z x k n ws lv (pc + 1) (.int (zI (a + b)) :: st)) : Z x k n ws lv pc (.int (zI b) :: .int (zI a) :: st) := by
  obtain ⟨p, l, e, R, s, m, args, below, meth, c, A, H0, D, Q⟩ := x
  obtain ⟨hx, hb, hml, hown, hts, hR, hA⟩ := C
  intro H locs ls hP hS hl
  exact lv_iadd hx hb hd (by rw [zI_add]; exact kk H locs ls hP hS hl)
theorem z_isub (C : Cx x cc nL Ts own d) {a b : Int} (hd : decode cc pc = .ok (.isub, 1))
    (kk : Z x k n ws lv (pc + 1) (.int (zI (a - b)) :: st)) : Z x k n ws lv pc (.int (zI b) :: .int (zI a) :: st) := by
  obtain ⟨p, l, e, R, s, m, args, below, meth, c, A, H0, D, Q⟩ := x
  obtain ⟨hx, hb, hml, hown, hts, hR, hA⟩ := C
  intro H locs ls hP hS hl
  exact lv_isub hx hb hd (by rw [zI_sub]; exact kk H locs ls hP hS hl)
theorem z_imul (C : Cx x cc nL Ts own d) {a b : Int} (hd : decode cc pc = .ok (.imul, 1))
    (kk : Z x k n ws lv (pc + 1) (.int (zI (a * b)) :: st)) : Z x k n ws lv pc (.int (zI b) :: .int (zI a) :: st) := by
  obtain ⟨p, l, e, R, s, m, args, below, meth, c, A, H0, D, Q⟩ := x
  obtain ⟨hx, hb, hml, hown, hts, hR, hA⟩ := C
  intro H locs ls hP hS hl
  exact lv_imul hx hb hd (by rw [zI_mul]; exact kk H locs ls hP hS hl)
theorem z_idiv (C : Cx x cc nL Ts own d) {a b : Int} (hd : decode cc pc = .ok (.idiv, 1)) (h : (-2147483648 ≤ a ∧ a < 2147483648) ∧ (0 < b ∧ b < 2147483648))
    (kk : Z x k n ws lv (pc + 1) (.int (zI (a.tdiv b)) :: st)) : Z x k n ws lv pc (.int (zI b) :: .int (zI a) :: st) := by
  obtain ⟨p, l, e, R, s, m, args, below, meth, c, A, H0, D, Q⟩ := x
  obtain ⟨hx, hb, hml, hown, hts, hR, hA⟩ := C
  intro H locs ls hP hS hl
  exact lv_idiv hx hb hd (by rw [show (0 : Int32) = zI 0 from rfl, zI_eq (by omega) (by omega)]; omega) (by rw [zI_div h.1 h.2]; exact kk H locs ls hP hS hl)
theorem z_irem (C : Cx x cc nL Ts own d) {a b : Int} (hd : decode cc pc = .ok (.irem, 1)) (h : (-2147483648 ≤ a ∧ a < 2147483648) ∧ (0 < b ∧ b < 2147483648))
    (kk : Z x k n ws lv (pc + 1) (.int (zI (a.tmod b)) :: st)) : Z x k n ws lv pc (.int (zI b) :: .int (zI a) :: st) := by
  obtain ⟨p, l, e, R, s, m, args, below, meth, c, A, H0, D, Q⟩ := x
  obtain ⟨hx, hb, hml, hown, hts, hR, hA⟩ := C
  intro H locs ls hP hS hl
  exact lv_irem hx hb hd (by rw [show (0 : Int32) = zI 0 from rfl, zI_eq (by omega) (by omega)]; omega) (by rw [zI_rem h.1 h.2]; exact kk H locs ls hP hS hl)
theorem z_iand (C : Cx x cc nL Ts own d) {a b : Int} (r : Int) (hd : decode cc pc = .ok (.iand, 1)) (hr : zI a &&& zI b = zI r)
    (kk : Z x k n ws lv (pc + 1) (.int (zI r) :: st)) : Z x k n ws lv pc (.int (zI b) :: .int (zI a) :: st) := by
  obtain ⟨p, l, e, R, s, m, args, below, meth, c, A, H0, D, Q⟩ := x
  obtain ⟨hx, hb, hml, hown, hts, hR, hA⟩ := C
  intro H locs ls hP hS hl
  exact lv_iand hx hb hd (by rw [hr]; exact kk H locs ls hP hS hl)
theorem z_ior (C : Cx x cc nL Ts own d) {a b : Int} (r : Int) (hd : decode cc pc = .ok (.ior, 1)) (hr : zI a ||| zI b = zI r)
    (kk : Z x k n ws lv (pc + 1) (.int (zI r) :: st)) : Z x k n ws lv pc (.int (zI b) :: .int (zI a) :: st) := by
  obtain ⟨p, l, e, R, s, m, args, below, meth, c, A, H0, D, Q⟩ := x
  obtain ⟨hx, hb, hml, hown, hts, hR, hA⟩ := C
  intro H locs ls hP hS hl
  exact lv_ior hx hb hd (by rw [hr]; exact kk H locs ls hP hS hl)
theorem z_ixor (C : Cx x cc nL Ts own d) {a b : Int} (r : Int) (hd : decode cc pc = .ok (.ixor, 1)) (hr : zI a ^^^ zI b = zI r)
    (kk : Z x k n ws lv (pc + 1) (.int (zI r) :: st)) : Z x k n ws lv pc (.int (zI b) :: .int (zI a) :: st) := by
  obtain ⟨p, l, e, R, s, m, args, below, meth, c, A, H0, D, Q⟩ := x
  obtain ⟨hx, hb, hml, hown, hts, hR, hA⟩ := C
  intro H locs ls hP hS hl
  exact lv_ixor hx hb hd (by rw [hr]; exact kk H locs ls hP hS hl)
theorem z_ishl (C : Cx x cc nL Ts own d) {a b : Int} (r : Int) (hd : decode cc pc = .ok (.ishl, 1)) (hr : zI a <<< (zI b &&& 31) = zI r)
    (kk : Z x k n ws lv (pc + 1) (.int (zI r) :: st)) : Z x k n ws lv pc (.int (zI b) :: .int (zI a) :: st) := by
  obtain ⟨p, l, e, R, s, m, args, below, meth, c, A, H0, D, Q⟩ := x
  obtain ⟨hx, hb, hml, hown, hts, hR, hA⟩ := C
  intro H locs ls hP hS hl
  exact lv_ishl hx hb hd (by rw [hr]; exact kk H locs ls hP hS hl)
theorem z_ishr (C : Cx x cc nL Ts own d) {a b : Int} (r : Int) (hd : decode cc pc = .ok (.ishr, 1)) (hr : zI a >>> (zI b &&& 31) = zI r)
    (kk : Z x k n ws lv (pc + 1) (.int (zI r) :: st)) : Z x k n ws lv pc (.int (zI b) :: .int (zI a) :: st) := by
  obtain ⟨p, l, e, R, s, m, args, below, meth, c, A, H0, D, Q⟩ := x
  obtain ⟨hx, hb, hml, hown, hts, hR, hA⟩ := C
  intro H locs ls hP hS hl
  exact lv_ishr hx hb hd (by rw [hr]; exact kk H locs ls hP hS hl)
theorem z_ineg (C : Cx x cc nL Ts own d) {a : Int} (hd : decode cc pc = .ok (.ineg, 1))
    (kk : Z x k n ws lv (pc + 1) (.int (zI (-a)) :: st)) : Z x k n ws lv pc (.int (zI a) :: st) := by
  obtain ⟨p, l, e, R, s, m, args, below, meth, c, A, H0, D, Q⟩ := x
  obtain ⟨hx, hb, hml, hown, hts, hR, hA⟩ := C
  intro H locs ls hP hS hl
  exact lv_ineg hx hb hd (by rw [zI_neg]; exact kk H locs ls hP hS hl)
theorem z_ladd (C : Cx x cc nL Ts own d) {a b : Int} (r : Int) (hd : decode cc pc = .ok (.ladd, 1)) (hr : zL a + zL b = zL r)
    (kk : Z x k n ws lv (pc + 1) (.long (zL r) :: st)) : Z x k n ws lv pc (.long (zL b) :: .long (zL a) :: st) := by
  obtain ⟨p, l, e, R, s, m, args, below, meth, c, A, H0, D, Q⟩ := x
  obtain ⟨hx, hb, hml, hown, hts, hR, hA⟩ := C
  intro H locs ls hP hS hl
  exact lv_ladd hx hb hd (by rw [hr]; exact kk H locs ls hP hS hl)
theorem z_lmul (C : Cx x cc nL Ts own d) {a b : Int} (r : Int) (hd : decode cc pc = .ok (.lmul, 1)) (hr : zL a * zL b = zL r)
    (kk : Z x k n ws lv (pc + 1) (.long (zL r) :: st)) : Z x k n ws lv pc (.long (zL b) :: .long (zL a) :: st) := by
  obtain ⟨p, l, e, R, s, m, args, below, meth, c, A, H0, D, Q⟩ := x
  obtain ⟨hx, hb, hml, hown, hts, hR, hA⟩ := C
  intro H locs ls hP hS hl
  exact lv_lmul hx hb hd (by rw [hr]; exact kk H locs ls hP hS hl)
theorem z_land (C : Cx x cc nL Ts own d) {a b : Int} (r : Int) (hd : decode cc pc = .ok (.land, 1)) (hr : zL a &&& zL b = zL r)
    (kk : Z x k n ws lv (pc + 1) (.long (zL r) :: st)) : Z x k n ws lv pc (.long (zL b) :: .long (zL a) :: st) := by
  obtain ⟨p, l, e, R, s, m, args, below, meth, c, A, H0, D, Q⟩ := x
  obtain ⟨hx, hb, hml, hown, hts, hR, hA⟩ := C
  intro H locs ls hP hS hl
  exact lv_land hx hb hd (by rw [hr]; exact kk H locs ls hP hS hl)
theorem z_lor (C : Cx x cc nL Ts own d) {a b : Int} (r : Int) (hd : decode cc pc = .ok (.lor, 1)) (hr : zL a ||| zL b = zL r)
    (kk : Z x k n ws lv (pc + 1) (.long (zL r) :: st)) : Z x k n ws lv pc (.long (zL b) :: .long (zL a) :: st) := by
  obtain ⟨p, l, e, R, s, m, args, below, meth, c, A, H0, D, Q⟩ := x
  obtain ⟨hx, hb, hml, hown, hts, hR, hA⟩ := C
  intro H locs ls hP hS hl
  exact lv_lor hx hb hd (by rw [hr]; exact kk H locs ls hP hS hl)
theorem z_i2l (C : Cx x cc nL Ts own d) {a : Int} (hd : decode cc pc = .ok (.i2l, 1)) (h : -2147483648 ≤ a ∧ a < 2147483648)
    (kk : Z x k n ws lv (pc + 1) (.long (zL a) :: st)) : Z x k n ws lv pc (.int (zI a) :: st) := by
  obtain ⟨p, l, e, R, s, m, args, below, meth, c, A, H0, D, Q⟩ := x
  obtain ⟨hx, hb, hml, hown, hts, hR, hA⟩ := C
  intro H locs ls hP hS hl
  exact lv_i2l hx hb hd (zI_toL h) (kk H locs ls hP hS hl)
theorem z_l2i (C : Cx x cc nL Ts own d) {v : Int64} (r : Int) (hd : decode cc pc = .ok (.l2i, 1)) (h : v.toInt32 = zI r)
    (kk : Z x k n ws lv (pc + 1) (.int (zI r) :: st)) : Z x k n ws lv pc (.long v :: st) := by
  obtain ⟨p, l, e, R, s, m, args, below, meth, c, A, H0, D, Q⟩ := x
  obtain ⟨hx, hb, hml, hown, hts, hR, hA⟩ := C
  intro H locs ls hP hS hl
  exact lv_l2i hx hb hd h (kk H locs ls hP hS hl)
theorem z_lshl (C : Cx x cc nL Ts own d) {v : Int64} {y : Int32} (r : Int64) (hd : decode cc pc = .ok (.lshl, 1)) (hr : v <<< (y.toInt64 &&& 63) = r)
    (kk : Z x k n ws lv (pc + 1) (.long r :: st)) : Z x k n ws lv pc (.int y :: .long v :: st) := by
  obtain ⟨p, l, e, R, s, m, args, below, meth, c, A, H0, D, Q⟩ := x
  obtain ⟨hx, hb, hml, hown, hts, hR, hA⟩ := C
  intro H locs ls hP hS hl
  exact lv_lshl hx hb hd hr (kk H locs ls hP hS hl)
theorem z_lshr (C : Cx x cc nL Ts own d) {v : Int64} {y : Int32} (r : Int64) (hd : decode cc pc = .ok (.lshr, 1)) (hr : v >>> (y.toInt64 &&& 63) = r)
    (kk : Z x k n ws lv (pc + 1) (.long r :: st)) : Z x k n ws lv pc (.int y :: .long v :: st) := by
  obtain ⟨p, l, e, R, s, m, args, below, meth, c, A, H0, D, Q⟩ := x
  obtain ⟨hx, hb, hml, hown, hts, hR, hA⟩ := C
  intro H locs ls hP hS hl
  exact lv_lshr hx hb hd hr (kk H locs ls hP hS hl)
theorem z_lushr (C : Cx x cc nL Ts own d) {v : Int64} {y : Int32} (r : Int64) (hd : decode cc pc = .ok (.lushr, 1)) (hr : (v.toUInt64 >>> (y.toInt64.toUInt64 &&& Int64.toUInt64 63)).toInt64 = r)
    (kk : Z x k n ws lv (pc + 1) (.long r :: st)) : Z x k n ws lv pc (.int y :: .long v :: st) := by
  obtain ⟨p, l, e, R, s, m, args, below, meth, c, A, H0, D, Q⟩ := x
  obtain ⟨hx, hb, hml, hown, hts, hR, hA⟩ := C
  intro H locs ls hP hS hl
  exact lv_lushr hx hb hd hr (kk H locs ls hP hS hl)
theorem z_lcmp (C : Cx x cc nL Ts own d) {a b : Int} (hd : decode cc pc = .ok (.lcmp, 1)) (h : ((-9223372036854775808 ≤ a ∧ a < 9223372036854775808) ∧ (-9223372036854775808 ≤ b ∧ b < 9223372036854775808)))
    (kk : ∀ r : Int, (r = -1 ∧ a < b) ∨ (r = 0 ∧ a = b) ∨ (r = 1 ∧ b < a) → Z x k n ws lv (pc + 1) (.int (zI r) :: st)) : Z x k n ws lv pc (.long (zL b) :: .long (zL a) :: st) := by
  obtain ⟨p, l, e, R, s, m, args, below, meth, c, A, H0, D, Q⟩ := x
  obtain ⟨hx, hb, hml, hown, hts, hR, hA⟩ := C
  intro H locs ls hP hS hl
  refine W.lcmp hx hb hd ?_
  have e1 := zL_lt h.1 h.2
  have e2 := zL_lt h.2 h.1
  have e5 := zL_eq h.1 h.2
  by_cases h1 : a < b
  · rw [show lg_cmp (zL a) (zL b) = zI (-1) by unfold lg_cmp; rw [if_neg (by rw [gt_iff_lt, e2]; omega), if_neg (by rw [e5]; omega)]; rfl]
    exact kk (-1) (Or.inl ⟨rfl, h1⟩) H locs ls hP hS hl
  · by_cases h2 : b < a
    · rw [show lg_cmp (zL a) (zL b) = zI 1 by unfold lg_cmp; rw [if_pos (by rw [gt_iff_lt, e2]; omega)]; rfl]
      exact kk 1 (Or.inr (Or.inr ⟨rfl, h2⟩)) H locs ls hP hS hl
    · rw [show lg_cmp (zL a) (zL b) = zI 0 by unfold lg_cmp; rw [if_neg (by rw [gt_iff_lt, e2]; omega), if_pos (by rw [e5]; omega)]; rfl]
      exact kk 0 (Or.inr (Or.inl ⟨rfl, by omega⟩)) H locs ls hP hS hl
theorem z_dup (C : Cx x cc nL Ts own d) {v : Value} (hd : decode cc pc = .ok (.dup, 1)) (h : v.category = 1)
    (kk : Z x k n ws lv (pc + 1) (v :: v :: st)) : Z x k n ws lv pc (v :: st) := by
  obtain ⟨p, l, e, R, s, m, args, below, meth, c, A, H0, D, Q⟩ := x
  obtain ⟨hx, hb, hml, hown, hts, hR, hA⟩ := C
  intro H locs ls hP hS hl
  exact lv_dup hx hb hd h (kk H locs ls hP hS hl)
theorem z_pop (C : Cx x cc nL Ts own d) {v : Value} (hd : decode cc pc = .ok (.pop, 1)) (h : v.category = 1)
    (kk : Z x k n ws lv (pc + 1) st) : Z x k n ws lv pc (v :: st) := by
  obtain ⟨p, l, e, R, s, m, args, below, meth, c, A, H0, D, Q⟩ := x
  obtain ⟨hx, hb, hml, hown, hts, hR, hA⟩ := C
  intro H locs ls hP hS hl
  exact lv_pop hx hb hd h (kk H locs ls hP hS hl)
theorem z_dup2 (C : Cx x cc nL Ts own d) {v v2 : Value} (hd : decode cc pc = .ok (.dup2, 1)) (h : v.category = 1) (h2 : v2.category = 1)
    (kk : Z x k n ws lv (pc + 1) (v :: v2 :: v :: v2 :: st)) : Z x k n ws lv pc (v :: v2 :: st) := by
  obtain ⟨p, l, e, R, s, m, args, below, meth, c, A, H0, D, Q⟩ := x
  obtain ⟨hx, hb, hml, hown, hts, hR, hA⟩ := C
  intro H locs ls hP hS hl
  exact lv_dup2_11 hx hb hd h h2 (kk H locs ls hP hS hl)
theorem z_icmp_lt (C : Cx x cc nL Ts own d) {a b : Int} {off : Int} (tgt : Nat) (hd : decode cc pc = .ok (.if_icmp .lt off, 3)) (ht : (pc : Int) + off = (tgt : Int)) (h : (-2147483648 ≤ a ∧ a < 2147483648) ∧ (-2147483648 ≤ b ∧ b < 2147483648))
    (kt : a < b → Z x k n ws lv tgt st) (kf : b ≤ a → Z x k n ws lv (pc + 3) st) : Z x k n ws lv pc (.int (zI b) :: .int (zI a) :: st) := by
  obtain ⟨p, l, e, R, s, m, args, below, meth, c, A, H0, D, Q⟩ := x
  obtain ⟨hx, hb, hml, hown, hts, hR, hA⟩ := C
  intro H locs ls hP hS hl
  have e1 := zI_lt h.1 h.2
  have e2 := zI_lt h.2 h.1
  have e3 := zI_le h.1 h.2
  have e4 := zI_le h.2 h.1
  have e5 := zI_eq h.1 h.2
  refine lv_icmp_lt hx hb hd ht (fun q => kt ?_ H locs ls hP hS hl) (fun q => kf ?_ H locs ls hP hS hl)
  · simp only [ne_eq, Int32.not_lt, Int32.not_le, ge_iff_le, gt_iff_lt, e1, e2, e3, e4, e5] at q ⊢; omega
  · simp only [ne_eq, Int32.not_lt, Int32.not_le, ge_iff_le, gt_iff_lt, e1, e2, e3, e4, e5] at q ⊢; omega
theorem z_icmp_ge (C : Cx x cc nL Ts own d) {a b : Int} {off : Int} (tgt : Nat) (hd : decode cc pc = .ok (.if_icmp .ge off, 3)) (ht : (pc : Int) + off = (tgt : Int)) (h : (-2147483648 ≤ a ∧ a < 2147483648) ∧ (-2147483648 ≤ b ∧ b < 2147483648))
    (kt : b ≤ a → Z x k n ws lv tgt st) (kf : a < b → Z x k n ws lv (pc + 3) st) : Z x k n ws lv pc (.int (zI b) :: .int (zI a) :: st) := by
  obtain ⟨p, l, e, R, s, m, args, below, meth, c, A, H0, D, Q⟩ := x
  obtain ⟨hx, hb, hml, hown, hts, hR, hA⟩ := C
  intro H locs ls hP hS hl
  have e1 := zI_lt h.1 h.2
  have e2 := zI_lt h.2 h.1
  have e3 := zI_le h.1 h.2
  have e4 := zI_le h.2 h.1
  have e5 := zI_eq h.1 h.2
  refine lv_icmp_ge hx hb hd ht (fun q => kt ?_ H locs ls hP hS hl) (fun q => kf ?_ H locs ls hP hS hl)
  · simp only [ne_eq, Int32.not_lt, Int32.not_le, ge_iff_le, gt_iff_lt, e1, e2, e3, e4, e5] at q ⊢; omega
  · simp only [ne_eq, Int32.not_lt, Int32.not_le, ge_iff_le, gt_iff_lt, e1, e2, e3, e4, e5] at q ⊢; omega
theorem z_icmp_gt (C : Cx x cc nL Ts own d) {a b : Int} {off : Int} (tgt : Nat) (hd : decode cc pc = .ok (.if_icmp .gt off, 3)) (ht : (pc : Int) + off = (tgt : Int)) (h : (-2147483648 ≤ a ∧ a < 2147483648) ∧ (-2147483648 ≤ b ∧ b < 2147483648))
    (kt : b < a → Z x k n ws lv tgt st) (kf : a ≤ b → Z x k n ws lv (pc + 3) st) : Z x k n ws lv pc (.int (zI b) :: .int (zI a) :: st) := by
  obtain ⟨p, l, e, R, s, m, args, below, meth, c, A, H0, D, Q⟩ := x
  obtain ⟨hx, hb, hml, hown, hts, hR, hA⟩ := C
  intro H locs ls hP hS hl
  have e1 := zI_lt h.1 h.2
  have e2 := zI_lt h.2 h.1
  have e3 := zI_le h.1 h.2
  have e4 := zI_le h.2 h.1
  have e5 := zI_eq h.1 h.2
  refine lv_icmp_gt hx hb hd ht (fun q => kt ?_ H locs ls hP hS hl) (fun q => kf ?_ H locs ls hP hS hl)
  · simp only [ne_eq, Int32.not_lt, Int32.not_le, ge_iff_le, gt_iff_lt, e1, e2, e3, e4, e5] at q ⊢; omega
  · simp only [ne_eq, Int32.not_lt, Int32.not_le, ge_iff_le, gt_iff_lt, e1, e2, e3, e4, e5] at q ⊢; omega
theorem z_icmp_le (C : Cx x cc nL Ts own d) {a b : Int} {off : Int} (tgt : Nat) (hd : decode cc pc = .ok (.if_icmp .le off, 3)) (ht : (pc : Int) + off = (tgt : Int)) (h : (-2147483648 ≤ a ∧ a < 2147483648) ∧ (-2147483648 ≤ b ∧ b < 2147483648))
    (kt : a ≤ b → Z x k n ws lv tgt st) (kf : b < a → Z x k n ws lv (pc + 3) st) : Z x k n ws lv pc (.int (zI b) :: .int (zI a) :: st) := by
  obtain ⟨p, l, e, R, s, m, args, below, meth, c, A, H0, D, Q⟩ := x
  obtain ⟨hx, hb, hml, hown, hts, hR, hA⟩ := C
  intro H locs ls hP hS hl
  have e1 := zI_lt h.1 h.2
  have e2 := zI_lt h.2 h.1
  have e3 := zI_le h.1 h.2
  have e4 := zI_le h.2 h.1
  have e5 := zI_eq h.1 h.2
  refine lv_icmp_le hx hb hd ht (fun q => kt ?_ H locs ls hP hS hl) (fun q => kf ?_ H locs ls hP hS hl)
  · simp only [ne_eq, Int32.not_lt, Int32.not_le, ge_iff_le, gt_iff_lt, e1, e2, e3, e4, e5] at q ⊢; omega
  · simp only [ne_eq, Int32.not_lt, Int32.not_le, ge_iff_le, gt_iff_lt, e1, e2, e3, e4, e5] at q ⊢; omega
theorem z_icmp_eq (C : Cx x cc nL Ts own d) {a b : Int} {off : Int} (tgt : Nat) (hd : decode cc pc = .ok (.if_icmp .eq off, 3)) (ht : (pc : Int) + off = (tgt : Int)) (h : (-2147483648 ≤ a ∧ a < 2147483648) ∧ (-2147483648 ≤ b ∧ b < 2147483648))
    (kt : a = b → Z x k n ws lv tgt st) (kf : a ≠ b → Z x k n ws lv (pc + 3) st) : Z x k n ws lv pc (.int (zI b) :: .int (zI a) :: st) := by
  obtain ⟨p, l, e, R, s, m, args, below, meth, c, A, H0, D, Q⟩ := x
  obtain ⟨hx, hb, hml, hown, hts, hR, hA⟩ := C
  intro H locs ls hP hS hl
  have e1 := zI_lt h.1 h.2
  have e2 := zI_lt h.2 h.1
  have e3 := zI_le h.1 h.2
  have e4 := zI_le h.2 h.1
  have e5 := zI_eq h.1 h.2
  refine lv_icmp_eq hx hb hd ht (fun q => kt ?_ H locs ls hP hS hl) (fun q => kf ?_ H locs ls hP hS hl)
  · simp only [ne_eq, Int32.not_lt, Int32.not_le, ge_iff_le, gt_iff_lt, e1, e2, e3, e4, e5] at q ⊢; omega
  · simp only [ne_eq, Int32.not_lt, Int32.not_le, ge_iff_le, gt_iff_lt, e1, e2, e3, e4, e5] at q ⊢; omega
theorem z_icmp_ne (C : Cx x cc nL Ts own d) {a b : Int} {off : Int} (tgt : Nat) (hd : decode cc pc = .ok (.if_icmp .ne off, 3)) (ht : (pc : Int) + off = (tgt : Int)) (h : (-2147483648 ≤ a ∧ a < 2147483648) ∧ (-2147483648 ≤ b ∧ b < 2147483648))
    (kt : a ≠ b → Z x k n ws lv tgt st) (kf : a = b → Z x k n ws lv (pc + 3) st) : Z x k n ws lv pc (.int (zI b) :: .int (zI a) :: st) := by
  obtain ⟨p, l, e, R, s, m, args, below, meth, c, A, H0, D, Q⟩ := x
  obtain ⟨hx, hb, hml, hown, hts, hR, hA⟩ := C
  intro H locs ls hP hS hl
  have e1 := zI_lt h.1 h.2
  have e2 := zI_lt h.2 h.1
  have e3 := zI_le h.1 h.2
  have e4 := zI_le h.2 h.1
  have e5 := zI_eq h.1 h.2
  refine lv_icmp_ne hx hb hd ht (fun q => kt ?_ H locs ls hP hS hl) (fun q => kf ?_ H locs ls hP hS hl)
  · simp only [ne_eq, Int32.not_lt, Int32.not_le, ge_iff_le, gt_iff_lt, e1, e2, e3, e4, e5] at q ⊢; omega
  · simp only [ne_eq, Int32.not_lt, Int32.not_le, ge_iff_le, gt_iff_lt, e1, e2, e3, e4, e5] at q ⊢; omega
theorem z_if_lt (C : Cx x cc nL Ts own d) {a : Int} {off : Int} (tgt : Nat) (hd : decode cc pc = .ok (.ifCond .lt off, 3)) (ht : (pc : Int) + off = (tgt : Int)) (h : -2147483648 ≤ a ∧ a < 2147483648)
    (kt : a < 0 → Z x k n ws lv tgt st) (kf : 0 ≤ a → Z x k n ws lv (pc + 3) st) : Z x k n ws lv pc (.int (zI a) :: st) := by
  obtain ⟨p, l, e, R, s, m, args, below, meth, c, A, H0, D, Q⟩ := x
  obtain ⟨hx, hb, hml, hown, hts, hR, hA⟩ := C
  intro H locs ls hP hS hl
  have h0 : (-2147483648 : Int) ≤ 0 ∧ (0 : Int) < 2147483648 := by omega
  have e1 := zI_lt h h0
  have e2 := zI_lt h0 h
  have e3 := zI_le h h0
  have e4 := zI_le h0 h
  have e5 := zI_eq h h0
  rw [zI_0] at e1 e2 e3 e4 e5
  refine lv_if_lt hx hb hd ht (fun q => kt ?_ H locs ls hP hS hl) (fun q => kf ?_ H locs ls hP hS hl)
  · simp only [ne_eq, Int32.not_lt, Int32.not_le, ge_iff_le, gt_iff_lt, e1, e2, e3, e4, e5] at q ⊢; omega
  · simp only [ne_eq, Int32.not_lt, Int32.not_le, ge_iff_le, gt_iff_lt, e1, e2, e3, e4, e5] at q ⊢; omega
theorem z_if_ge (C : Cx x cc nL Ts own d) {a : Int} {off : Int} (tgt : Nat) (hd : decode cc pc = .ok (.ifCond .ge off, 3)) (ht : (pc : Int) + off = (tgt : Int)) (h : -2147483648 ≤ a ∧ a < 2147483648)
    (kt : 0 ≤ a → Z x k n ws lv tgt st) (kf : a < 0 → Z x k n ws lv (pc + 3) st) : Z x k n ws lv pc (.int (zI a) :: st) := by
  obtain ⟨p, l, e, R, s, m, args, below, meth, c, A, H0, D, Q⟩ := x
  obtain ⟨hx, hb, hml, hown, hts, hR, hA⟩ := C
  intro H locs ls hP hS hl
  have h0 : (-2147483648 : Int) ≤ 0 ∧ (0 : Int) < 2147483648 := by omega
  have e1 := zI_lt h h0
  have e2 := zI_lt h0 h
  have e3 := zI_le h h0
  have e4 := zI_le h0 h
  have e5 := zI_eq h h0
  rw [zI_0] at e1 e2 e3 e4 e5
  refine lv_if_ge hx hb hd ht (fun q => kt ?_ H locs ls hP hS hl) (fun q => kf ?_ H locs ls hP hS hl)
  · simp only [ne_eq, Int32.not_lt, Int32.not_le, ge_iff_le, gt_iff_lt, e1, e2, e3, e4, e5] at q ⊢; omega
  · simp only [ne_eq, Int32.not_lt, Int32.not_le, ge_iff_le, gt_iff_lt, e1, e2, e3, e4, e5] at q ⊢; omega
theorem z_if_gt (C : Cx x cc nL Ts own d) {a : Int} {off : Int} (tgt : Nat) (hd : decode cc pc = .ok (.ifCond .gt off, 3)) (ht : (pc : Int) + off = (tgt : Int)) (h : -2147483648 ≤ a ∧ a < 2147483648)
    (kt : 0 < a → Z x k n ws lv tgt st) (kf : a ≤ 0 → Z x k n ws lv (pc + 3) st) : Z x k n ws lv pc (.int (zI a) :: st) := by
  obtain ⟨p, l, e, R, s, m, args, below, meth, c, A, H0, D, Q⟩ := x
  obtain ⟨hx, hb, hml, hown, hts, hR, hA⟩ := C
  intro H locs ls hP hS hl
  have h0 : (-2147483648 : Int) ≤ 0 ∧ (0 : Int) < 2147483648 := by omega
  have e1 := zI_lt h h0
  have e2 := zI_lt h0 h
  have e3 := zI_le h h0
  have e4 := zI_le h0 h
  have e5 := zI_eq h h0
  rw [zI_0] at e1 e2 e3 e4 e5
  refine lv_if_gt hx hb hd ht (fun q => kt ?_ H locs ls hP hS hl) (fun q => kf ?_ H locs ls hP hS hl)
  · simp only [ne_eq, Int32.not_lt, Int32.not_le, ge_iff_le, gt_iff_lt, e1, e2, e3, e4, e5] at q ⊢; omega
  · simp only [ne_eq, Int32.not_lt, Int32.not_le, ge_iff_le, gt_iff_lt, e1, e2, e3, e4, e5] at q ⊢; omega
theorem z_if_le (C : Cx x cc nL Ts own d) {a : Int} {off : Int} (tgt : Nat) (hd : decode cc pc = .ok (.ifCond .le off, 3)) (ht : (pc : Int) + off = (tgt : Int)) (h : -2147483648 ≤ a ∧ a < 2147483648)
    (kt : a ≤ 0 → Z x k n ws lv tgt st) (kf : 0 < a → Z x k n ws lv (pc + 3) st) : Z x k n ws lv pc (.int (zI a) :: st) := by
  obtain ⟨p, l, e, R, s, m, args, below, meth, c, A, H0, D, Q⟩ := x
  obtain ⟨hx, hb, hml, hown, hts, hR, hA⟩ := C
  intro H locs ls hP hS hl
  have h0 : (-2147483648 : Int) ≤ 0 ∧ (0 : Int) < 2147483648 := by omega
  have e1 := zI_lt h h0
  have e2 := zI_lt h0 h
  have e3 := zI_le h h0
  have e4 := zI_le h0 h
  have e5 := zI_eq h h0
  rw [zI_0] at e1 e2 e3 e4 e5
  refine lv_if_le hx hb hd ht (fun q => kt ?_ H locs ls hP hS hl) (fun q => kf ?_ H locs ls hP hS hl)
  · simp only [ne_eq, Int32.not_lt, Int32.not_le, ge_iff_le, gt_iff_lt, e1, e2, e3, e4, e5] at q ⊢; omega
  · simp only [ne_eq, Int32.not_lt, Int32.not_le, ge_iff_le, gt_iff_lt, e1, e2, e3, e4, e5] at q ⊢; omega
theorem z_if_eq (C : Cx x cc nL Ts own d) {a : Int} {off : Int} (tgt : Nat) (hd : decode cc pc = .ok (.ifCond .eq off, 3)) (ht : (pc : Int) + off = (tgt : Int)) (h : -2147483648 ≤ a ∧ a < 2147483648)
    (kt : a = 0 → Z x k n ws lv tgt st) (kf : a ≠ 0 → Z x k n ws lv (pc + 3) st) : Z x k n ws lv pc (.int (zI a) :: st) := by
  obtain ⟨p, l, e, R, s, m, args, below, meth, c, A, H0, D, Q⟩ := x
  obtain ⟨hx, hb, hml, hown, hts, hR, hA⟩ := C
  intro H locs ls hP hS hl
  have h0 : (-2147483648 : Int) ≤ 0 ∧ (0 : Int) < 2147483648 := by omega
  have e1 := zI_lt h h0
  have e2 := zI_lt h0 h
  have e3 := zI_le h h0
  have e4 := zI_le h0 h
  have e5 := zI_eq h h0
  rw [zI_0] at e1 e2 e3 e4 e5
  refine lv_if_eq hx hb hd ht (fun q => kt ?_ H locs ls hP hS hl) (fun q => kf ?_ H locs ls hP hS hl)
  · simp only [ne_eq, Int32.not_lt, Int32.not_le, ge_iff_le, gt_iff_lt, e1, e2, e3, e4, e5] at q ⊢; omega
  · simp only [ne_eq, Int32.not_lt, Int32.not_le, ge_iff_le, gt_iff_lt, e1, e2, e3, e4, e5] at q ⊢; omega
theorem z_if_ne (C : Cx x cc nL Ts own d) {a : Int} {off : Int} (tgt : Nat) (hd : decode cc pc = .ok (.ifCond .ne off, 3)) (ht : (pc : Int) + off = (tgt : Int)) (h : -2147483648 ≤ a ∧ a < 2147483648)
    (kt : a ≠ 0 → Z x k n ws lv tgt st) (kf : a = 0 → Z x k n ws lv (pc + 3) st) : Z x k n ws lv pc (.int (zI a) :: st) := by
  obtain ⟨p, l, e, R, s, m, args, below, meth, c, A, H0, D, Q⟩ := x
  obtain ⟨hx, hb, hml, hown, hts, hR, hA⟩ := C
  intro H locs ls hP hS hl
  have h0 : (-2147483648 : Int) ≤ 0 ∧ (0 : Int) < 2147483648 := by omega
  have e1 := zI_lt h h0
  have e2 := zI_lt h0 h
  have e3 := zI_le h h0
  have e4 := zI_le h0 h
  have e5 := zI_eq h h0
  rw [zI_0] at e1 e2 e3 e4 e5
  refine lv_if_ne hx hb hd ht (fun q => kt ?_ H locs ls hP hS hl) (fun q => kf ?_ H locs ls hP hS hl)
  · simp only [ne_eq, Int32.not_lt, Int32.not_le, ge_iff_le, gt_iff_lt, e1, e2, e3, e4, e5] at q ⊢; omega
  · simp only [ne_eq, Int32.not_lt, Int32.not_le, ge_iff_le, gt_iff_lt, e1, e2, e3, e4, e5] at q ⊢; omega
theorem z_goto (C : Cx x cc nL Ts own d) {off : Int} (tgt : Nat) (hd : decode cc pc = .ok (.goto off, 3)) (ht : (pc : Int) + off = (tgt : Int)) (kk : Z x k n ws lv tgt st) : Z x k n ws lv pc st := by
  obtain ⟨p, l, e, R, s, m, args, below, meth, c, A, H0, D, Q⟩ := x
  obtain ⟨hx, hb, hml, hown, hts, hR, hA⟩ := C
  intro H locs ls hP hS hl
  exact lv_goto hx hb hd ht (kk H locs ls hP hS hl)
theorem z_tableIn (C : Cx x cc nL Ts own d) {dflt lo hi : Int} {offs : Array Int} {len : Nat} {a : Int} {off : Int} (tgt : Nat) (hd : decode cc pc = .ok (.tableswitch dflt lo hi offs, len)) (h : -2147483648 ≤ a ∧ a < 2147483648) (h1 : ¬ a < lo ∧ ¬ hi < a) (ho : offs[(a - lo).toNat]? = some off) (ht : (pc : Int) + off = (tgt : Int))
    (kk : Z x k n ws lv tgt st) : Z x k n ws lv pc (.int (zI a) :: st) := by
  obtain ⟨p, l, e, R, s, m, args, below, meth, c, A, H0, D, Q⟩ := x
  obtain ⟨hx, hb, hml, hown, hts, hR, hA⟩ := C
  intro H locs ls hP hS hl
  exact lv_tableIn hx hb hd (by rw [zI_toInt h]; exact h1.1) (by rw [zI_toInt h]; exact h1.2) (by rw [zI_toInt h]; exact ho) ht (kk H locs ls hP hS hl)
theorem z_tableOut (C : Cx x cc nL Ts own d) {dflt lo hi : Int} {offs : Array Int} {len : Nat} {a : Int} (tgt : Nat) (hd : decode cc pc = .ok (.tableswitch dflt lo hi offs, len)) (h : -2147483648 ≤ a ∧ a < 2147483648) (h1 : a < lo ∨ hi < a) (ht : (pc : Int) + dflt = (tgt : Int))
    (kk : Z x k n ws lv tgt st) : Z x k n ws lv pc (.int (zI a) :: st) := by
  obtain ⟨p, l, e, R, s, m, args, below, meth, c, A, H0, D, Q⟩ := x
  obtain ⟨hx, hb, hml, hown, hts, hR, hA⟩ := C
  intro H locs ls hP hS hl
  exact lv_tableOut hx hb hd (by rw [zI_toInt h]; exact h1) ht (kk H locs ls hP hS hl)
theorem z_top {v : Int32} (kk : ∀ a : Int, v = zI a → (-2147483648 ≤ a ∧ a < 2147483648) → Z x k n ws lv pc (.int (zI a) :: st)) : Z x k n ws lv pc (.int v :: st) := by
  rw [zI_of v]; exact kk v.toInt (zI_of v) (zI_rng v)
/-- a computed number under another name -/
theorem z_as {a b : Int} (h : a = b) (kk : Z x k n ws lv pc (.int (zI b) :: st)) : Z x k n ws lv pc (.int (zI a) :: st) := h ▸ kk
theorem z_asw {a b : Int32} (h : a = b) (kk : Z x k n ws lv pc (.int b :: st)) : Z x k n ws lv pc (.int a :: st) := h ▸ kk
theorem z_nm {a : Int} (kk : ∀ b : Int, b = a → Z x k n ws lv pc (.int (zI b) :: st)) : Z x k n ws lv pc (.int (zI a) :: st) := kk a rfl
theorem z_ws {ws' : va_W} (h : ws = ws') (kk : Z x k n ws' lv pc st) : Z x k n ws lv pc st := h ▸ kk
theorem z_lv (lv' : List (Nat × Value)) (ks : List Nat) (h : lv_pick lv ks = lv') (kk : Z x k n ws lv' pc st) : Z x k n ws lv pc st := by
  obtain ⟨p, l, e, R, s, m, args, below, meth, c, A, H0, D, Q⟩ := x
  intro H locs ls hP hS hl
  exact kk H locs ls hP hS (lv_sub hl ks h)
end ZZ
