/-! ===== Z: the law's own rows; calls in the joined world ===== -/
theorem va_P.l {D : va_G} {cl : List vw_C} {w1 w2 : va_W} {H : Heap} (h : va_P D cl (w1 ++ w2) H) : va_P D cl w1 H := fun k q hk => h k q (by rw [List.getElem?_append_left (List.getElem?_eq_some_iff.mp hk).1]; exact hk)
theorem va_P.r {D : va_G} {cl : List vw_C} {w1 w2 : va_W} {H : Heap} (h : va_P D cl (w1 ++ w2) H) : va_P D cl w2 H := fun k q hk => h (w1.length + k) q (by rw [List.getElem?_append_right (by omega), Nat.add_sub_cancel_left]; exact hk)
theorem va_D.l {A : Nat → Prop} {w1 w2 : va_W} (h : va_D A (w1 ++ w2)) : va_D A w1 := by
  have g : ∀ (k : Nat) (q : Nat × va_E), w1[k]? = some q → (w1 ++ w2)[k]? = some q := fun k q hk => by rw [List.getElem?_append_left (List.getElem?_eq_some_iff.mp hk).1]; exact hk
  exact ⟨fun i j p q hi hj e => h.1 i j p q (g i p hi) (g j q hj) e, fun k q hk => h.2 k q (g k q hk)⟩
theorem va_D.r {A : Nat → Prop} {w1 w2 : va_W} (h : va_D A (w1 ++ w2)) : va_D A w2 := by
  have g : ∀ (k : Nat) (q : Nat × va_E), w2[k]? = some q → (w1 ++ w2)[w1.length + k]? = some q := fun k q hk => by rw [List.getElem?_append_right (by omega), Nat.add_sub_cancel_left]; exact hk
  exact ⟨fun i j p q hi hj e => by have := h.1 _ _ p q (g i p hi) (g j q hj) e; omega, fun k q hk => h.2 _ q (g k q hk)⟩
theorem va_D.lr {A : Nat → Prop} {w1 w2 : va_W} (h : va_D A (w1 ++ w2)) {i j : Nat} {p q : Nat × va_E} (hi : w1[i]? = some p) (hj : w2[j]? = some q) : p.1 ≠ q.1 := by
  intro e
  have hl := (List.getElem?_eq_some_iff.mp hi).1
  have := h.1 i (w1.length + j) p q (by rw [List.getElem?_append_left hl]; exact hi) (by rw [List.getElem?_append_right (by omega), Nat.add_sub_cancel_left]; exact hj) e
  omega
def SXx (x : zT) (b L : Nat) (X : Int → Int) : Prop := match x with
  | (_, _, _, _, s, _, _, _, _, _, A, H0, _, _) => H0 = s.heap ∧ (∃ xs : Nat → Int32, va_X b L xs s s.heap ∧ ∀ j : Int, X j = (xs j.toNat).toInt) ∧ b < s.heap.size ∧ ¬ A b
theorem and31 (a : Int) : zI a &&& zI 31 = zI (a % 32) := by
  apply Int32.toBitVec.inj
  rw [Int32.toBitVec_and]
  apply BitVec.eq_of_toNat_eq
  rw [BitVec.toNat_and, show (zI 31).toBitVec.toNat = 2 ^ 5 - 1 by decide, Nat.and_two_pow_sub_one_eq_mod]
  show (BitVec.ofInt 32 a).toNat % 2 ^ 5 = (BitVec.ofInt 32 (a % 32)).toNat
  rw [BitVec.toNat_ofInt, BitVec.toNat_ofInt]
  simp only [Nat.reducePow]
  omega
section ZLW
variable {x : zT} {k n : Nat} {ws : va_W} {lv : List (Nat × Value)} {pc : Nat} {st : List Value} {cc : ByteArray} {nL : Nat} {Ts : List Cond} {own : String} {d : Nat} {tys : List (ClassId × FieldType)} {b L : Nat} {X : Int → Int}
theorem SXx.bd (hX : SXx x b L X) (j : Int) : -2147483648 ≤ X j ∧ X j < 2147483648 := by
  obtain ⟨p, l, e, R, s, m, args, below, meth, c, A, H0, D, Q⟩ := x
  obtain ⟨_, ⟨xs, _, h⟩, _⟩ := hX
  rw [h j]
  exact zI_rng _
theorem z_slen (C : Cx x cc nL Ts own d) (hX : SXx x b L X) (hd : decode cc pc = .ok (.arraylength, 1))
    (kk : Z x k n ws lv (pc + 1) (.int (zI (L : Int)) :: st)) : Z x k n ws lv pc (.ref b :: st) := by
  obtain ⟨p, l, e, R, s, m, args, below, meth, c, A, H0, D, Q⟩ := x
  obtain ⟨hx, hb, hml, hown, hts, hR, hA⟩ := C
  obtain ⟨e0, ⟨xs, hXX, _⟩, hbl, hbA⟩ := hX
  subst e0
  intro H locs ls hP hS hl
  refine va_slen hx hb hXX hbl hbA hS hd ?_
  have e : Int32.ofNat L = zI (L : Int) := by
    apply Int32.toBitVec.inj
    exact (BitVec.ofInt_natCast 32 L).symm
  rw [e]
  exact kk H locs ls hP hS hl
theorem z_sld (C : Cx x cc nL Ts own d) (hX : SXx x b L X) (hL : L ≤ 1000000) {j : Int} (h : 0 ≤ j ∧ j < (L : Int)) (hd : decode cc pc = .ok (.iaload, 1))
    (kk : Z x k n ws lv (pc + 1) (.int (zI (X j)) :: st)) : Z x k n ws lv pc (.int (zI j) :: .ref b :: st) := by
  obtain ⟨p, l, e, R, s, m, args, below, meth, c, A, H0, D, Q⟩ := x
  obtain ⟨hx, hb, hml, hown, hts, hR, hA⟩ := C
  obtain ⟨e0, ⟨xs, hXX, hXj⟩, hbl, hbA⟩ := hX
  subst e0
  intro H locs ls hP hS hl
  refine va_sld hx hb hXX hbl hbA hS (zI_in h hL) hd ?_
  rw [zI_clamp h.1 (by omega), zI_of (xs j.toNat), ← hXj j]
  exact kk H locs ls hP hS hl
theorem z_lorW (C : Cx x cc nL Ts own d) {v w : Int64} (r : Int64) (hd : decode cc pc = .ok (.lor, 1)) (hr : v ||| w = r)
    (kk : Z x k n ws lv (pc + 1) (.long r :: st)) : Z x k n ws lv pc (.long w :: .long v :: st) := by
  obtain ⟨p, l, e, R, s, m, args, below, meth, c, A, H0, D, Q⟩ := x
  obtain ⟨hx, hb, hml, hown, hts, hR, hA⟩ := C
  intro H locs ls hP hS hl
  exact lv_lor hx hb hd (by rw [hr]; exact kk H locs ls hP hS hl)
theorem z_asLW {a b : Int64} (h : a = b) (kk : Z x k n ws lv pc (.long b :: st)) : Z x k n ws lv pc (.long a :: st) := h ▸ kk
theorem z_eq_t (C : Cx x cc nL Ts own d) {a b : Int} {off : Int} (tgt : Nat) (hd : decode cc pc = .ok (.if_icmp .eq off, 3)) (ht : (pc : Int) + off = (tgt : Int)) (h : a = b) (kk : Z x k n ws lv tgt st) : Z x k n ws lv pc (.int (zI b) :: .int (zI a) :: st) := by
  obtain ⟨p, l, e, R, s, m, args, below, meth, c, A, H0, D, Q⟩ := x
  obtain ⟨hx, hb, hml, hown, hts, hR, hA⟩ := C
  subst h
  intro H locs ls hP hS hl
  exact lv_icmp_eq hx hb hd ht (fun _ => kk H locs ls hP hS hl) (fun q => absurd rfl q)
theorem z_lcmp_t (C : Cx x cc nL Ts own d) {a b : Int} (hd : decode cc pc = .ok (.lcmp, 1)) (h : a = b) (kk : Z x k n ws lv (pc + 1) (.int (zI 0) :: st)) : Z x k n ws lv pc (.long (zL b) :: .long (zL a) :: st) := by
  obtain ⟨p, l, e, R, s, m, args, below, meth, c, A, H0, D, Q⟩ := x
  obtain ⟨hx, hb, hml, hown, hts, hR, hA⟩ := C
  subst h
  intro H locs ls hP hS hl
  refine W.lcmp hx hb hd ?_
  rw [show lg_cmp (zL a) (zL a) = zI 0 by
    unfold lg_cmp
    rw [if_neg (by rw [gt_iff_lt]; exact Int64.lt_irrefl), if_pos rfl]; rfl]
  exact kk H locs ls hP hS hl
end ZLW
section ZLC
variable {x : zT} {k n : Nat} {sa sv : Nat → Nat} {lv : List (Nat × Value)} {pc : Nat} {st : List Value} {cc : ByteArray} {nL : Nat} {Ts : List Cond} {own : String} {d : Nat} {tys : List (ClassId × FieldType)} {S : Type} {W1 W2 : S → va_W} {u v : S} {index maxL dd na : Nat} {y : MethodName} {bytes : ByteArray} {ret : Option FieldType} {wsy ws' : List Cond} {b : Nat} {As : List Value} {rv : Int → Option Value} {post : Int → S → Prop}
/-- what a call in the left half leaves -/
theorem zjoinL {A0 : Nat → Prop} {D : va_G} {w1 w1' w2 : va_W} {H H1 : Heap} (hP : va_P D vwCl (w1 ++ w2) H) (hD : va_D A0 (w1 ++ w2)) (hP1 : va_P D vwCl w1' H1) (hk : ∀ q : Nat, q < H.size → ¬ va_A w1 H.size q → H1[q]? = H[q]?) : va_P D vwCl (w1' ++ w2) H1 := by
  refine hP1.app (hP.r.kept (fun k q hq => hk q.1 (hP.r k q hq).lt (fun h => ?_)))
  rcases h with ⟨i, e, hi⟩ | h
  · exact hD.lr hi hq rfl
  · have := (hP.r k q hq).lt
    omega
theorem zjoinR {A0 : Nat → Prop} {D : va_G} {w1 w2 w2' : va_W} {H H1 : Heap} (hP : va_P D vwCl (w1 ++ w2) H) (hD : va_D A0 (w1 ++ w2)) (hP1 : va_P D vwCl w2' H1) (hk : ∀ q : Nat, q < H.size → ¬ va_A w2 H.size q → H1[q]? = H[q]?) : va_P D vwCl (w1 ++ w2') H1 := by
  refine (hP.l.kept (fun k q hq => hk q.1 (hP.l k q hq).lt (fun h => ?_))).app hP1
  rcases h with ⟨i, e, hi⟩ | h
  · exact hD.lr hq hi rfl
  · have := (hP.l k q hq).lt
    omega
theorem z_lawl (C : Cx x cc nL Ts own d) (hK : Kx x tys) (hR : Rx x k n) (hDD : ∀ u v : S, va_D (zA x) (W1 u ++ W2 v)) (hM : ZM (zl x) (zG x) tys W1 y wsy dd (.ref b :: As) u rv post) (hG : GoodIn Ts (wsV own index y.cls y wsy)) (hw : wsy = .code y bytes maxL ret :: ws') (hy : zY y na) {T : u_T} {N ci : Nat} {fs : List Value} (q0 : Nat) (he : (W1 u)[q0]? = some (b, .inr (ci, fs))) (hc : vwCl[ci]? = some (y.cls, T, N)) (hr : dd + 1 ≤ d ∧ maxL ≤ 20) (hn : As.length = na) (hcat : (st.map fun v => v.category).sum ≤ 8) {stk : List Value} {stk2 : Int → List Value} (hst : stk = As.reverse ++ .ref b :: st) (hrv : ∀ z : Int, (rv z).toList ++ st = stk2 z) (hd : decode cc pc = .ok (.invokevirtual index, 3))
    (kk : ∀ (z : Int) (u2 : S), post z u2 → Z x k n (W1 u2 ++ W2 v) lv (pc + 3) (stk2 z)) : Z x k n (W1 u ++ W2 v) lv pc stk := by
  obtain ⟨p, l, e, R, s, m, args, below, meth, c, A, H0, D, Q⟩ := x
  obtain ⟨hx, hb, hml, hown, hts, hR2, hA⟩ := C
  replace hK : KK D tys s := hK
  replace hDD : ∀ u v : S, va_D A (W1 u ++ W2 v) := hDD
  replace hM : ZM l D tys W1 y wsy dd (.ref b :: As) u rv post := hM
  obtain ⟨hR3, hR4⟩ := hR
  intro H locs ls hP hS hl
  have hD1 := (hDD u v).l
  refine zrun (va_runV ⟨hx, hb, hml, hown, hts⟩ (hM H.size) (cwV na hts hG hw rfl rfl ⟨rfl, hy⟩ ⟨by have := hr.1; show dd + 1 ≤ R.frames; omega, by have := hr.1; show 8 + (maxL + 11) + 40 * dd ≤ R.locals; omega⟩) ⟨zblind, va_recv hK.1 hP.l hc he, fun U hU hW => ⟨rfl, by rw [hU], by rw [hU]; exact hP.l, KK.warm hW hK, hD1.weaken (fun _ _ _ _ => trivial)⟩⟩ rfl hn (hl.1.trans hml) hst (lv_room hcat) hd ⟨hR3, hR4⟩) hS (fun q _ h => zfree hD1 hS hA q h) (zfree hD1 hS hA) (fun z u2 H1 locs1 hp hP1 _ hk1 hS1 => by rw [hrv z]; exact kk z u2 hp H1 locs1 ls (zjoinL hP (hDD u v) hP1 hk1) hS1 hl)
theorem z_lawr (C : Cx x cc nL Ts own d) (hK : Kx x tys) (hR : Rx x k n) (hDD : ∀ u v : S, va_D (zA x) (W1 u ++ W2 v)) (hM : ZM (zl x) (zG x) tys W2 y wsy dd (.ref b :: As) v rv post) (hG : GoodIn Ts (wsV own index y.cls y wsy)) (hw : wsy = .code y bytes maxL ret :: ws') (hy : zY y na) {T : u_T} {N ci : Nat} {fs : List Value} (q0 : Nat) (he : (W2 v)[q0]? = some (b, .inr (ci, fs))) (hc : vwCl[ci]? = some (y.cls, T, N)) (hr : dd + 1 ≤ d ∧ maxL ≤ 20) (hn : As.length = na) (hcat : (st.map fun v => v.category).sum ≤ 8) {stk : List Value} {stk2 : Int → List Value} (hst : stk = As.reverse ++ .ref b :: st) (hrv : ∀ z : Int, (rv z).toList ++ st = stk2 z) (hd : decode cc pc = .ok (.invokevirtual index, 3))
    (kk : ∀ (z : Int) (v2 : S), post z v2 → Z x k n (W1 u ++ W2 v2) lv (pc + 3) (stk2 z)) : Z x k n (W1 u ++ W2 v) lv pc stk := by
  obtain ⟨p, l, e, R, s, m, args, below, meth, c, A, H0, D, Q⟩ := x
  obtain ⟨hx, hb, hml, hown, hts, hR2, hA⟩ := C
  replace hK : KK D tys s := hK
  replace hDD : ∀ u v : S, va_D A (W1 u ++ W2 v) := hDD
  replace hM : ZM l D tys W2 y wsy dd (.ref b :: As) v rv post := hM
  obtain ⟨hR3, hR4⟩ := hR
  intro H locs ls hP hS hl
  have hD1 := (hDD u v).r
  refine zrun (va_runV ⟨hx, hb, hml, hown, hts⟩ (hM H.size) (cwV na hts hG hw rfl rfl ⟨rfl, hy⟩ ⟨by have := hr.1; show dd + 1 ≤ R.frames; omega, by have := hr.1; show 8 + (maxL + 11) + 40 * dd ≤ R.locals; omega⟩) ⟨zblind, va_recv hK.1 hP.r hc he, fun U hU hW => ⟨rfl, by rw [hU], by rw [hU]; exact hP.r, KK.warm hW hK, hD1.weaken (fun _ _ _ _ => trivial)⟩⟩ rfl hn (hl.1.trans hml) hst (lv_room hcat) hd ⟨hR3, hR4⟩) hS (fun q _ h => zfree hD1 hS hA q h) (zfree hD1 hS hA) (fun z v2 H1 locs1 hp hP1 _ hk1 hS1 => by rw [hrv z]; exact kk z v2 hp H1 locs1 ls (zjoinR hP (hDD u v) hP1 hk1) hS1 hl)
theorem z_lawE (C : Cx x cc nL Ts own d) (hK : Kx x tys) (hE : Ex x sa sv) (hR : Rx x k n) (hDD : ∀ u v : S, va_D (zA x) (W1 u ++ W2 v)) (hM : ZE (zl x) (zG x) sa sv tys W1 y wsy dd (.ref b :: As) u rv post) (hG : GoodIn Ts (wsV own index y.cls y wsy)) (hw : wsy = .code y bytes maxL ret :: ws') (hy : zY y na) {T : u_T} {N ci : Nat} {fs : List Value} (q0 : Nat) (he : (W1 u)[q0]? = some (b, .inr (ci, fs))) (hc : vwCl[ci]? = some (y.cls, T, N)) (hr : dd + 1 ≤ d ∧ maxL ≤ 20) (hn : As.length = na) (hcat : (st.map fun v => v.category).sum ≤ 8) {stk : List Value} {stk2 : Int → List Value} (hst : stk = As.reverse ++ .ref b :: st) (hrv : ∀ z : Int, (rv z).toList ++ st = stk2 z) (hd : decode cc pc = .ok (.invokevirtual index, 3))
    (kk : ∀ (z : Int) (u2 : S), post z u2 → Z x k n (W1 u2 ++ W2 v) lv (pc + 3) (stk2 z)) : Z x k n (W1 u ++ W2 v) lv pc stk := by
  obtain ⟨p, l, e, R, s, m, args, below, meth, c, A, H0, D, Q⟩ := x
  obtain ⟨hx, hb, hml, hown, hts, hR2, hA⟩ := C
  replace hK : KK D tys s := hK
  replace hDD : ∀ u v : S, va_D A (W1 u ++ W2 v) := hDD
  replace hM : ZE l D sa sv tys W1 y wsy dd (.ref b :: As) u rv post := hM
  obtain ⟨hR3, hR4⟩ := hR
  obtain ⟨e0, hE⟩ := hE
  subst e0
  intro H locs ls hP hS hl
  have hD1 := (hDD u v).l
  refine zrun (va_runV ⟨hx, hb, hml, hown, hts⟩ (hM H.size) (cwV na hts hG hw rfl rfl ⟨rfl, hy⟩ ⟨by have := hr.1; show dd + 1 ≤ R.frames; omega, by have := hr.1; show 8 + (maxL + 11) + 40 * dd ≤ R.locals; omega⟩) ⟨zblindE, va_recv hK.1 hP.l hc he, fun U hU hW => ⟨rfl, ⟨by rw [hU], by rw [hU]; exact hP.l, KK.warm hW hK, hD1.weaken (fun _ _ _ _ => trivial)⟩, EE.go hW hE hS hU (zfree hD1 hS hA)⟩⟩ rfl hn (hl.1.trans hml) hst (lv_room hcat) hd ⟨hR3, hR4⟩) hS (fun q _ h => zfree hD1 hS hA q h) (zfree hD1 hS hA) (fun z u2 H1 locs1 hp hP1 _ hk1 hS1 => by rw [hrv z]; exact kk z u2 hp H1 locs1 ls (zjoinL hP (hDD u v) hP1 hk1) hS1 hl)
end ZLC
section ZLI
variable {x : zT} {k n : Nat} {ws : va_W} {lv : List (Nat × Value)} {pc : Nat} {st : List Value} {cc : ByteArray} {nL : Nat} {Ts : List Cond} {own : String} {d mc ms : Nat} {tys : List (ClassId × FieldType)}
/-- a constructor that is no nest mate's -/
theorem z_callI0 (C : Cx x cc nL Ts own d) (hK : Kx x tys) (hAO : AOx x) (hR : Rx x mc ms) {b : Nat} {ce : va_E} (hD : va_D (zA x) (ws ++ [(b, ce)])) {y : MethodName} {wsy wsy' : List Cond} {dd kc kn na index maxL : Nat} {bytes : ByteArray} {As stk : List Value} {W1 : (Nat → Nat) → va_W} (hM : ZN (zl x) (zG x) tys y wsy dd kc kn (.ref b :: As) [(b, ce)] W1) (hG : GoodIn Ts wsy) (hlk : Cond.methodLink own index y ∈ Ts) (hi : Cond.initialized y.cls ∈ Ts) (hin : Cond.instanceMethod y ∈ Ts) (hw : wsy = .code y bytes maxL none :: wsy') (hy : zY y na) (hyn : y.name = "<init>") (hr : dd + 1 ≤ d ∧ maxL ≤ 20) (hn : As.length = na) (hcat : (st.map fun v => v.category).sum ≤ 8) (hst : stk = As.reverse ++ .ref b :: st) (hk : k + kc ≤ mc) (hs : n + kn ≤ ms) (isR : List Nat) (hisR : isR.map (fun i => (ws ++ [(b, ce)])[i]?) = ws.map some) (hnd : va_nd isR = true) (L : Nat) (hL : (ws ++ [(b, ce)])[L]? = some (b, ce)) (hdis : L ∉ isR) (hd : decode cc pc = .ok (.invokespecial index, 3))
    (kk : ∀ q : Nat → Nat, va_D (zA x) (ws ++ W1 q) → Z x (k + kc) (n + kn) (ws ++ W1 q) lv (pc + 3) st) : Z x k n (ws ++ [(b, ce)]) lv pc stk := by
  obtain ⟨p, l, e, R, s, m, args, below, meth, c, A, H0, D, Q⟩ := x
  obtain ⟨hx, hb, hml, hown, hts, hR2, hA⟩ := C
  replace hK : KK D tys s := hK
  replace hD : va_D A (ws ++ [(b, ce)]) := hD
  replace hAO : AO s := hAO
  replace hM : ZN l D tys y wsy dd kc kn (.ref b :: As) [(b, ce)] W1 := hM
  obtain ⟨hR3, hR4⟩ := hR
  intro H locs ls hP hS hl
  have hC : [L].map (fun i => (ws ++ [(b, ce)])[i]?) = [(b, ce)].map some := by simp only [List.map_cons, List.map_nil, hL]
  have hPc := hP.sub (ws' := [(b, ce)]) [L] (by simp [hL])
  have hDc := hD.sub (ws' := [(b, ce)]) [L] rfl hC
  have hFc := va_free (wc := [(b, ce)]) hD hS hA [L] hC
  have hr0 : va_Run p l e R s m args below meth c H locs k n kc kn (F0 m pc ls stk) st (ZNQ D W1 (va_A [(b, ce)] H.size) (Value.ref b :: As).toArray) (va_A [(b, ce)] H.size) := va_runI ⟨hx, hb, hml, hown, hts⟩ (hM H.size) (cwI na hts hG hw rfl rfl (hts _ hi) (hts _ hlk) (hts _ hin) hyn hy ⟨by have := hr.1; show dd + 1 ≤ R.frames; omega, by have := hr.1; show 8 + (maxL + 11) + 40 * dd ≤ R.locals; omega⟩) ⟨fun _ _ _ _ q => ⟨q.1, q.2.1, q.2.2.1, q.2.2.2.1.calling, AO.moved (Vm.Alike.refl _) q.2.2.2.2.1, q.2.2.2.2.2⟩, fun U hU hW => ⟨rfl, by rw [hU], by rw [hU]; exact hPc, KK.warm hW hK, hAO.moved hW.alike, hDc.weaken (fun _ _ _ _ => trivial)⟩⟩ rfl hn (hl.1.trans hml) hst (lv_room hcat) hd ⟨Nat.le_trans hk hR3, Nat.le_trans hs hR4⟩
  intro T hT X
  obtain ⟨v, st₀, t, T', Lc, h0, X', hLc, e1, e2, ⟨⟨q, hv, hp, hb2⟩, hz, hkp⟩, stp⟩ := hr0 T hT X
  cases hv
  rw [h0] at hz hkp
  obtain ⟨hP1, hD1⟩ := va_join (wr := ws) (w1 := W1 q) (H := H) (H1 := T'.heap) hP hD [L] isR hC hisR hnd (fun i hi9 => by intro h9; rw [List.mem_singleton] at h9; subst h9; exact hdis hi9) (fun q h1 h2 => by rw [e1]; exact hkp q h1 h2) hFc (by rw [e1]; exact hp) hb2
  obtain ⟨t2, a1, b1⟩ := kk q hD1 T'.heap (locs ++ Lc) ls hP1 ⟨Nat.le_trans hS.1 (by rw [e1]; exact hz), fun q h1 h2 => by rw [e1, hkp q (Nat.lt_of_lt_of_le h1 hS.1) (fun z => h2 (hFc q z))]; exact hS.2.1 q h1 h2, fun q hq => by
      rcases List.mem_append.mp hq with h | h
      · exact hS.2.2 q h
      · exact hFc _ (hLc q h)⟩ hl T' rfl X'
  exact ⟨t2, stp t2 a1, b1⟩
end ZLI
