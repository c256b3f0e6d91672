/-! ===== Z: what is made; contracts of constructors ===== -/
def AOA (U : State) : Prop := (Cond.arrayOver (.array .int)).before #[] U = true
theorem AOA.of {A : Array Value} {U : State} (h : (Cond.arrayOver (.array .int)).before A U = true) : AOA U := h
theorem AOA.use {A : Array Value} {U : State} (h : AOA U) : (Cond.arrayOver (.array .int)).before A U = true := h
theorem AOA.moved {u U : State} (hvm : u.vm.Alike U.vm) (h : AOA u) : AOA U := by
  unfold AOA Cond.before Cond.holds at h ⊢
  simp only [Cond.value, beq_iff_eq] at h ⊢
  rw [hvm.findClass]
  cases hc : u.vm.findClass (FieldType.array .int).toString with
  | none => rw [hc] at h; simp at h
  | some comp =>
    rw [hc] at h
    simp only [Option.bind_some, Option.bind_eq_some_iff, Option.map_eq_some_iff] at h ⊢
    obtain ⟨c, hi, k, hk, hb⟩ := h
    obtain ⟨k', hk', he⟩ := hvm.2.2 _ _ hk
    have e1 := va_idx_bare U.vm comp
    have e2 := va_idx_bare u.vm comp
    have e3 : U.vm.bare = u.vm.bare := by first | exact hvm.bare_eq | exact hvm.bare_eq.symm
    rw [e3] at e1
    have hi2 := (e1.symm.trans e2).trans hi
    refine ⟨c, hi2, k', hk', ?_⟩
    · rw [he, hvm.findClass]
      exact hb
def AO (U : State) : Prop := va_AO "NoteBells$Now" U ∧ AOA U
theorem AO.moved {u U : State} (hvm : u.vm.Alike U.vm) (h : AO u) : AO U := ⟨h.1.moved hvm, h.2.moved hvm⟩
def Ix (x : zT) : Prop := match x with | (_, _, _, _, _, _, _, _, meth, _, _, _, _, _) => meth.name = "<init>"
def Rx (x : zT) (mc ms : Nat) : Prop := match x with | (_, _, _, R, _, _, _, _, _, _, _, _, _, _) => mc ≤ R.cells ∧ ms ≤ R.slots
def AOx (x : zT) : Prop := AO (zs x)
def zRc (d mc ms : Nat) : Room := { frames := d, cells := mc, slots := ms, locals := 40 * d }
def ZNQ (D : va_G) (W1 : (Nat → Nat) → va_W) (A : Nat → Prop) : Array Value → State → Outcome → State → Prop := fun _ st oc t => (∃ q : Nat → Nat, oc = .returned none ∧ va_P D vwCl (W1 q) t.heap ∧ va_D A (W1 q)) ∧ va_F A st t
/-- a constructor's contract: from the cells W0 come the cells W1 q -/
def ZN (l : Launch) (D : va_G) (tys : List (ClassId × FieldType)) (y : MethodName) (ws : List Cond) (d mc ms : Nat) (av : List Value) (W0 : va_W) (W1 : (Nat → Nat) → va_W) : Prop := ∀ sz : Nat, Met l y ws (zRc d mc ms) (va_Pc av (fun U => U.heap.size = sz ∧ va_P D vwCl W0 U.heap ∧ KK D tys U ∧ AO U ∧ va_D (fun _ => True) W0)) (ZNQ D W1 (va_A W0 sz)) mc ms (va_A W0 sz)
theorem ZN.of {l : Launch} {D : va_G} {tys : List (ClassId × FieldType)} {y : MethodName} {ws ws' : List Cond} {d mc ms : Nat} {av : List Value} {W0 : va_W} {W1 : (Nat → Nat) → va_W} {cc : ByteArray} {maxL : Nat} (lv0 : List (Nat × Value)) (hlv : lv_args 0 av = lv0)
    (hy : plainName y.cls = true) (hyn : y.name = "<init>") (hw : ws = .code y cc maxL none :: ws') (hen : (lg_sl av).length ≤ maxL)
    (body : ∀ x : zT, Cx x cc maxL ws y.cls d → Kx x tys → Ix x → Rx x mc ms → AOx x → va_D (zA x) W0 → zl x = l → zG x = D → (∀ (q : Nat → Nat) (lv : List (Nat × Value)) (pc : Nat), va_D (zA x) (W1 q) → decode cc pc = .ok (.return_, 1) → Z x mc ms (W1 q) lv pc []) → Z x 0 0 W0 lv0 0 []) : ZN l D tys y ws d mc ms av W0 W1 := by
  intro sz
  refine Met.ofW (cc := cc) (maxL := maxL) (ret := none) hy hw ?_
  intro p e s m args below meth c s₁ B hml hv
  obtain ⟨rfl, hsz, hP, hK, hAO, hD0⟩ := hv
  have hx := B.exec
  have hb := B.bytes
  have hr := B.returns
  have hts := atoms_spec (ws := ws) B.pre
  have hown : s.vm.findClass y.cls = some m.cls := findClass_of_methodNamed B.named
  have hlocks := B.notSynchronized
  have hin : meth.name = "<init>" := ((name_of_methodNamed B.named B.method).1).trans hyn
  subst hsz
  have hD := hD0.self (sz := s.heap.size)
  rw [lg_entry_eq]
  have hl := lv_entry av (n := maxL) hen
  rw [hlv] at hl
  refine body (p, l, e, zRc d mc ms, s, m, av.toArray, below, meth, c, va_A W0 s.heap.size, s.heap, D, MQ below (ZNQ D W1 (va_A W0 s.heap.size)) av.toArray s mc ms (va_A W0 s.heap.size)) ⟨hx, hb, hml, hown, hts, ⟨Nat.le_refl _, Nat.le_refl _⟩, fun q h => Or.inr h⟩ hK hin ⟨Nat.le_refl _, Nat.le_refl _⟩ hAO hD rfl rfl ?_ s.heap [] _ hP va_S.rf (hml.symm ▸ hl)
  intro q lv pc hDq hd H locs ls hP' hS' hl'
  exact W.vret hx hb hr (fun t ht hW => ⟨⟨q, rfl, by rw [ht]; exact hP', hDq⟩, hS'.F ht⟩) hS'.2.2 hd
theorem va_RA_int {U : State} {a b : ClassId} (h1 : va_RA U a .int) (h2 : va_RA U b .int) : a = b := Option.some.inj (h1.symm.trans h2)
theorem va_RA_bool {U : State} {a b : ClassId} (h1 : va_RA U a .boolean) (h2 : va_RA U b .boolean) : a = b := Option.some.inj (h1.symm.trans h2)
theorem va_RA_ai {U : State} {a b : ClassId} (h1 : va_RA U a (.array .int)) (h2 : va_RA U b (.array .int)) : a = b := Option.some.inj (h1.symm.trans h2)
theorem va_RA_obj {C : String} {U : State} {a b : ClassId} (h1 : va_RA U a (.object C)) (h2 : va_RA U b (.object C)) : a = b := by
  obtain ⟨_, _, _, _, _, e1⟩ := h1
  obtain ⟨_, _, _, _, _, e2⟩ := h2
  exact Option.some.inj (e1.symm.trans e2)
section ZNS
variable {x : zT} {k n : Nat} {ws ws' : va_W} {lv : List (Nat × Value)} {pc : Nat} {st : List Value} {cc : ByteArray} {nL : Nat} {Ts : List Cond} {own : String} {d mc ms : Nat} {tys : List (ClassId × FieldType)}
theorem z_objInit (C : Cx x cc nL Ts own d) {idx a : Nat} (h1 : Cond.methodLink own idx objectInit ∈ Ts) (h2 : Cond.instanceMethod objectInit ∈ Ts) (h3 : Cond.code objectInit ⟨#[0xb1]⟩ 1 none ∈ Ts) (hd1 : 1 ≤ d) (hcat : (st.map fun v => v.category).sum ≤ 8) (hd : decode cc pc = .ok (.invokespecial idx, 3))
    (kk : Z x k n ws lv (pc + 3) st) : Z x k n ws lv pc (.ref a :: st) := by
  obtain ⟨p, l, e, R, s, m, args, below, meth, c, A, H0, D, Q⟩ := x
  obtain ⟨hx, hb, hml, hown, hts, hR, hA⟩ := C
  intro H locs ls hP hS hl
  refine W.objInit hx hb hown (hts _ h1) (hts _ h2) (hts _ h3) rfl hl.1 rfl hd (Nat.le_trans hd1 hR.1) (by have h9 := hR.2; show 2 * 0 + _ + 12 ≤ R.locals; omega) ?_
  exact W.eq (g2 := F0 m (pc + 3) ls st) rfl (kk H locs ls hP hS hl)
theorem z_newa (C : Cx x cc nL Ts own d) (hK : Kx x tys) (hR : Rx x mc ms) (hD : va_D (zA x) ws) {atype : ArrayType} {ty : FieldType} (hty : newarray.typeOf atype = ty) (t0 : Nat) {c0 : ClassId} (ht0 : tys[t0]? = some (c0, ty)) (hun : ∀ (U : State) (a b : ClassId), va_RA U a ty → va_RA U b ty → a = b) {N : Nat} {a0 : vp_A} (ha : ∀ cA : ClassId, vp_cell cA a0 = arrV cA N (fun _ => defaultValue ty)) (harr : Cond.arrayClass ty ∈ Ts) (hN : N ≤ 1000000) (hby : N * componentBytes ty ≤ 536870912) (hk : k + 1 ≤ mc) (hn : n + N ≤ ms) (hd : decode cc pc = .ok (.newarray atype, 2))
    (kk : ∀ q : Nat, va_D (zA x) (ws ++ [(q, .inl (c0, a0))]) → Z x (k + 1) (n + N) (ws ++ [(q, .inl (c0, a0))]) lv (pc + 2) (.ref q :: st)) : Z x k n ws lv pc (.int (zI (N : Int)) :: st) := by
  obtain ⟨p, l, e, R, s, m, args, below, meth, c, A, H0, D, Q⟩ := x
  obtain ⟨hx, hb, hml, hown, hts, hR2, hA⟩ := C
  replace hK : KK D tys s := hK
  replace hD : va_D A ws := hD
  obtain ⟨hR3, hR4⟩ := hR
  intro H locs ls hP hS hl
  refine va_newa hx hb (by rw [hty]; exact hts _ harr) hty hK.1 hP hD hS hA ha (n := zI (N : Int)) (N' := N) (by rw [← zI_0, zI_lt (by omega) (by omega)]; omega) (by rw [zI_clamp (by omega) (by omega)]; omega) hby (Nat.le_trans hk hR3) (Nat.le_trans hn hR4) hd (fun q cA H1 hK1 hP1 hD1 hS1 => ?_)
  have e := hun s cA c0 (hK1.2 tys.length (cA, ty) (by simp)).2 (hK.1.2 t0 _ ht0).2
  subst e
  exact kk q hD1 H1 locs ls hP1 hS1 hl
theorem z_new (C : Cx x cc nL Ts own d) (hK : Kx x tys) (hR : Rx x mc ms) (hD : va_D (zA x) ws) {C0 : String} {T : u_T} {N ci index : Nat} (hin : ∀ w ∈ u_ws C0 T N, w ∈ Ts) (ty : Nat → FieldType) (hty : ∀ k, k < N → parseFieldDescriptor (T k).2.2.1 = some (ty k)) (hcl : Cond.classLink own index C0 ∈ Ts) (hinst : Cond.instantiable C0 N ∈ Ts) (hini : Cond.initialized C0 ∈ Ts) (hc : vwCl[ci]? = some (C0, T, N)) {fs : List Value} (hfs : ∀ j, j < N → defaultValue (ty j) = vp_V fs j) (hk : k + 1 ≤ mc) (hn : n + N ≤ ms) (hd : decode cc pc = .ok (.new index, 3))
    (kk : ∀ q : Nat, va_D (zA x) (ws ++ [(q, .inr (ci, fs))]) → Z x (k + 1) (n + N) (ws ++ [(q, .inr (ci, fs))]) lv (pc + 3) (.ref q :: st)) : Z x k n ws lv pc st := by
  obtain ⟨p, l, e, R, s, m, args, below, meth, c, A, H0, D, Q⟩ := x
  obtain ⟨hx, hb, hml, hown, hts, hR2, hA⟩ := C
  replace hK : KK D tys s := hK
  replace hD : va_D A ws := hD
  obtain ⟨hR3, hR4⟩ := hR
  intro H locs ls hP hS hl
  exact va_new hx hb hts hin ty hty hown (hts _ hcl) (hts _ hinst) (hts _ hini) hK.1 hP hD hS hA hc hfs (Nat.le_trans hk hR3) (Nat.le_trans hn hR4) hd (fun q H1 hP1 hD1 hS1 => kk q hD1 H1 locs ls hP1 hS1 hl)
theorem z_putF (C : Cx x cc nL Ts own d) (hK : Kx x tys) (hI : Ix x) (hD : va_D (zA x) ws) {C0 : String} {T : u_T} {N ci index a : Nat} {fs : List Value} {v : Value} (hin : ∀ w ∈ u_ws C0 T N, w ∈ Ts) (ty : Nat → FieldType) (hty : ∀ k, k < N → parseFieldDescriptor (T k).2.2.1 = some (ty k)) (hnm : ∀ a, a < N → ∀ b, b < N → a ≠ b → (T a).2.1 ≠ (T b).2.1) (q0 : Nat) (he : ws[q0]? = some (a, .inr (ci, fs))) (hc : vwCl[ci]? = some (C0, T, N)) (fi : Nat) (hk : fi < N) (hlk : Cond.fieldLink own index (T fi).1 (T fi).2.1 (T fi).2.2.1 ∈ Ts) (hfin : (T fi).2.2.2 = true) (hdecl : (T fi).1 = own) (hn : narrow (ty fi) v = v) (hfit : fits (ty fi) v = true) (hlen : fi < fs.length) (hset : ws.set q0 (a, .inr (ci, fs.set fi v)) = ws') (hd : decode cc pc = .ok (.putfield index, 3))
    (kk : Z x k n ws' lv (pc + 3) st) : Z x k n ws lv pc (v :: .ref a :: st) := by
  obtain ⟨p, l, e, R, s, m, args, below, meth, c, A, H0, D, Q⟩ := x
  obtain ⟨hx, hb, hml, hown, hts, hR, hA⟩ := C
  replace hK : KK D tys s := hK
  replace hD : va_D A ws := hD
  replace hI : meth.name = "<init>" := hI
  intro H locs ls hP hS hl
  refine va_putF hx hb hts hin ty hty hnm hown hK.1 hP hD hS q0 he hc fi hk (hts _ hlk) (fun _ h9 => h9) hfin hI hdecl (hty fi hk) hn hfit hlen hd (fun H1 locs1 hP1 hD1 hS1 => ?_)
  rw [hset] at hP1
  exact kk H1 locs1 ls hP1 hS1 hl
theorem z_newq (C : Cx x cc nL Ts own d) (hK : Kx x tys) (hAO : AOx x) (hR : Rx x mc ms) (hD : va_D (zA x) ws) {index : Nat} (t0 : Nat) {c0 : ClassId} (ht0 : tys[t0]? = some (c0, .object "NoteBells$Now")) {N : Nat} (hcl : Cond.classLink own index "NoteBells$Now" ∈ Ts) (hN : N ≤ 1000000) (hk : k + 1 ≤ mc) (hn : n + N ≤ ms) (hd : decode cc pc = .ok (.anewarray index, 3))
    (kk : ∀ q : Nat, va_D (zA x) (ws ++ [(q, .inl (c0, N, .inr (.inr (.inr (.inr (fun _ => none))))))]) → Z x (k + 1) (n + N) (ws ++ [(q, .inl (c0, N, .inr (.inr (.inr (.inr (fun _ => none))))))]) lv (pc + 3) (.ref q :: st)) : Z x k n ws lv pc (.int (zI (N : Int)) :: st) := by
  obtain ⟨p, l, e, R, s, m, args, below, meth, c, A, H0, D, Q⟩ := x
  obtain ⟨hx, hb, hml, hown, hts, hR2, hA⟩ := C
  replace hK : KK D tys s := hK
  replace hD : va_D A ws := hD
  replace hAO : AO s := hAO
  obtain ⟨hR3, hR4⟩ := hR
  intro H locs ls hP hS hl
  refine va_newq hx hb hown (hts _ hcl) hAO.1 hK.1 hP hD hS hA (n := zI (N : Int)) (N' := N) (by rw [← zI_0, zI_lt (by omega) (by omega)]; omega) (by rw [zI_clamp (by omega) (by omega)]; omega) (by omega) (Nat.le_trans hk hR3) (Nat.le_trans hn hR4) hd (fun q cA H1 hK1 hP1 hD1 hS1 => ?_)
  have e := va_RA_obj (hK1.2 tys.length (cA, .object "NoteBells$Now") (by simp)).2 (hK.1.2 t0 _ ht0).2
  subst e
  exact kk q hD1 H1 locs ls hP1 hS1 hl
theorem z_astq (C : Cx x cc nL Ts own d) (hK : Kx x tys) (hD : va_D (zA x) ws) (q0 t0 qk ci : Nat) {a : Nat} {cA : ClassId} {r : vw_C} {N v : Nat} {vs : List Value} {f : Nat → Option Nat} {i : Nat} (ha : ws[q0]? = some (a, .inl (cA, N, .inr (.inr (.inr (.inr f)))))) (ht : tys[t0]? = some (cA, .object r.1)) (hv : ws[qk]? = some (v, .inr (ci, vs))) (hc : vwCl[ci]? = some r) (hi : i < N) (hN : N ≤ 1000000) (hset : ws.set q0 (a, .inl (cA, N, .inr (.inr (.inr (.inr (va_up f i (some v))))))) = ws') (hd : decode cc pc = .ok (.aastore, 1))
    (kk : Z x k n ws' lv (pc + 1) st) : Z x k n ws lv pc (.ref v :: .int (zI (i : Int)) :: .ref a :: st) := by
  obtain ⟨p, l, e, R, s, m, args, below, meth, c, A, H0, D, Q⟩ := x
  obtain ⟨hx, hb, hml, hown, hts, hR, hA⟩ := C
  replace hK : KK D tys s := hK
  replace hD : va_D A ws := hD
  intro H locs ls hP hS hl
  refine va_astq hx hb hK.1 hP hD hS q0 t0 qk ci ha ht hv hc (zI_in ⟨by omega, by omega⟩ hN) hd (fun H1 locs1 hP1 hD1 hS1 => ?_)
  rw [zI_clamp (by omega) (by omega), Int.toNat_natCast, hset] at hP1
  exact kk H1 locs1 ls hP1 hS1 hl
-- int[9][512]
set_option maxRecDepth 100000 in
theorem z_mna (C : Cx x cc nL Ts own d) (hK : Kx x tys) (hAO : AOx x) (hR : Rx x mc ms) (hD : va_D (zA x) ws) {index : Nat} (t0 t3 : Nat) {c0 c3 : ClassId} (ht0 : tys[t0]? = some (c0, .int)) (ht3 : tys[t3]? = some (c3, .array .int)) (hcl : Cond.classLink own index "[[I" ∈ Ts) (harr : Cond.arrayClass .int ∈ Ts) (hk : k + 10 ≤ mc) (hn : n + 4617 ≤ ms) (hd : decode cc pc = .ok (.multianewarray index 2, 4))
    (kk : ∀ (q : Nat) (r : Nat → Nat), va_D (zA x) (ws ++ ((q, .inl (c3, 9, .inr (.inr (.inr (.inr (fun i => if i < 9 then some (r i) else none)))))) :: (List.range 9).map (fun i => (r i, .inl (c0, 512, .inl (fun _ => zI 0)))))) → Z x (k + 10) (n + 4617) (ws ++ ((q, .inl (c3, 9, .inr (.inr (.inr (.inr (fun i => if i < 9 then some (r i) else none)))))) :: (List.range 9).map (fun i => (r i, .inl (c0, 512, .inl (fun _ => zI 0)))))) lv (pc + 4) (.ref q :: st)) : Z x k n ws lv pc (.int (zI 512) :: .int (zI 9) :: st) := by
  obtain ⟨p, l, e, R, s, m, args, below, meth, c, A, H0, D, Q⟩ := x
  obtain ⟨hx, hb, hml, hown, hts, hR2, hA⟩ := C
  replace hK : KK D tys s := hK
  replace hD : va_D A ws := hD
  replace hAO : AO s := hAO
  obtain ⟨hR3, hR4⟩ := hR
  intro H locs ls hP hS hl
  have hcy : s.vm.findClass (FieldType.array .int).toString = some c0 := (hK.1.2 t0 _ ht0).2
  refine va_mna (X := ws) (L := []) (f := fun _ => .inl (c0, 0, .inl (fun _ => 0))) hx hb (ty := .int) hown (hts _ hcl) hAO.2 (hts _ harr) hcy hK.1 (by simpa [va_pl] using hP) (by simpa [va_pl] using hD) hS hA (n := zI 9) (k := zI 512) (N' := 9) (K' := 512) (z := (512, .inl (fun _ => zI 0))) (by decide) (by decide) (by decide) (by decide) (by decide) (by decide) (by decide) (by decide) (by decide) (by omega) (by omega) (fun c => by rfl) hd (fun q r cA H1 hri _ hK1 hP1 hD1 hS1 => ?_)
  have e := va_RA_ai (hK1.2 tys.length (cA, .array .int) (by simp)).2 (hK.1.2 t3 _ ht3).2
  subst e
  have el : (va_pl ([] ++ (List.range 9).map r) (vr_up (fun _ => .inl (c0, 0, .inl (fun _ => 0))) ((List.range 9).map r) (.inl (c0, 512, .inl (fun _ => zI 0)))) : va_W) = (List.range 9).map (fun i => (r i, .inl (c0, 512, .inl (fun _ => zI 0)))) := by
    unfold va_pl
    rw [List.nil_append, List.map_map]
    apply List.map_congr_left
    intro a ha
    show (r a, vr_up _ _ _ (r a)) = _
    rw [vr_up_in (List.mem_map.mpr ⟨a, ha, rfl⟩)]
  rw [el, List.append_assoc] at hP1 hD1
  exact kk q r hD1 H1 locs ls hP1 hS1 hl
/-- a constructor of a nest mate -/
theorem z_callIN (C : Cx x cc nL Ts own d) (hK : Kx x tys) (hAO : AOx x) (hR : Rx x mc ms) {b : Nat} {ce : va_E} (hD : va_D (zA x) (ws ++ [(b, ce)])) {y : MethodName} {wsy wsy' : List Cond} {dd kc kn na index maxL : Nat} {bytes : ByteArray} {As stk : List Value} {W1 : (Nat → Nat) → va_W} (hM : ZN (zl x) (zG x) tys y wsy dd kc kn (.ref b :: As) [(b, ce)] W1) (hG : GoodIn Ts wsy) {host : String} (hlk : (own, index, y, host) ∈ zNM) (hi : Cond.initialized y.cls ∈ Ts) (hin : Cond.instanceMethod y ∈ Ts) (hw : wsy = .code y bytes maxL none :: wsy') (hy : zY y na) (hyn : y.name = "<init>") (hr : dd + 1 ≤ d ∧ maxL ≤ 20) (hn : As.length = na) (hcat : (st.map fun v => v.category).sum ≤ 8) (hst : stk = As.reverse ++ .ref b :: st) (hk : k + kc ≤ mc) (hs : n + kn ≤ ms) (isR : List Nat) (hisR : isR.map (fun i => (ws ++ [(b, ce)])[i]?) = ws.map some) (hnd : va_nd isR = true) (L : Nat) (hL : (ws ++ [(b, ce)])[L]? = some (b, ce)) (hdis : L ∉ isR) (hd : decode cc pc = .ok (.invokespecial index, 3))
    (kk : ∀ q : Nat → Nat, va_D (zA x) (ws ++ W1 q) → Z x (k + kc) (n + kn) (ws ++ W1 q) lv (pc + 3) st) : Z x k n (ws ++ [(b, ce)]) lv pc stk := by
  obtain ⟨p, l, e, R, s, m, args, below, meth, c, A, H0, D, Q⟩ := x
  obtain ⟨hx, hb, hml, hown, hts, hR2, hA⟩ := C
  replace hK : KK D tys s := hK
  replace hD : va_D A (ws ++ [(b, ce)]) := hD
  replace hAO : AO s := hAO
  replace hM : ZN l D tys y wsy dd kc kn (.ref b :: As) [(b, ce)] W1 := hM
  obtain ⟨hR3, hR4⟩ := hR
  intro H locs ls hP hS hl
  have hC : [L].map (fun i => (ws ++ [(b, ce)])[i]?) = [(b, ce)].map some := by simp only [List.map_cons, List.map_nil, hL]
  have hPc := hP.sub (ws' := [(b, ce)]) [L] (by simp [hL])
  have hDc := hD.sub (ws' := [(b, ce)]) [L] rfl hC
  have hFc := va_free (wc := [(b, ce)]) hD hS hA [L] hC
  have hr0 : va_Run p l e R s m args below meth c H locs k n kc kn (F0 m pc ls stk) st (ZNQ D W1 (va_A [(b, ce)] H.size) (Value.ref b :: As).toArray) (va_A [(b, ce)] H.size) := va_runIN ⟨hx, hb, hml, hown, hts⟩ (hM H.size) ⟨va_cnB na hts hG hw rfl rfl (hK.2.2 _ hlk) (hts _ hi) hy ⟨by have := hr.1; show dd + 1 ≤ R.frames; omega, by have := hr.1; show 8 + (maxL + 11) + 40 * dd ≤ R.locals; omega⟩, hyn, hts _ hin⟩ ⟨fun _ _ _ _ q => ⟨q.1, q.2.1, q.2.2.1, q.2.2.2.1.calling, AO.moved (Vm.Alike.refl _) q.2.2.2.2.1, q.2.2.2.2.2⟩, fun U hU hW => ⟨rfl, by rw [hU], by rw [hU]; exact hPc, KK.warm hW hK, hAO.moved hW.alike, hDc.weaken (fun _ _ _ _ => trivial)⟩⟩ rfl hn (hl.1.trans hml) hst (lv_room hcat) hd ⟨Nat.le_trans hk hR3, Nat.le_trans hs hR4⟩
  intro T hT X
  obtain ⟨v, st₀, t, T', Lc, h0, X', hLc, e1, e2, ⟨⟨q, hv, hp, hb2⟩, hz, hkp⟩, stp⟩ := hr0 T hT X
  cases hv
  rw [h0] at hz hkp
  obtain ⟨hP1, hD1⟩ := va_join (wr := ws) (w1 := W1 q) (H := H) (H1 := T'.heap) hP hD [L] isR hC hisR hnd (fun i hi9 => by intro h9; rw [List.mem_singleton] at h9; subst h9; exact hdis hi9) (fun q h1 h2 => by rw [e1]; exact hkp q h1 h2) hFc (by rw [e1]; exact hp) hb2
  obtain ⟨t2, a1, b1⟩ := kk q hD1 T'.heap (locs ++ Lc) ls hP1 ⟨Nat.le_trans hS.1 (by rw [e1]; exact hz), fun q h1 h2 => by rw [e1, hkp q (Nat.lt_of_lt_of_le h1 hS.1) (fun z => h2 (hFc q z))]; exact hS.2.1 q h1 h2, fun q hq => by
      rcases List.mem_append.mp hq with h | h
      · exact hS.2.2 q h
      · exact hFc _ (hLc q h)⟩ hl T' rfl X'
  exact ⟨t2, stp t2 a1, b1⟩
theorem z_perm (is : List Nat) (hs : is.filterMap (fun i => ws[i]?) = ws') (kk : Z x k n ws' lv pc st) : Z x k n ws lv pc st := by
  obtain ⟨p, l, e, R, s, m, args, below, meth, c, A, H0, D, Q⟩ := x
  intro H locs ls hP hS hl
  exact kk H locs ls (hP.sub is hs) hS hl
end ZNS
