/-! ===== the String constants and two statics: contracts that know them ===== -/
def sIx : List Nat := [133, 139, 141, 142, 144]
def sTx : List String := ["level", "man", "ear", "wet", "pace"]
def sLen : List Nat := [5, 3, 3, 3, 4]
def sByt : List (List Int32) := [[108, 101, 118, 101, 108], [109, 97, 110], [101, 97, 114], [119, 101, 116], [112, 97, 99, 101]]
def sLn (i : Nat) : Int := ((sLen.getD i 0 : Nat) : Int)
def sCh (i : Nat) (k : Int) : Int := ((sByt.getD i []).getD k.toNat 0).toInt
theorem sLn_bd {i : Nat} (hi : i < 5) : 3 ≤ sLn i ∧ sLn i ≤ 5 := by
  have h : ∀ i : Fin 5, 3 ≤ sLn i.val ∧ sLn i.val ≤ 5 := by decide +kernel
  exact h ⟨i, hi⟩
theorem sCh_all {i : Nat} {k : Int} (hi : i < 5) (h0 : 0 ≤ k) (h1 : k < sLn i) : (97 ≤ sCh i k ∧ sCh i k ≤ 122) ∧ (sByt.getD i []).getD k.toNat 0 = zI (sCh i k) ∧ zI (sCh i k) &&& zI 255 = zI (sCh i k) ∧ ((zI (sCh i k)).toUInt32 % 65536).toInt32 = zI (sCh i k) ∧ narrow .char (.int (zI (sCh i k))) = .int (zI (sCh i k)) := by
  have h : ∀ i : Fin 5, ∀ k : Fin 5, (k.val : Int) < sLn i.val → (97 ≤ sCh i.val (k.val : Int) ∧ sCh i.val (k.val : Int) ≤ 122) ∧ (sByt.getD i.val []).getD k.val 0 = zI (sCh i.val (k.val : Int)) ∧ zI (sCh i.val (k.val : Int)) &&& zI 255 = zI (sCh i.val (k.val : Int)) ∧ ((zI (sCh i.val (k.val : Int))).toUInt32 % 65536).toInt32 = zI (sCh i.val (k.val : Int)) ∧ narrow .char (.int (zI (sCh i.val (k.val : Int)))) = .int (zI (sCh i.val (k.val : Int))) := by decide +kernel
  have h2 := sLn_bd hi
  have h3 := h ⟨i, hi⟩ ⟨k.toNat, by omega⟩
  rw [show (((⟨k.toNat, by omega⟩ : Fin 5).val : Nat) : Int) = k from (by show ((k.toNat : Nat) : Int) = k; omega)] at h3
  exact h3 h1
theorem sLn_nI {i : Nat} (hi : i < 5) : Int32.ofNat (sLen.getD i 0) = zI (sLn i) := by
  have h : ∀ i : Fin 5, Int32.ofNat (sLen.getD i.val 0) = zI (sLn i.val) := by decide +kernel
  exact h ⟨i, hi⟩
def EE (sa sv : Nat → Nat) (A : Nat → Prop) (U : State) (H : Heap) : Prop := (∀ i : Nat, i < 5 → vk_R RX5 (sIx.getD i 0) (sTx.getD i "") (sa i) U) ∧ vk_S 5 sLen sByt sa sv A U H ∧ va_Z "java/lang/String" "COMPACT_STRINGS" "Z" (.int (zI 1)) A U H ∧ va_Zq "jdk/internal/util/Preconditions" "SIOOBE_FORMATTER" "Ljava/util/function/BiFunction;" A U H
theorem EE.calling {sa sv : Nat → Nat} {A : Nat → Prop} {U : State} {g : JFrame} {mk : MethodId} {a : Array Value} (h : EE sa sv A U U.heap) : EE sa sv A (U.calling g mk a) (U.calling g mk a).heap :=
  ⟨fun i hi => vk_R.same (u := U) rfl (h.1 i hi), vk_S.moved (u := U) (U := U.calling g mk a) (Vm.Alike.refl U.vm) h.2.1, va_Z.moved (u := U) (U := U.calling g mk a) (Vm.Alike.refl U.vm) h.2.2.1, va_Zq.moved (u := U) (U := U.calling g mk a) (Vm.Alike.refl U.vm) h.2.2.2⟩
theorem EE.go {sa sv : Nat → Nat} {A B : Nat → Prop} {s U : State} {H : Heap} {locs : List Loc} (hW : s.WarmedH U.vm) (h : EE sa sv A s s.heap) (hS : va_S A s.heap H locs) (hU : U.heap = H) (hB : ∀ q, B q → A q) : EE sa sv B U U.heap := by
  rw [hU]
  exact ⟨fun i hi => vk_R.warm hW (h.1 i hi), ((h.2.1.kept hS.2.1).moved hW.alike).narrow hB, ((h.2.2.1.kept hS.2.1).moved hW.alike).narrow hB, ((h.2.2.2.kept hS.2.1).moved hW.alike).narrow hB⟩
def Ex (x : zT) (sa sv : Nat → Nat) : Prop := match x with
  | (_, _, _, _, s, _, _, _, _, _, A, H0, _, _) => H0 = s.heap ∧ EE sa sv A s s.heap
def ZE {S : Type} (l : Launch) (D : va_G) (sa sv : Nat → Nat) (tys : List (ClassId × FieldType)) (WW : S → va_W) (y : MethodName) (ws : List Cond) (d : Nat) (av : List Value) (u : S) (rv : Int → Option Value) (post : Int → S → Prop) : Prop := ∀ sz : Nat, Met l y ws (zR d) (va_Pc av (fun U => ZP D tys WW u sz U ∧ EE sa sv (va_A (WW u) sz) U U.heap)) (ZQ D WW rv post (va_A (WW u) sz)) 0 0 (va_A (WW u) sz)
theorem ZE.ofI {S : Type} {l : Launch} {D : va_G} {sa sv : Nat → Nat} {tys : List (ClassId × FieldType)} {WW : S → va_W} {y : MethodName} {ws ws' : List Cond} {d : Nat} {av : List Value} {u : S} {post : Int → S → Prop} {cc : ByteArray} {maxL : Nat} (lv0 : List (Nat × Value)) (hlv : lv_args 0 av = lv0)
    (hy : plainName y.cls = true) (hw : ws = .code y cc maxL (some .int) :: ws') (hen : (lg_sl av).length ≤ maxL) (hWW : ∀ u u' : S, (WW u).map (fun q => q.1) = (WW u').map (fun q => q.1))
    (body : ∀ x : zT, Cx x cc maxL ws y.cls d → Kx x tys → zl x = l → zG x = D → (∀ u : S, va_D (zA x) (WW u)) → Ex x sa sv → (∀ (z : Int) (u' : S) (lv : List (Nat × Value)) (pc : Nat), post z u' → decode cc pc = .ok (.ireturn, 1) → Z x 0 0 (WW u') lv pc [.int (zI z)]) → Z x 0 0 (WW u) lv0 0 []) : ZE l D sa sv tys WW y ws d av u rI post := by
  intro sz
  refine Met.ofW (cc := cc) (maxL := maxL) (ret := (some .int)) hy hw ?_
  intro p e s m args below meth c s₁ B hml hv
  obtain ⟨rfl, ⟨hsz, hP, hK, hD0⟩, hE⟩ := hv
  have hx := B.exec
  have hb := B.bytes
  have hr := B.returns
  have hts := atoms_spec (ws := ws) B.pre
  have hown : s.vm.findClass y.cls = some m.cls := findClass_of_methodNamed B.named
  have hlocks := B.notSynchronized
  subst hsz
  have hD := hD0.self (sz := s.heap.size)
  rw [lg_entry_eq]
  have hl := lv_entry av (n := maxL) hen
  rw [hlv] at hl
  refine body (p, l, e, zR d, s, m, av.toArray, below, meth, c, va_A (WW u) s.heap.size, s.heap, D, MQ below (ZQ D WW rI post (va_A (WW u) s.heap.size)) av.toArray s 0 0 (va_A (WW u) s.heap.size)) ⟨hx, hb, hml, hown, hts, ⟨Nat.le_refl _, Nat.le_refl _⟩, fun q h => Or.inr h⟩ hK rfl rfl (fun u' => va_D.addr (hWW u u') hD) ⟨rfl, hE⟩ ?_ s.heap [] _ hP va_S.rf (hml.symm ▸ hl)
  intro z u' lv pc hpost hd H locs ls hP' hS' hl'
  exact W.iret (v := zI z) hx hb hr (fun t ht hW => ⟨⟨z, u', rfl, hpost, by rw [ht]; exact hP'⟩, hS'.F ht⟩) hS'.2.2 hd
theorem ZE.ofT (ty : FieldType) {S : Type} {l : Launch} {D : va_G} {sa sv : Nat → Nat} {tys : List (ClassId × FieldType)} {WW : S → va_W} {y : MethodName} {ws ws' : List Cond} {d : Nat} {av : List Value} {u : S} {post : Int → S → Prop} {cc : ByteArray} {maxL : Nat} (lv0 : List (Nat × Value)) (hlv : lv_args 0 av = lv0)
    (hy : plainName y.cls = true) (hw : ws = .code y cc maxL (some ty) :: ws') (hen : (lg_sl av).length ≤ maxL) (hWW : ∀ u u' : S, (WW u).map (fun q => q.1) = (WW u').map (fun q => q.1))
    (body : ∀ x : zT, Cx x cc maxL ws y.cls d → Kx x tys → zl x = l → zG x = D → (∀ u : S, va_D (zA x) (WW u)) → Ex x sa sv → (∀ (z : Int) (u' : S) (lv : List (Nat × Value)) (pc : Nat), post z u' → narrow ty (.int (zI z)) = .int (zI z) → decode cc pc = .ok (.ireturn, 1) → Z x 0 0 (WW u') lv pc [.int (zI z)]) → Z x 0 0 (WW u) lv0 0 []) : ZE l D sa sv tys WW y ws d av u rI post := by
  intro sz
  refine Met.ofW (cc := cc) (maxL := maxL) (ret := (some ty)) hy hw ?_
  intro p e s m args below meth c s₁ B hml hv
  obtain ⟨rfl, ⟨hsz, hP, hK, hD0⟩, hE⟩ := hv
  have hx := B.exec
  have hb := B.bytes
  have hr := B.returns
  have hts := atoms_spec (ws := ws) B.pre
  have hown : s.vm.findClass y.cls = some m.cls := findClass_of_methodNamed B.named
  have hlocks := B.notSynchronized
  subst hsz
  have hD := hD0.self (sz := s.heap.size)
  rw [lg_entry_eq]
  have hl := lv_entry av (n := maxL) hen
  rw [hlv] at hl
  refine body (p, l, e, zR d, s, m, av.toArray, below, meth, c, va_A (WW u) s.heap.size, s.heap, D, MQ below (ZQ D WW rI post (va_A (WW u) s.heap.size)) av.toArray s 0 0 (va_A (WW u) s.heap.size)) ⟨hx, hb, hml, hown, hts, ⟨Nat.le_refl _, Nat.le_refl _⟩, fun q h => Or.inr h⟩ hK rfl rfl (fun u' => va_D.addr (hWW u u') hD) ⟨rfl, hE⟩ ?_ s.heap [] _ hP va_S.rf (hml.symm ▸ hl)
  intro z u' lv pc hpost hn hd H locs ls hP' hS' hl'
  exact W.zret (v := zI z) hx hb hr hn (fun t ht hW => ⟨⟨z, u', rfl, hpost, by rw [ht]; exact hP'⟩, hS'.F ht⟩) hS'.2.2 hd
theorem ZE.ofZ {S : Type} {l : Launch} {D : va_G} {sa sv : Nat → Nat} {tys : List (ClassId × FieldType)} {WW : S → va_W} {y : MethodName} {ws ws' : List Cond} {d : Nat} {av : List Value} {u : S} {post : Int → S → Prop} {cc : ByteArray} {maxL : Nat} (lv0 : List (Nat × Value)) (hlv : lv_args 0 av = lv0)
    (hy : plainName y.cls = true) (hw : ws = .code y cc maxL (some .boolean) :: ws') (hen : (lg_sl av).length ≤ maxL) (hWW : ∀ u u' : S, (WW u).map (fun q => q.1) = (WW u').map (fun q => q.1))
    (body : ∀ x : zT, Cx x cc maxL ws y.cls d → Kx x tys → zl x = l → zG x = D → (∀ u : S, va_D (zA x) (WW u)) → Ex x sa sv → (∀ (z : Int) (u' : S) (lv : List (Nat × Value)) (pc : Nat), post z u' → z = 0 ∨ z = 1 → decode cc pc = .ok (.ireturn, 1) → Z x 0 0 (WW u') lv pc [.int (zI z)]) → Z x 0 0 (WW u) lv0 0 []) : ZE l D sa sv tys WW y ws d av u rI post :=
  ZE.ofT .boolean lv0 hlv hy hw hen hWW (fun x C hK a b hDD hE kret => body x C hK a b hDD hE (fun z u' lv pc hp hz hd => kret z u' lv pc hp (narrow_zI_bool hz) hd))
theorem ZE.ofV {S : Type} {l : Launch} {D : va_G} {sa sv : Nat → Nat} {tys : List (ClassId × FieldType)} {WW : S → va_W} {y : MethodName} {ws ws' : List Cond} {d : Nat} {av : List Value} {u : S} {post : Int → S → Prop} {cc : ByteArray} {maxL : Nat} (lv0 : List (Nat × Value)) (hlv : lv_args 0 av = lv0)
    (hy : plainName y.cls = true) (hw : ws = .code y cc maxL none :: ws') (hen : (lg_sl av).length ≤ maxL) (hWW : ∀ u u' : S, (WW u).map (fun q => q.1) = (WW u').map (fun q => q.1))
    (body : ∀ x : zT, Cx x cc maxL ws y.cls d → Kx x tys → zl x = l → zG x = D → (∀ u : S, va_D (zA x) (WW u)) → Ex x sa sv → (∀ (z : Int) (u' : S) (lv : List (Nat × Value)) (pc : Nat), post z u' → decode cc pc = .ok (.return_, 1) → Z x 0 0 (WW u') lv pc []) → Z x 0 0 (WW u) lv0 0 []) : ZE l D sa sv tys WW y ws d av u rV post := by
  intro sz
  refine Met.ofW (cc := cc) (maxL := maxL) (ret := none) hy hw ?_
  intro p e s m args below meth c s₁ B hml hv
  obtain ⟨rfl, ⟨hsz, hP, hK, hD0⟩, hE⟩ := hv
  have hx := B.exec
  have hb := B.bytes
  have hr := B.returns
  have hts := atoms_spec (ws := ws) B.pre
  have hown : s.vm.findClass y.cls = some m.cls := findClass_of_methodNamed B.named
  have hlocks := B.notSynchronized
  subst hsz
  have hD := hD0.self (sz := s.heap.size)
  rw [lg_entry_eq]
  have hl := lv_entry av (n := maxL) hen
  rw [hlv] at hl
  refine body (p, l, e, zR d, s, m, av.toArray, below, meth, c, va_A (WW u) s.heap.size, s.heap, D, MQ below (ZQ D WW rV post (va_A (WW u) s.heap.size)) av.toArray s 0 0 (va_A (WW u) s.heap.size)) ⟨hx, hb, hml, hown, hts, ⟨Nat.le_refl _, Nat.le_refl _⟩, fun q h => Or.inr h⟩ hK rfl rfl (fun u' => va_D.addr (hWW u u') hD) ⟨rfl, hE⟩ ?_ s.heap [] _ hP va_S.rf (hml.symm ▸ hl)
  intro z u' lv pc hpost hd H locs ls hP' hS' hl'
  exact W.vret hx hb hr (fun t ht hW => ⟨⟨z, u', rfl, hpost, by rw [ht]; exact hP'⟩, hS'.F ht⟩) hS'.2.2 hd
theorem zblindE {S : Type} {sa sv : Nat → Nat} {D : va_G} {tys : List (ClassId × FieldType)} {WW : S → va_W} {u : S} {sz : Nat} {av : List Value} : FrameBlind (va_Pc av (fun U => ZP D tys WW u sz U ∧ EE sa sv (va_A (WW u) sz) U U.heap)) := fun _ _ _ _ q => ⟨q.1, ⟨q.2.1.1, q.2.1.2.1, q.2.1.2.2.1.calling, q.2.1.2.2.2⟩, q.2.2.calling⟩
section ZEC
variable {x : zT} {sa sv : Nat → Nat} {lv : List (Nat × Value)} {pc : Nat} {st : List Value} {cc : ByteArray} {nL : Nat} {Ts : List Cond} {own : String} {d : Nat} {tys : List (ClassId × FieldType)} {S : Type} {WW : S → va_W} {u : S} {index maxL dd n : Nat} {y : MethodName} {bytes : ByteArray} {ret : Option FieldType} {wsy ws' : List Cond} {b : Nat} {As : List Value} {rv : Int → Option Value} {post : Int → S → Prop}
theorem z_callVE (C : Cx x cc nL Ts own d) (hK : Kx x tys) (hE : Ex x sa sv) (hDD : ∀ u : S, va_D (zA x) (WW u)) (hM : ZE (zl x) (zG x) sa sv tys WW y wsy dd (.ref b :: As) u rv post) (hG : GoodIn Ts (wsV own index y.cls y wsy)) (hw : wsy = .code y bytes maxL ret :: ws') (hy : zY y n) {T : u_T} {N ci : Nat} {fs : List Value} (q0 : Nat) (he : (WW u)[q0]? = some (b, .inr (ci, fs))) (hc : vwCl[ci]? = some (y.cls, T, N)) (hr : dd + 1 ≤ d ∧ maxL ≤ 20) (hn : As.length = n) (hcat : (st.map fun v => v.category).sum ≤ 8) {stk : List Value} {stk2 : Int → List Value} (hst : stk = As.reverse ++ .ref b :: st) (hrv : ∀ z : Int, (rv z).toList ++ st = stk2 z) (hd : decode cc pc = .ok (.invokevirtual index, 3))
    (kk : ∀ (z : Int) (u2 : S), post z u2 → Z x 0 0 (WW u2) lv (pc + 3) (stk2 z)) : Z x 0 0 (WW u) lv pc stk := by
  obtain ⟨p, l, e, R, s, m, args, below, meth, c, A, H0, D, Q⟩ := x
  obtain ⟨hx, hb, hml, hown, hts, hR, hA⟩ := C
  replace hK : KK D tys s := hK
  replace hDD : ∀ u : S, va_D A (WW u) := hDD
  replace hM : ZE l D sa sv tys WW y wsy dd (.ref b :: As) u rv post := hM
  obtain ⟨e0, hE⟩ := hE
  subst e0
  intro H locs ls hP hS hl
  refine zrun (va_runV ⟨hx, hb, hml, hown, hts⟩ (hM H.size) (cwV n hts hG hw rfl rfl ⟨rfl, hy⟩ ⟨by have := hr.1; show dd + 1 ≤ R.frames; omega, by have := hr.1; show 8 + (maxL + 11) + 40 * dd ≤ R.locals; omega⟩) ⟨zblindE, va_recv hK.1 hP hc he, fun U hU hW => ⟨rfl, ⟨by rw [hU], by rw [hU]; exact hP, KK.warm hW hK, (hDD u).weaken (fun _ _ _ _ => trivial)⟩, EE.go hW hE hS hU (zfree (hDD u) hS hA)⟩⟩ rfl hn (hl.1.trans hml) hst (lv_room hcat) hd ⟨Nat.zero_le _, Nat.zero_le _⟩) hS (fun q _ h => zfree (hDD u) hS hA q h) (zfree (hDD u) hS hA) (fun z u2 H1 locs1 hp hP1 _ _ hS1 => by rw [hrv z]; exact kk z u2 hp H1 locs1 ls hP1 hS1 hl)
theorem z_callVNE (C : Cx x cc nL Ts own d) (hK : Kx x tys) (hE : Ex x sa sv) (hDD : ∀ u : S, va_D (zA x) (WW u)) (hM : ZE (zl x) (zG x) sa sv tys WW y wsy dd (.ref b :: As) u rv post) (hG : GoodIn Ts wsy) {host : String} (hlk : (own, index, y, host) ∈ zNM) (hi : Cond.initialized y.cls ∈ Ts) (hin : Cond.instanceMethod y ∈ Ts) (hse : Cond.selects y.cls y y ∈ Ts) (hw : wsy = .code y bytes maxL ret :: ws') (hy : zY y n) {T : u_T} {N ci : Nat} {fs : List Value} (q0 : Nat) (he : (WW u)[q0]? = some (b, .inr (ci, fs))) (hc : vwCl[ci]? = some (y.cls, T, N)) (hr : dd + 1 ≤ d ∧ maxL ≤ 20) (hn : As.length = n) (hcat : (st.map fun v => v.category).sum ≤ 8) {stk : List Value} {stk2 : Int → List Value} (hst : stk = As.reverse ++ .ref b :: st) (hrv : ∀ z : Int, (rv z).toList ++ st = stk2 z) (hd : decode cc pc = .ok (.invokevirtual index, 3))
    (kk : ∀ (z : Int) (u2 : S), post z u2 → Z x 0 0 (WW u2) lv (pc + 3) (stk2 z)) : Z x 0 0 (WW u) lv pc stk := by
  obtain ⟨p, l, e, R, s, m, args, below, meth, c, A, H0, D, Q⟩ := x
  obtain ⟨hx, hb, hml, hown, hts, hR, hA⟩ := C
  replace hK : KK D tys s := hK
  replace hDD : ∀ u : S, va_D A (WW u) := hDD
  replace hM : ZE l D sa sv tys WW y wsy dd (.ref b :: As) u rv post := hM
  obtain ⟨e0, hE⟩ := hE
  subst e0
  intro H locs ls hP hS hl
  refine zrun (va_runVN ⟨hx, hb, hml, hown, hts⟩ (hM H.size) ⟨va_cnB n hts hG hw rfl rfl (hK.2.2 _ hlk) (hts _ hi) hy ⟨by have := hr.1; show dd + 1 ≤ R.frames; omega, by have := hr.1; show 8 + (maxL + 11) + 40 * dd ≤ R.locals; omega⟩, hts _ hin, hts _ hse⟩ ⟨zblindE, va_recv hK.1 hP hc he, fun U hU hW => ⟨rfl, ⟨by rw [hU], by rw [hU]; exact hP, KK.warm hW hK, (hDD u).weaken (fun _ _ _ _ => trivial)⟩, EE.go hW hE hS hU (zfree (hDD u) hS hA)⟩⟩ rfl hn (hl.1.trans hml) hst (lv_room hcat) hd ⟨Nat.zero_le _, Nat.zero_le _⟩) hS (fun q _ h => zfree (hDD u) hS hA q h) (zfree (hDD u) hS hA) (fun z u2 H1 locs1 hp hP1 _ _ hS1 => by rw [hrv z]; exact kk z u2 hp H1 locs1 ls hP1 hS1 hl)
theorem z_callVS (C : Cx x cc nL Ts own d) (hK : Kx x tys) (hE : Ex x sa sv) (hDD : ∀ u : S, va_D (zA x) (WW u)) {i : Nat} (hM : ZE (zl x) (zG x) sa sv tys WW y wsy dd (.ref (sa i) :: As) u rv post) (hG : GoodIn Ts (wsV own index y.cls y wsy)) (hw : wsy = .code y bytes maxL ret :: ws') (hy : zY y n) (hi : i < 5) (hyc : y.cls = "java/lang/String") (hr : dd + 1 ≤ d ∧ maxL ≤ 20) (hn : As.length = n) (hcat : (st.map fun v => v.category).sum ≤ 8) {stk : List Value} {stk2 : Int → List Value} (hst : stk = As.reverse ++ .ref (sa i) :: st) (hrv : ∀ z : Int, (rv z).toList ++ st = stk2 z) (hd : decode cc pc = .ok (.invokevirtual index, 3))
    (kk : ∀ (z : Int) (u2 : S), post z u2 → Z x 0 0 (WW u2) lv (pc + 3) (stk2 z)) : Z x 0 0 (WW u) lv pc stk := by
  obtain ⟨p, l, e, R, s, m, args, below, meth, c, A, H0, D, Q⟩ := x
  obtain ⟨hx, hb, hml, hown, hts, hR, hA⟩ := C
  replace hK : KK D tys s := hK
  replace hDD : ∀ u : S, va_D A (WW u) := hDD
  replace hM : ZE l D sa sv tys WW y wsy dd (.ref (sa i) :: As) u rv post := hM
  obtain ⟨e0, hE⟩ := hE
  subst e0
  intro H locs ls hP hS hl
  refine zrun (va_runV ⟨hx, hb, hml, hown, hts⟩ (hM H.size) (cwV n hts hG hw rfl rfl ⟨rfl, hy⟩ ⟨by have := hr.1; show dd + 1 ≤ R.frames; omega, by have := hr.1; show 8 + (maxL + 11) + 40 * dd ≤ R.locals; omega⟩) ⟨zblindE, by rw [hyc]; exact vk_recv hE.2.1 hi hS, fun U hU hW => ⟨rfl, ⟨by rw [hU], by rw [hU]; exact hP, KK.warm hW hK, (hDD u).weaken (fun _ _ _ _ => trivial)⟩, EE.go hW hE hS hU (zfree (hDD u) hS hA)⟩⟩ rfl hn (hl.1.trans hml) hst (lv_room hcat) hd ⟨Nat.zero_le _, Nat.zero_le _⟩) hS (fun q _ h => zfree (hDD u) hS hA q h) (zfree (hDD u) hS hA) (fun z u2 H1 locs1 hp hP1 _ _ hS1 => by rw [hrv z]; exact kk z u2 hp H1 locs1 ls hP1 hS1 hl)
theorem z_callJE (C : Cx x cc nL Ts own d) (hK : Kx x tys) (hE : Ex x sa sv) (hDD : ∀ u : S, va_D (zA x) (WW u)) (hM : ZE (zl x) (zG x) sa sv tys WW y wsy dd As u rv post) (hG : GoodIn Ts (va_wsS own index y wsy)) (hw : wsy = .code y bytes maxL ret :: ws') (hy : zY y n) (hr : dd + 1 ≤ d ∧ maxL ≤ 20) (hn : As.length = n) (hcat : (st.map fun v => v.category).sum ≤ 8) {stk : List Value} {stk2 : Int → List Value} (hst : stk = As.reverse ++ st) (hrv : ∀ z : Int, (rv z).toList ++ st = stk2 z) (hd : decode cc pc = .ok (.invokestatic index, 3))
    (kk : ∀ (z : Int) (u2 : S), post z u2 → Z x 0 0 (WW u2) lv (pc + 3) (stk2 z)) : Z x 0 0 (WW u) lv pc stk := by
  obtain ⟨p, l, e, R, s, m, args, below, meth, c, A, H0, D, Q⟩ := x
  obtain ⟨hx, hb, hml, hown, hts, hR, hA⟩ := C
  replace hK : KK D tys s := hK
  replace hDD : ∀ u : S, va_D A (WW u) := hDD
  replace hM : ZE l D sa sv tys WW y wsy dd As u rv post := hM
  obtain ⟨e0, hE⟩ := hE
  subst e0
  intro H locs ls hP hS hl
  refine zrun (va_runS ⟨hx, hb, hml, hown, hts⟩ (hM H.size) (va_cwS n hts hG hw rfl rfl hy ⟨by have := hr.1; show dd + 1 ≤ R.frames; omega, by have := hr.1; show 8 + (maxL + 11) + 40 * dd ≤ R.locals; omega⟩) ⟨zblindE, fun U hU hW => ⟨rfl, ⟨by rw [hU], by rw [hU]; exact hP, KK.warm hW hK, (hDD u).weaken (fun _ _ _ _ => trivial)⟩, EE.go hW hE hS hU (zfree (hDD u) hS hA)⟩⟩ rfl hn (hl.1.trans hml) hst (lv_room hcat) hd ⟨Nat.zero_le _, Nat.zero_le _⟩) hS (fun q _ h => zfree (hDD u) hS hA q h) (zfree (hDD u) hS hA) (fun z u2 H1 locs1 hp hP1 _ _ hS1 => by rw [hrv z]; exact kk z u2 hp H1 locs1 ls hP1 hS1 hl)
variable {k n0 : Nat} {ws : va_W}
theorem z_getsE (C : Cx x cc nL Ts own d) (hE : Ex x sa sv) {C0 n1 d0 : String} {v : Value} (hZ : ∀ (A : Nat → Prop) (s : State), EE sa sv A s s.heap → va_Z C0 n1 d0 v A s s.heap) (hlk : Cond.fieldLink own index C0 n1 d0 ∈ Ts) (hd : decode cc pc = .ok (.getstatic index, 3))
    (kk : Z x k n0 ws lv (pc + 3) (v :: st)) : Z x k n0 ws lv pc st := by
  obtain ⟨p, l, e, R, s, m, args, below, meth, c, A, H0, D, Q⟩ := x
  obtain ⟨hx, hb, hml, hown, hts, hR, hA⟩ := C
  obtain ⟨e0, hE⟩ := hE
  subst e0
  intro H locs ls hP hS hl
  exact va_gets hx hb (hZ A s hE) hS hown (hts _ hlk) (fun _ h => h) hd (kk H locs ls hP hS hl)
/-- a static that holds a reference or null -/
theorem z_getsQ (C : Cx x cc nL Ts own d) (hE : Ex x sa sv) {C0 n1 d0 : String} (hZ : ∀ (A : Nat → Prop) (s : State), EE sa sv A s s.heap → va_Zq C0 n1 d0 A s s.heap) (hlk : Cond.fieldLink own index C0 n1 d0 ∈ Ts) (hd : decode cc pc = .ok (.getstatic index, 3))
    (kk : ∀ v : Value, (v = .null ∨ ∃ t : Nat, v = .ref t) → Z x k n0 ws lv (pc + 3) (v :: st)) : Z x k n0 ws lv pc st := by
  obtain ⟨p, l, e, R, s, m, args, below, meth, c, A, H0, D, Q⟩ := x
  obtain ⟨hx, hb, hml, hown, hts, hR, hA⟩ := C
  obtain ⟨e0, hE⟩ := hE
  subst e0
  intro H locs ls hP hS hl
  rcases hZ A s hE with h | ⟨t, h⟩
  · exact va_gets hx hb h hS hown (hts _ hlk) (fun _ h => h) hd (kk _ (Or.inl rfl) H locs ls hP hS hl)
  · exact va_gets hx hb h hS hown (hts _ hlk) (fun _ h => h) hd (kk _ (Or.inr ⟨t, rfl⟩) H locs ls hP hS hl)
theorem z_getfE (C : Cx x cc nL Ts own d) (hE : Ex x sa sv) {o n1 d0 : String} {v : Value} {q : Nat} (hZ : ∀ (A : Nat → Prop) (s : State), EE sa sv A s s.heap → va_OF o n1 d0 v q A s s.heap) (hlk : Cond.fieldLink own index o n1 d0 ∈ Ts) (hd : decode cc pc = .ok (.getfield index, 3))
    (kk : Z x k n0 ws lv (pc + 3) (v :: st)) : Z x k n0 ws lv pc (.ref q :: st) := by
  obtain ⟨p, l, e, R, s, m, args, below, meth, c, A, H0, D, Q⟩ := x
  obtain ⟨hx, hb, hml, hown, hts, hR, hA⟩ := C
  obtain ⟨e0, hE⟩ := hE
  subst e0
  intro H locs ls hP hS hl
  exact vk_getf hx hb (hZ A s hE) hS hown (hts _ hlk) (fun _ h => h) hd (kk H locs ls hP hS hl)
theorem z_alenE (C : Cx x cc nL Ts own d) (hE : Ex x sa sv) {i : Nat} (hi : i < 5) (hd : decode cc pc = .ok (.arraylength, 1))
    (kk : Z x k n0 ws lv (pc + 1) (.int (zI (sLn i)) :: st)) : Z x k n0 ws lv pc (.ref (sv i) :: st) := by
  obtain ⟨p, l, e, R, s, m, args, below, meth, c, A, H0, D, Q⟩ := x
  obtain ⟨hx, hb, hml, hown, hts, hR, hA⟩ := C
  obtain ⟨e0, hE⟩ := hE
  subst e0
  intro H locs ls hP hS hl
  exact va_tlen hx hb (hE.2.1.1 i hi).2.2.2 hS (sLn_nI hi) hd (kk H locs ls hP hS hl)
theorem z_baldE (C : Cx x cc nL Ts own d) (hE : Ex x sa sv) {i : Nat} (hi : i < 5) {q : Int} (h0 : 0 ≤ q) (h1 : q < sLn i) (hd : decode cc pc = .ok (.baload, 1))
    (kk : Z x k n0 ws lv (pc + 1) (.int (zI (sCh i q)) :: st)) : Z x k n0 ws lv pc (.int (zI q) :: .ref (sv i) :: st) := by
  obtain ⟨p, l, e, R, s, m, args, below, meth, c, A, H0, D, Q⟩ := x
  obtain ⟨hx, hb, hml, hown, hts, hR, hA⟩ := C
  obtain ⟨e0, hE⟩ := hE
  subst e0
  intro H locs ls hP hS hl
  have h2 := sLn_bd hi
  have h3 := (sCh_all hi h0 h1).2.1
  refine va_tb hx hb (hE.2.1.1 i hi).2.2.2 hS (zI_in (n := sLen.getD i 0) ⟨h0, h1⟩ (by have h4 : ((sLen.getD i 0 : Nat) : Int) ≤ 5 := h2.2; omega)) (v := .int (zI (sCh i q))) ?_ hd (kk H locs ls hP hS hl)
  rw [zI_clamp h0 (by omega)]
  show Value.int ((sByt.getD i []).getD q.toNat 0) = _
  rw [h3]
theorem z_ldcS (C : Cx x cc nL Ts own d) (hE : Ex x sa sv) {i : Nat} (hi : i < 5) (hown5 : own = RX5) (hix : sIx.getD i 0 = index) (hd : decode cc pc = .ok (.ldc index, 2))
    (kk : Z x k n0 ws lv (pc + 2) (.ref (sa i) :: st)) : Z x k n0 ws lv pc st := by
  obtain ⟨p, l, e, R, s, m, args, below, meth, c, A, H0, D, Q⟩ := x
  obtain ⟨hx, hb, hml, hown, hts, hR, hA⟩ := C
  obtain ⟨e0, hE⟩ := hE
  subst e0 hown5 hix
  intro H locs ls hP hS hl
  exact va_ldcS hx hb hown (hE.1 i hi) hd (kk H locs ls hP hS hl)
theorem z_i2c (C : Cx x cc nL Ts own d) {a b : Int} (hv : ((zI a).toUInt32 % 65536).toInt32 = zI b) (hd : decode cc pc = .ok (.i2c, 1))
    (kk : Z x k n0 ws lv (pc + 1) (.int (zI b) :: st)) : Z x k n0 ws lv pc (.int (zI a) :: st) := by
  obtain ⟨p, l, e, R, s, m, args, below, meth, c, A, H0, D, Q⟩ := x
  obtain ⟨hx, hb, hml, hown, hts, hR, hA⟩ := C
  intro H locs ls hP hS hl
  exact lv_i2c hx hb hd hv (kk H locs ls hP hS hl)
end ZEC
