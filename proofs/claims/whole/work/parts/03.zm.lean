/-! ===== the nest links of the system, by number ===== -/
def zNF : List (String × Nat × String × String × String × String) := [("NoteBells", 119, "NoteBells$Now", "pitch", "[I", "NoteBells"), ("NoteBells", 123, "NoteBells$Told", "wear", "[I", "NoteBells"), ("NoteBells", 126, "NoteBells$Told", "echo", "[I", "NoteBells"), ("NoteBells", 136, "NoteBells$Now", "stands", "[I", "NoteBells"), ("NoteBells", 143, "NoteBells$Now", "wetness", "I", "NoteBells"), ("NoteBells", 158, "NoteBells$Now", "ropeEnd", "I", "NoteBells"), ("NoteBells", 164, "NoteBells$Now", "yearNumber", "I", "NoteBells"), ("NoteBells", 167, "NoteBells$Told", "levels", "I", "NoteBells"), ("NoteBells", 174, "NoteBells$Now", "notes", "I", "NoteBells"), ("NoteBells", 177, "NoteBells$Now", "minuteOf", "[I", "NoteBells"), ("NoteBells", 180, "NoteBells$Now", "noteOf", "[I", "NoteBells"), ("NoteBells", 207, "NoteBells$Now", "sung", "I", "NoteBells"), ("NoteBells", 210, "NoteBells$Now", "hymn", "[I", "NoteBells"), ("NoteBells", 225, "NoteBells$Told", "people", "I", "NoteBells"), ("NoteBells", 228, "NoteBells$Told", "ear", "I", "NoteBells"), ("NoteBells", 231, "NoteBells$Told", "pace", "I", "NoteBells"), ("NoteBells", 234, "NoteBells$Text", "length", "I", "NoteBells"), ("NoteBells", 237, "NoteBells$Kinds", "traceSum", "J", "NoteBells"), ("NoteBells$HymnPlan", 49, "NoteBells$Told", "people", "I", "NoteBells"), ("NoteBells$HymnPlan", 63, "NoteBells$Now", "sung", "I", "NoteBells"), ("NoteBells$HymnPlan", 68, "NoteBells$Now", "hymn", "[I", "NoteBells"), ("NoteBells$HymnPlan", 101, "NoteBells$Now", "stands", "[I", "NoteBells"), ("NoteBells$Kinds", 43, "NoteBells$Now", "pitch", "[I", "NoteBells"), ("NoteBells$Kinds", 51, "NoteBells$Told", "echo", "[I", "NoteBells"), ("NoteBells$Kinds", 58, "NoteBells$Now", "wetness", "I", "NoteBells"), ("NoteBells$Kinds", 71, "NoteBells$Told", "people", "I", "NoteBells"), ("NoteBells$Kinds", 74, "NoteBells$Now", "stands", "[I", "NoteBells"), ("NoteBells$Now", 31, "NoteBells$Told", "pitch", "[I", "NoteBells"), ("NoteBells$Now", 40, "NoteBells$Told", "stands", "[I", "NoteBells"), ("NoteBells$Now", 44, "NoteBells$Told", "wetness", "I", "NoteBells"), ("NoteBells$OneMan", 30, "NoteBells$Now", "notes", "I", "NoteBells"), ("NoteBells$OneMan", 36, "NoteBells$Now", "noteOf", "[I", "NoteBells"), ("NoteBells$OneMan", 67, "NoteBells$Told", "pace", "I", "NoteBells"), ("NoteBells$OneMan", 72, "NoteBells$Now", "minuteOf", "[I", "NoteBells"), ("NoteBells$Pluckers", 37, "NoteBells$Now", "notes", "I", "NoteBells"), ("NoteBells$Pluckers", 43, "NoteBells$Now", "noteOf", "[I", "NoteBells"), ("NoteBells$Pluckers", 71, "NoteBells$Now", "minuteOf", "[I", "NoteBells"), ("NoteBells$Pluckers", 81, "NoteBells$Told", "pace", "I", "NoteBells"), ("NoteBells$Reader", 73, "NoteBells$Told", "levels", "I", "NoteBells"), ("NoteBells$Reader", 80, "NoteBells$Told", "pitch", "[I", "NoteBells"), ("NoteBells$Reader", 83, "NoteBells$Told", "wear", "[I", "NoteBells"), ("NoteBells$Reader", 86, "NoteBells$Told", "echo", "[I", "NoteBells"), ("NoteBells$Reader", 92, "NoteBells$Told", "people", "I", "NoteBells"), ("NoteBells$Reader", 95, "NoteBells$Told", "stands", "[I", "NoteBells"), ("NoteBells$Reader", 98, "NoteBells$Told", "ear", "I", "NoteBells"), ("NoteBells$Reader", 101, "NoteBells$Told", "wetness", "I", "NoteBells"), ("NoteBells$Reader", 104, "NoteBells$Told", "pace", "I", "NoteBells"), ("NoteBells$Reader", 111, "NoteBells$Text", "length", "I", "NoteBells"), ("NoteBells$Reader", 116, "NoteBells$Text", "bytes", "[I", "NoteBells"), ("NoteBells$Sounds", 17, "NoteBells$Now", "pitch", "[I", "NoteBells"), ("NoteBells$Sounds", 23, "NoteBells$Now", "wetness", "I", "NoteBells"), ("NoteBells$Sounds", 33, "NoteBells$Told", "levels", "I", "NoteBells"), ("NoteBells$Sounds", 47, "NoteBells$Told", "ear", "I", "NoteBells"), ("NoteBells$Tuning", 26, "NoteBells$Told", "levels", "I", "NoteBells"), ("NoteBells$Tuning", 46, "NoteBells$Now", "pitch", "[I", "NoteBells"), ("NoteBells$Tuning", 64, "NoteBells$Told", "ear", "I", "NoteBells"), ("NoteBells$Tuning", 67, "NoteBells$Told", "wear", "[I", "NoteBells"), ("NoteBells$Tuning", 73, "NoteBells$Now", "wetness", "I", "NoteBells")]
def zNM : List (String × Nat × MethodName × String) := [("NoteBells", 9, ⟨"NoteBells$Text", "<init>", "()V"⟩, "NoteBells"), ("NoteBells", 18, ⟨"NoteBells$Told", "<init>", "()V"⟩, "NoteBells"), ("NoteBells", 28, ⟨"NoteBells$Reader", "<init>", "(LNoteBells$Text;LNoteBells$Told;)V"⟩, "NoteBells"), ("NoteBells", 37, ⟨"NoteBells$Now", "<init>", "()V"⟩, "NoteBells"), ("NoteBells", 52, ⟨"NoteBells$Sounds", "<init>", "(LNoteBells$Told;LNoteBells$Now;)V"⟩, "NoteBells"), ("NoteBells", 61, ⟨"NoteBells$OneMan", "<init>", "(LNoteBells$Told;LNoteBells$Now;LNoteBells$Sounds;)V"⟩, "NoteBells"), ("NoteBells", 70, ⟨"NoteBells$Pluckers", "<init>", "(LNoteBells$Told;LNoteBells$Now;LNoteBells$Sounds;)V"⟩, "NoteBells"), ("NoteBells", 77, ⟨"NoteBells$Tuning", "<init>", "(LNoteBells$Told;LNoteBells$Now;)V"⟩, "NoteBells"), ("NoteBells", 84, ⟨"NoteBells$HymnPlan", "<init>", "(LNoteBells$Told;LNoteBells$Now;LNoteBells$Sounds;)V"⟩, "NoteBells"), ("NoteBells", 91, ⟨"NoteBells$Kinds", "<init>", "(LNoteBells$Told;LNoteBells$Now;)V"⟩, "NoteBells"), ("NoteBells", 96, ⟨"NoteBells$Text", "append", "(JI)I"⟩, "NoteBells"), ("NoteBells", 100, ⟨"NoteBells$Text", "drop", "()I"⟩, "NoteBells"), ("NoteBells", 104, ⟨"NoteBells$Reader", "read", "()I"⟩, "NoteBells"), ("NoteBells", 107, ⟨"NoteBells$Told", "copyFrom", "(LNoteBells$Told;)V"⟩, "NoteBells"), ("NoteBells", 111, ⟨"NoteBells$Now", "begin", "(LNoteBells$Told;)V"⟩, "NoteBells"), ("NoteBells", 129, ⟨"NoteBells$Sounds", "soundOf", "(I)I"⟩, "NoteBells"), ("NoteBells", 147, ⟨"NoteBells$Sounds", "likeSound", "(I)I"⟩, "NoteBells"), ("NoteBells", 183, ⟨"NoteBells$OneMan", "countTracks", "()I"⟩, "NoteBells"), ("NoteBells", 186, ⟨"NoteBells$OneMan", "levelsBy", "(I)I"⟩, "NoteBells"), ("NoteBells", 189, ⟨"NoteBells$Pluckers", "fewest", "()I"⟩, "NoteBells"), ("NoteBells", 192, ⟨"NoteBells$Tuning", "largestSet", "()I"⟩, "NoteBells"), ("NoteBells", 200, ⟨"NoteBells$Tuning", "yearsToMeet", "(II)I"⟩, "NoteBells"), ("NoteBells", 204, ⟨"NoteBells$Tuning", "earliestPair", "()I"⟩, "NoteBells"), ("NoteBells", 213, ⟨"NoteBells$HymnPlan", "leastSteps", "()I"⟩, "NoteBells"), ("NoteBells", 216, ⟨"NoteBells$HymnPlan", "moveFor", "(I)I"⟩, "NoteBells"), ("NoteBells", 219, ⟨"NoteBells$Kinds", "markAs", "(II)I"⟩, "NoteBells"), ("NoteBells", 222, ⟨"NoteBells$Now", "copyFrom", "(LNoteBells$Now;)V"⟩, "NoteBells"), ("NoteBells$HymnPlan", 71, ⟨"NoteBells$Sounds", "likeSound", "(I)I"⟩, "NoteBells"), ("NoteBells$OneMan", 39, ⟨"NoteBells$Sounds", "likeSound", "(I)I"⟩, "NoteBells"), ("NoteBells$OneMan", 75, ⟨"NoteBells", "spread", "(II)I"⟩, "NoteBells"), ("NoteBells$Pluckers", 46, ⟨"NoteBells$Sounds", "likeSound", "(I)I"⟩, "NoteBells"), ("NoteBells$Pluckers", 52, ⟨"NoteBells$Told", "echoLevels", "()I"⟩, "NoteBells"), ("NoteBells$Pluckers", 84, ⟨"NoteBells", "spread", "(II)I"⟩, "NoteBells"), ("NoteBells$Reader", 32, ⟨"NoteBells$Told", "reset", "()V"⟩, "NoteBells"), ("NoteBells$Reader", 107, ⟨"NoteBells", "isWithin", "(III)Z"⟩, "NoteBells"), ("NoteBells$Sounds", 27, ⟨"NoteBells", "soundAt", "(III)I"⟩, "NoteBells"), ("NoteBells$Text", 15, ⟨"NoteBells", "isWithin", "(III)Z"⟩, "NoteBells"), ("NoteBells$Tuning", 55, ⟨"NoteBells", "soundAt", "(III)I"⟩, "NoteBells"), ("NoteBells$Tuning", 70, ⟨"NoteBells", "worn", "(III)I"⟩, "NoteBells")]
def NN (U : State) : Prop := (∀ q ∈ zNF, va_Nw (.fieldLinkNest q.1 q.2.1 q.2.2.1 q.2.2.2.1 q.2.2.2.2.1 q.2.2.2.2.2) U) ∧ ∀ q ∈ zNM, va_Nw (.methodLinkNest q.1 q.2.1 q.2.2.1 q.2.2.2) U
theorem NN.calling {U : State} {g : JFrame} {mk : MethodId} {a : Array Value} (h : NN U) : NN (U.calling g mk a) := ⟨fun q hq => va_Nw.same rfl rfl (h.1 q hq), fun q hq => va_Nw.same rfl rfl (h.2 q hq)⟩
theorem NN.warm {s U : State} (hW : s.WarmedH U.vm) (h : NN s) : NN U := ⟨fun q hq => va_Nw.warmF hW (h.1 q hq), fun q hq => va_Nw.warmM hW (h.2 q hq)⟩
/-- what is known of the tables: the kinds, the arrays' kinds, the nest links -/
def KK (D : va_G) (tys : List (ClassId × FieldType)) (U : State) : Prop := va_K D vwCl tys U ∧ NN U
theorem KK.calling {D : va_G} {tys : List (ClassId × FieldType)} {U : State} {g : JFrame} {mk : MethodId} {a : Array Value} (h : KK D tys U) : KK D tys (U.calling g mk a) := ⟨va_K.moved (u := U) (U := U.calling g mk a) (Vm.Alike.refl U.vm) h.1, h.2.calling⟩
theorem KK.warm {D : va_G} {tys : List (ClassId × FieldType)} {s U : State} (hW : s.WarmedH U.vm) (h : KK D tys s) : KK D tys U := ⟨va_K.moved hW.alike h.1, h.2.warm hW⟩
theorem va_D.addr {A : Nat → Prop} {ws ws' : va_W} (h : ws.map (fun q => q.1) = ws'.map (fun q => q.1)) (hD : va_D A ws) : va_D A ws' := by
  have g : ∀ (i : Nat) (p : Nat × va_E), ws'[i]? = some p → ∃ q : Nat × va_E, ws[i]? = some q ∧ q.1 = p.1 := by
    intro i p hp
    have h1 : (ws'.map (fun q => q.1))[i]? = some p.1 := by rw [List.getElem?_map, hp]; rfl
    rw [← h, List.getElem?_map] at h1
    cases hq : ws[i]? with
    | none => rw [hq] at h1; cases h1
    | some q => rw [hq] at h1; exact ⟨q, rfl, Option.some.inj h1⟩
  refine ⟨fun i j p q hi hj hpq => ?_, fun k q hk => ?_⟩
  · obtain ⟨p1, a1, b1⟩ := g i p hi
    obtain ⟨q1, a2, b2⟩ := g j q hj
    exact hD.1 i j p1 q1 a1 a2 (by rw [b1, b2]; exact hpq)
  · obtain ⟨q1, a1, b1⟩ := g k q hk
    rw [← b1]; exact hD.2 k q1 a1
def Kx (x : zT) (tys : List (ClassId × FieldType)) : Prop := KK (zG x) tys (zs x)
/-- a contract: from the world of u, with the arguments av, comes rv z with the world of u', and post z u' -/
def ZQ {S : Type} (D : va_G) (WW : S → va_W) (rv : Int → Option Value) (post : Int → S → Prop) (A : Nat → Prop) : Array Value → State → Outcome → State → Prop := fun _ st oc t => (∃ (z : Int) (u : S), oc = .returned (rv z) ∧ post z u ∧ va_P D vwCl (WW u) t.heap) ∧ va_F A st t
def ZP {S : Type} (D : va_G) (tys : List (ClassId × FieldType)) (WW : S → va_W) (u : S) (sz : Nat) : State → Prop := fun U => U.heap.size = sz ∧ va_P D vwCl (WW u) U.heap ∧ KK D tys U ∧ va_D (fun _ => True) (WW u)
def ZM {S : Type} (l : Launch) (D : va_G) (tys : List (ClassId × FieldType)) (WW : S → va_W) (y : MethodName) (ws : List Cond) (d : Nat) (av : List Value) (u : S) (rv : Int → Option Value) (post : Int → S → Prop) : Prop := ∀ sz : Nat, Met l y ws (zR d) (va_Pc av (ZP D tys WW u sz)) (ZQ D WW rv post (va_A (WW u) sz)) 0 0 (va_A (WW u) sz)
/-- a contract without a world -/
def ZS (l : Launch) (y : MethodName) (ws : List Cond) (d : Nat) (av : List Value) (rv : Int → Option Value) (post : Int → Prop) : Prop := Met l y ws (zR d) (va_Pc av (fun _ => True)) (fun _ st oc t => ∃ z : Int, oc = .returned (rv z) ∧ post z ∧ t.heap = st.heap) 0 0 (fun _ => False)
def rI (z : Int) : Option Value := some (.int (zI z))
def rL (z : Int) : Option Value := some (.long (zL z))
def rV (_ : Int) : Option Value := none
theorem narrow_zI_bool {z : Int} (h : z = 0 ∨ z = 1) : narrow .boolean (.int (zI z)) = .int (zI z) := by rcases h with rfl | rfl <;> rfl

theorem ZM.ofI {S : Type} {l : Launch} {D : va_G} {tys : List (ClassId × FieldType)} {WW : S → va_W} {y : MethodName} {ws ws' : List Cond} {d : Nat} {av : List Value} {u : S} {post : Int → S → Prop} {cc : ByteArray} {maxL : Nat} (lv0 : List (Nat × Value)) (hlv : lv_args 0 av = lv0)
    (hy : plainName y.cls = true) (hw : ws = .code y cc maxL (some .int) :: ws') (hen : (lg_sl av).length ≤ maxL) (hWW : ∀ u u' : S, (WW u).map (fun q => q.1) = (WW u').map (fun q => q.1))
    (body : ∀ x : zT, Cx x cc maxL ws y.cls d → Kx x tys → zl x = l → zG x = D → (∀ u : S, va_D (zA x) (WW u)) → (∀ (z : Int) (u' : S) (lv : List (Nat × Value)) (pc : Nat), post z u' → decode cc pc = .ok (.ireturn, 1) → Z x 0 0 (WW u') lv pc [.int (zI z)]) → Z x 0 0 (WW u) lv0 0 []) : ZM l D tys WW y ws d av u rI post := by
  intro sz
  refine Met.ofW (cc := cc) (maxL := maxL) (ret := (some .int)) hy hw ?_
  intro p e s m args below meth c s₁ B hml hv
  obtain ⟨rfl, hsz, hP, hK, hD0⟩ := hv
  have hx := B.exec
  have hb := B.bytes
  have hr := B.returns
  have hts := atoms_spec (ws := ws) B.pre
  have hown : s.vm.findClass y.cls = some m.cls := findClass_of_methodNamed B.named
  have hlocks := B.notSynchronized
  subst hsz
  have hD := hD0.self (sz := s.heap.size)
  rw [lg_entry_eq]
  have hl := lv_entry av (n := maxL) hen
  rw [hlv] at hl
  refine body (p, l, e, zR d, s, m, av.toArray, below, meth, c, va_A (WW u) s.heap.size, s.heap, D, MQ below (ZQ D WW rI post (va_A (WW u) s.heap.size)) av.toArray s 0 0 (va_A (WW u) s.heap.size)) ⟨hx, hb, hml, hown, hts, ⟨Nat.le_refl _, Nat.le_refl _⟩, fun q h => Or.inr h⟩ hK rfl rfl (fun u' => va_D.addr (hWW u u') hD) ?_ s.heap [] _ hP va_S.rf (hml.symm ▸ hl)
  intro z u' lv pc hpost hd H locs ls hP' hS' hl'
  exact W.iret (v := zI z) hx hb hr (fun t ht hW => ⟨⟨z, u', rfl, hpost, by rw [ht]; exact hP'⟩, hS'.F ht⟩) hS'.2.2 hd
theorem ZM.ofZ {S : Type} {l : Launch} {D : va_G} {tys : List (ClassId × FieldType)} {WW : S → va_W} {y : MethodName} {ws ws' : List Cond} {d : Nat} {av : List Value} {u : S} {post : Int → S → Prop} {cc : ByteArray} {maxL : Nat} (lv0 : List (Nat × Value)) (hlv : lv_args 0 av = lv0)
    (hy : plainName y.cls = true) (hw : ws = .code y cc maxL (some .boolean) :: ws') (hen : (lg_sl av).length ≤ maxL) (hWW : ∀ u u' : S, (WW u).map (fun q => q.1) = (WW u').map (fun q => q.1))
    (body : ∀ x : zT, Cx x cc maxL ws y.cls d → Kx x tys → zl x = l → zG x = D → (∀ u : S, va_D (zA x) (WW u)) → (∀ (z : Int) (u' : S) (lv : List (Nat × Value)) (pc : Nat), post z u' → z = 0 ∨ z = 1 → decode cc pc = .ok (.ireturn, 1) → Z x 0 0 (WW u') lv pc [.int (zI z)]) → Z x 0 0 (WW u) lv0 0 []) : ZM l D tys WW y ws d av u rI post := by
  intro sz
  refine Met.ofW (cc := cc) (maxL := maxL) (ret := (some .boolean)) hy hw ?_
  intro p e s m args below meth c s₁ B hml hv
  obtain ⟨rfl, hsz, hP, hK, hD0⟩ := hv
  have hx := B.exec
  have hb := B.bytes
  have hr := B.returns
  have hts := atoms_spec (ws := ws) B.pre
  have hown : s.vm.findClass y.cls = some m.cls := findClass_of_methodNamed B.named
  have hlocks := B.notSynchronized
  subst hsz
  have hD := hD0.self (sz := s.heap.size)
  rw [lg_entry_eq]
  have hl := lv_entry av (n := maxL) hen
  rw [hlv] at hl
  refine body (p, l, e, zR d, s, m, av.toArray, below, meth, c, va_A (WW u) s.heap.size, s.heap, D, MQ below (ZQ D WW rI post (va_A (WW u) s.heap.size)) av.toArray s 0 0 (va_A (WW u) s.heap.size)) ⟨hx, hb, hml, hown, hts, ⟨Nat.le_refl _, Nat.le_refl _⟩, fun q h => Or.inr h⟩ hK rfl rfl (fun u' => va_D.addr (hWW u u') hD) ?_ s.heap [] _ hP va_S.rf (hml.symm ▸ hl)
  intro z u' lv pc hpost hz hd H locs ls hP' hS' hl'
  exact W.zret (v := zI z) hx hb hr (narrow_zI_bool hz) (fun t ht hW => ⟨⟨z, u', rfl, hpost, by rw [ht]; exact hP'⟩, hS'.F ht⟩) hS'.2.2 hd
theorem ZM.ofL {S : Type} {l : Launch} {D : va_G} {tys : List (ClassId × FieldType)} {WW : S → va_W} {y : MethodName} {ws ws' : List Cond} {d : Nat} {av : List Value} {u : S} {post : Int → S → Prop} {cc : ByteArray} {maxL : Nat} (lv0 : List (Nat × Value)) (hlv : lv_args 0 av = lv0)
    (hy : plainName y.cls = true) (hw : ws = .code y cc maxL (some .long) :: ws') (hen : (lg_sl av).length ≤ maxL) (hWW : ∀ u u' : S, (WW u).map (fun q => q.1) = (WW u').map (fun q => q.1))
    (body : ∀ x : zT, Cx x cc maxL ws y.cls d → Kx x tys → zl x = l → zG x = D → (∀ u : S, va_D (zA x) (WW u)) → (∀ (z : Int) (u' : S) (lv : List (Nat × Value)) (pc : Nat), post z u' → decode cc pc = .ok (.lreturn, 1) → Z x 0 0 (WW u') lv pc [.long (zL z)]) → Z x 0 0 (WW u) lv0 0 []) : ZM l D tys WW y ws d av u rL post := by
  intro sz
  refine Met.ofW (cc := cc) (maxL := maxL) (ret := (some .long)) hy hw ?_
  intro p e s m args below meth c s₁ B hml hv
  obtain ⟨rfl, hsz, hP, hK, hD0⟩ := hv
  have hx := B.exec
  have hb := B.bytes
  have hr := B.returns
  have hts := atoms_spec (ws := ws) B.pre
  have hown : s.vm.findClass y.cls = some m.cls := findClass_of_methodNamed B.named
  have hlocks := B.notSynchronized
  subst hsz
  have hD := hD0.self (sz := s.heap.size)
  rw [lg_entry_eq]
  have hl := lv_entry av (n := maxL) hen
  rw [hlv] at hl
  refine body (p, l, e, zR d, s, m, av.toArray, below, meth, c, va_A (WW u) s.heap.size, s.heap, D, MQ below (ZQ D WW rL post (va_A (WW u) s.heap.size)) av.toArray s 0 0 (va_A (WW u) s.heap.size)) ⟨hx, hb, hml, hown, hts, ⟨Nat.le_refl _, Nat.le_refl _⟩, fun q h => Or.inr h⟩ hK rfl rfl (fun u' => va_D.addr (hWW u u') hD) ?_ s.heap [] _ hP va_S.rf (hml.symm ▸ hl)
  intro z u' lv pc hpost hd H locs ls hP' hS' hl'
  exact W.lret (v := zL z) hx hb hr (fun t ht hW => ⟨⟨z, u', rfl, hpost, by rw [ht]; exact hP'⟩, hS'.F ht⟩) hS'.2.2 hd
theorem ZM.ofV {S : Type} {l : Launch} {D : va_G} {tys : List (ClassId × FieldType)} {WW : S → va_W} {y : MethodName} {ws ws' : List Cond} {d : Nat} {av : List Value} {u : S} {post : Int → S → Prop} {cc : ByteArray} {maxL : Nat} (lv0 : List (Nat × Value)) (hlv : lv_args 0 av = lv0)
    (hy : plainName y.cls = true) (hw : ws = .code y cc maxL none :: ws') (hen : (lg_sl av).length ≤ maxL) (hWW : ∀ u u' : S, (WW u).map (fun q => q.1) = (WW u').map (fun q => q.1))
    (body : ∀ x : zT, Cx x cc maxL ws y.cls d → Kx x tys → zl x = l → zG x = D → (∀ u : S, va_D (zA x) (WW u)) → (∀ (z : Int) (u' : S) (lv : List (Nat × Value)) (pc : Nat), post z u' → decode cc pc = .ok (.return_, 1) → Z x 0 0 (WW u') lv pc []) → Z x 0 0 (WW u) lv0 0 []) : ZM l D tys WW y ws d av u rV post := by
  intro sz
  refine Met.ofW (cc := cc) (maxL := maxL) (ret := none) hy hw ?_
  intro p e s m args below meth c s₁ B hml hv
  obtain ⟨rfl, hsz, hP, hK, hD0⟩ := hv
  have hx := B.exec
  have hb := B.bytes
  have hr := B.returns
  have hts := atoms_spec (ws := ws) B.pre
  have hown : s.vm.findClass y.cls = some m.cls := findClass_of_methodNamed B.named
  have hlocks := B.notSynchronized
  subst hsz
  have hD := hD0.self (sz := s.heap.size)
  rw [lg_entry_eq]
  have hl := lv_entry av (n := maxL) hen
  rw [hlv] at hl
  refine body (p, l, e, zR d, s, m, av.toArray, below, meth, c, va_A (WW u) s.heap.size, s.heap, D, MQ below (ZQ D WW rV post (va_A (WW u) s.heap.size)) av.toArray s 0 0 (va_A (WW u) s.heap.size)) ⟨hx, hb, hml, hown, hts, ⟨Nat.le_refl _, Nat.le_refl _⟩, fun q h => Or.inr h⟩ hK rfl rfl (fun u' => va_D.addr (hWW u u') hD) ?_ s.heap [] _ hP va_S.rf (hml.symm ▸ hl)
  intro z u' lv pc hpost hd H locs ls hP' hS' hl'
  exact W.vret hx hb hr (fun t ht hW => ⟨⟨z, u', rfl, hpost, by rw [ht]; exact hP'⟩, hS'.F ht⟩) hS'.2.2 hd
theorem zcr {q d L : Nat} (h : q ≤ 8) (hd : 1 ≤ d) (hR : 40 * d ≤ L) : q + (nativeFrameWords "java/lang/System" "arraycopy" 5 + 11) ≤ L := by
  have h9 : nativeFrameWords "java/lang/System" "arraycopy" 5 + 11 ≤ 32 := by decide
  omega
section ZF
variable {x : zT} {k n : Nat} {ws ws' : va_W} {lv : List (Nat × Value)} {pc : Nat} {st : List Value} {cc : ByteArray} {nL : Nat} {Ts : List Cond} {own : String} {d : Nat} {tys : List (ClassId × FieldType)}
theorem z_get (C : Cx x cc nL Ts own d) (hK : Kx x tys) {C0 : String} {T : u_T} {N ci index a : Nat} {fs : List Value} {v : Value} (hin : ∀ w ∈ u_ws C0 T N, w ∈ Ts) (q0 : Nat) (he : ws[q0]? = some (a, .inr (ci, fs))) (hc : vwCl[ci]? = some (C0, T, N)) (fi : Nat) (hk : fi < N) (hlk : Cond.fieldLink own index (T fi).1 (T fi).2.1 (T fi).2.2.1 ∈ Ts) (hv : fs[fi]? = some v) (hd : decode cc pc = .ok (.getfield index, 3))
    (kk : Z x k n ws lv (pc + 3) (v :: st)) : Z x k n ws lv pc (.ref a :: st) := by
  obtain ⟨p, l, e, R, s, m, args, below, meth, c, A, H0, D, Q⟩ := x
  obtain ⟨hx, hb, hml, hown, hts, hR, hA⟩ := C
  replace hK : KK D tys s := hK
  intro H locs ls hP hS hl
  exact va_get hx hb hts hin hown hK.1 hP q0 he hc fi hk (hts _ hlk) (fun _ h9 => h9) hv hd (kk H locs ls hP hS hl)
theorem z_getN (C : Cx x cc nL Ts own d) (hK : Kx x tys) {C0 host : String} {T : u_T} {N ci index a : Nat} {fs : List Value} {v : Value} (hin : ∀ w ∈ u_ws C0 T N, w ∈ Ts) (q0 : Nat) (he : ws[q0]? = some (a, .inr (ci, fs))) (hc : vwCl[ci]? = some (C0, T, N)) (fi : Nat) (hk : fi < N) (hlk : (own, index, (T fi).1, (T fi).2.1, (T fi).2.2.1, host) ∈ zNF) (hv : fs[fi]? = some v) (hd : decode cc pc = .ok (.getfield index, 3))
    (kk : Z x k n ws lv (pc + 3) (v :: st)) : Z x k n ws lv pc (.ref a :: st) := by
  obtain ⟨p, l, e, R, s, m, args, below, meth, c, A, H0, D, Q⟩ := x
  obtain ⟨hx, hb, hml, hown, hts, hR, hA⟩ := C
  replace hK : KK D tys s := hK
  intro H locs ls hP hS hl
  exact va_getN hx hb hts hin hown hK.1 hP q0 he hc fi hk (va_Nw.use rfl (hK.2.1 _ hlk)) (fun _ h9 => h9) hv hd (kk H locs ls hP hS hl)
theorem z_put (C : Cx x cc nL Ts own d) (hK : Kx x tys) (hD : va_D (zA x) ws) {C0 : String} {T : u_T} {N ci index a : Nat} {fs : List Value} {v : Value} (hin : ∀ w ∈ u_ws C0 T N, w ∈ Ts) (ty : Nat → FieldType) (hty : ∀ k, k < N → parseFieldDescriptor (T k).2.2.1 = some (ty k)) (hnm : ∀ a, a < N → ∀ b, b < N → a ≠ b → (T a).2.1 ≠ (T b).2.1) (q0 : Nat) (he : ws[q0]? = some (a, .inr (ci, fs))) (hc : vwCl[ci]? = some (C0, T, N)) (fi : Nat) (hk : fi < N) (hlk : Cond.fieldLink own index (T fi).1 (T fi).2.1 (T fi).2.2.1 ∈ Ts) (hfin : (T fi).2.2.2 = false) (hn : narrow (ty fi) v = v) (hfit : fits (ty fi) v = true) (hlen : fi < fs.length) (hset : ws.set q0 (a, .inr (ci, fs.set fi v)) = ws') (hd : decode cc pc = .ok (.putfield index, 3))
    (kk : Z x k n ws' lv (pc + 3) st) : Z x k n ws lv pc (v :: .ref a :: st) := by
  obtain ⟨p, l, e, R, s, m, args, below, meth, c, A, H0, D, Q⟩ := x
  obtain ⟨hx, hb, hml, hown, hts, hR, hA⟩ := C
  replace hK : KK D tys s := hK
  replace hD : va_D A ws := hD
  intro H locs ls hP hS hl
  refine va_put hx hb hts hin ty hty hnm hown hK.1 hP hD hS q0 he hc fi hk (hts _ hlk) (fun _ h9 => h9) hfin (hty fi hk) hn hfit hlen hd (fun H1 locs1 hP1 hD1 hS1 => ?_)
  rw [hset] at hP1
  exact kk H1 locs1 ls hP1 hS1 hl
theorem z_putN (C : Cx x cc nL Ts own d) (hK : Kx x tys) (hD : va_D (zA x) ws) {C0 host : String} {T : u_T} {N ci index a : Nat} {fs : List Value} {v : Value} (hin : ∀ w ∈ u_ws C0 T N, w ∈ Ts) (ty : Nat → FieldType) (hty : ∀ k, k < N → parseFieldDescriptor (T k).2.2.1 = some (ty k)) (hnm : ∀ a, a < N → ∀ b, b < N → a ≠ b → (T a).2.1 ≠ (T b).2.1) (q0 : Nat) (he : ws[q0]? = some (a, .inr (ci, fs))) (hc : vwCl[ci]? = some (C0, T, N)) (fi : Nat) (hk : fi < N) (hlk : (own, index, (T fi).1, (T fi).2.1, (T fi).2.2.1, host) ∈ zNF) (hfin : (T fi).2.2.2 = false) (hn : narrow (ty fi) v = v) (hfit : fits (ty fi) v = true) (hlen : fi < fs.length) (hset : ws.set q0 (a, .inr (ci, fs.set fi v)) = ws') (hd : decode cc pc = .ok (.putfield index, 3))
    (kk : Z x k n ws' lv (pc + 3) st) : Z x k n ws lv pc (v :: .ref a :: st) := by
  obtain ⟨p, l, e, R, s, m, args, below, meth, c, A, H0, D, Q⟩ := x
  obtain ⟨hx, hb, hml, hown, hts, hR, hA⟩ := C
  replace hK : KK D tys s := hK
  replace hD : va_D A ws := hD
  intro H locs ls hP hS hl
  refine va_putN hx hb hts hin ty hty hnm hown hK.1 hP hD hS q0 he hc fi hk (va_Nw.use rfl (hK.2.1 _ hlk)) (fun _ h9 => h9) hfin (hty fi hk) hn hfit hlen hd (fun H1 locs1 hP1 hD1 hS1 => ?_)
  rw [hset] at hP1
  exact kk H1 locs1 ls hP1 hS1 hl
theorem z_iald (C : Cx x cc nL Ts own d) (hK : Kx x tys) (t0 : Nat) {a : Nat} {cA : ClassId} {N : Nat} {g : Int → Int} {i : Int} (q0 : Nat) (he : ws[q0]? = some (a, .inl (cA, N, .inl (fun j : Nat => zI (g j))))) (ht : tys[t0]? = some (cA, .int)) (hN : N ≤ 1000000) (h : 0 ≤ i ∧ i < (N : Int)) (hd : decode cc pc = .ok (.iaload, 1))
    (kk : Z x k n ws lv (pc + 1) (.int (zI (g i)) :: st)) : Z x k n ws lv pc (.int (zI i) :: .ref a :: st) := by
  obtain ⟨p, l, e, R, s, m, args, below, meth, c, A, H0, D, Q⟩ := x
  obtain ⟨hx, hb, hml, hown, hts, hR, hA⟩ := C
  replace hK : KK D tys s := hK
  intro H locs ls hP hS hl
  refine va_iald hx hb hK.1 hP q0 t0 he ht (zI_in h hN) hd ?_
  rw [zI_clamp h.1 (by omega)]
  show W _ _ _ _ _ _ _ _ _ _ _ _ _ _ _ (F0 m (pc + 1) ls (.int (zI (g ((i.toNat : Nat) : Int))) :: st))
  rw [Int.toNat_of_nonneg h.1]
  exact kk H locs ls hP hS hl
theorem z_zald (C : Cx x cc nL Ts own d) (hK : Kx x tys) (t0 : Nat) {a : Nat} {cA : ClassId} {N : Nat} {g : Int → Int} {i : Int} (q0 : Nat) (he : ws[q0]? = some (a, .inl (cA, N, .inl (fun j : Nat => zI (g j))))) (ht : tys[t0]? = some (cA, .boolean)) (hN : N ≤ 1000000) (h : 0 ≤ i ∧ i < (N : Int)) (hd : decode cc pc = .ok (.baload, 1))
    (kk : Z x k n ws lv (pc + 1) (.int (zI (g i)) :: st)) : Z x k n ws lv pc (.int (zI i) :: .ref a :: st) := by
  obtain ⟨p, l, e, R, s, m, args, below, meth, c, A, H0, D, Q⟩ := x
  obtain ⟨hx, hb, hml, hown, hts, hR, hA⟩ := C
  replace hK : KK D tys s := hK
  intro H locs ls hP hS hl
  refine va_zald hx hb hK.1 hP q0 t0 he ht (zI_in h hN) hd ?_
  rw [zI_clamp h.1 (by omega)]
  show W _ _ _ _ _ _ _ _ _ _ _ _ _ _ _ (F0 m (pc + 1) ls (.int (zI (g ((i.toNat : Nat) : Int))) :: st))
  rw [Int.toNat_of_nonneg h.1]
  exact kk H locs ls hP hS hl
theorem z_iast (C : Cx x cc nL Ts own d) (hK : Kx x tys) (hD : va_D (zA x) ws) (t0 : Nat) {a : Nat} {cA : ClassId} {N : Nat} {g : Int → Int} {i v : Int} (q0 : Nat) (he : ws[q0]? = some (a, .inl (cA, N, .inl (fun j : Nat => zI (g j))))) (ht : tys[t0]? = some (cA, .int)) (hN : N ≤ 1000000) (h : 0 ≤ i ∧ i < (N : Int)) (hset : ws.set q0 (a, .inl (cA, N, .inl (fun j : Nat => zI (if (j : Int) = i then v else g j)))) = ws') (hd : decode cc pc = .ok (.iastore, 1))
    (kk : Z x k n ws' lv (pc + 1) st) : Z x k n ws lv pc (.int (zI v) :: .int (zI i) :: .ref a :: st) := by
  obtain ⟨p, l, e, R, s, m, args, below, meth, c, A, H0, D, Q⟩ := x
  obtain ⟨hx, hb, hml, hown, hts, hR, hA⟩ := C
  replace hK : KK D tys s := hK
  replace hD : va_D A ws := hD
  intro H locs ls hP hS hl
  refine va_iast hx hb hK.1 hP hD hS q0 t0 he ht (zI_in h hN) hd (fun H1 locs1 hP1 hD1 hS1 => ?_)
  rw [zI_clamp h.1 (by omega), zI_upd h.1, hset] at hP1
  exact kk H1 locs1 ls hP1 hS1 hl
theorem z_zast (C : Cx x cc nL Ts own d) (hK : Kx x tys) (hD : va_D (zA x) ws) (t0 : Nat) {a : Nat} {cA : ClassId} {N : Nat} {g : Int → Int} {i v : Int} (q0 : Nat) (he : ws[q0]? = some (a, .inl (cA, N, .inl (fun j : Nat => zI (g j))))) (ht : tys[t0]? = some (cA, .boolean)) (hN : N ≤ 1000000) (hv : v = 0 ∨ v = 1) (h : 0 ≤ i ∧ i < (N : Int)) (hset : ws.set q0 (a, .inl (cA, N, .inl (fun j : Nat => zI (if (j : Int) = i then v else g j)))) = ws') (hd : decode cc pc = .ok (.bastore, 1))
    (kk : Z x k n ws' lv (pc + 1) st) : Z x k n ws lv pc (.int (zI v) :: .int (zI i) :: .ref a :: st) := by
  obtain ⟨p, l, e, R, s, m, args, below, meth, c, A, H0, D, Q⟩ := x
  obtain ⟨hx, hb, hml, hown, hts, hR, hA⟩ := C
  replace hK : KK D tys s := hK
  replace hD : va_D A ws := hD
  intro H locs ls hP hS hl
  refine va_zast hx hb hK.1 hP hD hS q0 t0 he ht (zI_in h hN) hd (fun H1 locs1 hP1 hD1 hS1 => ?_)
  rw [show vp_nar .boolean (zI v) = zI v by rcases hv with rfl | rfl <;> rfl, zI_clamp h.1 (by omega), zI_upd h.1, hset] at hP1
  exact kk H1 locs1 ls hP1 hS1 hl
theorem z_aaldN (C : Cx x cc nL Ts own d) (hK : Kx x tys) (t0 : Nat) {a b : Nat} {cA : ClassId} {C1 : String} {N : Nat} {g : Nat → Option Nat} {i : Int} (q0 : Nat) (he : ws[q0]? = some (a, .inl (cA, N, .inr (.inr (.inr (.inr g)))))) (ht : tys[t0]? = some (cA, .object C1)) (hN : N ≤ 1000000) (h : 0 ≤ i ∧ i < (N : Int)) (hb1 : g i.toNat = some b) (hd : decode cc pc = .ok (.aaload, 1))
    (kk : Z x k n ws lv (pc + 1) (.ref b :: st)) : Z x k n ws lv pc (.int (zI i) :: .ref a :: st) := by
  obtain ⟨p, l, e, R, s, m, args, below, meth, c, A, H0, D, Q⟩ := x
  obtain ⟨hx, hb, hml, hown, hts, hR, hA⟩ := C
  replace hK : KK D tys s := hK
  intro H locs ls hP hS hl
  refine va_aldq hx hb hK.1 hP q0 t0 he ht (zI_in h hN) hd ?_
  rw [zI_clamp h.1 (by omega), hb1]
  exact kk H locs ls hP hS hl

theorem z_aaldI (C : Cx x cc nL Ts own d) (hK : Kx x tys) (t0 : Nat) {a b : Nat} {cA : ClassId} {N : Nat} {g : Nat → Option Nat} {i : Int} (q0 : Nat) (he : ws[q0]? = some (a, .inl (cA, N, .inr (.inr (.inr (.inr g)))))) (ht : tys[t0]? = some (cA, .array .int)) (hN : N ≤ 1000000) (h : 0 ≤ i ∧ i < (N : Int)) (hb1 : g i.toNat = some b) (hd : decode cc pc = .ok (.aaload, 1))
    (kk : Z x k n ws lv (pc + 1) (.ref b :: st)) : Z x k n ws lv pc (.int (zI i) :: .ref a :: st) := by
  obtain ⟨p, l, e, R, s, m, args, below, meth, c, A, H0, D, Q⟩ := x
  obtain ⟨hx, hb, hml, hown, hts, hR, hA⟩ := C
  replace hK : KK D tys s := hK
  intro H locs ls hP hS hl
  have hlt : i.toNat < N := by omega
  exact W.aald (v := .ref b) (ty := .array .int) hx hb (hP q0 _ he) ((hK.1.2 t0 _ ht).1 N (fun j => va_rf (g j))) rfl (fun q => by cases q) (by show ¬ (_ < 0 ∨ (arrV _ _ _).slots.size ≤ _); rw [arrV_size]; exact zI_in h hN) (by show (arrV _ _ _).slots[_]? = _; rw [zI_clamp h.1 (by omega), arrV_read _ _ hlt, hb1]; rfl) rfl rfl hd (kk H locs ls hP hS hl)

theorem z_abs (C : Cx x cc nL Ts own d) {a : Int} {index : Nat} (hd1 : 1 ≤ d) (h1 : Cond.methodLink own index Lib.Math.abs.name ∈ Ts) (h2 : Cond.static Lib.Math.abs.name ∈ Ts) (h3 : Cond.initialized "java/lang/Math" ∈ Ts) (h4 : Cond.code Lib.Math.abs.name Lib.Math.abs.code 1 (some .int) ∈ Ts) (hcat : (st.map fun v => v.category).sum ≤ 8) (h : -2147483648 < a ∧ a < 2147483648) (hd : decode cc pc = .ok (.invokestatic index, 3))
    (kk : ∀ r : Int, (0 ≤ a ∧ r = a) ∨ (a < 0 ∧ r = 0 - a) → Z x 0 0 ws lv (pc + 3) (.int (zI r) :: st)) : Z x 0 0 ws lv pc (.int (zI a) :: st) := by
  obtain ⟨p, l, e, R, s, m, args, below, meth, c, A, H0, D, Q⟩ := x
  obtain ⟨hx, hb, hml, hown, hts, hR, hA⟩ := C
  intro H locs ls hP hS hl
  refine va_mabs hx hb hl.1.symm hown (hts _ h1) (hts _ h2) (hts _ h3) (hts _ h4) (by omega) (by omega) (Nat.zero_le _) (Nat.zero_le _) hd ?_
  have e : (0 : Int32) ≤ zI a ↔ 0 ≤ a := by rw [← zI_0]; exact zI_le (by omega) (by omega)
  by_cases q : 0 ≤ a
  · rw [if_pos (e.mpr q)]; exact kk _ (Or.inl ⟨q, rfl⟩) H locs ls hP hS hl
  · rw [if_neg (fun z => q (e.mp z)), ← zI_0, zI_sub]; exact kk _ (Or.inr ⟨by omega, rfl⟩) H locs ls hP hS hl
theorem z_max (C : Cx x cc nL Ts own d) {a b : Int} {index : Nat} (hd1 : 1 ≤ d) (h1 : Cond.methodLink own index Lib.Math.max.name ∈ Ts) (h2 : Cond.static Lib.Math.max.name ∈ Ts) (h3 : Cond.initialized "java/lang/Math" ∈ Ts) (h4 : Cond.code Lib.Math.max.name Lib.Math.max.code 2 (some .int) ∈ Ts) (hcat : (st.map fun v => v.category).sum ≤ 8) (h : (-2147483648 ≤ a ∧ a < 2147483648) ∧ (-2147483648 ≤ b ∧ b < 2147483648)) (hd : decode cc pc = .ok (.invokestatic index, 3))
    (kk : ∀ r : Int, (a < b ∧ r = b) ∨ (b ≤ a ∧ r = a) → Z x 0 0 ws lv (pc + 3) (.int (zI r) :: st)) : Z x 0 0 ws lv pc (.int (zI b) :: .int (zI a) :: st) := by
  obtain ⟨p, l, e, R, s, m, args, below, meth, c, A, H0, D, Q⟩ := x
  obtain ⟨hx, hb, hml, hown, hts, hR, hA⟩ := C
  intro H locs ls hP hS hl
  refine va_mmax hx hb hl.1.symm hown (hts _ h1) (hts _ h2) (hts _ h3) (hts _ h4) (by omega) (by omega) (Nat.zero_le _) (Nat.zero_le _) hd ?_
  have e := zI_lt h.1 h.2
  by_cases q : a < b
  · rw [if_pos (e.mpr q)]; exact kk _ (Or.inl ⟨q, rfl⟩) H locs ls hP hS hl
  · rw [if_neg (fun z => q (e.mp z))]; exact kk _ (Or.inr ⟨by omega, rfl⟩) H locs ls hP hS hl
theorem z_min (C : Cx x cc nL Ts own d) {a b : Int} {index : Nat} (hd1 : 1 ≤ d) (h1 : Cond.methodLink own index Lib.Math.min.name ∈ Ts) (h2 : Cond.static Lib.Math.min.name ∈ Ts) (h3 : Cond.initialized "java/lang/Math" ∈ Ts) (h4 : Cond.code Lib.Math.min.name Lib.Math.min.code 2 (some .int) ∈ Ts) (hcat : (st.map fun v => v.category).sum ≤ 8) (h : (-2147483648 ≤ a ∧ a < 2147483648) ∧ (-2147483648 ≤ b ∧ b < 2147483648)) (hd : decode cc pc = .ok (.invokestatic index, 3))
    (kk : ∀ r : Int, (b < a ∧ r = b) ∨ (a ≤ b ∧ r = a) → Z x 0 0 ws lv (pc + 3) (.int (zI r) :: st)) : Z x 0 0 ws lv pc (.int (zI b) :: .int (zI a) :: st) := by
  obtain ⟨p, l, e, R, s, m, args, below, meth, c, A, H0, D, Q⟩ := x
  obtain ⟨hx, hb, hml, hown, hts, hR, hA⟩ := C
  intro H locs ls hP hS hl
  refine va_mmin hx hb hl.1.symm hown (hts _ h1) (hts _ h2) (hts _ h3) (hts _ h4) (by omega) (by omega) (Nat.zero_le _) (Nat.zero_le _) hd ?_
  have e := zI_lt h.2 h.1
  by_cases q : b < a
  · rw [if_pos (e.mpr q)]; exact kk _ (Or.inl ⟨q, rfl⟩) H locs ls hP hS hl
  · rw [if_neg (fun z => q (e.mp z))]; exact kk _ (Or.inr ⟨by omega, rfl⟩) H locs ls hP hS hl
theorem z_copyi (C : Cx x cc nL Ts own d) (hK : Kx x tys) (hD : va_D (zA x) ws) (hd1 : 1 ≤ d) {index : Nat} (h1 : Cond.methodLink own index arraycopyName ∈ Ts) (h2 : Cond.native arraycopyName ∈ Ts) (h3 : Cond.static arraycopyName ∈ Ts) (h4 : Cond.initialized "java/lang/System" ∈ Ts) (t0 : Nat) (q0 q1 : Nat) {a a0 : Nat} {c0 : ClassId} {N0 N1 : Nat} {g0 g1 : Int → Int} (ha0 : ws[q0]? = some (a0, .inl (c0, N0, .inl (fun j : Nat => zI (g0 j))))) (ha1 : ws[q1]? = some (a, .inl (c0, N1, .inl (fun j : Nat => zI (g1 j))))) (ht0 : tys[t0]? = some (c0, .int)) {len : Int} (hlen : 0 ≤ len ∧ len ≤ (N0 : Int) ∧ len ≤ (N1 : Int) ∧ len ≤ 1000000) (hset : ws.set q1 (a, .inl (c0, N1, .inl (fun j : Nat => zI (if (j : Int) < len then g0 j else g1 j)))) = ws') (hcat : (st.map fun v => v.category).sum ≤ 8) (hd : decode cc pc = .ok (.invokestatic index, 3))
    (kk : Z x k n ws' lv (pc + 3) st) : Z x k n ws lv pc (.int (zI len) :: .int (zI 0) :: .ref a :: .int (zI 0) :: .ref a0 :: st) := by
  obtain ⟨p, l, e, R, s, m, args, below, meth, c, A, H0, D, Q⟩ := x
  obtain ⟨hx, hb, hml, hown, hts, hR, hA⟩ := C
  replace hK : KK D tys s := hK
  replace hD : va_D A ws := hD
  intro H locs ls hP hS hl
  refine va_copyi hx hb hl.1.symm hown (hts _ h1) (hts _ h2) (hts _ h3) (hts _ h4) hK.1 hP hD hS q0 q1 t0 t0 ha0 ha1 ht0 ht0 rfl (sp := zI 0) (dp := zI 0) (n := zI len) (by decide) (by decide) (by rw [← zI_0, zI_lt (by omega) (by omega)]; omega) (by rw [zI_clamp (by omega) (by omega), zI_clamp (by omega) (by omega)]; omega) (by rw [zI_clamp (by omega) (by omega), zI_clamp (by omega) (by omega)]; omega) (fun _ _ => rfl) (by omega) (zcr hcat hd1 hR.2) hd (fun H1 locs1 hP1 hD1 hS1 => ?_)
  rw [zI_clamp (by omega) (by omega), zI_clamp (by omega) (by omega)] at hP1
  have e : va_cpy (fun j : Nat => zI (g0 j)) (fun j : Nat => zI (g1 j)) (0 : Int).toNat (0 : Int).toNat len.toNat = fun j : Nat => zI (if (j : Int) < len then g0 j else g1 j) := by
    funext j
    unfold va_cpy
    by_cases q : (j : Int) < len
    · rw [if_pos (by omega), if_pos q]; simp
    · rw [if_neg (by omega), if_neg q]
  rw [e, hset] at hP1
  exact kk H1 locs1 ls hP1 hS1 hl

end ZF
section ZC
variable {p : Program} {l : Launch} {e : Env} {R : Room} {s : State} {m : MethodId} {args : Array Value} {below : List Frame} {meth : Method} {c : Code} {H : Heap} {locs : List Loc} {cells slots : Nat} {Q : State → Prop}
variable {pc : Nat} {ls : Array Slot} {rest st0 : List Value} {a : Array Value} {A0 A1 : Nat → Prop} {H0 : Heap} {free : Addr → Prop} {D : va_G}
theorem zrun {S : Type} {WW : S → va_W} {rv : Int → Option Value} {post : Int → S → Prop} (hr : va_Run p l e R s m args below meth c H locs cells slots 0 0 (F0 m pc ls st0) rest (ZQ D WW rv post A1 a) free) (hS : va_S A0 H0 H locs) (hA : ∀ q, q < H.size → A1 q → A0 q) (hf : ∀ q, free q → A0 q)
    (kk : ∀ (z : Int) (u : S) (H1 : Heap) (locs1 : List Loc), post z u → va_P D vwCl (WW u) H1 → H.size ≤ H1.size → (∀ q : Nat, q < H.size → ¬ A1 q → H1[q]? = H[q]?) → va_S A0 H0 H1 locs1 → W p l e R s m args below meth c H1 locs1 cells slots Q (F0 m (pc + 3) ls ((rv z).toList ++ rest))) : W p l e R s m args below meth c H locs cells slots Q (F0 m pc ls st0) := by
  intro T hT X
  obtain ⟨v, st₀, t, T', L, h0, X', hL, e1, e2, ⟨⟨z, u, hv, hp, hb⟩, hz, hk⟩, st⟩ := hr T hT X
  cases hv
  rw [h0] at hz hk
  obtain ⟨t2, a1, b1⟩ := kk z u T'.heap (locs ++ L) hp (by rw [e1]; exact hb) (by rw [e1]; exact hz) (fun q h1 h2 => by rw [e1]; exact hk q h1 h2)
    ⟨Nat.le_trans hS.1 (by rw [e1]; exact hz), fun q h1 h2 => by rw [e1, hk q (Nat.lt_of_lt_of_le h1 hS.1) (fun z => h2 (hA q (Nat.lt_of_lt_of_le h1 hS.1) z))]; exact hS.2.1 q h1 h2, fun q hq => by
      rcases List.mem_append.mp hq with h | h
      · exact hS.2.2 q h
      · exact hf _ (hL q h)⟩ T' rfl X'
  exact ⟨t2, st t2 a1, b1⟩
theorem zfree {ws : va_W} (hD : va_D A0 ws) (hS : va_S A0 H0 H locs) (hA : ∀ q : Nat, H0.size ≤ q → A0 q) : ∀ q, va_A ws H.size q → A0 q := by
  intro q h
  rcases h with ⟨k, e, h⟩ | h
  · exact hD.2 k (q, e) h
  · exact hA q (Nat.le_trans hS.1 h)
theorem zblind {S : Type} {tys : List (ClassId × FieldType)} {WW : S → va_W} {u : S} {sz : Nat} {av : List Value} : FrameBlind (va_Pc av (ZP D tys WW u sz)) := fun _ _ _ _ q => ⟨q.1, q.2.1, q.2.2.1, q.2.2.2.1.calling, q.2.2.2.2⟩
end ZC
/-- a callee's own numbers: of the method y, n arguments, maxL locals -/
def zY (y : MethodName) (n : Nat) : Prop := y.cls ≠ "java/lang/invoke/MethodHandle" ∧ y.cls ≠ "java/lang/invoke/VarHandle" ∧ (parseMethodDescriptor y.desc).map (fun d => d.parameters.length) = some n
section ZD
variable {x : zT} {lv : List (Nat × Value)} {pc : Nat} {st : List Value} {cc : ByteArray} {nL : Nat} {Ts : List Cond} {own : String} {d : Nat} {tys : List (ClassId × FieldType)} {S : Type} {WW : S → va_W} {u : S} {index maxL dd n : Nat} {y : MethodName} {bytes : ByteArray} {ret : Option FieldType} {wsy ws' : List Cond} {b : Nat} {As : List Value} {rv : Int → Option Value} {post : Int → S → Prop}
theorem z_callV (C : Cx x cc nL Ts own d) (hK : Kx x tys) (hDD : ∀ u : S, va_D (zA x) (WW u)) (hM : ZM (zl x) (zG x) tys WW y wsy dd (.ref b :: As) u rv post) (hG : GoodIn Ts (wsV own index y.cls y wsy)) (hw : wsy = .code y bytes maxL ret :: ws') (hy : zY y n) {T : u_T} {N ci : Nat} {fs : List Value} (q0 : Nat) (he : (WW u)[q0]? = some (b, .inr (ci, fs))) (hc : vwCl[ci]? = some (y.cls, T, N)) (hr : dd + 1 ≤ d ∧ maxL ≤ 20) (hn : As.length = n) (hcat : (st.map fun v => v.category).sum ≤ 8) {stk : List Value} {stk2 : Int → List Value} (hst : stk = As.reverse ++ .ref b :: st) (hrv : ∀ z : Int, (rv z).toList ++ st = stk2 z) (hd : decode cc pc = .ok (.invokevirtual index, 3))
    (kk : ∀ (z : Int) (u2 : S), post z u2 → Z x 0 0 (WW u2) lv (pc + 3) (stk2 z)) : Z x 0 0 (WW u) lv pc stk := by
  obtain ⟨p, l, e, R, s, m, args, below, meth, c, A, H0, D, Q⟩ := x
  obtain ⟨hx, hb, hml, hown, hts, hR, hA⟩ := C
  replace hK : KK D tys s := hK
  replace hDD : ∀ u : S, va_D A (WW u) := hDD
  replace hM : ZM l D tys WW y wsy dd (.ref b :: As) u rv post := hM
  intro H locs ls hP hS hl
  refine zrun (va_runV ⟨hx, hb, hml, hown, hts⟩ (hM H.size) (cwV n hts hG hw rfl rfl ⟨rfl, hy⟩ ⟨by have := hr.1; show dd + 1 ≤ R.frames; omega, by have := hr.1; show 8 + (maxL + 11) + 40 * dd ≤ R.locals; omega⟩) ⟨zblind, va_recv hK.1 hP hc he, fun U hU hW => ⟨rfl, by rw [hU], by rw [hU]; exact hP, KK.warm hW hK, (hDD u).weaken (fun _ _ _ _ => trivial)⟩⟩ rfl hn (hl.1.trans hml) hst (lv_room hcat) hd ⟨Nat.zero_le _, Nat.zero_le _⟩) hS (fun q _ h => zfree (hDD u) hS hA q h) (zfree (hDD u) hS hA) (fun z u2 H1 locs1 hp hP1 _ _ hS1 => by rw [hrv z]; exact kk z u2 hp H1 locs1 ls hP1 hS1 hl)
theorem z_callVN (C : Cx x cc nL Ts own d) (hK : Kx x tys) (hDD : ∀ u : S, va_D (zA x) (WW u)) (hM : ZM (zl x) (zG x) tys WW y wsy dd (.ref b :: As) u rv post) (hG : GoodIn Ts wsy) {host : String} (hlk : (own, index, y, host) ∈ zNM) (hi : Cond.initialized y.cls ∈ Ts) (hin : Cond.instanceMethod y ∈ Ts) (hse : Cond.selects y.cls y y ∈ Ts) (hw : wsy = .code y bytes maxL ret :: ws') (hy : zY y n) {T : u_T} {N ci : Nat} {fs : List Value} (q0 : Nat) (he : (WW u)[q0]? = some (b, .inr (ci, fs))) (hc : vwCl[ci]? = some (y.cls, T, N)) (hr : dd + 1 ≤ d ∧ maxL ≤ 20) (hn : As.length = n) (hcat : (st.map fun v => v.category).sum ≤ 8) {stk : List Value} {stk2 : Int → List Value} (hst : stk = As.reverse ++ .ref b :: st) (hrv : ∀ z : Int, (rv z).toList ++ st = stk2 z) (hd : decode cc pc = .ok (.invokevirtual index, 3))
    (kk : ∀ (z : Int) (u2 : S), post z u2 → Z x 0 0 (WW u2) lv (pc + 3) (stk2 z)) : Z x 0 0 (WW u) lv pc stk := by
  obtain ⟨p, l, e, R, s, m, args, below, meth, c, A, H0, D, Q⟩ := x
  obtain ⟨hx, hb, hml, hown, hts, hR, hA⟩ := C
  replace hK : KK D tys s := hK
  replace hDD : ∀ u : S, va_D A (WW u) := hDD
  replace hM : ZM l D tys WW y wsy dd (.ref b :: As) u rv post := hM
  intro H locs ls hP hS hl
  refine zrun (va_runVN ⟨hx, hb, hml, hown, hts⟩ (hM H.size) ⟨va_cnB n hts hG hw rfl rfl (hK.2.2 _ hlk) (hts _ hi) hy ⟨by have := hr.1; show dd + 1 ≤ R.frames; omega, by have := hr.1; show 8 + (maxL + 11) + 40 * dd ≤ R.locals; omega⟩, hts _ hin, hts _ hse⟩ ⟨zblind, va_recv hK.1 hP hc he, fun U hU hW => ⟨rfl, by rw [hU], by rw [hU]; exact hP, KK.warm hW hK, (hDD u).weaken (fun _ _ _ _ => trivial)⟩⟩ rfl hn (hl.1.trans hml) hst (lv_room hcat) hd ⟨Nat.zero_le _, Nat.zero_le _⟩) hS (fun q _ h => zfree (hDD u) hS hA q h) (zfree (hDD u) hS hA) (fun z u2 H1 locs1 hp hP1 _ _ hS1 => by rw [hrv z]; exact kk z u2 hp H1 locs1 ls hP1 hS1 hl)
theorem z_callS (C : Cx x cc nL Ts own d) (hK : Kx x tys) (hDD : ∀ u : S, va_D (zA x) (WW u)) (hM : ZM (zl x) (zG x) tys WW y wsy dd As u rv post) (hG : GoodIn Ts (wsS own index y wsy)) (hoy : y.cls = own) (hw : wsy = .code y bytes maxL ret :: ws') (hy : zY y n) (hr : dd + 1 ≤ d ∧ maxL ≤ 20) (hn : As.length = n) (hcat : (st.map fun v => v.category).sum ≤ 8) {stk : List Value} {stk2 : Int → List Value} (hst : stk = As.reverse ++ st) (hrv : ∀ z : Int, (rv z).toList ++ st = stk2 z) (hd : decode cc pc = .ok (.invokestatic index, 3))
    (kk : ∀ (z : Int) (u2 : S), post z u2 → Z x 0 0 (WW u2) lv (pc + 3) (stk2 z)) : Z x 0 0 (WW u) lv pc stk := by
  obtain ⟨p, l, e, R, s, m, args, below, meth, c, A, H0, D, Q⟩ := x
  obtain ⟨hx, hb, hml, hown, hts, hR, hA⟩ := C
  replace hK : KK D tys s := hK
  replace hDD : ∀ u : S, va_D A (WW u) := hDD
  replace hM : ZM l D tys WW y wsy dd As u rv post := hM
  intro H locs ls hP hS hl
  refine zrun (va_runS ⟨hx, hb, hml, hown, hts⟩ (hM H.size) (cwS n hts hG hw rfl rfl ⟨hoy, hy⟩ ⟨by have := hr.1; show dd + 1 ≤ R.frames; omega, by have := hr.1; show 8 + (maxL + 11) + 40 * dd ≤ R.locals; omega⟩) ⟨zblind, fun U hU hW => ⟨rfl, by rw [hU], by rw [hU]; exact hP, KK.warm hW hK, (hDD u).weaken (fun _ _ _ _ => trivial)⟩⟩ rfl hn (hl.1.trans hml) hst (lv_room hcat) hd ⟨Nat.zero_le _, Nat.zero_le _⟩) hS (fun q _ h => zfree (hDD u) hS hA q h) (zfree (hDD u) hS hA) (fun z u2 H1 locs1 hp hP1 _ _ hS1 => by rw [hrv z]; exact kk z u2 hp H1 locs1 ls hP1 hS1 hl)
theorem z_callSN (C : Cx x cc nL Ts own d) (hK : Kx x tys) (hDD : ∀ u : S, va_D (zA x) (WW u)) (hM : ZM (zl x) (zG x) tys WW y wsy dd As u rv post) (hG : GoodIn Ts wsy) {host : String} (hlk : (own, index, y, host) ∈ zNM) (hi : Cond.initialized y.cls ∈ Ts) (hsa : Cond.static y ∈ Ts) (hw : wsy = .code y bytes maxL ret :: ws') (hy : zY y n) (hr : dd + 1 ≤ d ∧ maxL ≤ 20) (hn : As.length = n) (hcat : (st.map fun v => v.category).sum ≤ 8) {stk : List Value} {stk2 : Int → List Value} (hst : stk = As.reverse ++ st) (hrv : ∀ z : Int, (rv z).toList ++ st = stk2 z) (hd : decode cc pc = .ok (.invokestatic index, 3))
    (kk : ∀ (z : Int) (u2 : S), post z u2 → Z x 0 0 (WW u2) lv (pc + 3) (stk2 z)) : Z x 0 0 (WW u) lv pc stk := by
  obtain ⟨p, l, e, R, s, m, args, below, meth, c, A, H0, D, Q⟩ := x
  obtain ⟨hx, hb, hml, hown, hts, hR, hA⟩ := C
  replace hK : KK D tys s := hK
  replace hDD : ∀ u : S, va_D A (WW u) := hDD
  replace hM : ZM l D tys WW y wsy dd As u rv post := hM
  intro H locs ls hP hS hl
  refine zrun (va_runSN ⟨hx, hb, hml, hown, hts⟩ (hM H.size) ⟨va_cnB n hts hG hw rfl rfl (hK.2.2 _ hlk) (hts _ hi) hy ⟨by have := hr.1; show dd + 1 ≤ R.frames; omega, by have := hr.1; show 8 + (maxL + 11) + 40 * dd ≤ R.locals; omega⟩, hts _ hsa, trivial⟩ ⟨zblind, fun U hU hW => ⟨rfl, by rw [hU], by rw [hU]; exact hP, KK.warm hW hK, (hDD u).weaken (fun _ _ _ _ => trivial)⟩⟩ rfl hn (hl.1.trans hml) hst (lv_room hcat) hd ⟨Nat.zero_le _, Nat.zero_le _⟩) hS (fun q _ h => zfree (hDD u) hS hA q h) (zfree (hDD u) hS hA) (fun z u2 H1 locs1 hp hP1 _ _ hS1 => by rw [hrv z]; exact kk z u2 hp H1 locs1 ls hP1 hS1 hl)
end ZD
