/-! ===== the law's start ===== -/
def R_law : String := "NoteBellsLaw"
def lw_P (b : Addr) (xs : List Int32) (args : Array Value) (s : State) : Prop := args = #[.ref b] ∧ s.IntsAt b xs ∧ xs.length ≤ 2048 ∧ (Jvm.Cond.and given_1 narrow_1).before args s = true
def lw_Q (_ : Array Value) (s : State) (o : Outcome) (t : State) : Prop := o = .returned (some (.int 1)) ∧ Framed s o t [] 600000 7302250
def lw_Z (below : List Frame) (a : Array Value) (s : State) : State → Prop := fun t => ∃ o, t.status = .running ∧ Ended t below o ∧ lw_Q a s o t
/-- the law's own end, with 1 on the stack, nothing written that was there before, its room as the claim has it -/
theorem lw_ret {p : Program} {l : Launch} {e : Env} {s : State} {m : MethodId} {below : List Frame} {meth : Method} {c : Code} {b : Nat} (hx : p.tables.exec = Jvm.exec) (hb : c.code = code) (hr : meth.sig.returnType = ret) (hlocks : meth.locks = false) {pc : Nat} {H : Heap} {ls : Array Slot} (hdg : decode code pc = .ok (.ireturn, 1)) : W p l e room_1 s m #[Value.ref b] below meth c H [] 600000 7302250 (lw_Z below #[Value.ref b] s) (F0 m pc ls [.int 1]) := by
  intro T hT X
  obtain ⟨fs, hret, hrun, hended, hW, hframe⟩ := X.leave (v := some (.int 1)) (hlocks := hlocks) (fun h => by rw [hr] at h; cases h)
  have hmeth' : T.vm.method? m = some meth := X.method'
  refine ⟨T.setFrames fs, ?_, .returned (some (.int 1)), hrun, hended, rfl, ⟨_, rfl⟩, hW, hframe⟩
  jvm_step X.here [X.here.top, hx, hb, hdg, hmeth', hr, ret, narrow_b1]
  (try refine ⟨rfl, ?_⟩); (try refine ⟨rfl, ?_⟩)
  first | (intro acts; rw [hret _ acts rfl rfl rfl]) | rw [hret _ _ rfl rfl rfl]
  exact Steps.refl _
/-- what holds at the law's entry: the machine, the code, the tables' words (any of lw_tbl by 'hts w (by decide +kernel)'), the script of L ints xs at the cell b, what the Statement gives of the start (any of its parts by flat_of_before) -/
def lw_At (p : Program) (s : State) (m : MethodId) (meth : Method) (c : Code) (b L : Nat) (xs : Nat → Int32) : Prop :=
  p.tables.exec = Jvm.exec ∧ c.code = code ∧ meth.sig.returnType = ret ∧ c.maxLocals = 4 ∧ s.vm.findClass R_law = some m.cls ∧ (∀ w ∈ lw_tbl, w.before #[Value.ref b] s = true) ∧ va_X b L xs s s.heap ∧ b < s.heap.size ∧ meth.locks = false ∧ (Jvm.Cond.and given_1 narrow_1).before #[Value.ref b] s = true
theorem nn_F : ∀ q ∈ zNF, Cond.fieldLinkNest q.1 q.2.1 q.2.2.1 q.2.2.2.1 q.2.2.2.2.1 q.2.2.2.2.2 ∈ lw_tbl := by decide +kernel
theorem nn_M : ∀ q ∈ zNM, Cond.methodLinkNest q.1 q.2.1 q.2.2.1 q.2.2.2 ∈ lw_tbl := by decide +kernel
theorem st_law {s : State} {b : Nat} (hts : ∀ w ∈ lw_tbl, w.before #[Value.ref b] s = true) : ∀ w ∈ wsL_law, w.before #[Value.ref b] s = true := fun w h => hts w (lt_law w h)
theorem st_AO {s : State} {b : Nat} (hts : ∀ w ∈ lw_tbl, w.before #[Value.ref b] s = true) : AO s := ⟨va_AO.of (hts _ (by decide +kernel)), AOA.of (hts _ (by decide +kernel))⟩
set_option maxRecDepth 100000 in
theorem st_K {s : State} {b : Nat} (hts : ∀ w ∈ lw_tbl, w.before #[Value.ref b] s = true) : ∃ (D : va_G) (cc : Nat → ClassId), KK D (zTy cc) s := by
  have ht2 := st_law hts
  obtain ⟨c0, i0, k0⟩ := u_known (C := RX0) (T := TX0) (N := 5) (n := 5) ht2 inlX0 (ht2 (.instantiable RX0 5) (List.mem_of_getElem? (i := 50) rfl))
  obtain ⟨c1, i1, k1⟩ := u_known (C := RX1) (T := TX1) (N := 3) (n := 3) ht2 inlX1 (ht2 (.instantiable RX1 3) (List.mem_of_getElem? (i := 54) rfl))
  obtain ⟨c2, i2, k2⟩ := u_known (C := RX2) (T := TX2) (N := 10) (n := 10) ht2 inlX2 (ht2 (.instantiable RX2 10) (List.mem_of_getElem? (i := 27) rfl))
  obtain ⟨c3, i3, k3⟩ := u_known (C := RX3) (T := TX3) (N := 5) (n := 5) ht2 inlX3 (ht2 (.instantiable RX3 5) (List.mem_of_getElem? (i := 38) rfl))
  obtain ⟨c4, i4, k4⟩ := u_known (C := RX4) (T := TX4) (N := 9) (n := 9) ht2 inlX4 (ht2 (.instantiable RX4 9) (List.mem_of_getElem? (i := 42) rfl))
  obtain ⟨c5, i5, k5⟩ := u_known (C := RX5) (T := TX5) (N := 9) (n := 9) ht2 inlX5 (ht2 (.instantiable RX5 9) (List.mem_of_getElem? (i := 23) rfl))
  obtain ⟨c6, i6, k6⟩ := u_known (C := RX6) (T := TX6) (N := 2) (n := 2) ht2 inlX6 (ht2 (.instantiable RX6 2) (List.mem_of_getElem? (i := 34) rfl))
  obtain ⟨c7, i7, k7⟩ := u_known (C := RX7) (T := TX7) (N := 2) (n := 2) ht2 inlX7 (ht2 (.instantiable RX7 2) (List.mem_of_getElem? (i := 14) rfl))
  obtain ⟨c8, i8, k8⟩ := u_known (C := RX8) (T := TX8) (N := 9) (n := 9) ht2 inlX8 (ht2 (.instantiable RX8 9) (List.mem_of_getElem? (i := 18) rfl))
  obtain ⟨c9, i9, k9⟩ := u_known (C := RX9) (T := TX9) (N := 3) (n := 3) ht2 inlX9 (ht2 (.instantiable RX9 3) (List.mem_of_getElem? (i := 46) rfl))
  obtain ⟨c10, i10, k10⟩ := u_known (C := RX10) (T := TX10) (N := 13) (n := 13) ht2 inlX10 (ht2 (.instantiable RX10 13) (List.mem_of_getElem? (i := 1) rfl))
  obtain ⟨c11, i11, k11⟩ := u_known (C := RX11) (T := TX11) (N := 36) (n := 36) ht2 inlX11 (ht2 (.instantiable RX11 36) (List.mem_of_getElem? (i := 4) rfl))
  obtain ⟨a0, kA0, p0, f0, g0, e0⟩ := Cond.arrayClass_spec (ht2 (.arrayClass .int) (List.mem_of_getElem? (i := 60) rfl))
  obtain ⟨a1, kA1, p1, f1, g1, e1⟩ := Cond.arrayClass_spec (ht2 (.arrayClass .boolean) (List.mem_of_getElem? (i := 31) rfl))
  obtain ⟨p2, a2, kA2, f2, _, g2, e2, n2⟩ := Cond.arrayOver_spec (va_AO.use (A := #[Value.ref b]) (st_AO hts).1)
  obtain ⟨p3, a3, kA3, f3, g3, e3, n3⟩ := Cond.arrayOver_specA (AOA.use (A := #[Value.ref b]) (st_AO hts).2)
  refine ⟨(fun k => ([c0, c1, c2, c3, c4, c5, c6, c7, c8, c9, c10, c11] : List ClassId).getD k c0, fun k => ([i0, i1, i2, i3, i4, i5, i6, i7, i8, i9, i10, i11] : List (Nat → Nat)).getD k i0), fun k => ([a0, a1, a2, a3] : List ClassId).getD k a0, ⟨fun k q hq => ?_, fun k q hq => ?_⟩, fun q hq => va_Nw.of rfl (hts _ (nn_F q hq)), fun q hq => va_Nw.of rfl (hts _ (nn_M q hq))⟩
  · match k, hq with
    | 0, hq => cases hq; exact k0
    | 1, hq => cases hq; exact k1
    | 2, hq => cases hq; exact k2
    | 3, hq => cases hq; exact k3
    | 4, hq => cases hq; exact k4
    | 5, hq => cases hq; exact k5
    | 6, hq => cases hq; exact k6
    | 7, hq => cases hq; exact k7
    | 8, hq => cases hq; exact k8
    | 9, hq => cases hq; exact k9
    | 10, hq => cases hq; exact k10
    | 11, hq => cases hq; exact k11
    | k + 12, hq => simp [vwCl] at hq
  · match k, hq with
    | 0, hq => cases hq; exact ⟨fun n z => ⟨fun k h => (by cases h), kA0, g0, p0, e0⟩, f0⟩
    | 1, hq => cases hq; exact ⟨fun n z => ⟨fun k h => (by cases h), kA1, g1, p1, e1⟩, f1⟩
    | 2, hq => cases hq; exact ⟨fun n z => ⟨fun k h => (by cases h), kA2, g2, p2, e2⟩, kA2, p2, g2, e2, f2, n2⟩
    | 3, hq => cases hq; exact ⟨fun n z => ⟨fun k h => (by cases h), kA3, g3, p3, e3⟩, n3⟩
    | k + 4, hq => simp [zTy] at hq
set_option maxRecDepth 100000 in
theorem st_E {s : State} {b : Nat} (hts : ∀ w ∈ lw_tbl, w.before #[Value.ref b] s = true) (hgv : (Jvm.Cond.and given_1 narrow_1).before #[Value.ref b] s = true) : ∃ sa sv : Nat → Nat, EE sa sv (fun q : Nat => s.heap.size ≤ q) s s.heap := by
  have hs := flat_of_before _ hgv
  have hA : ∀ a : Nat, a < s.heap.size → ¬ (fun q : Nat => s.heap.size ≤ q) a := fun a ha => Nat.not_le.mpr ha
  obtain ⟨sa, sv, hS, hev⟩ := vk_Sof (args := #[Value.ref b]) (s := s) (N := 5) (tm := fun i => Term.string "NoteBells$Reader" (sIx.getD i 0)) (len := sLen) (byt := sByt) (A := fun q : Nat => s.heap.size ≤ q) (by decide)
    (fun i hi => by rcases (by omega : i = 0 ∨ i = 1 ∨ i = 2 ∨ i = 3 ∨ i = 4) with h | h | h | h | h <;> subst h <;> exact hs _ (by decide +kernel))
    (fun i hi => by rcases (by omega : i = 0 ∨ i = 1 ∨ i = 2 ∨ i = 3 ∨ i = 4) with h | h | h | h | h <;> subst h <;> exact hs _ (by decide +kernel))
    (fun i hi => by rcases (by omega : i = 0 ∨ i = 1 ∨ i = 2 ∨ i = 3 ∨ i = 4) with h | h | h | h | h <;> subst h <;> exact hs _ (by decide +kernel))
    (fun i hi => by rcases (by omega : i = 0 ∨ i = 1 ∨ i = 2 ∨ i = 3 ∨ i = 4) with h | h | h | h | h <;> subst h <;> exact hs _ (by decide +kernel))
    (fun i hi j hj => by
      rcases (by omega : i = 0 ∨ i = 1 ∨ i = 2 ∨ i = 3 ∨ i = 4) with h | h | h | h | h <;> subst h
      · have h2 : j < 5 := hj
        rcases (by omega : j = 0 ∨ j = 1 ∨ j = 2 ∨ j = 3 ∨ j = 4) with h | h | h | h | h <;> subst h <;> exact hs _ (by decide +kernel)
      · have h2 : j < 3 := hj
        rcases (by omega : j = 0 ∨ j = 1 ∨ j = 2) with h | h | h <;> subst h <;> exact hs _ (by decide +kernel)
      · have h2 : j < 3 := hj
        rcases (by omega : j = 0 ∨ j = 1 ∨ j = 2) with h | h | h <;> subst h <;> exact hs _ (by decide +kernel)
      · have h2 : j < 3 := hj
        rcases (by omega : j = 0 ∨ j = 1 ∨ j = 2) with h | h | h <;> subst h <;> exact hs _ (by decide +kernel)
      · have h2 : j < 4 := hj
        rcases (by omega : j = 0 ∨ j = 1 ∨ j = 2 ∨ j = 3) with h | h | h | h <;> subst h <;> exact hs _ (by decide +kernel))
    (fun i j hi hj hij => by
      rcases (by omega : i = 0 ∨ i = 1 ∨ i = 2 ∨ i = 3 ∨ i = 4) with h | h | h | h | h <;> subst h <;> rcases (by omega : j = 0 ∨ j = 1 ∨ j = 2 ∨ j = 3 ∨ j = 4) with h | h | h | h | h <;> subst h <;> first | exact absurd rfl hij | exact Or.inl (hs _ (by decide +kernel)) | exact Or.inr (hs _ (by decide +kernel)))
    hA
  refine ⟨sa, sv, fun i hi => vk_R.of ?_ (hev i hi), hS, va_Zof (hts _ (by decide +kernel)) (hts _ (by decide +kernel)) (va_eqt (z := 1) (hs _ (by decide +kernel))) hA, va_Zqof (hts _ (by decide +kernel)) (hts _ (by decide +kernel)) (hs _ (by decide +kernel)) hA⟩
  rcases (by omega : i = 0 ∨ i = 1 ∨ i = 2 ∨ i = 3 ∨ i = 4) with h | h | h | h | h <;> subst h <;> exact hts _ (by decide +kernel)
theorem RR_0 : RR u0B u0M := by
  have z60 : (0 : Int) ≤ 0 ∧ (0 : Int) ≤ 60 := by decide
  have z9 : (0 : Int) ≤ 0 ∧ (0 : Int) ≤ 9 := by decide
  have z1 : (0 : Int) ≤ 0 ∧ (0 : Int) ≤ 1 := by decide
  have z8 : (0 : Int) ≤ 0 ∧ (0 : Int) < 8 := by decide
  have z99 : (0 : Int) ≤ 0 ∧ (0 : Int) ≤ 99 := by decide
  have m99 : (-99 : Int) ≤ 0 ∧ (0 : Int) ≤ 99 := by decide
  have n0 : ∀ {P : Prop} (i : Int), 0 ≤ i → i < 0 → P := fun i h0 h1 => absurd h1 (by omega)
  have iA : InA (fun k => u0B (3 + k)) := ⟨fun _ _ _ => z60, fun _ _ _ => z9, fun _ _ _ => z1, fun _ _ _ => z8⟩
  have iA2 : InA (fun k => u0B (8 + k)) := ⟨fun _ _ _ => z60, fun _ _ _ => z9, fun _ _ _ => z1, fun _ _ _ => z8⟩
  have iN : InN 0 0 (vB u0B 17) := ⟨(show (0 : Int) ≤ 0 ∧ (0 : Int) ≤ 999 by decide), z9, (show (0 : Int) ≤ 8 ∧ (8 : Int) ≤ 8 by decide), (show (0 : Int) ≤ 0 ∧ (0 : Int) ≤ 6 by decide), (show (0 : Int) ≤ 0 ∧ (0 : Int) ≤ 8 by decide), fun _ _ _ => z60, fun _ _ _ => z8, fun _ _ _ => z99, fun _ _ _ => m99, fun _ _ _ => m99, fun i j h0 h1 h2 => n0 j (by omega) h2, fun i h0 h1 => n0 i h0 h1⟩
  have iM : InN 0 0 (nv u0M) := ⟨(show (0 : Int) ≤ 0 ∧ (0 : Int) ≤ 999 by decide), z9, (show (0 : Int) ≤ 8 ∧ (8 : Int) ≤ 8 by decide), (show (0 : Int) ≤ 0 ∧ (0 : Int) ≤ 6 by decide), (show (0 : Int) ≤ 0 ∧ (0 : Int) ≤ 8 by decide), fun _ _ _ => z60, fun _ _ _ => z8, fun _ _ _ => z99, fun _ _ _ => m99, fun _ _ _ => m99, fun i j h0 h1 h2 => n0 j (by omega) h2, fun i h0 h1 => n0 i h0 h1⟩
  refine ⟨⟨⟨iA, (show (0 : Int) ≤ 0 ∧ (0 : Int) ≤ 8 by decide), (show (0 : Int) ≤ 0 ∧ (0 : Int) ≤ 3 by decide), z9, z9, (show (1 : Int) ≤ 1 ∧ (1 : Int) ≤ 4 by decide), fun i h0 h1 => n0 i h0 h1⟩, iA2, (show (0 : Int) ≤ 0 ∧ (0 : Int) ≤ 200 by decide), fun _ _ _ => (show (0 : Int) ≤ 0 ∧ (0 : Int) ≤ 255 by decide)⟩, ⟨fun _ _ _ => z9, fun _ _ _ => z1⟩, ⟨⟨rfl, rfl, rfl, rfl⟩, fun i h0 h1 => n0 i h0 h1⟩, ⟨iN, ⟨iM, fun _ _ _ => rfl⟩, rfl, rfl, ⟨rfl, Or.inl rfl⟩, rfl, rfl, fun i h0 h1 => n0 i h0 h1, fun i h0 h1 => n0 i h0 h1, fun i h0 h1 => n0 i h0 h1, fun i h0 h1 => n0 i h0 h1⟩, ⟨Or.inl ⟨rfl, rfl⟩, Or.inl ⟨rfl, rfl⟩⟩, ⟨rfl, rfl⟩, rfl⟩
