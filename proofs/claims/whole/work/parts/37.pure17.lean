/-! ===== pure: the reference's shaft ===== -/
theorem Liv_ok {K N : Int → Int} {D D1 : zU} {i j : Int} (h : Liv K i) (ho : ItOk K N D i j D1) : Liv K (j + 1) ∧ i < j ∧ K j = 3 := by
  unfold ItOk Nu at ho
  have g : ∀ q : Int, 0 ≤ q → q < i → K q ≠ 0 := h.2
  have h0 := h.1
  rcases ho with o | o | o | o | o
  · obtain ⟨a, _, b1, b2, b3, b4, e, _⟩ := o
    refine ⟨⟨by omega, fun q q0 q1 => ?_⟩, by omega, by rw [e]; exact b4⟩
    rcases (by omega : q < i ∨ q = i ∨ q = i + 1 ∨ q = i + 1 + 1 ∨ q = i + 1 + 1 + 1 ∨ q = i + 1 + 1 + 1 + 1) with r | r | r | r | r | r
    · exact g q q0 r
    · rw [r]; omega
    · rw [r]; omega
    · rw [r]; omega
    · rw [r]; omega
    · rw [r]; omega
  · obtain ⟨a, _, b1, b4, e, _⟩ := o
    refine ⟨⟨by omega, fun q q0 q1 => ?_⟩, by omega, by rw [e]; exact b4⟩
    rcases (by omega : q < i ∨ q = i ∨ q = i + 1 ∨ q = i + 1 + 1) with r | r | r | r
    · exact g q q0 r
    · rw [r]; omega
    · rw [r]; omega
    · rw [r]; omega
  · obtain ⟨a, _, b1, b4, e, _⟩ := o
    refine ⟨⟨by omega, fun q q0 q1 => ?_⟩, by omega, by rw [e]; exact b4⟩
    rcases (by omega : q < i ∨ q = i ∨ q = i + 1 ∨ q = i + 1 + 1) with r | r | r | r
    · exact g q q0 r
    · rw [r]; omega
    · rw [r]; omega
    · rw [r]; omega
  · obtain ⟨a, _, b1, b4, e, _⟩ := o
    refine ⟨⟨by omega, fun q q0 q1 => ?_⟩, by omega, by rw [e]; exact b4⟩
    rcases (by omega : q < i ∨ q = i ∨ q = i + 1 ∨ q = i + 1 + 1) with r | r | r | r
    · exact g q q0 r
    · rw [r]; omega
    · rw [r]; omega
    · rw [r]; omega
  · obtain ⟨a, _, b1, b4, e, _⟩ := o
    refine ⟨⟨by omega, fun q q0 q1 => ?_⟩, by omega, by rw [e]; exact b4⟩
    rcases (by omega : q < i ∨ q = i ∨ q = i + 1 ∨ q = i + 1 + 1) with r | r | r | r
    · exact g q q0 r
    · rw [r]; omega
    · rw [r]; omega
    · rw [r]; omega
theorem Liv_0 {K : Int → Int} : Liv K 0 := ⟨by decide, fun q h0 h1 => absurd h1 (by omega)⟩
theorem next_of {w w' : zU} {j : Nat} (hC : Cur w j) (hk : kd (w 1) (w 0 1) (ps (w 1) (w 0 1) j) ≠ 1) (h : ∃ tok td pt : Int, w' = rds w (skp (w 1) (w 0 1) (w 0 2)) tok td pt ∧ RdP (w 1) (w 0 1) (skp (w 1) (w 0 1) (w 0 2)) tok td pt) : FrR w w' ∧ Cur w' (j + 1) ∧ ∀ D : zU, DM w D → DM w' D := by
  obtain ⟨tok, td, pt, e, hR⟩ := h
  rw [nextR hC hk] at e hR
  subst e
  exact ⟨FrR_rds (FrR_rf w), Cur_rds hR, fun D h => h⟩
theorem first_of {w w' : zU} (h0 : w 0 2 = 0) (h : ∃ tok td pt : Int, w' = rds w (skp (w 1) (w 0 1) (w 0 2)) tok td pt ∧ RdP (w 1) (w 0 1) (skp (w 1) (w 0 1) (w 0 2)) tok td pt) : FrR w w' ∧ Cur w' 0 ∧ ∀ D : zU, DM w D → DM w' D := by
  obtain ⟨tok, td, pt, e, hR⟩ := h
  rw [h0] at e hR
  subst e
  exact ⟨FrR_rds (FrR_rf w), Cur_rds (i := 0) hR, fun D h => h⟩
theorem DM_0 (u : zU) : DM (up (up (up (up (up (up (up u 0 2 0) 0 6 0) 0 7 0) 0 11 0) 4 0 0) 4 1 0) 4 2 1) D0 :=
  ⟨⟨(show (0 : Int) ≤ 0 ∧ (0 : Int) ≤ 8 by decide), rfl⟩, ⟨(show (0 : Int) ≤ 0 ∧ (0 : Int) ≤ 3 by decide), rfl⟩, ⟨rfl, rfl, rfl⟩, ⟨Or.inl rfl, Or.inl rfl, Or.inl rfl, rfl⟩, fun l h0 h1 => absurd (show l < 0 from h1) (by omega), fun l h0 h1 => absurd (show l < 0 from h1) (by omega)⟩
theorem cp3 {w : zU} {R : Int → Int} {q x y z : Int} (_hq : 0 ≤ q) (h : ∀ l : Int, 0 ≤ l → l < q → w 5 l = R (3 * l) ∧ w 6 l = R (3 * l + 1) ∧ w 7 l = R (3 * l + 2)) (hx : x = R (3 * q)) (hy : y = R (3 * q + 1)) (hz : z = R (3 * q + 2)) : ∀ l : Int, 0 ≤ l → l < q + 1 → (up (up (up w 5 q x) 6 q y) 7 q z) 5 l = R (3 * l) ∧ (up (up (up w 5 q x) 6 q y) 7 q z) 6 l = R (3 * l + 1) ∧ (up (up (up w 5 q x) 6 q y) 7 q z) 7 l = R (3 * l + 2) := fun l h0 h1 => by
  show (if l = q then x else w 5 l) = R (3 * l) ∧ (if l = q then y else w 6 l) = R (3 * l + 1) ∧ (if l = q then z else w 7 l) = R (3 * l + 2)
  by_cases e : l = q
  · rw [if_pos e, if_pos e, if_pos e, e]; exact ⟨hx, hy, hz⟩
  · rw [if_neg e, if_neg e, if_neg e]; exact h l h0 (by omega)
theorem cpr {w : zU} {q x y z : Int} (h : ∀ l : Int, 0 ≤ l → l < 8 → (0 ≤ w 5 l ∧ w 5 l ≤ 60) ∧ (0 ≤ w 6 l ∧ w 6 l ≤ 9) ∧ 0 ≤ w 7 l ∧ w 7 l ≤ 1) (hx : 0 ≤ x ∧ x ≤ 60) (hy : 0 ≤ y ∧ y ≤ 9) (hz : 0 ≤ z ∧ z ≤ 1) : ∀ l : Int, 0 ≤ l → l < 8 → (0 ≤ (up (up (up w 5 q x) 6 q y) 7 q z) 5 l ∧ (up (up (up w 5 q x) 6 q y) 7 q z) 5 l ≤ 60) ∧ (0 ≤ (up (up (up w 5 q x) 6 q y) 7 q z) 6 l ∧ (up (up (up w 5 q x) 6 q y) 7 q z) 6 l ≤ 9) ∧ 0 ≤ (up (up (up w 5 q x) 6 q y) 7 q z) 7 l ∧ (up (up (up w 5 q x) 6 q y) 7 q z) 7 l ≤ 1 := fun l h0 h1 => by
  show (0 ≤ (if l = q then x else w 5 l) ∧ (if l = q then x else w 5 l) ≤ 60) ∧ (0 ≤ (if l = q then y else w 6 l) ∧ (if l = q then y else w 6 l) ≤ 9) ∧ 0 ≤ (if l = q then z else w 7 l) ∧ (if l = q then z else w 7 l) ≤ 1
  by_cases e : l = q
  · rw [if_pos e, if_pos e, if_pos e]; exact ⟨hx, hy, hz⟩
  · rw [if_neg e, if_neg e, if_neg e]; exact h l h0 h1
theorem cpo {w B : zU} {q x y z : Int} (h : ∀ (c : Nat) (i : Int), c ≠ 5 → c ≠ 6 → c ≠ 7 → w c i = B c i) : ∀ (c : Nat) (i : Int), c ≠ 5 → c ≠ 6 → c ≠ 7 → (up (up (up w 5 q x) 6 q y) 7 q z) c i = B c i := fun c i h5 h6 h7 =>
  (up_ne _ (Or.inl h7)).trans ((up_ne _ (Or.inl h6)).trans ((up_ne _ (Or.inl h5)).trans (h c i h5 h6 h7)))
theorem st8 {y : zU} {R : Int → Int} {m p x : Int} (_hm : 0 ≤ m) (h : ∀ k : Int, 0 ≤ k → k < m → y 8 k = if k < p then R k else 0) (hx : (m < p ∧ x = R m) ∨ (p ≤ m ∧ x = 0)) : ∀ k : Int, 0 ≤ k → k < m + 1 → (up y 8 m x) 8 k = if k < p then R k else 0 := fun k h0 h1 => by
  show (if k = m then x else y 8 k) = _
  by_cases e : k = m
  · rw [if_pos e, e]
    rcases hx with q | q
    · rw [if_pos q.1]; exact q.2
    · rw [if_neg (by omega)]; exact q.2
  · rw [if_neg e]; exact h k h0 (by omega)
/-- what the reference holds behind a text -/
def ShM (u u' D : zU) : Prop := (u' 0 12 = D 0 0 ∧ u' 0 13 = D 0 1) ∧ (u' 9 0 = D 0 2 ∧ u' 9 1 = D 0 3 ∧ u' 9 2 = D 0 4) ∧ (∀ l : Int, 0 ≤ l → l < D 0 0 → u' 5 l = D 1 l ∧ u' 6 l = D 2 l ∧ u' 7 l = D 3 l) ∧ (∀ m : Int, 0 ≤ m → m < 3 → u' 8 m = if m < D 0 1 then D 4 m else 0) ∧ (u' 0 19 = 0 ∧ u' 0 20 = 8 ∧ u' 0 21 = 0 ∧ u' 0 31 = 0) ∧ (u' 20 0 = -1 ∧ u' 20 36 = -1) ∧ u' 0 1 = 0 ∧ u' 0 34 = u 0 34 ∧ u' 1 = u 1
def shF (y : zU) : zU := up (up (up (up (up (up (up (up (up (up y 9 0 (y 4 0)) 9 1 (y 4 1)) 9 2 (y 4 2)) 0 19 0) 0 20 8) 0 21 0) 0 31 0) 20 0 (-1)) 20 36 (-1)) 0 1 0
section SH
variable {u v w y Dr : zU}
theorem sh_y (hO : ∀ (c : Nat) (i : Int), c ≠ 5 → c ≠ 6 → c ≠ 7 → w c i = (up (up v 0 12 (v 0 6)) 0 13 (v 0 7)) c i) (hO2 : ∀ (c : Nat) (i : Int), c ≠ 8 → y c i = w c i) (c : Nat) (i : Int) (q5 : c ≠ 5) (q6 : c ≠ 6) (q7 : c ≠ 7) (q8 : c ≠ 8) : y c i = (up (up v 0 12 (v 0 6)) 0 13 (v 0 7)) c i := (hO2 c i q8).trans (hO c i q5 q6 q7)
theorem sh_M (hF : FrR u v) (hD : DM v Dr) (hO : ∀ (c : Nat) (i : Int), c ≠ 5 → c ≠ 6 → c ≠ 7 → w c i = (up (up v 0 12 (v 0 6)) 0 13 (v 0 7)) c i) (h5 : ∀ l : Int, 0 ≤ l → l < v 0 6 → w 5 l = v 2 (3 * l) ∧ w 6 l = v 2 (3 * l + 1) ∧ w 7 l = v 2 (3 * l + 2)) (hO2 : ∀ (c : Nat) (i : Int), c ≠ 8 → y c i = w c i) (h8 : ∀ k : Int, 0 ≤ k → k < 3 → y 8 k = if k < v 0 7 then v 3 k else 0) : ShM u (shF y) Dr := by
  obtain ⟨d1, d2, d3, d4, d5, d6⟩ := hD
  have e := sh_y hO hO2
  have e12 : y 0 12 = v 0 6 := e 0 12 (by decide) (by decide) (by decide) (by decide)
  have e13 : y 0 13 = v 0 7 := e 0 13 (by decide) (by decide) (by decide) (by decide)
  have e40 : y 4 0 = v 4 0 := e 4 0 (by decide) (by decide) (by decide) (by decide)
  have e41 : y 4 1 = v 4 1 := e 4 1 (by decide) (by decide) (by decide) (by decide)
  have e42 : y 4 2 = v 4 2 := e 4 2 (by decide) (by decide) (by decide) (by decide)
  have e34 : y 0 34 = v 0 34 := e 0 34 (by decide) (by decide) (by decide) (by decide)
  refine ⟨⟨e12.trans d1.2.symm, e13.trans d2.2.symm⟩, ⟨e40.trans d3.1.symm, e41.trans d3.2.1.symm, e42.trans d3.2.2.symm⟩, fun l h0 h1 => ?_, fun m h0 h1 => ?_, ⟨rfl, rfl, rfl, rfl⟩, ⟨rfl, rfl⟩, rfl, ?_, ?_⟩
  · rw [d1.2] at h1
    have g := h5 l h0 h1
    have k := d5 l h0 h1
    exact ⟨(hO2 5 l (by decide)).trans (g.1.trans k.1.symm), (hO2 6 l (by decide)).trans (g.2.1.trans k.2.1.symm), (hO2 7 l (by decide)).trans (g.2.2.trans k.2.2.symm)⟩
  · have g := h8 m h0 h1
    show y 8 m = _
    rw [g, d2.2]
    by_cases q : m < v 0 7
    · rw [if_pos q, if_pos q]; exact (d6 m h0 q).symm
    · rw [if_neg q, if_neg q]
  · show y 0 34 = u 0 34
    rw [e34]; exact hF 0 34 (by omega)
  · funext i
    show y 1 i = u 1 i
    rw [e 1 i (by decide) (by decide) (by decide) (by decide)]
    exact hF 1 i (by omega)
theorem sh_I (hF : FrR u v) (hI : IM u) (hD : DM v Dr) (hR : RnD Dr) (hO : ∀ (c : Nat) (i : Int), c ≠ 5 → c ≠ 6 → c ≠ 7 → w c i = (up (up v 0 12 (v 0 6)) 0 13 (v 0 7)) c i) (hr : ∀ l : Int, 0 ≤ l → l < 8 → (0 ≤ w 5 l ∧ w 5 l ≤ 60) ∧ (0 ≤ w 6 l ∧ w 6 l ≤ 9) ∧ 0 ≤ w 7 l ∧ w 7 l ≤ 1) (hO2 : ∀ (c : Nat) (i : Int), c ≠ 8 → y c i = w c i) (h8 : ∀ k : Int, 0 ≤ k → k < 3 → y 8 k = if k < v 0 7 then v 3 k else 0) : IM (shF y) := by
  obtain ⟨d1, d2, d3, d4, d5, d6⟩ := hD
  obtain ⟨r1, r2, r3, r4, r5, r6, r7⟩ := hR
  have e := sh_y hO hO2
  have e12 : y 0 12 = v 0 6 := e 0 12 (by decide) (by decide) (by decide) (by decide)
  have e13 : y 0 13 = v 0 7 := e 0 13 (by decide) (by decide) (by decide) (by decide)
  have e40 : y 4 0 = v 4 0 := e 4 0 (by decide) (by decide) (by decide) (by decide)
  have e41 : y 4 1 = v 4 1 := e 4 1 (by decide) (by decide) (by decide) (by decide)
  have e42 : y 4 2 = v 4 2 := e 4 2 (by decide) (by decide) (by decide) (by decide)
  have eu : ∀ (c : Nat) (i : Int), c = 1 ∨ c = 10 ∨ c = 11 ∨ c = 18 → y c i = u c i := fun c i q => by
    rw [e c i (by omega) (by omega) (by omega) (by omega), up_ne _ (Or.inl (by omega)), up_ne _ (Or.inl (by omega))]
    exact hF c i (by omega)
  have g8 : ∀ m : Int, 0 ≤ m → m < 3 → (v 0 7 ≤ m ∧ y 8 m = 0) ∨ (m < v 0 7 ∧ 0 ≤ y 8 m ∧ y 8 m < v 0 6) := fun m h0 h1 => by
    have g := h8 m h0 h1
    by_cases q : m < v 0 7
    · rw [if_pos q] at g
      have k := d6 m h0 q
      have k2 := r7 m h0 (by omega)
      exact Or.inr ⟨q, by omega, by omega⟩
    · rw [if_neg q] at g
      exact Or.inl ⟨by omega, g⟩
  refine ⟨?_, ?_, ?_, ?_, fun i h0 h1 => ?_, fun i h0 h1 => ?_, ⟨⟨?_, ?_, ?_, ?_, ?_, fun i h0 h1 => ?_, fun i h0 h1 => ?_, fun i h0 h1 => ?_, fun i h0 h1 => ?_, fun i h0 h1 => ?_, fun i j h0 h1 h2 => ?_, fun i h0 h1 => ?_⟩, fun i h0 h1 => ?_⟩, Or.inl rfl, Or.inl rfl, ?_, fun i h0 h1 => ?_⟩
  · show 0 ≤ y 0 12 ∧ y 0 12 ≤ 8
    omega
  · show 0 ≤ y 0 13 ∧ y 0 13 ≤ 3
    omega
  · show 0 ≤ y 4 0 ∧ y 4 0 ≤ 9
    omega
  · show 1 ≤ y 4 2 ∧ y 4 2 ≤ 4
    omega
  · show 0 ≤ y 6 i ∧ y 6 i ≤ 9
    rw [hO2 6 i (by decide)]; exact (hr i h0 h1).2.1
  · show 0 ≤ y 7 i ∧ y 7 i ≤ 1
    rw [hO2 7 i (by decide)]; exact (hr i h0 h1).2.2
  · exact (show (0 : Int) ≤ 0 ∧ (0 : Int) ≤ 999 by decide)
  · show 0 ≤ y 4 1 ∧ y 4 1 ≤ 9
    omega
  · exact (show (0 : Int) ≤ 8 ∧ (8 : Int) ≤ 8 by decide)
  · exact (show (0 : Int) ≤ 0 ∧ (0 : Int) ≤ 6 by decide)
  · exact (show (0 : Int) ≤ 0 ∧ (0 : Int) ≤ 8 by decide)
  · show 0 ≤ y 5 i ∧ y 5 i ≤ 60
    rw [hO2 5 i (by decide)]; exact (hr i h0 h1).1
  · show 0 ≤ y 8 i ∧ y 8 i < 8
    have := g8 i h0 h1
    omega
  · show 0 ≤ y 10 i ∧ y 10 i ≤ 99
    rw [eu 10 i (by omega)]; exact hI.minute i h0 h1
  · show -99 ≤ y 11 i ∧ y 11 i ≤ 99
    rw [eu 11 i (by omega)]; exact hI.note i h0 h1
  · show -99 ≤ y 18 i ∧ y 18 i ≤ 99
    rw [eu 18 i (by omega)]; exact hI.hymn i h0 h1
  · exact absurd (show j < 0 from h2) (by omega)
  · have h1' : i < y 0 13 := h1
    show y 8 i < y 0 12
    have := g8 i h0 (by omega)
    omega
  · have h0' : y 0 13 ≤ i := h0
    show y 8 i = 0
    have := g8 i (by omega) h1
    omega
  · exact (show (0 : Int) ≤ 0 ∧ (0 : Int) ≤ 200 by decide)
  · show 0 ≤ y 1 i ∧ y 1 i ≤ 255
    rw [eu 1 i (by omega)]; exact hI.byte i h0 h1
end SH
