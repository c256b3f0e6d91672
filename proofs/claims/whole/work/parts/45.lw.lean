/-! ===== NoteBells.men ===== -/

theorem zy_X10_men : zY yX10_men 0 := ⟨by decide +kernel, by decide +kernel, by decide +kernel⟩
-- NoteBells.men
theorem inX10_men_X10 : ∀ w ∈ wsX100, w ∈ wsX10_men := fun w h => List.mem_cons_of_mem _ (List.mem_append_left _ (List.mem_append_left _ (List.mem_append_left _ (List.mem_append_left _ (List.mem_append_right _ (h))))))
set_option maxHeartbeats 8000000 in
set_option maxRecDepth 100000 in
theorem c_X10_men (l : Launch) (D : va_G) (a : Nat → Nat) (c : Nat → ClassId) (u : zU)  (hI : IB u) : ZM l D (zTy c) (WB a c) yX10_men wsX10_men 30 [.ref (a 0)] u rI (fun z u' => (∃ f g h : Int → Int, u' = us (us (us u 42 f) 43 g) 41 h) ∧ ((u 17 8 = 0 ∧ z = 0) ∨ (u 17 8 ≠ 0 ∧ ∃ V : Int, Bst 4 V (PlC u) ∧ z = if 3 < V then -9 else V))) := by
  refine ZM.ofI (cc := cX10_men) (maxL := 1) [(0, .ref (a 0))] rfl (by decide +kernel) rfl (Nat.le_of_ble_eq_true rfl) (WB_addr a c) ?_
  intro x C hK _ _ hDD kret
  refine z_aload_n C 0 dX10_men_0 rfl ?_
  refine z_get C hK (v := .ref (a 41)) inX10_men_X10 0 (WB_0 a c u) rfl 9 (by decide) (List.mem_of_getElem? (i := 1) rfl) rfl dX10_men_1 ?_
  refine z_callVN C hK hDD (c_X4_fewest (zl x) (zG x) a c u  (hI)) ggX10_men_X4_fewest (List.mem_of_getElem? (i := 19) rfl) (List.mem_of_getElem? (i := 3) rfl) (List.mem_of_getElem? (i := 2) rfl) (List.mem_of_getElem? (i := 4) rfl) rfl zy_X4_fewest 41 (WB_41 a c u) rfl ⟨by omega, by decide⟩ rfl (Nat.le_of_ble_eq_true rfl) (st := []) (stk2 := fun z1 => [.int (zI z1)]) rfl (fun _ => rfl) dX10_men_4 (fun z1 u2 h3 => ?_)
  have KR := h3
  exact kret z1 u2 _ _ (KR) dX10_men_7
/-! ===== the law's calls: equal answers, and alike again ===== -/
theorem cnt_congr {S S' : Int → Int} {m : Int} : ∀ n : Nat, (∀ i : Int, 0 ≤ i → i < (n : Int) → S i = S' i) → cnt S m n = cnt S' m n
  | 0, _ => rfl
  | n + 1, h => by
    unfold cnt
    rw [cnt_congr n (fun i h0 h1 => h i h0 (by omega)), h (n : Int) (by omega) (by omega)]
section RRL
variable {u v u' v' : zU} {z z2 : Int}
theorem la_clear (h : RR u v) (h1 : u' = (up u 1 (1) (0)) ∧ z = u 1 1) (h2 : v' = (up v 0 (1) (0)) ∧ z2 = v 0 1) : z = z2 ∧ RR u' v' := by
  obtain ⟨e1, a1⟩ := h1
  obtain ⟨e2, a2⟩ := h2
  subst e1 e2
  exact ⟨by rw [a1, a2]; exact h.len, ⟨h.1.1, h.1.2.1, (show (0 : Int) ≤ 0 ∧ (0 : Int) ≤ 200 by decide), h.1.2.2.2⟩, h.2.1, h.2.2.1, h.2.2.2.1, h.2.2.2.2.1, ⟨rfl, h.txt⟩, h.trc⟩
theorem la_type {V n : Int} (h : RR u v) (h1 : (¬ (1 ≤ n ∧ n ≤ 8) ∧ z = -1 ∧ u' = u) ∨ (1 ≤ n ∧ n ≤ 8 ∧ 200 < u 1 1 + n ∧ z = -3 ∧ u' = u) ∨ (1 ≤ n ∧ n ≤ 8 ∧ u 1 1 + n ≤ 200 ∧ z = u 1 1 + n ∧ u' = up (us u 2 (tyf (u 2) (u 1 1) V n)) 1 1 (u 1 1 + n))) (h2 : (¬ (1 ≤ n ∧ n ≤ 8) ∧ z2 = -1 ∧ v' = v) ∨ (1 ≤ n ∧ n ≤ 8 ∧ 200 < v 0 1 + n ∧ z2 = -3 ∧ v' = v) ∨ (1 ≤ n ∧ n ≤ 8 ∧ v 0 1 + n ≤ 200 ∧ z2 = v 0 1 + n ∧ v' = up (us v 1 (tyf (v 1) (v 0 1) V n)) 0 1 (v 0 1 + n))) : z = z2 ∧ RR u' v' := by
  have e := h.len
  have et := h.txt
  rcases h1 with ⟨c1, a1, e1⟩ | ⟨c1, c2, d1, a1, e1⟩ | ⟨c1, c2, d1, a1, e1⟩
  · rcases h2 with ⟨_, a2, e2⟩ | ⟨c3, c4, _⟩ | ⟨c3, c4, _⟩
    · rw [e1, e2]; exact ⟨by omega, h⟩
    · exact absurd ⟨c3, c4⟩ c1
    · exact absurd ⟨c3, c4⟩ c1
  · rcases h2 with ⟨c3, _⟩ | ⟨_, _, d2, a2, e2⟩ | ⟨_, _, d2, _⟩
    · exact absurd ⟨c1, c2⟩ c3
    · rw [e1, e2]; exact ⟨by omega, h⟩
    · omega
  · rcases h2 with ⟨c3, _⟩ | ⟨_, _, d2, _⟩ | ⟨_, _, d2, a2, e2⟩
    · exact absurd ⟨c1, c2⟩ c3
    · omega
    · refine ⟨by omega, ?_⟩
      have hT : 0 ≤ u 1 1 ∧ u 1 1 ≤ 200 := h.1.2.2.1
      have hB : ∀ i : Int, 0 ≤ i → i < 200 → 0 ≤ u 2 i ∧ u 2 i ≤ 255 := h.1.2.2.2
      subst e1 e2
      refine ⟨⟨h.1.1, h.1.2.1, ?_, fun i h0 h1 => ?_⟩, h.2.1, h.2.2.1, h.2.2.2.1, h.2.2.2.2.1, ⟨?_, ?_⟩, h.trc⟩
      · show 0 ≤ u 1 1 + n ∧ u 1 1 + n ≤ 200
        omega
      · show 0 ≤ tyf (u 2) (u 1 1) V n i ∧ tyf (u 2) (u 1 1) V n i ≤ 255
        unfold tyf
        by_cases q : u 1 1 ≤ i ∧ i < u 1 1 + n
        · rw [if_pos q]; unfold byt; omega
        · rw [if_neg q]; exact hB i h0 h1
      · show u 1 1 + n = v 0 1 + n
        omega
      · show tyf (u 2) (u 1 1) V n = tyf (v 1) (v 0 1) V n
        rw [e, et]
theorem la_level {m k : Int} (h : RR u v) (h1 : u' = u ∧ (((0 ≤ m ∧ m < u 3 4) ∧ ((k = 0 ∧ z = u 18 m) ∨ (k = 1 ∧ z = u 5 m) ∨ (k = 2 ∧ z = u 6 m) ∨ (k = 3 ∧ z = snd (u 18 m) (u 17 6) m))) ∨ (¬ ((0 ≤ m ∧ m < u 3 4) ∧ 0 ≤ k ∧ k ≤ 3) ∧ z = -1000000))) (h2 : v' = v ∧ (((0 ≤ m ∧ m < v 0 12) ∧ ((k = 0 ∧ z2 = v 5 m) ∨ (k = 1 ∧ z2 = v 6 m) ∨ (k = 2 ∧ z2 = v 7 m) ∨ (k = 3 ∧ z2 = snd (v 5 m) (v 9 1) m))) ∨ (¬ ((0 ≤ m ∧ m < v 0 12) ∧ 0 ≤ k ∧ k ≤ 3) ∧ z2 = -1000000))) : z = z2 ∧ RR u' v' := by
  obtain ⟨e1, a1⟩ := h1
  obtain ⟨e2, a2⟩ := h2
  rw [e1, e2]
  refine ⟨?_, h⟩
  have q1 := h.lev
  by_cases q : 0 ≤ m ∧ m < u 3 4
  · have p1 := h.pitch m q.1 q.2
    have p2 := h.wear m q.1 q.2
    have p3 := h.echo m q.1 q.2
    have p4 := h.sno m q.1 q.2
    omega
  · omega
theorem la_man {m : Int} (h : RR u v) (h1 : u' = u ∧ ((0 ≤ m ∧ m < u 3 5 ∧ z = u 19 m) ∨ (¬ (0 ≤ m ∧ m < u 3 5) ∧ z = -1))) (h2 : v' = v ∧ ((0 ≤ m ∧ m < v 0 13 ∧ z2 = v 8 m) ∨ (¬ (0 ≤ m ∧ m < v 0 13) ∧ z2 = -1))) : z = z2 ∧ RR u' v' := by
  obtain ⟨e1, a1⟩ := h1
  obtain ⟨e2, a2⟩ := h2
  rw [e1, e2]
  refine ⟨?_, h⟩
  have q1 := h.ppl
  by_cases q : 0 ≤ m ∧ m < u 3 5
  · have p1 := h.stand m q.1 q.2
    omega
  · omega
theorem la_wet {w : Int} (h : RR u v) (h1 : (0 ≤ w ∧ w ≤ 9 ∧ z = u 17 6 ∧ u' = up u 17 6 w) ∨ (¬ (0 ≤ w ∧ w ≤ 9) ∧ z = -1 ∧ u' = u)) (h2 : (0 ≤ w ∧ w ≤ 9 ∧ z2 = v 9 1 ∧ v' = up v 9 1 w) ∨ (¬ (0 ≤ w ∧ w ≤ 9) ∧ z2 = -1 ∧ v' = v)) : z = z2 ∧ RR u' v' := by
  have q1 := h.wet
  rcases h1 with ⟨c1, c2, a1, e1⟩ | ⟨c1, a1, e1⟩
  · rcases h2 with ⟨_, _, a2, e2⟩ | ⟨c3, _⟩
    · subst e1 e2
      exact ⟨by omega, h.1, h.2.1, h.2.2.1, NB_wet h.2.2.2.1 ⟨c1, c2⟩, h.2.2.2.2⟩
    · exact absurd ⟨c1, c2⟩ c3
  · rcases h2 with ⟨c3, c4, _⟩ | ⟨_, a2, e2⟩
    · exact absurd ⟨c3, c4⟩ c1
    · rw [e1, e2]; exact ⟨by omega, h⟩
theorem la_taken {m : Int} (h : RR u v) (h1 : u' = u ∧ ((0 ≤ m ∧ m < u 3 4 ∧ z = ((like (u 18) (u 17 6) (u 3 6) (u 3 4) (snd (u 18 m) (u 17 6) m) : Nat) : Int)) ∨ (¬ (0 ≤ m ∧ m < u 3 4) ∧ z = -1))) (h2 : v' = v ∧ ((0 ≤ m ∧ m < v 0 12 ∧ z2 = ((like (v 5) (v 9 1) (v 9 0) (v 0 12) (snd (v 5 m) (v 9 1) m) : Nat) : Int)) ∨ (¬ (0 ≤ m ∧ m < v 0 12) ∧ z2 = -1))) : z = z2 ∧ RR u' v' := by
  obtain ⟨e1, a1⟩ := h1
  obtain ⟨e2, a2⟩ := h2
  rw [e1, e2]
  refine ⟨?_, h⟩
  have q1 := h.lev
  by_cases q : 0 ≤ m ∧ m < u 3 4
  · have p1 := h.lik (snd (v 5 m) (v 9 1) m)
    rw [h.sno m q.1 q.2, p1] at a1
    omega
  · omega
theorem la_comes {s : Int} (h : RR u v) (h1 : u' = u ∧ ((-99 ≤ s ∧ s ≤ 99 ∧ z = ((like (u 18) (u 17 6) (u 3 6) (u 3 4) (s) : Nat) : Int)) ∨ (¬ (-99 ≤ s ∧ s ≤ 99) ∧ z = -1))) (h2 : v' = v ∧ ((-99 ≤ s ∧ s ≤ 99 ∧ z2 = ((like (v 5) (v 9 1) (v 9 0) (v 0 12) (s) : Nat) : Int)) ∨ (¬ (-99 ≤ s ∧ s ≤ 99) ∧ z2 = -1))) : z = z2 ∧ RR u' v' := by
  obtain ⟨e1, a1⟩ := h1
  obtain ⟨e2, a2⟩ := h2
  rw [e1, e2]
  refine ⟨?_, h⟩
  rw [h.lik s] at a1
  omega
theorem la_climbs {m k : Int} (h : RR u v) (h1 : (¬ (0 ≤ m ∧ m < u 3 5 ∧ 0 ≤ k ∧ k < u 3 4) ∧ z = -1 ∧ u' = u) ∨ ((0 ≤ m ∧ m < u 3 5 ∧ 0 ≤ k ∧ k < u 3 4) ∧ u 19 m = k ∧ z = -2 ∧ u' = u) ∨ ((0 ≤ m ∧ m < u 3 5 ∧ 0 ≤ k ∧ k < u 3 4) ∧ u 19 m ≠ k ∧ ((u 19 m ≤ k ∧ z = k - u 19 m) ∨ (k < u 19 m ∧ z = u 19 m - k)) ∧ u' = up u 19 m k)) (h2 : (¬ (0 ≤ m ∧ m < v 0 13 ∧ 0 ≤ k ∧ k < v 0 12) ∧ z2 = -1 ∧ v' = v) ∨ ((0 ≤ m ∧ m < v 0 13 ∧ 0 ≤ k ∧ k < v 0 12) ∧ v 8 m = k ∧ z2 = -2 ∧ v' = v) ∨ ((0 ≤ m ∧ m < v 0 13 ∧ 0 ≤ k ∧ k < v 0 12) ∧ v 8 m ≠ k ∧ ((v 8 m ≤ k ∧ z2 = k - v 8 m) ∨ (k < v 8 m ∧ z2 = v 8 m - k)) ∧ v' = up v 8 m k)) : z = z2 ∧ RR u' v' := by
  have q1 := h.lev
  have q2 := h.ppl
  have hl := h.ib.lev
  by_cases q : 0 ≤ m ∧ m < u 3 5 ∧ 0 ≤ k ∧ k < u 3 4
  · have p1 := h.stand m q.1 q.2.1
    rcases h1 with ⟨c, _⟩ | ⟨c, d, a1, e1⟩ | ⟨c, d, a1, e1⟩
    · exact absurd q c
    · rcases h2 with ⟨c2, _⟩ | ⟨c2, d2, a2, e2⟩ | ⟨c2, d2, a2, e2⟩
      · exact absurd q (by omega)
      · rw [e1, e2]; exact ⟨by omega, h⟩
      · exact absurd d (by omega)
    · rcases h2 with ⟨c2, _⟩ | ⟨c2, d2, a2, e2⟩ | ⟨c2, d2, a2, e2⟩
      · exact absurd q (by omega)
      · exact absurd d2 (by omega)
      · subst e1 e2
        exact ⟨by omega, h.1, h.2.1, h.2.2.1, NB_stand h.2.2.2.1 hl.2 ⟨q.1, q.2.1⟩ q.2.2, h.2.2.2.2⟩
  · rcases h1 with ⟨c, a1, e1⟩ | ⟨c, _⟩ | ⟨c, _⟩
    · rcases h2 with ⟨c2, a2, e2⟩ | ⟨c2, _⟩ | ⟨c2, _⟩
      · rw [e1, e2]; exact ⟨by omega, h⟩
      · exact absurd c2 (by omega)
      · exact absurd c2 (by omega)
    · exact absurd c q
    · exact absurd c q
theorem la_plucks {m : Int} (h : RR u v) (h1 : u' = u ∧ ((0 ≤ m ∧ m < u 3 5 ∧ u 19 m < u 17 7 ∧ z = snd (u 18 (u 19 m)) (u 17 6) (u 19 m)) ∨ (¬ (0 ≤ m ∧ m < u 3 5 ∧ u 19 m < u 17 7) ∧ z = -1000000))) (h2 : v' = v ∧ ((0 ≤ m ∧ m < v 0 13 ∧ v 8 m < v 0 20 ∧ z2 = snd (v 5 (v 8 m)) (v 9 1) (v 8 m)) ∨ (¬ (0 ≤ m ∧ m < v 0 13 ∧ v 8 m < v 0 20) ∧ z2 = -1000000))) : z = z2 ∧ RR u' v' := by
  obtain ⟨e1, a1⟩ := h1
  obtain ⟨e2, a2⟩ := h2
  rw [e1, e2]
  refine ⟨?_, h⟩
  have q1 := h.ppl
  have q2 := h.rope.1
  have hp := h.ib.ppl
  by_cases q : 0 ≤ m ∧ m < u 3 5
  · have p1 := h.stand m q.1 q.2
    have p2 := h.ib.stand m q.1 q.2
    have p3 := h.ib.stands m q.1 (by omega)
    have p4 := h.sno (u 19 m) p3.1 p2
    rw [p1] at a1 p4
    omega
  · omega
theorem la_falls {m : Int} (h : RR u v) (h1 : (¬ (0 ≤ m ∧ m < u 3 4) ∧ z = -1 ∧ u' = u) ∨ (0 ≤ m ∧ m < u 3 4 ∧ u 17 7 ≤ m ∧ z = -2 ∧ u' = u) ∨ (0 ≤ m ∧ m < u 3 4 ∧ m < u 17 7 ∧ z = u 3 4 - m ∧ u' = up u 17 7 m)) (h2 : (¬ (0 ≤ m ∧ m < v 0 12) ∧ z2 = -1 ∧ v' = v) ∨ (0 ≤ m ∧ m < v 0 12 ∧ v 0 20 ≤ m ∧ z2 = -2 ∧ v' = v) ∨ (0 ≤ m ∧ m < v 0 12 ∧ m < v 0 20 ∧ z2 = v 0 12 - m ∧ v' = up v 0 20 m)) : z = z2 ∧ RR u' v' := by
  have q1 := h.lev
  have q2 := h.rope.1
  have hl := h.ib.lev
  rcases h1 with ⟨c, a1, e1⟩ | ⟨c1, c2, c3, a1, e1⟩ | ⟨c1, c2, c3, a1, e1⟩
  · rcases h2 with ⟨d, a2, e2⟩ | ⟨d1, d2, _⟩ | ⟨d1, d2, _⟩
    · rw [e1, e2]; exact ⟨by omega, h⟩
    · omega
    · omega
  · rcases h2 with ⟨d, _⟩ | ⟨d1, d2, d3, a2, e2⟩ | ⟨d1, d2, d3, _⟩
    · exact absurd d (by omega)
    · rw [e1, e2]; exact ⟨by omega, h⟩
    · exact absurd d3 (by omega)
  · rcases h2 with ⟨d, _⟩ | ⟨d1, d2, d3, _⟩ | ⟨d1, d2, d3, a2, e2⟩
    · exact absurd d (by omega)
    · exact absurd d3 (by omega)
    · subst e1 e2
      exact ⟨by omega, h.1, h.2.1, h.2.2.1, NB_rope h.2.2.2.1 ⟨c1, by omega⟩ (Or.inr c2), h.2.2.2.2⟩
theorem la_mends (h : RR u v) (h1 : (u 3 4 ≤ u 17 7 ∧ z = -2 ∧ u' = u) ∨ (u 17 7 < u 3 4 ∧ z = u 3 4 - u 17 7 ∧ u' = up u 17 7 8)) (h2 : (v 0 20 = 8 ∧ z2 = -2 ∧ v' = v) ∨ (v 0 20 ≠ 8 ∧ z2 = v 0 12 - v 0 20 ∧ v' = up v 0 20 8)) : z = z2 ∧ RR u' v' := by
  have q1 := h.lev
  have q2 := h.rope
  have hl := h.ib.lev
  rcases h1 with ⟨c, a1, e1⟩ | ⟨c, a1, e1⟩
  · rcases h2 with ⟨d, a2, e2⟩ | ⟨d, _⟩
    · rw [e1, e2]; exact ⟨by omega, h⟩
    · exact absurd d (by omega)
  · rcases h2 with ⟨d, _⟩ | ⟨d, a2, e2⟩
    · exact absurd d (by omega)
    · subst e1 e2
      exact ⟨by omega, h.1, h.2.1, h.2.2.1, NB_rope h.2.2.2.1 (by decide) (Or.inl rfl), h.2.2.2.2⟩
theorem la_year (h : RR u v) (h1 : (999 ≤ u 17 5 ∧ z = -2 ∧ u' = u) ∨ (u 17 5 < 999 ∧ z = u 17 5 + 1 ∧ u' = up (us u 18 (fun j => if 0 ≤ j ∧ j < u 3 4 then wrn (u 18 j) (u 5 j) 1 else u 18 j)) 17 5 (u 17 5 + 1))) (h2 : (999 ≤ v 0 19 ∧ z2 = -2 ∧ v' = v) ∨ (v 0 19 < 999 ∧ z2 = v 0 19 + 1 ∧ v' = up (us v 5 (fun j => if 0 ≤ j ∧ j < v 0 12 then wrn (v 5 j) (v 6 j) 1 else v 5 j)) 0 19 (v 0 19 + 1))) : z = z2 ∧ RR u' v' := by
  have q1 := h.lev
  have q2 := h.year
  have hl := h.ib.lev
  rcases h1 with ⟨c, a1, e1⟩ | ⟨c, a1, e1⟩
  · rcases h2 with ⟨d, a2, e2⟩ | ⟨d, _⟩
    · rw [e1, e2]; exact ⟨by omega, h⟩
    · exact absurd d (by omega)
  · rcases h2 with ⟨d, _⟩ | ⟨d, a2, e2⟩
    · exact absurd d (by omega)
    · have hw := h.ib.wear
      have hw2 := h.im.wear
      have hn := NB_year h.2.2.2.1 hl.2 c hw hw2 h.wear
      rw [← q1] at e2
      subst e1 e2
      exact ⟨by omega, h.1, h.2.1, h.2.2.1, hn, h.2.2.2.2⟩
theorem la_heard {t s : Int} (h : RR u v) (h1 : (¬ (0 ≤ t ∧ t ≤ 99 ∧ -99 ≤ s ∧ s ≤ 99 ∧ (0 < u 17 8 → u 20 (u 17 8 - 1) ≤ t)) ∧ z = -1 ∧ u' = u) ∨ ((0 ≤ t ∧ t ≤ 99 ∧ -99 ≤ s ∧ s ≤ 99 ∧ (0 < u 17 8 → u 20 (u 17 8 - 1) ≤ t)) ∧ 6 ≤ u 17 8 ∧ z = -3 ∧ u' = u) ∨ ((0 ≤ t ∧ t ≤ 99 ∧ -99 ≤ s ∧ s ≤ 99 ∧ (0 < u 17 8 → u 20 (u 17 8 - 1) ≤ t)) ∧ u 17 8 < 6 ∧ z = u 17 8 + 1 ∧ u' = up (up (up u 20 (u 17 8) t) 21 (u 17 8) s) 17 8 (u 17 8 + 1))) (h2 : (¬ (0 ≤ t ∧ t ≤ 99 ∧ -99 ≤ s ∧ s ≤ 99 ∧ (0 < v 0 21 → v 10 (v 0 21 - 1) ≤ t)) ∧ z2 = -1 ∧ v' = v) ∨ ((0 ≤ t ∧ t ≤ 99 ∧ -99 ≤ s ∧ s ≤ 99 ∧ (0 < v 0 21 → v 10 (v 0 21 - 1) ≤ t)) ∧ 6 ≤ v 0 21 ∧ z2 = -3 ∧ v' = v) ∨ ((0 ≤ t ∧ t ≤ 99 ∧ -99 ≤ s ∧ s ≤ 99 ∧ (0 < v 0 21 → v 10 (v 0 21 - 1) ≤ t)) ∧ v 0 21 < 6 ∧ z2 = v 0 21 + 1 ∧ v' = up (up (up v 10 (v 0 21) t) 11 (v 0 21) s) 0 21 (v 0 21 + 1))) : z = z2 ∧ RR u' v' := by
  have q1 := h.notes
  have q2 : 0 < u 17 8 → u 20 (u 17 8 - 1) = v 10 (v 0 21 - 1) := fun q => by
    rw [← q1]
    exact h.minute (u 17 8 - 1) (by omega) (by omega)
  rcases h1 with ⟨c, a1, e1⟩ | ⟨c, d, a1, e1⟩ | ⟨c, d, a1, e1⟩
  · rcases h2 with ⟨c2, a2, e2⟩ | ⟨c2, _⟩ | ⟨c2, _⟩
    · rw [e1, e2]; exact ⟨by omega, h⟩
    · exact absurd ⟨c2.1, c2.2.1, c2.2.2.1, c2.2.2.2.1, fun q => by have := c2.2.2.2.2 (by omega); have := q2 q; omega⟩ c
    · exact absurd ⟨c2.1, c2.2.1, c2.2.2.1, c2.2.2.2.1, fun q => by have := c2.2.2.2.2 (by omega); have := q2 q; omega⟩ c
  · rcases h2 with ⟨c2, _⟩ | ⟨c2, d2, a2, e2⟩ | ⟨c2, d2, _⟩
    · exact absurd ⟨c.1, c.2.1, c.2.2.1, c.2.2.2.1, fun q => by have := c.2.2.2.2 (by omega); have := q2 (by omega); omega⟩ c2
    · rw [e1, e2]; exact ⟨by omega, h⟩
    · exact absurd d2 (by omega)
  · rcases h2 with ⟨c2, _⟩ | ⟨c2, d2, _⟩ | ⟨c2, d2, a2, e2⟩
    · exact absurd ⟨c.1, c.2.1, c.2.2.1, c.2.2.2.1, fun q => by have := c.2.2.2.2 (by omega); have := q2 (by omega); omega⟩ c2
    · exact absurd d2 (by omega)
    · have hn := NB_heard h.2.2.2.1 d ⟨c.1, c.2.1⟩ ⟨c.2.2.1, c.2.2.2.1⟩ c.2.2.2.2
      subst e1 e2
      exact ⟨by omega, h.1, h.2.1, h.2.2.1, hn, h.2.2.2.2⟩
theorem la_forget (h : RR u v) (h1 : u' = (up u 17 (8) (0)) ∧ z = u 17 8) (h2 : v' = (up v 0 (21) (0)) ∧ z2 = v 0 21) : z = z2 ∧ RR u' v' := by
  obtain ⟨e1, a1⟩ := h1
  obtain ⟨e2, a2⟩ := h2
  have q1 := h.notes
  subst e1 e2
  exact ⟨by omega, h.1, h.2.1, h.2.2.1, NB_forget h.2.2.2.1, h.2.2.2.2⟩
theorem RR.a_lw (h : RR u v) : ∀ i : Int, 0 ≤ i → i < u 17 8 → ulw u i = mlw v i := fun i h0 h1 => by
  funext l
  unfold ulw mlw
  rw [h.note i h0 h1, alw_congr h.pitch, h.wet, h.ear, h.lev]
theorem RR.a_dt (h : RR u v) : ∀ i : Int, 0 < i → i < u 17 8 → udt u i = mdt v i := fun i h0 h1 => by
  unfold udt mdt
  rw [h.pace, h.minute i (by omega) h1, h.minute (i - 1) (by omega) (by omega)]
theorem la_tracks (h : RR u v) (h1 : (∃ w v : Int → Int, u' = us (us u 40 v) 39 w) ∧ z = trk (ulw u) (udt u) (u 17 8)) (h2 : (∃ f g : Int → Int, v' = us (us v 12 f) 13 g) ∧ z2 = trk (mlw v) (mdt v) (v 0 21)) : z = z2 ∧ RR u' v' := by
  obtain ⟨⟨w, f, e1⟩, a1⟩ := h1
  obtain ⟨⟨f2, g2, e2⟩, a2⟩ := h2
  have hn := h.ib.notes
  subst e1 e2
  exact ⟨by rw [a1, a2, ← h.notes]; exact trk_congr hn.1 h.a_lw h.a_dt, h⟩
theorem la_where {k : Int} (h : RR u v) (h1 : u' = u ∧ ((0 ≤ k ∧ k < u 17 8 ∧ z = ((whr (ulw u) (udt u) (u 17 8) k : Nat) : Int)) ∨ (¬ (0 ≤ k ∧ k < u 17 8) ∧ z = -1))) (h2 : (∃ f g : Int → Int, v' = us (us v 12 f) 13 g) ∧ ((0 ≤ k ∧ k < v 0 21 ∧ z2 = ((whr (mlw v) (mdt v) (v 0 21) k : Nat) : Int)) ∨ (¬ (0 ≤ k ∧ k < v 0 21) ∧ z2 = -1))) : z = z2 ∧ RR u' v' := by
  obtain ⟨e1, a1⟩ := h1
  obtain ⟨⟨f2, g2, e2⟩, a2⟩ := h2
  have q1 := h.notes
  rw [e1, e2]
  refine ⟨?_, h⟩
  by_cases q : 0 ≤ k ∧ k < u 17 8
  · have e := whr_congr q h.a_lw h.a_dt
    rw [e, q1] at a1
    omega
  · omega
theorem la_men (h : RR u v) (h1 : (∃ f g h : Int → Int, u' = us (us (us u 42 f) 43 g) 41 h) ∧ ((u 17 8 = 0 ∧ z = 0) ∨ (u 17 8 ≠ 0 ∧ ∃ V : Int, Bst 4 V (PlC u) ∧ z = if 3 < V then -9 else V))) (h2 : (∃ (so al s t : Int → Int) (F : Int), v' = up (us (us (us (us (v) 14 so) 15 al) 16 s) 17 t) 0 28 F) ∧ ((v 0 21 = 0 ∧ z2 = 0) ∨ (v 0 21 ≠ 0 ∧ ∃ V : Int, Bst 4 V (PlR v) ∧ z2 = if 3 < V then -9 else V))) : z = z2 ∧ RR u' v' := by
  obtain ⟨⟨f, g, w, e1⟩, a1⟩ := h1
  obtain ⟨⟨f1, f2, f3, f4, F, e2⟩, a2⟩ := h2
  have q1 := h.notes
  have hn := h.ib.notes
  subst e1 e2
  refine ⟨?_, h⟩
  rcases a1 with ⟨c, a1⟩ | ⟨c, V, b1, a1⟩
  · rcases a2 with ⟨d, a2⟩ | ⟨d, _⟩
    · omega
    · exact absurd d (by omega)
  · rcases a2 with ⟨d, _⟩ | ⟨d, V2, b2, a2⟩
    · exact absurd d (by omega)
    · have e := Bst_uniq b1 b2 (Pl_same h.lev h.ear h.pace h.wet h.notes hn.1 h.echo h.pitch h.minute h.note)
      rw [a1, a2, e]
theorem la_keeps {k : Int} (h : RR u v) (h1 : (∃ w : Int → Int, u' = us u 47 w) ∧ ((k = 0 ∧ z = u 3 4 - pcn (kst (u 18) (u 3 6) (u 3 4) (2 ^ (u 3 4).toNat))) ∨ (k = 1 ∧ z = ((kst (u 18) (u 3 6) (u 3 4) (2 ^ (u 3 4).toNat) : Nat) : Int)) ∨ (¬ (0 ≤ k ∧ k ≤ 1) ∧ z = -1))) (h2 : v' = v ∧ ((k = 0 ∧ z2 = v 0 12 - pcn (kst (v 5) (v 9 0) (v 0 12) (2 ^ (v 0 12).toNat))) ∨ (k = 1 ∧ z2 = ((kst (v 5) (v 9 0) (v 0 12) (2 ^ (v 0 12).toNat) : Nat) : Int)) ∨ (¬ (0 ≤ k ∧ k ≤ 1) ∧ z2 = -1))) : z = z2 ∧ RR u' v' := by
  obtain ⟨⟨w, e1⟩, a1⟩ := h1
  obtain ⟨e2, a2⟩ := h2
  rw [e1, e2]
  refine ⟨?_, h⟩
  rw [kst_congr h.pitch, h.ear, h.lev] at a1
  omega
theorem la_meet {m k : Int} (h : RR u v) (h1 : u' = u ∧ ((0 ≤ m ∧ m < u 3 4 ∧ 0 ≤ k ∧ k < u 3 4 ∧ m ≠ k ∧ z = mt (u 18) (u 5) (u 17 6) (u 3 6) m k) ∨ (¬ (0 ≤ m ∧ m < u 3 4 ∧ 0 ≤ k ∧ k < u 3 4 ∧ m ≠ k) ∧ z = -1))) (h2 : v' = v ∧ ((0 ≤ m ∧ m < v 0 12 ∧ 0 ≤ k ∧ k < v 0 12 ∧ m ≠ k ∧ z2 = mt (v 5) (v 6) (v 9 1) (v 9 0) m k) ∨ (¬ (0 ≤ m ∧ m < v 0 12 ∧ 0 ≤ k ∧ k < v 0 12 ∧ m ≠ k) ∧ z2 = -1))) : z = z2 ∧ RR u' v' := by
  obtain ⟨e1, a1⟩ := h1
  obtain ⟨e2, a2⟩ := h2
  rw [e1, e2]
  refine ⟨?_, h⟩
  have q1 := h.lev
  by_cases q : 0 ≤ m ∧ m < u 3 4 ∧ 0 ≤ k ∧ k < u 3 4 ∧ m ≠ k
  · have e := mt_congr (w := u 17 6) (e := u 3 6) (h.pitch m q.1 q.2.1) (h.pitch k q.2.2.1 q.2.2.2.1) (h.wear m q.1 q.2.1) (h.wear k q.2.2.1 q.2.2.2.1)
    rw [e, h.wet, h.ear] at a1
    omega
  · omega
theorem la_first (h : RR u v) (h1 : u' = u ∧ z = prf (mt (u 18) (u 5) (u 17 6) (u 3 6)) (u 3 4)) (h2 : v' = v ∧ z2 = prf (mt (v 5) (v 6) (v 9 1) (v 9 0)) (v 0 12)) : z = z2 ∧ RR u' v' := by
  obtain ⟨e1, a1⟩ := h1
  obtain ⟨e2, a2⟩ := h2
  have hl := h.ib.lev
  rw [e1, e2]
  refine ⟨?_, h⟩
  rw [a1, a2, ← h.lev]
  refine prf_congr hl.1 (fun a b h0 h1 h2 => ?_)
  rw [mt_congr (w := u 17 6) (e := u 3 6) (h.pitch a h0 (by omega)) (h.pitch b (by omega) h2) (h.wear a h0 (by omega)) (h.wear b (by omega) h2), h.wet, h.ear]
theorem la_sing {s : Int} (h : RR u v) (h1 : (¬ (-99 ≤ s ∧ s ≤ 99) ∧ z = -1 ∧ u' = u) ∨ (-99 ≤ s ∧ s ≤ 99 ∧ 8 ≤ u 17 9 ∧ z = -3 ∧ u' = u) ∨ (-99 ≤ s ∧ s ≤ 99 ∧ u 17 9 < 8 ∧ z = u 17 9 + 1 ∧ u' = up (up u 22 (u 17 9) s) 17 9 (u 17 9 + 1))) (h2 : (¬ (-99 ≤ s ∧ s ≤ 99) ∧ z2 = -1 ∧ v' = v) ∨ (-99 ≤ s ∧ s ≤ 99 ∧ 8 ≤ v 0 31 ∧ z2 = -3 ∧ v' = v) ∨ (-99 ≤ s ∧ s ≤ 99 ∧ v 0 31 < 8 ∧ z2 = v 0 31 + 1 ∧ v' = up (up v 18 (v 0 31) s) 0 31 (v 0 31 + 1))) : z = z2 ∧ RR u' v' := by
  have q1 := h.sung
  rcases h1 with ⟨c, a1, e1⟩ | ⟨c1, c2, d, a1, e1⟩ | ⟨c1, c2, d, a1, e1⟩
  · rcases h2 with ⟨c2, a2, e2⟩ | ⟨c2, c3, _⟩ | ⟨c2, c3, _⟩
    · rw [e1, e2]; exact ⟨by omega, h⟩
    · exact absurd ⟨c2, c3⟩ c
    · exact absurd ⟨c2, c3⟩ c
  · rcases h2 with ⟨c3, _⟩ | ⟨_, _, d2, a2, e2⟩ | ⟨_, _, d2, _⟩
    · exact absurd ⟨c1, c2⟩ c3
    · rw [e1, e2]; exact ⟨by omega, h⟩
    · exact absurd d2 (by omega)
  · rcases h2 with ⟨c3, _⟩ | ⟨_, _, d2, _⟩ | ⟨_, _, d2, a2, e2⟩
    · exact absurd ⟨c1, c2⟩ c3
    · exact absurd d2 (by omega)
    · have hn := NB_sing h.2.2.2.1 d ⟨c1, c2⟩
      subst e1 e2
      exact ⟨by omega, h.1, h.2.1, h.2.2.1, hn, h.2.2.2.2⟩
theorem la_hush (h : RR u v) (h1 : u' = (up u 17 (9) (0)) ∧ z = u 17 9) (h2 : v' = (up v 0 (31) (0)) ∧ z2 = v 0 31) : z = z2 ∧ RR u' v' := by
  obtain ⟨e1, a1⟩ := h1
  obtain ⟨e2, a2⟩ := h2
  have q1 := h.sung
  subst e1 e2
  exact ⟨by omega, h.1, h.2.1, h.2.2.1, NB_hush h.2.2.2.1, h.2.2.2.2⟩
theorem RR.h_lw (h : RR u v) : ∀ i : Int, 0 ≤ i → i < u 17 9 → hlw u i = mhw v i := fun i h0 h1 => by
  funext l
  unfold hlw mhw
  rw [h.hymn i h0 h1, alw_congr h.pitch, h.wet, h.ear, h.lev]
theorem RR.s_tw (h : RR u v) : stw (u 19) (u 3 5) = stw (v 8) (v 0 13) := by
  unfold stw
  rw [← h.ppl]
  have e : ∀ i : Int, 0 ≤ i → (if i < u 3 5 then u 19 i else 0) = (if i < u 3 5 then v 8 i else 0) := fun i h0 => by
    by_cases q : i < u 3 5
    · rw [if_pos q, if_pos q]; exact h.stand i h0 q
    · rw [if_neg q, if_neg q]
  have m1 : ∀ (i x : Int), (if i < u 3 5 then x * 8 else 0) = (if i < u 3 5 then x else 0) * 8 := fun i x => by split <;> omega
  have m2 : ∀ (i x : Int), (if i < u 3 5 then x * 64 else 0) = (if i < u 3 5 then x else 0) * 64 := fun i x => by split <;> omega
  rw [m1, m2, m1, m2, e 0 (by decide), e 1 (by decide), e 2 (by decide)]
theorem la_climbing (h : RR u v) (h1 : (∃ (p2 : Int → Int) (r2 : Nat → Int → Int), u' = rws p2 r2 u) ∧ z = clw (hlw u) (u 3 5) (u 17 9) (stw (u 19) (u 3 5))) (h2 : (∃ s : Int → Int, v' = us v 19 s) ∧ z2 = clw (mhw v) (v 0 13) (v 0 31) (stw (v 8) (v 0 13))) : z = z2 ∧ RR u' v' := by
  obtain ⟨⟨p2, r2, e1⟩, a1⟩ := h1
  obtain ⟨⟨f2, e2⟩, a2⟩ := h2
  have hn := h.ib.sung
  subst e1 e2
  exact ⟨by rw [a1, a2, h.s_tw, ← h.sung, h.ppl]; exact clw_congr h.h_lw hn.1, h⟩
theorem la_by {i k : Int} (h : RR u v) (h1 : (∃ (p2 : Int → Int) (r2 : Nat → Int → Int), u' = rws p2 r2 u) ∧ ((¬ (0 ≤ i ∧ i < u 17 9 ∧ 0 ≤ k ∧ k ≤ 1) ∧ z = -1) ∨ ((0 ≤ i ∧ i < u 17 9 ∧ 0 ≤ k ∧ k ≤ 1) ∧ byw (hlw u) (u 3 5) (u 17 9) (stw (u 19) (u 3 5)) i = -9 ∧ z = -9) ∨ ((0 ≤ i ∧ i < u 17 9 ∧ 0 ≤ k ∧ k ≤ 1) ∧ byw (hlw u) (u 3 5) (u 17 9) (stw (u 19) (u 3 5)) i ≠ -9 ∧ k = 0 ∧ z = (byw (hlw u) (u 3 5) (u 17 9) (stw (u 19) (u 3 5)) i) / 8) ∨ ((0 ≤ i ∧ i < u 17 9 ∧ 0 ≤ k ∧ k ≤ 1) ∧ byw (hlw u) (u 3 5) (u 17 9) (stw (u 19) (u 3 5)) i ≠ -9 ∧ k = 1 ∧ z = (byw (hlw u) (u 3 5) (u 17 9) (stw (u 19) (u 3 5)) i) % 8))) (h2 : (∃ s : Int → Int, v' = us v 19 s) ∧ ((¬ (0 ≤ i ∧ i < v 0 31 ∧ 0 ≤ k ∧ k ≤ 1) ∧ z2 = -1) ∨ ((0 ≤ i ∧ i < v 0 31 ∧ 0 ≤ k ∧ k ≤ 1) ∧ byw (mhw v) (v 0 13) (v 0 31) (stw (v 8) (v 0 13)) i = -9 ∧ z2 = -9) ∨ ((0 ≤ i ∧ i < v 0 31 ∧ 0 ≤ k ∧ k ≤ 1) ∧ byw (mhw v) (v 0 13) (v 0 31) (stw (v 8) (v 0 13)) i ≠ -9 ∧ k = 0 ∧ z2 = (byw (mhw v) (v 0 13) (v 0 31) (stw (v 8) (v 0 13)) i) / 8) ∨ ((0 ≤ i ∧ i < v 0 31 ∧ 0 ≤ k ∧ k ≤ 1) ∧ byw (mhw v) (v 0 13) (v 0 31) (stw (v 8) (v 0 13)) i ≠ -9 ∧ k = 1 ∧ z2 = (byw (mhw v) (v 0 13) (v 0 31) (stw (v 8) (v 0 13)) i) % 8))) : z = z2 ∧ RR u' v' := by
  obtain ⟨⟨p2, r2, e1⟩, a1⟩ := h1
  obtain ⟨⟨f2, e2⟩, a2⟩ := h2
  have q1 := h.sung
  subst e1 e2
  refine ⟨?_, h⟩
  by_cases q : 0 ≤ i ∧ i < u 17 9
  · have e : byw (hlw u) (u 3 5) (u 17 9) (stw (u 19) (u 3 5)) i = byw (mhw v) (v 0 13) (v 0 31) (stw (v 8) (v 0 13)) i := by
      rw [byw_congr h.h_lw q, h.s_tw, h.ppl, h.sung]
    rw [e] at a1
    omega
  · omega
theorem la_mark {k m : Int} (h : RR u v) (h1 : (0 ≤ m ∧ m < u 3 4 ∧ ((k = 0 ∧ z = u 18 m ∧ u' = up u 60 2 (u 60 2 + 1)) ∨ (k = 1 ∧ z = u 18 m + u 6 m ∧ u' = up u 60 2 (u 60 2 + 11)) ∨ (k = 2 ∧ z = u 18 m - u 17 6 ∧ u' = up u 60 2 (u 60 2 + 101)) ∨ (k = 3 ∧ z = (u 18 m + u 6 m) * 2 ∧ u' = up u 60 2 (u 60 2 + 1011)) ∨ (k = 4 ∧ z = u 18 m - u 17 6 + m ∧ u' = up u 60 2 (u 60 2 + 10101)) ∨ (k = 5 ∧ z = u 18 m + cnt (u 19) m (u 3 5).toNat ∧ u' = up u 60 2 (u 60 2 + 100001)) ∨ ((k < 0 ∨ 5 < k) ∧ z = -1000000 ∧ u' = u))) ∨ (¬ (0 ≤ m ∧ m < u 3 4) ∧ z = -1000000 ∧ u' = u)) (h2 : (0 ≤ m ∧ m < v 0 12 ∧ ((k = 0 ∧ z2 = v 5 m ∧ v' = up v 0 34 (v 0 34 + 1)) ∨ (k = 1 ∧ z2 = v 5 m + v 7 m ∧ v' = up v 0 34 (v 0 34 + 11)) ∨ (k = 2 ∧ z2 = v 5 m - v 9 1 ∧ v' = up v 0 34 (v 0 34 + 101)) ∨ (k = 3 ∧ z2 = 2 * (v 5 m + v 7 m) ∧ v' = up v 0 34 (v 0 34 + 1011)) ∨ (k = 4 ∧ z2 = v 5 m - v 9 1 + m ∧ v' = up v 0 34 (v 0 34 + 10101)) ∨ (k = 5 ∧ z2 = v 5 m + cnt (v 8) m (v 0 13).toNat ∧ v' = up v 0 34 (v 0 34 + 100001)))) ∨ (¬ (0 ≤ m ∧ m < v 0 12 ∧ 0 ≤ k ∧ k ≤ 5) ∧ z2 = -1000000 ∧ v' = v)) : z = z2 ∧ RR u' v' := by
  have q1 := h.lev
  have q2 := h.wet
  have q3 := h.trc
  have hp := h.ib.ppl
  by_cases q : 0 ≤ m ∧ m < u 3 4
  · have p1 := h.pitch m q.1 q.2
    have p2 := h.echo m q.1 q.2
    have p3 : cnt (u 19) m (u 3 5).toNat = cnt (v 8) m (v 0 13).toNat := by
      rw [← h.ppl]
      exact cnt_congr _ (fun i h0 h1 => h.stand i h0 (by omega))
    by_cases qk : 0 ≤ k ∧ k ≤ 5
    · have hu : ∃ x : Int, u' = up u 60 2 (u 60 2 + x) ∧ v' = up v 0 34 (v 0 34 + x) ∧ z = z2 := by
        rcases h1 with ⟨_, _, c⟩ | ⟨c, _⟩
        · rcases h2 with ⟨_, _, d⟩ | ⟨d, _⟩
          · rcases c with ⟨c, a1, e1⟩ | ⟨c, a1, e1⟩ | ⟨c, a1, e1⟩ | ⟨c, a1, e1⟩ | ⟨c, a1, e1⟩ | ⟨c, a1, e1⟩ | ⟨c, _⟩ <;> rcases d with ⟨d, a2, e2⟩ | ⟨d, a2, e2⟩ | ⟨d, a2, e2⟩ | ⟨d, a2, e2⟩ | ⟨d, a2, e2⟩ | ⟨d, a2, e2⟩ <;> first | omega | exact ⟨_, e1, e2, by omega⟩
          · exact absurd d (by omega)
        · exact absurd c (by omega)
      obtain ⟨x, e1, e2, a⟩ := hu
      subst e1 e2
      exact ⟨a, h.1, h.2.1, h.2.2.1, h.2.2.2.1, h.2.2.2.2.1, h.2.2.2.2.2.1, (show u 60 2 + x = v 0 34 + x by omega)⟩
    · rcases h1 with ⟨_, _, c⟩ | ⟨c, _⟩
      · rcases h2 with ⟨_, _, d⟩ | ⟨d, a2, e2⟩
        · omega
        · rcases c with ⟨c, a1, e1⟩ | ⟨c, a1, e1⟩ | ⟨c, a1, e1⟩ | ⟨c, a1, e1⟩ | ⟨c, a1, e1⟩ | ⟨c, a1, e1⟩ | ⟨c, a1, e1⟩ <;> first | omega | (rw [e1, e2]; exact ⟨by omega, h⟩)
      · exact absurd c (by omega)
  · rcases h1 with ⟨c, c2, _⟩ | ⟨c, a1, e1⟩
    · exact absurd ⟨c, c2⟩ q
    · rcases h2 with ⟨d, d2, _⟩ | ⟨d, a2, e2⟩
      · omega
      · rw [e1, e2]; exact ⟨by omega, h⟩
theorem la_count {k : Int} (h : RR u v) (h1 : u' = u ∧ ((k = 0 ∧ z = u 3 4) ∨ (k = 1 ∧ z = u 3 5) ∨ (k = 2 ∧ z = u 3 6) ∨ (k = 3 ∧ z = u 17 6) ∨ (k = 4 ∧ z = u 3 8) ∨ (k = 5 ∧ z = u 17 8) ∨ (k = 6 ∧ z = u 17 9) ∨ (k = 7 ∧ z = u 17 5) ∨ (k = 8 ∧ z = u 1 1) ∨ ((k < 0 ∨ 8 < k) ∧ z = -1))) (h2 : v' = v ∧ ((k = 0 ∧ z2 = v 0 12) ∨ (k = 1 ∧ z2 = v 0 13) ∨ (k = 2 ∧ z2 = v 9 0) ∨ (k = 3 ∧ z2 = v 9 1) ∨ (k = 4 ∧ z2 = v 9 2) ∨ (k = 5 ∧ z2 = v 0 21) ∨ (k = 6 ∧ z2 = v 0 31) ∨ (k = 7 ∧ z2 = v 0 19) ∨ (k = 8 ∧ z2 = v 0 1) ∨ ((k < 0 ∨ 8 < k) ∧ z2 = -1))) : z = z2 ∧ RR u' v' := by
  obtain ⟨e1, a1⟩ := h1
  obtain ⟨e2, a2⟩ := h2
  rw [e1, e2]
  refine ⟨?_, h⟩
  have q1 := h.lev
  have q2 := h.ppl
  have q3 := h.ear
  have q4 := h.wet
  have q5 := h.pace
  have q6 := h.notes
  have q7 := h.sung
  have q8 := h.year
  have q9 := h.len
  omega
theorem la_trace (h : RR u v) (h1 : u' = u ∧ z = u 60 2) (h2 : v' = v ∧ z2 = v 0 34) : z = z2 ∧ RR u' v' := by
  obtain ⟨e1, a1⟩ := h1
  obtain ⟨e2, a2⟩ := h2
  rw [e1, e2]
  exact ⟨by rw [a1, a2]; exact h.trc, h⟩
theorem la_shaft (h : RR u v) (h1 : ∃ (f : Nat) (D' : zU), Prs (KT (u 2) (u 1 1)) (NTk (u 2) (u 1 1)) (ST (u 2) (u 1 1)) f D0 0 0 z D' ∧ IB u' ∧ ((z < 0 ∧ ∀ (d : Nat) (k : Int), ¬ (8 ≤ d ∧ d ≤ 16) → u' d k = (u) d k) ∨ (0 ≤ z ∧ ShB (u) u' D'))) (h2 : ∃ (f : Nat) (D' : zU), Prs (KT (v 1) (v 0 1)) (NTk (v 1) (v 0 1)) (ST (v 1) (v 0 1)) f D0 0 0 z2 D' ∧ ((z2 < 0 ∧ FrR (v) v') ∨ (0 ≤ z2 ∧ RnD D' ∧ IM v' ∧ ShM (v) v' D'))) : z = z2 ∧ RR u' v' := by
  obtain ⟨f, D, p1, i1, c1⟩ := h1
  obtain ⟨f2, D2, p2, c2⟩ := h2
  rw [h.txt, h.len] at p1
  have ht := h.im.tlen
  have q := Prs_1 (Int.le_refl 0) (fun j => ST_0 ht.1) p1 p2
  refine ⟨q.1, ?_⟩
  have hz := q.1
  rcases c1 with ⟨c1, F1⟩ | ⟨c1, s1⟩
  · rcases c2 with ⟨c2, F2⟩ | ⟨c2, _⟩
    · have g1 : u' = fun c i => if 8 ≤ c ∧ c ≤ 16 then u' c i else u c i := by
        funext c i
        by_cases k : 8 ≤ c ∧ c ≤ 16
        · exact (if_pos k).symm
        · exact (F1 c i k).trans (if_neg k).symm
      have hA : InA (fun k => u' (8 + k)) := i1.2.1
      have g2 := FrR_glr F2
      rw [g2]
      generalize v' = w2 at *
      rw [g1]
      exact ⟨⟨h.1.1, hA, h.1.2.2⟩, h.2⟩
    · omega
  · rcases c2 with ⟨c2, _⟩ | ⟨c2, rD, i2, s2⟩
    · omega
    · have e := q.2 c1
      subst e
      obtain ⟨⟨a1, a2⟩, ⟨a3, a4, a5⟩, a6, a7, ⟨a8, a9, a10, a11⟩, ⟨a12, a13⟩, a14, a15, a16⟩ := s1
      obtain ⟨⟨b1, b2⟩, ⟨b3, b4, b5⟩, b6, b7, ⟨b8, b9, b10, b11⟩, ⟨b12, b13⟩, b14, b15, b16⟩ := s2
      have r2 := rD.2.1
      refine RR.mk i1 i2 ⟨⟨by omega, by omega, by omega, by omega⟩, fun l h0 h1 => ?_⟩ ⟨?_, ?_, ⟨?_, Or.inl ?_⟩, ?_, ?_, fun l h0 h1 => ?_, fun m h0 h1 => ?_, fun i h0 h1 => ?_, fun i h0 h1 => ?_⟩ ⟨a12, b12⟩ ⟨a13, b13⟩ ⟨by omega, by rw [a16, b16]; exact h.txt⟩ (by rw [a15, b15]; exact h.trc)
      · have x := a6 l h0 (by omega)
        have y := b6 l h0 (by omega)
        exact ⟨x.2.1.trans y.2.1.symm, x.2.2.trans y.2.2.symm⟩
      · exact a8.trans b8.symm
      · exact a4.trans b4.symm
      · exact a9.trans b9.symm
      · exact a9
      · exact a10.trans b10.symm
      · exact a11.trans b11.symm
      · exact (a6 l h0 (by omega)).1.trans (b6 l h0 (by omega)).1.symm
      · have y := b7 m h0 (by omega)
        rw [if_pos (by omega)] at y
        exact (a7 m h0 (by omega)).trans y.symm
      · have h1' : i < u' 17 8 := h1
        omega
      · have h1' : i < u' 17 9 := h1
        omega
theorem kp_kv {v : zU} {b : Int} : EqN (kv (kpt v b (v 20)) b) (nv v) := by
  refine ⟨⟨?_, ?_, ?_, ?_, ?_⟩, fun i h0 h1 => ?_, fun i h0 h1 => ?_, fun i h0 h1 => ⟨?_, ?_⟩, fun i h0 h1 => ?_⟩
  · show kpt v b (v 20) b = v 0 19
    unfold kpt ly kp5
    rw [if_neg (by omega), if_neg (by omega), if_neg (by omega), if_neg (by omega), if_neg (by omega), if_neg (by omega), if_neg (by omega), if_neg (by omega), if_neg (by omega), if_pos rfl]
  · show kpt v b (v 20) (b + 1) = v 9 1
    unfold kpt ly kp5
    rw [if_neg (by omega), if_neg (by omega), if_neg (by omega), if_neg (by omega), if_neg (by omega), if_neg (by omega), if_neg (by omega), if_neg (by omega), if_pos rfl]
  · show kpt v b (v 20) (b + 2) = v 0 20
    unfold kpt ly kp5
    rw [if_neg (by omega), if_neg (by omega), if_neg (by omega), if_neg (by omega), if_neg (by omega), if_neg (by omega), if_neg (by omega), if_pos rfl]
  · show kpt v b (v 20) (b + 3) = v 0 21
    unfold kpt ly kp5
    rw [if_neg (by omega), if_neg (by omega), if_neg (by omega), if_neg (by omega), if_neg (by omega), if_neg (by omega), if_pos rfl]
  · show kpt v b (v 20) (b + 4) = v 0 31
    unfold kpt ly kp5
    rw [if_neg (by omega), if_neg (by omega), if_neg (by omega), if_neg (by omega), if_neg (by omega), if_pos rfl]
  · show kpt v b (v 20) (b + 5 + i) = v 5 i
    unfold kpt ly
    rw [if_neg (by omega), if_neg (by omega), if_neg (by omega), if_neg (by omega), if_pos (by omega), show b + 5 + i - (b + 5) = i by omega]
  · show kpt v b (v 20) (b + 13 + i) = v 8 i
    unfold kpt ly
    rw [if_neg (by omega), if_neg (by omega), if_neg (by omega), if_pos (by omega), show b + 13 + i - (b + 5 + 8) = i by omega]
  · show kpt v b (v 20) (b + 16 + i) = v 10 i
    unfold kpt ly
    rw [if_neg (by omega), if_neg (by omega), if_pos (by omega), show b + 16 + i - (b + 5 + 8 + 3) = i by omega]
  · show kpt v b (v 20) (b + 22 + i) = v 11 i
    unfold kpt ly
    rw [if_neg (by omega), if_pos (by omega), show b + 22 + i - (b + 5 + 8 + 3 + 6) = i by omega]
  · show kpt v b (v 20) (b + 28 + i) = v 18 i
    unfold kpt ly
    rw [if_pos (by omega), show b + 28 + i - (b + 5 + 8 + 3 + 6 + 6) = i by omega]
theorem kp_out {v : zU} {b j : Int} (h : j < b ∨ b + 36 ≤ j) : kpt v b (v 20) j = v 20 j := by
  unfold kpt ly kp5
  rw [if_neg (by omega), if_neg (by omega), if_neg (by omega), if_neg (by omega), if_neg (by omega), if_neg (by omega), if_neg (by omega), if_neg (by omega), if_neg (by omega), if_neg (by omega)]
theorem EqN_of_kv {K K' : Int → Int} {b : Int} (h : ∀ j : Int, b ≤ j → j < b + 36 → K j = K' j) : EqN (kv K b) (kv K' b) :=
  ⟨⟨h b (by omega) (by omega), h (b + 1) (by omega) (by omega), h (b + 2) (by omega) (by omega), h (b + 3) (by omega) (by omega), h (b + 4) (by omega) (by omega)⟩, fun i h0 h1 => h (b + 5 + i) (by omega) (by omega), fun i h0 h1 => h (b + 13 + i) (by omega) (by omega), fun i h0 h1 => ⟨h (b + 16 + i) (by omega) (by omega), h (b + 22 + i) (by omega) (by omega)⟩, fun i h0 h1 => h (b + 28 + i) (by omega) (by omega)⟩
theorem EqN_rf (f : zU) : EqN f f := ⟨⟨rfl, rfl, rfl, rfl, rfl⟩, fun _ _ _ => rfl, fun _ _ _ => rfl, fun _ _ _ => ⟨rfl, rfl⟩, fun _ _ _ => rfl⟩
theorem cp_23 (u : zU) : EqN (vB (up (cpy 23 17 u) 36 0 1) 23) (vB u 17) :=
  ⟨⟨rfl, rfl, rfl, rfl, rfl⟩, fun _ _ h1 => if_pos h1, fun _ _ h1 => if_pos h1, fun _ _ h1 => ⟨if_pos h1, if_pos h1⟩, fun _ _ h1 => if_pos h1⟩
theorem cp_29 (u : zU) : EqN (vB (up (cpy 29 17 u) 36 1 1) 29) (vB u 17) :=
  ⟨⟨rfl, rfl, rfl, rfl, rfl⟩, fun _ _ h1 => if_pos h1, fun _ _ h1 => if_pos h1, fun _ _ h1 => ⟨if_pos h1, if_pos h1⟩, fun _ _ h1 => if_pos h1⟩
theorem cp_b23 (u : zU) : EqN (vB (cpy 17 23 u) 17) (vB u 23) :=
  ⟨⟨rfl, rfl, rfl, rfl, rfl⟩, fun _ _ h1 => if_pos h1, fun _ _ h1 => if_pos h1, fun _ _ h1 => ⟨if_pos h1, if_pos h1⟩, fun _ _ h1 => if_pos h1⟩
theorem cp_b29 (u : zU) : EqN (vB (cpy 17 29 u) 17) (vB u 29) :=
  ⟨⟨rfl, rfl, rfl, rfl, rfl⟩, fun _ _ h1 => if_pos h1, fun _ _ h1 => if_pos h1, fun _ _ h1 => ⟨if_pos h1, if_pos h1⟩, fun _ _ h1 => if_pos h1⟩
theorem bk_kv (v : zU) (b : Int) : EqN (nv (bck v b)) (kv (v 20) b) := by
  refine ⟨⟨rfl, rfl, rfl, rfl, rfl⟩, fun i h0 h1 => ?_, fun i h0 h1 => ?_, fun i h0 h1 => ⟨?_, ?_⟩, fun i h0 h1 => ?_⟩
  · show (if 0 ≤ i ∧ i < 8 then v 20 (b + 5 + i) else v 5 i) = v 20 (b + 5 + i)
    rw [if_pos ⟨h0, h1⟩]
  · show (if 0 ≤ i ∧ i < 3 then v 20 (b + 5 + 8 + i) else v 8 i) = v 20 (b + 13 + i)
    rw [if_pos ⟨h0, h1⟩]; congr 1; omega
  · show (if 0 ≤ i ∧ i < 6 then v 20 (b + 5 + 8 + 3 + i) else v 10 i) = v 20 (b + 16 + i)
    rw [if_pos ⟨h0, h1⟩]; congr 1; omega
  · show (if 0 ≤ i ∧ i < 6 then v 20 (b + 5 + 8 + 3 + 6 + i) else v 11 i) = v 20 (b + 22 + i)
    rw [if_pos ⟨h0, h1⟩]; congr 1; omega
  · show (if 0 ≤ i ∧ i < 8 then v 20 (b + 5 + 8 + 3 + 6 + 6 + i) else v 18 i) = v 20 (b + 28 + i)
    rw [if_pos ⟨h0, h1⟩]; congr 1; omega
theorem la_keep {k : Int} (h : RR u v) (h1 : (¬ (0 ≤ k ∧ k ≤ 1) ∧ z = -1 ∧ u' = u) ∨ (k = 0 ∧ z = u 17 5 ∧ u' = up (cpy 23 17 u) 36 0 1) ∨ (k = 1 ∧ z = u 17 5 ∧ u' = up (cpy 29 17 u) 36 1 1)) (h2 : (¬ (0 ≤ k ∧ k ≤ 1) ∧ z2 = -1 ∧ v' = v) ∨ (0 ≤ k ∧ k ≤ 1 ∧ z2 = v 0 19 ∧ v' = us v 20 (kpt v (36 * k) (v 20)))) : z = z2 ∧ RR u' v' := by
  have q1 := h.year
  have hl := h.ib.lev
  have hp := h.ib.ppl
  have hy := h.im.year
  obtain ⟨h01, h02, h03, hN, ⟨i1, i2⟩, h05⟩ := id h
  rcases h1 with ⟨c, a1, e1⟩ | ⟨c, a1, e1⟩ | ⟨c, a1, e1⟩
  · rcases h2 with ⟨d, a2, e2⟩ | ⟨d, d2, _⟩
    · rw [e1, e2]; exact ⟨by omega, h⟩
    · exact absurd ⟨d, d2⟩ c
  · rcases h2 with ⟨d, _⟩ | ⟨_, _, a2, e2⟩
    · exact absurd d (by omega)
    · subst c
      rw [show (36 : Int) * 0 = 0 from rfl] at e2
      have k1 := EqN.nb hl.2 hp (cp_23 u) (kp_kv (v := v) (b := 0)) hN
      have k2 : kpt v 0 (v 20) 0 = v 0 19 := (kp_kv (v := v) (b := 0)).1.1
      have k3 : kpt v 0 (v 20) 36 = v 20 36 := kp_out (by omega)
      have k4 : Img u (us v 20 (kpt v 0 (v 20))) 29 1 36 := by
        rcases i2 with q | q
        · exact Or.inl ⟨q.1, k3.trans q.2⟩
        · exact Or.inr ⟨q.1, by show 0 ≤ kpt v 0 (v 20) 36; rw [k3]; exact q.2.1, EqN.nb hl.2 hp (EqN_rf _) (EqN_of_kv (fun j j0 j1 => kp_out (by omega))) q.2.2⟩
      subst e1 e2
      exact ⟨by omega, h01, h02, h03, hN, ⟨Or.inr ⟨rfl, (show 0 ≤ kpt v 0 (v 20) 0 by omega), k1⟩, k4⟩, h05⟩
  · rcases h2 with ⟨d, _⟩ | ⟨_, _, a2, e2⟩
    · exact absurd d (by omega)
    · subst c
      rw [show (36 : Int) * 1 = 36 from rfl] at e2
      have k1 := EqN.nb hl.2 hp (cp_29 u) (kp_kv (v := v) (b := 36)) hN
      have k2 : kpt v 36 (v 20) 36 = v 0 19 := (kp_kv (v := v) (b := 36)).1.1
      have k3 : kpt v 36 (v 20) 0 = v 20 0 := kp_out (by omega)
      have k4 : Img u (us v 20 (kpt v 36 (v 20))) 23 0 0 := by
        rcases i1 with q | q
        · exact Or.inl ⟨q.1, k3.trans q.2⟩
        · exact Or.inr ⟨q.1, by show 0 ≤ kpt v 36 (v 20) 0; rw [k3]; exact q.2.1, EqN.nb hl.2 hp (EqN_rf _) (EqN_of_kv (fun j j0 j1 => kp_out (by omega))) q.2.2⟩
      subst e1 e2
      exact ⟨by omega, h01, h02, h03, hN, ⟨k4, Or.inr ⟨rfl, (show 0 ≤ kpt v 36 (v 20) 36 by omega), k1⟩⟩, h05⟩
theorem la_back {k : Int} (h : RR u v) (h1 : (¬ (0 ≤ k ∧ k ≤ 1) ∧ z = -1 ∧ u' = u) ∨ (k = 0 ∧ u 36 0 = 0 ∧ z = -2 ∧ u' = u) ∨ (k = 1 ∧ u 36 1 = 0 ∧ z = -2 ∧ u' = u) ∨ (k = 0 ∧ u 36 0 = 1 ∧ z = u 23 5 ∧ u' = cpy 17 23 u) ∨ (k = 1 ∧ u 36 1 = 1 ∧ z = u 29 5 ∧ u' = cpy 17 29 u)) (h2 : (¬ (0 ≤ k ∧ k ≤ 1) ∧ z2 = -1 ∧ v' = v) ∨ (0 ≤ k ∧ k ≤ 1 ∧ v 20 (36 * k) < 0 ∧ z2 = -2 ∧ v' = v) ∨ (0 ≤ k ∧ k ≤ 1 ∧ 0 ≤ v 20 (36 * k) ∧ z2 = v 20 (36 * k) ∧ v' = bck v (36 * k))) : z = z2 ∧ RR u' v' := by
  have hl := h.ib.lev
  have hp := h.ib.ppl
  obtain ⟨h01, h02, h03, hN, ⟨i1, i2⟩, h05⟩ := id h
  rcases h1 with ⟨c, a1, e1⟩ | ⟨c, d, a1, e1⟩ | ⟨c, d, a1, e1⟩ | ⟨c, d, a1, e1⟩ | ⟨c, d, a1, e1⟩
  · rcases h2 with ⟨_, a2, e2⟩ | ⟨c2, c3, _⟩ | ⟨c2, c3, _⟩
    · rw [e1, e2]; exact ⟨by omega, h⟩
    · exact absurd ⟨c2, c3⟩ c
    · exact absurd ⟨c2, c3⟩ c
  · subst c
    rw [show (36 : Int) * 0 = 0 from rfl] at h2
    have j : v 20 0 = -1 := by
      rcases i1 with q | q
      · exact q.2
      · have := q.1; omega
    rcases h2 with ⟨c2, _⟩ | ⟨_, _, c3, a2, e2⟩ | ⟨_, _, c3, _⟩
    · exact absurd c2 (by omega)
    · rw [e1, e2]; exact ⟨by omega, h⟩
    · omega
  · subst c
    rw [show (36 : Int) * 1 = 36 from rfl] at h2
    have j : v 20 36 = -1 := by
      rcases i2 with q | q
      · exact q.2
      · have := q.1; omega
    rcases h2 with ⟨c2, _⟩ | ⟨_, _, c3, a2, e2⟩ | ⟨_, _, c3, _⟩
    · exact absurd c2 (by omega)
    · rw [e1, e2]; exact ⟨by omega, h⟩
    · omega
  · subst c
    rw [show (36 : Int) * 0 = 0 from rfl] at h2
    have j : 0 ≤ v 20 0 ∧ NB (u 3 4) (u 3 5) (vB u 23) (kv (v 20) 0) := by
      rcases i1 with q | q
      · have := q.1; omega
      · exact q.2
    rcases h2 with ⟨c2, _⟩ | ⟨_, _, c3, _⟩ | ⟨_, _, c3, a2, e2⟩
    · exact absurd c2 (by omega)
    · omega
    · have k1 := EqN.nb hl.2 hp (cp_b23 u) (bk_kv v 0) j.2
      have k2 : u 23 5 = v 20 0 := j.2.2.2.1
      subst e1 e2
      exact ⟨by omega, h01, h02, h03, k1, ⟨i1, i2⟩, h05⟩
  · subst c
    rw [show (36 : Int) * 1 = 36 from rfl] at h2
    have j : 0 ≤ v 20 36 ∧ NB (u 3 4) (u 3 5) (vB u 29) (kv (v 20) 36) := by
      rcases i2 with q | q
      · have := q.1; omega
      · exact q.2
    rcases h2 with ⟨c2, _⟩ | ⟨_, _, c3, _⟩ | ⟨_, _, c3, a2, e2⟩
    · exact absurd c2 (by omega)
    · omega
    · have k1 := EqN.nb hl.2 hp (cp_b29 u) (bk_kv v 36) j.2
      have k2 : u 29 5 = v 20 36 := j.2.2.2.1
      subst e1 e2
      exact ⟨by omega, h01, h02, h03, k1, ⟨i1, i2⟩, h05⟩
end RRL

