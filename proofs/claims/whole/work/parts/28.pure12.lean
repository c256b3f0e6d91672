/-! ===== pure: what the readers read ===== -/
theorem adv_on {K : Int → Int} {j : Int} (h : K j ≠ 0) : adv K j = j + 1 := if_neg h
/-- u with v's draft and words -/
def glu (u v : zU) : zU := fun c i => if 8 ≤ c ∧ c ≤ 13 then v c i else u c i
def Frm (u u' : zU) : Prop := ∃ v : zU, u' = glu u v ∧ (InA (fun k => u (8 + k)) → InA (fun k => v (8 + k)))
theorem glu_up {u v : zU} {c : Nat} {k x : Int} (h : 8 ≤ c ∧ c ≤ 13) : up (glu u v) c k x = glu u (up v c k x) := by
  funext d i
  show (if d = c then (if i = k then x else glu u v d i) else glu u v d i) = (if 8 ≤ d ∧ d ≤ 13 then (if d = c then (if i = k then x else v d i) else v d i) else u d i)
  by_cases e : d = c
  · have g : glu u v d i = v d i := if_pos (by omega)
    rw [if_pos e, if_pos (show 8 ≤ d ∧ d ≤ 13 by omega), if_pos e, g]
  · rw [if_neg e]
    by_cases q : 8 ≤ d ∧ d ≤ 13
    · rw [if_pos q, if_neg e]; exact if_pos q
    · rw [if_neg q]; exact if_neg q
theorem Frm_rf (u : zU) : Frm u u := ⟨u, by funext d i; unfold glu; split <;> rfl, id⟩
theorem Frm_13 {u w : zU} {k x : Int} (h : Frm u w) : Frm u (up w 13 k x) := by
  obtain ⟨v, e, hA⟩ := h
  exact ⟨up v 13 k x, by rw [e, glu_up (by decide)], fun q => hA q⟩
theorem Frm_8 {u w : zU} {k x : Int} (h : Frm u w) : Frm u (up w 8 k x) := by
  obtain ⟨v, e, hA⟩ := h
  exact ⟨up v 8 k x, by rw [e, glu_up (by decide)], fun q => hA q⟩
theorem Frm_9 {u w : zU} {k x : Int} (h : Frm u w) (_hk : 0 ≤ k ∧ k < 8) (hx : 0 ≤ x ∧ x ≤ 60) : Frm u (up w 9 k x) := by
  obtain ⟨v, e, hA⟩ := h
  refine ⟨up v 9 k x, by rw [e, glu_up (by decide)], fun q => ?_⟩
  have a := hA q
  refine ⟨fun i h0 h1 => ?_, a.2⟩
  show 0 ≤ (if i = k then x else v 9 i) ∧ (if i = k then x else v 9 i) ≤ 60
  split
  · exact hx
  · exact a.1 i h0 h1
theorem Frm_10 {u w : zU} {k x : Int} (h : Frm u w) (_hk : 0 ≤ k ∧ k < 8) (hx : 0 ≤ x ∧ x ≤ 9) : Frm u (up w 10 k x) := by
  obtain ⟨v, e, hA⟩ := h
  refine ⟨up v 10 k x, by rw [e, glu_up (by decide)], fun q => ?_⟩
  have a := hA q
  refine ⟨a.1, fun i h0 h1 => ?_, a.2.2⟩
  show 0 ≤ (if i = k then x else v 10 i) ∧ (if i = k then x else v 10 i) ≤ 9
  split
  · exact hx
  · exact a.2.1 i h0 h1
theorem Frm_11 {u w : zU} {k x : Int} (h : Frm u w) (_hk : 0 ≤ k ∧ k < 8) (hx : 0 ≤ x ∧ x ≤ 1) : Frm u (up w 11 k x) := by
  obtain ⟨v, e, hA⟩ := h
  refine ⟨up v 11 k x, by rw [e, glu_up (by decide)], fun q => ?_⟩
  have a := hA q
  refine ⟨a.1, a.2.1, fun i h0 h1 => ?_, a.2.2.2⟩
  show 0 ≤ (if i = k then x else v 11 i) ∧ (if i = k then x else v 11 i) ≤ 1
  split
  · exact hx
  · exact a.2.2.1 i h0 h1
theorem Frm_12 {u w : zU} {k x : Int} (h : Frm u w) (_hk : 0 ≤ k ∧ k < 3) (hx : 0 ≤ x ∧ x < 8) : Frm u (up w 12 k x) := by
  obtain ⟨v, e, hA⟩ := h
  refine ⟨up v 12 k x, by rw [e, glu_up (by decide)], fun q => ?_⟩
  have a := hA q
  refine ⟨a.1, a.2.1, a.2.2.1, fun i h0 h1 => ?_⟩
  show 0 ≤ (if i = k then x else v 12 i) ∧ (if i = k then x else v 12 i) < 8
  split
  · exact hx
  · exact a.2.2.2 i h0 h1
theorem Frm_tr {u w w' : zU} (h : Frm u w) (h2 : Frm w w') : Frm u w' := by
  obtain ⟨v, e, hA⟩ := h
  obtain ⟨v2, e2, hA2⟩ := h2
  subst e
  refine ⟨v2, ?_, fun q => hA2 (by
    have a := hA q
    exact a)⟩
  rw [e2]
  funext d i
  unfold glu
  split
  · rfl
  · rfl
/-- a number between lo and hi -/
def Nu (K N : Int → Int) (j lo hi : Int) : Prop := K j = 2 ∧ lo ≤ N j ∧ N j ≤ hi
/-- the draft: 0: levels, people, ear, wet, pace, the three told; 1 pitch, 2 wear, 3 echo, 4 stands -/
def ItNo (K N : Int → Int) (D : zU) (i j : Int) : Prop :=
  (K i = 4 ∧ ((8 ≤ D 0 0 ∧ j = i) ∨ (D 0 0 < 8 ∧ ¬ Nu K N (i + 1) 0 60 ∧ j = i + 1) ∨ (D 0 0 < 8 ∧ Nu K N (i + 1) 0 60 ∧ ¬ Nu K N (i + 1 + 1) 0 9 ∧ j = i + 1 + 1) ∨ (D 0 0 < 8 ∧ Nu K N (i + 1) 0 60 ∧ Nu K N (i + 1 + 1) 0 9 ∧ ¬ Nu K N (i + 1 + 1 + 1) 0 1 ∧ j = i + 1 + 1 + 1) ∨ (D 0 0 < 8 ∧ Nu K N (i + 1) 0 60 ∧ Nu K N (i + 1 + 1) 0 9 ∧ Nu K N (i + 1 + 1 + 1) 0 1 ∧ ¬ K (i + 1 + 1 + 1 + 1) = 3 ∧ j = i + 1 + 1 + 1 + 1)))
  ∨ (K i = 5 ∧ ((3 ≤ D 0 1 ∧ j = i) ∨ (D 0 1 < 3 ∧ ¬ Nu K N (i + 1) 0 (D 0 0 - 1) ∧ j = i + 1) ∨ (D 0 1 < 3 ∧ Nu K N (i + 1) 0 (D 0 0 - 1) ∧ ¬ K (i + 1 + 1) = 3 ∧ j = i + 1 + 1)))
  ∨ (K i = 6 ∧ ((D 0 5 ≠ 0 ∧ j = i) ∨ (D 0 5 = 0 ∧ ¬ Nu K N (i + 1) 0 9 ∧ j = i + 1) ∨ (D 0 5 = 0 ∧ Nu K N (i + 1) 0 9 ∧ ¬ K (i + 1 + 1) = 3 ∧ j = i + 1 + 1)))
  ∨ (K i = 7 ∧ ((D 0 6 ≠ 0 ∧ j = i) ∨ (D 0 6 = 0 ∧ ¬ Nu K N (i + 1) 0 9 ∧ j = i + 1) ∨ (D 0 6 = 0 ∧ Nu K N (i + 1) 0 9 ∧ ¬ K (i + 1 + 1) = 3 ∧ j = i + 1 + 1)))
  ∨ (K i = 8 ∧ ((D 0 7 ≠ 0 ∧ j = i) ∨ (D 0 7 = 0 ∧ ¬ Nu K N (i + 1) 1 4 ∧ j = i + 1) ∨ (D 0 7 = 0 ∧ Nu K N (i + 1) 1 4 ∧ ¬ K (i + 1 + 1) = 3 ∧ j = i + 1 + 1)))
  ∨ ((K i < 4 ∨ 8 < K i) ∧ j = i)
def ItOk (K N : Int → Int) (D : zU) (i j : Int) (D1 : zU) : Prop :=
  (K i = 4 ∧ D 0 0 < 8 ∧ Nu K N (i + 1) 0 60 ∧ Nu K N (i + 1 + 1) 0 9 ∧ Nu K N (i + 1 + 1 + 1) 0 1 ∧ K (i + 1 + 1 + 1 + 1) = 3 ∧ j = i + 1 + 1 + 1 + 1 ∧ D1 = up (up (up (up D 1 (D 0 0) (N (i + 1))) 2 (D 0 0) (N (i + 1 + 1))) 3 (D 0 0) (N (i + 1 + 1 + 1))) 0 0 (D 0 0 + 1))
  ∨ (K i = 5 ∧ D 0 1 < 3 ∧ Nu K N (i + 1) 0 (D 0 0 - 1) ∧ K (i + 1 + 1) = 3 ∧ j = i + 1 + 1 ∧ D1 = up (up D 4 (D 0 1) (N (i + 1))) 0 1 (D 0 1 + 1))
  ∨ (K i = 6 ∧ D 0 5 = 0 ∧ Nu K N (i + 1) 0 9 ∧ K (i + 1 + 1) = 3 ∧ j = i + 1 + 1 ∧ D1 = up (up D 0 2 (N (i + 1))) 0 5 1)
  ∨ (K i = 7 ∧ D 0 6 = 0 ∧ Nu K N (i + 1) 0 9 ∧ K (i + 1 + 1) = 3 ∧ j = i + 1 + 1 ∧ D1 = up (up D 0 3 (N (i + 1))) 0 6 1)
  ∨ (K i = 8 ∧ D 0 7 = 0 ∧ Nu K N (i + 1) 1 4 ∧ K (i + 1 + 1) = 3 ∧ j = i + 1 + 1 ∧ D1 = up (up D 0 4 (N (i + 1))) 0 7 1)
/-- the class's draft is D -/
def DC (u D : zU) : Prop := ((0 ≤ u 8 4 ∧ u 8 4 ≤ 8) ∧ D 0 0 = u 8 4) ∧ ((0 ≤ u 8 5 ∧ u 8 5 ≤ 3) ∧ D 0 1 = u 8 5) ∧ ((0 ≤ u 8 6 ∧ u 8 6 ≤ 9) ∧ D 0 2 = u 8 6 ∧ (0 ≤ u 8 7 ∧ u 8 7 ≤ 9) ∧ D 0 3 = u 8 7 ∧ (1 ≤ u 8 8 ∧ u 8 8 ≤ 4) ∧ D 0 4 = u 8 8) ∧ ((u 13 6 = 0 ∨ u 13 6 = 1) ∧ D 0 5 = u 13 6 ∧ (u 13 7 = 0 ∨ u 13 7 = 1) ∧ D 0 6 = u 13 7 ∧ (u 13 8 = 0 ∨ u 13 8 = 1) ∧ D 0 7 = u 13 8) ∧ (∀ l : Int, 0 ≤ l → l < u 8 4 → D 1 l = u 9 l ∧ D 2 l = u 10 l ∧ D 3 l = u 11 l) ∧ ∀ m : Int, 0 ≤ m → m < u 8 5 → D 4 m = u 12 m ∧ 0 ≤ u 12 m ∧ u 12 m < u 8 4
theorem DC_level {u D : zU} {x1 x2 x3 a1 a2 a3 a4 : Int} (h : DC u D) (hl : u 8 4 < 8) : DC (up (up (up (up (up (up (up (up u 13 5 a1) 9 (u 8 4) x1) 13 5 a2) 10 (u 8 4) x2) 13 5 a3) 11 (u 8 4) x3) 8 4 (u 8 4 + 1)) 13 5 a4) (up (up (up (up D 1 (D 0 0) x1) 2 (D 0 0) x2) 3 (D 0 0) x3) 0 0 (D 0 0 + 1)) := by
  obtain ⟨d1, d2, d3, d4, d5, d6⟩ := h
  refine ⟨?_, d2, d3, d4, fun l h0 h1 => ?_, fun m h0 h1 => ?_⟩
  · show (0 ≤ u 8 4 + 1 ∧ u 8 4 + 1 ≤ 8) ∧ D 0 0 + 1 = u 8 4 + 1
    omega
  · have h1' : l < u 8 4 + 1 := h1
    show (if l = D 0 0 then x1 else D 1 l) = (if l = u 8 4 then x1 else u 9 l) ∧ (if l = D 0 0 then x2 else D 2 l) = (if l = u 8 4 then x2 else u 10 l) ∧ (if l = D 0 0 then x3 else D 3 l) = (if l = u 8 4 then x3 else u 11 l)
    rw [d1.2]
    by_cases e : l = u 8 4
    · exact ⟨by rw [if_pos e, if_pos e], by rw [if_pos e, if_pos e], by rw [if_pos e, if_pos e]⟩
    · rw [if_neg e, if_neg e, if_neg e, if_neg e, if_neg e, if_neg e]
      exact d5 l h0 (by omega)
  · have q := d6 m h0 h1
    show D 4 m = u 12 m ∧ 0 ≤ u 12 m ∧ u 12 m < u 8 4 + 1
    exact ⟨q.1, q.2.1, by omega⟩
theorem DC_man {u D : zU} {x1 a1 a4 : Int} (h : DC u D) (hl : u 8 5 < 3) (h0 : 0 ≤ x1) (h1 : x1 < u 8 4) : DC (up (up (up (up u 13 5 a1) 12 (u 8 5) x1) 8 5 (u 8 5 + 1)) 13 5 a4) (up (up D 4 (D 0 1) x1) 0 1 (D 0 1 + 1)) := by
  obtain ⟨d1, d2, d3, d4, d5, d6⟩ := h
  refine ⟨d1, ?_, d3, d4, d5, fun m g0 g1 => ?_⟩
  · show (0 ≤ u 8 5 + 1 ∧ u 8 5 + 1 ≤ 3) ∧ D 0 1 + 1 = u 8 5 + 1
    omega
  · have g1' : m < u 8 5 + 1 := g1
    show (if m = D 0 1 then x1 else D 4 m) = (if m = u 8 5 then x1 else u 12 m) ∧ 0 ≤ (if m = u 8 5 then x1 else u 12 m) ∧ (if m = u 8 5 then x1 else u 12 m) < u 8 4
    rw [d2.2]
    by_cases e : m = u 8 5
    · rw [if_pos e, if_pos e]; exact ⟨rfl, h0, h1⟩
    · rw [if_neg e, if_neg e]; exact d6 m g0 (by omega)
theorem DC_ear {u D : zU} {x1 a1 a4 : Int} (h : DC u D) (hx : 0 ≤ x1 ∧ x1 ≤ 9) : DC (up (up (up (up u 13 5 a1) 8 6 x1) 13 6 1) 13 5 a4) (up (up D 0 2 x1) 0 5 1) := by
  obtain ⟨d1, d2, d3, d4, d5, d6⟩ := h
  exact ⟨d1, d2, ⟨hx, rfl, d3.2.2⟩, ⟨Or.inr rfl, rfl, d4.2.2⟩, d5, d6⟩
theorem DC_wet {u D : zU} {x1 a1 a4 : Int} (h : DC u D) (hx : 0 ≤ x1 ∧ x1 ≤ 9) : DC (up (up (up (up u 13 5 a1) 8 7 x1) 13 7 1) 13 5 a4) (up (up D 0 3 x1) 0 6 1) := by
  obtain ⟨d1, d2, d3, d4, d5, d6⟩ := h
  exact ⟨d1, d2, ⟨d3.1, d3.2.1, hx, rfl, d3.2.2.2.2⟩, ⟨d4.1, d4.2.1, Or.inr rfl, rfl, d4.2.2.2.2⟩, d5, d6⟩
theorem DC_pace {u D : zU} {x1 a1 a4 : Int} (h : DC u D) (hx : 1 ≤ x1 ∧ x1 ≤ 4) : DC (up (up (up (up u 13 5 a1) 8 8 x1) 13 8 1) 13 5 a4) (up (up D 0 4 x1) 0 7 1) := by
  obtain ⟨d1, d2, d3, d4, d5, d6⟩ := h
  exact ⟨d1, d2, ⟨d3.1, d3.2.1, d3.2.2.1, d3.2.2.2.1, hx, rfl⟩, ⟨d4.1, d4.2.1, d4.2.2.1, d4.2.2.2.1, Or.inr rfl, rfl⟩, d5, d6⟩
theorem It_no1 {K N : Int → Int} {D : zU} {i j j2 : Int} (h : ItNo K N D i j) (h2 : ItNo K N D i j2) : j = j2 := by
  unfold ItNo Nu at h h2
  omega
theorem It_ok1 {K N : Int → Int} {D D1 D2 : zU} {i j j2 : Int} (h : ItOk K N D i j D1) (h2 : ItOk K N D i j2 D2) : j = j2 ∧ D1 = D2 := by
  unfold ItOk at h h2
  rcases h with h | h | h | h | h <;> rcases h2 with h2 | h2 | h2 | h2 | h2
  · exact ⟨by omega, h.2.2.2.2.2.2.2.trans h2.2.2.2.2.2.2.2.symm⟩
  · exact absurd h.1 (by omega)
  · exact absurd h.1 (by omega)
  · exact absurd h.1 (by omega)
  · exact absurd h.1 (by omega)
  · exact absurd h.1 (by omega)
  · exact ⟨by omega, h.2.2.2.2.2.trans h2.2.2.2.2.2.symm⟩
  · exact absurd h.1 (by omega)
  · exact absurd h.1 (by omega)
  · exact absurd h.1 (by omega)
  · exact absurd h.1 (by omega)
  · exact absurd h.1 (by omega)
  · exact ⟨by omega, h.2.2.2.2.2.trans h2.2.2.2.2.2.symm⟩
  · exact absurd h.1 (by omega)
  · exact absurd h.1 (by omega)
  · exact absurd h.1 (by omega)
  · exact absurd h.1 (by omega)
  · exact absurd h.1 (by omega)
  · exact ⟨by omega, h.2.2.2.2.2.trans h2.2.2.2.2.2.symm⟩
  · exact absurd h.1 (by omega)
  · exact absurd h.1 (by omega)
  · exact absurd h.1 (by omega)
  · exact absurd h.1 (by omega)
  · exact absurd h.1 (by omega)
  · exact ⟨by omega, h.2.2.2.2.2.trans h2.2.2.2.2.2.symm⟩
theorem It_ex {K N : Int → Int} {D D1 : zU} {i j j2 : Int} (h : ItNo K N D i j) (h2 : ItOk K N D i j2 D1) : False := by
  unfold ItNo Nu at h
  unfold ItOk Nu at h2
  rcases h2 with h2 | h2 | h2 | h2 | h2 <;> omega
/-- the whole text: z items, D'; or the place of what is wrong -/
def Prs (K N S : Int → Int) : Nat → zU → Int → Int → Int → zU → Prop
  | 0, _, _, _, _, _ => False
  | f + 1, D, i, c, z, D' => (K i = 0 ∧ z = c ∧ D' = D) ∨ (K i ≠ 0 ∧ ((∃ j : Int, ItNo K N D i j ∧ z = -10 - S j) ∨ ∃ (j : Int) (D1 : zU), ItOk K N D i j D1 ∧ Prs K N S f D1 (j + 1) (c + 1) z D'))
theorem Prs_1 {K N S : Int → Int} : ∀ {f f2 : Nat} {D : zU} {i c z z2 : Int} {D1 D2 : zU}, 0 ≤ c → (∀ j, 0 ≤ S j) → Prs K N S f D i c z D1 → Prs K N S f2 D i c z2 D2 → z = z2 ∧ (0 ≤ z → D1 = D2)
  | 0, _, _, _, _, _, _, _, _, _, _, h, _ => h.elim
  | _ + 1, 0, _, _, _, _, _, _, _, _, _, _, h2 => h2.elim
  | f + 1, f2 + 1, D, i, c, z, z2, D1, D2, hc, hS, h, h2 => by
    rcases h with ⟨a, b, d⟩ | ⟨a, h⟩
    · rcases h2 with ⟨a2, b2, d2⟩ | ⟨a2, h2⟩
      · exact ⟨b.trans b2.symm, fun _ => d.trans d2.symm⟩
      · exact absurd a a2
    · rcases h2 with ⟨a2, b2, d2⟩ | ⟨a2, h2⟩
      · exact absurd a2 a
      · rcases h with ⟨j, g, e⟩ | ⟨j, E, g, e⟩
        · rcases h2 with ⟨j2, g2, e2⟩ | ⟨j2, E2, g2, e2⟩
          · have ej := It_no1 g g2
            subst ej
            refine ⟨e.trans e2.symm, fun q => ?_⟩
            have := hS j
            omega
          · exact (It_ex g g2).elim
        · rcases h2 with ⟨j2, g2, e2⟩ | ⟨j2, E2, g2, e2⟩
          · exact (It_ex g2 g).elim
          · obtain ⟨ej, eE⟩ := It_ok1 g g2
            subst ej eE
            exact Prs_1 (by omega) hS e e2
