/-! ===== pure: the reference's draft ===== -/
def glr (u v : zU) : zU := fun c i => if c = 0 then (if (2 ≤ i ∧ i ≤ 7) ∨ i = 11 then v 0 i else u 0 i) else if 2 ≤ c ∧ c ≤ 4 then v c i else u c i
/-- only the reader's places may have changed -/
def FrR (u u' : zU) : Prop := ∀ (c : Nat) (i : Int), ¬ ((c = 0 ∧ ((2 ≤ i ∧ i ≤ 7) ∨ i = 11)) ∨ (2 ≤ c ∧ c ≤ 4)) → u' c i = u c i
theorem FrR_rf (u : zU) : FrR u u := fun _ _ _ => rfl
theorem FrR_u0 {u w : zU} {k x : Int} (hk : (2 ≤ k ∧ k ≤ 7) ∨ k = 11) (h : FrR u w) : FrR u (up w 0 k x) := fun c i q => by
  rw [up_ne w (by
    by_cases e : c = 0
    · right; intro ei; exact q (Or.inl ⟨e, by rw [ei]; exact hk⟩)
    · exact Or.inl e)]
  exact h c i q
theorem FrR_uc {u w : zU} {d : Nat} {k x : Int} (hd : 2 ≤ d ∧ d ≤ 4) (h : FrR u w) : FrR u (up w d k x) := fun c i q => by
  rw [up_ne w (by
    by_cases e : c = d
    · exact absurd (Or.inr (by rw [e]; exact hd)) q
    · exact Or.inl e)]
  exact h c i q
theorem FrR_tr {u w w' : zU} (h : FrR u w) (h2 : FrR w w') : FrR u w' := fun c i q => (h2 c i q).trans (h c i q)
theorem FrR_rds {u w : zU} {b tok td pt : Int} (h : FrR u w) : FrR u (rds w b tok td pt) := fun c i q => by
  rw [← h c i q]
  unfold rds
  by_cases e : c = 0
  · subst e
    rw [if_pos rfl]
    have h2 : i ≠ 2 := fun e => q (Or.inl ⟨rfl, by omega⟩)
    have h3 : i ≠ 3 := fun e => q (Or.inl ⟨rfl, by omega⟩)
    have h4 : i ≠ 4 := fun e => q (Or.inl ⟨rfl, by omega⟩)
    have h5 : i ≠ 5 := fun e => q (Or.inl ⟨rfl, by omega⟩)
    rw [if_neg h2, if_neg h3, if_neg h4, if_neg h5]
  · rw [if_neg e]
theorem FrR_glr {u u' : zU} (h : FrR u u') : u' = glr u u' := by
  funext c i
  unfold glr
  by_cases e : c = 0
  · subst e
    rw [if_pos rfl]
    by_cases q : (2 ≤ i ∧ i ≤ 7) ∨ i = 11
    · rw [if_pos q]
    · rw [if_neg q]
      exact h 0 i (fun z => z.elim (fun z => q z.2) (fun z => absurd z.1 (by decide)))
  · rw [if_neg e]
    by_cases q : 2 ≤ c ∧ c ≤ 4
    · rw [if_pos q]
    · rw [if_neg q]
      exact h c i (fun z => z.elim (fun z => e z.1) q)
theorem FrR.im {u u' : zU} (h : FrR u u') (hI : IM u) : IM u' := by
  rw [FrR_glr h]; exact hI
theorem FrR.tx {u u' : zU} (h : FrR u u') : u' 1 = u 1 := funext (fun i => h 1 i (by omega))
theorem FrR.tn {u u' : zU} (h : FrR u u') : u' 0 1 = u 0 1 := h 0 1 (by omega)
theorem nxR {tx : Int → Int} {n tok td pt : Int} {i : Nat} (h : RdP tx n (ps tx n i) tok td pt) (hk : kd tx n (ps tx n i) ≠ 1) : skp tx n pt = ps tx n (i + 1) := by
  unfold RdP at h
  by_cases e : kd tx n (ps tx n i) = 0
  · have g := kd_0 e
    rw [ps_stay g, skp_at (by omega)]
    omega
  · have g : pt = nxt tx n (ps tx n i) := by omega
    rw [g]
    rfl
theorem ne_12 {a : Int} (h : a = 2) : a ≠ 1 := by omega
theorem ne_13 {a : Int} (h : a = 3) : a ≠ 1 := by omega
theorem at_bd {tx : Int → Int} {n tok td pt : Int} {i : Nat} (hn : 0 ≤ n) (h : RdP tx n (ps tx n i) tok td pt) : 0 ≤ pt ∧ pt ≤ n := by
  have h1 := ps_bd (tx := tx) hn i
  unfold RdP at h
  omega
theorem it_told {K N : Int → Int} {D : zU} {i : Int} (h : (K i = 6 ∧ D 0 5 ≠ 0) ∨ (K i = 7 ∧ D 0 6 ≠ 0) ∨ (K i = 8 ∧ D 0 7 ≠ 0)) : ItNo K N D i i := by
  unfold ItNo
  rcases h with h | h | h
  · exact Or.inr (Or.inr (Or.inl ⟨h.1, Or.inl ⟨h.2, rfl⟩⟩))
  · exact Or.inr (Or.inr (Or.inr (Or.inl ⟨h.1, Or.inl ⟨h.2, rfl⟩⟩)))
  · exact Or.inr (Or.inr (Or.inr (Or.inr (Or.inl ⟨h.1, Or.inl ⟨h.2, rfl⟩⟩))))
/-- the reference's draft is D -/
def DM (u D : zU) : Prop := ((0 ≤ u 0 6 ∧ u 0 6 ≤ 8) ∧ D 0 0 = u 0 6) ∧ ((0 ≤ u 0 7 ∧ u 0 7 ≤ 3) ∧ D 0 1 = u 0 7) ∧ (D 0 2 = u 4 0 ∧ D 0 3 = u 4 1 ∧ D 0 4 = u 4 2) ∧ ((D 0 5 = 0 ∨ D 0 5 = 1) ∧ (D 0 6 = 0 ∨ D 0 6 = 1) ∧ (D 0 7 = 0 ∨ D 0 7 = 1) ∧ u 0 11 = 4 * D 0 5 + 8 * D 0 6 + 16 * D 0 7) ∧ (∀ l : Int, 0 ≤ l → l < u 0 6 → D 1 l = u 2 (3 * l) ∧ D 2 l = u 2 (3 * l + 1) ∧ D 3 l = u 2 (3 * l + 2)) ∧ ∀ m : Int, 0 ≤ m → m < u 0 7 → D 4 m = u 3 m
theorem DM_level {u D : zU} {x1 x2 x3 a1 a2 a3 a4 : Int} (h : DM u D) (hl : u 0 6 < 8) : DM (up (up (up (up (up (up (up (up u 2 (3 * (u 0 6)) x1) 2 (3 * (u 0 6) + 1) x2) 2 (3 * (u 0 6) + 2) x3) 0 6 (u 0 6 + 1)) 0 2 a1) 0 3 a2) 0 4 a3) 0 5 a4) (up (up (up (up D 1 (D 0 0) x1) 2 (D 0 0) x2) 3 (D 0 0) x3) 0 0 (D 0 0 + 1)) := by
  obtain ⟨d1, d2, d3, d4, d5, d6⟩ := h
  refine ⟨?_, d2, d3, d4, fun l h0 h1 => ?_, d6⟩
  · show (0 ≤ u 0 6 + 1 ∧ u 0 6 + 1 ≤ 8) ∧ D 0 0 + 1 = u 0 6 + 1
    omega
  · have h1' : l < u 0 6 + 1 := h1
    show (if l = D 0 0 then x1 else D 1 l) = (if 3 * l = 3 * (u 0 6) + 2 then x3 else if 3 * l = 3 * (u 0 6) + 1 then x2 else if 3 * l = 3 * (u 0 6) then x1 else u 2 (3 * l)) ∧ (if l = D 0 0 then x2 else D 2 l) = (if 3 * l + 1 = 3 * (u 0 6) + 2 then x3 else if 3 * l + 1 = 3 * (u 0 6) + 1 then x2 else if 3 * l + 1 = 3 * (u 0 6) then x1 else u 2 (3 * l + 1)) ∧ (if l = D 0 0 then x3 else D 3 l) = (if 3 * l + 2 = 3 * (u 0 6) + 2 then x3 else if 3 * l + 2 = 3 * (u 0 6) + 1 then x2 else if 3 * l + 2 = 3 * (u 0 6) then x1 else u 2 (3 * l + 2))
    rw [d1.2]
    by_cases e : l = u 0 6
    · rw [if_pos e, if_pos e, if_pos e, if_neg (by omega), if_neg (by omega), if_pos (by omega), if_neg (by omega), if_pos (by omega), if_pos (by omega)]
      exact ⟨rfl, rfl, rfl⟩
    · rw [if_neg e, if_neg e, if_neg e, if_neg (by omega), if_neg (by omega), if_neg (by omega), if_neg (by omega), if_neg (by omega), if_neg (by omega), if_neg (by omega), if_neg (by omega), if_neg (by omega)]
      exact d5 l h0 (by omega)
theorem DM_man {u D : zU} {x1 a1 a2 a3 a4 : Int} (h : DM u D) (hl : u 0 7 < 3) : DM (up (up (up (up (up (up u 3 (u 0 7) x1) 0 7 (u 0 7 + 1)) 0 2 a1) 0 3 a2) 0 4 a3) 0 5 a4) (up (up D 4 (D 0 1) x1) 0 1 (D 0 1 + 1)) := by
  obtain ⟨d1, d2, d3, d4, d5, d6⟩ := h
  refine ⟨d1, ?_, d3, d4, d5, fun m g0 g1 => ?_⟩
  · show (0 ≤ u 0 7 + 1 ∧ u 0 7 + 1 ≤ 3) ∧ D 0 1 + 1 = u 0 7 + 1
    omega
  · have g1' : m < u 0 7 + 1 := g1
    show (if m = D 0 1 then x1 else D 4 m) = (if m = u 0 7 then x1 else u 3 m)
    rw [d2.2]
    by_cases e : m = u 0 7
    · rw [if_pos e, if_pos e]
    · rw [if_neg e, if_neg e]; exact d6 m g0 (by omega)
theorem DM_ear {u D : zU} {x1 a1 a2 a3 a4 : Int} (h : DM u D) (hf : D 0 5 = 0) : DM (up (up (up (up (up (up u 4 0 x1) 0 11 (u 0 11 + 4)) 0 2 a1) 0 3 a2) 0 4 a3) 0 5 a4) (up (up D 0 2 x1) 0 5 1) := by
  obtain ⟨d1, d2, d3, d4, d5, d6⟩ := h
  refine ⟨d1, d2, ⟨rfl, d3.2⟩, ⟨Or.inr rfl, d4.2.1, d4.2.2.1, ?_⟩, d5, d6⟩
  show u 0 11 + 4 = 4 * 1 + 8 * D 0 6 + 16 * D 0 7
  omega
theorem DM_wet {u D : zU} {x1 a1 a2 a3 a4 : Int} (h : DM u D) (hf : D 0 6 = 0) : DM (up (up (up (up (up (up u 4 1 x1) 0 11 (u 0 11 + 8)) 0 2 a1) 0 3 a2) 0 4 a3) 0 5 a4) (up (up D 0 3 x1) 0 6 1) := by
  obtain ⟨d1, d2, d3, d4, d5, d6⟩ := h
  refine ⟨d1, d2, ⟨d3.1, rfl, d3.2.2⟩, ⟨d4.1, Or.inr rfl, d4.2.2.1, ?_⟩, d5, d6⟩
  show u 0 11 + 8 = 4 * D 0 5 + 8 * 1 + 16 * D 0 7
  omega
theorem DM_pace {u D : zU} {x1 a1 a2 a3 a4 : Int} (h : DM u D) (hf : D 0 7 = 0) : DM (up (up (up (up (up (up u 4 2 x1) 0 11 (u 0 11 + 16)) 0 2 a1) 0 3 a2) 0 4 a3) 0 5 a4) (up (up D 0 4 x1) 0 7 1) := by
  obtain ⟨d1, d2, d3, d4, d5, d6⟩ := h
  refine ⟨d1, d2, ⟨d3.1, d3.2.1, rfl⟩, ⟨d4.1, d4.2.1, Or.inr rfl, ?_⟩, d5, d6⟩
  show u 0 11 + 16 = 4 * D 0 5 + 8 * D 0 6 + 16 * 1
  omega
theorem DM_rds {u D : zU} {b tok td pt : Int} (h : DM u D) : DM (rds u b tok td pt) D := h
theorem rt_shr {a : Int} (h : 0 ≤ a ∧ a < 32) : zI a >>> (zI 2 &&& 31) = zI (a / 4) ∧ zI a >>> (zI 3 &&& 31) = zI (a / 8) ∧ zI a >>> (zI 4 &&& 31) = zI (a / 16) := by
  have g : ∀ k : Fin 32, zI (k.val : Int) >>> (zI 2 &&& 31) = zI ((k.val : Int) / 4) ∧ zI (k.val : Int) >>> (zI 3 &&& 31) = zI ((k.val : Int) / 8) ∧ zI (k.val : Int) >>> (zI 4 &&& 31) = zI ((k.val : Int) / 16) := by decide +kernel
  have e := g ⟨a.toNat, by omega⟩
  rw [show ((a.toNat : Nat) : Int) = a by omega] at e
  exact e
theorem rt_and {a : Int} (h : 0 ≤ a) : zI a &&& zI 1 = zI (a % 2) := by
  obtain ⟨m, rfl⟩ := Int.eq_ofNat_of_zero_le h
  exact zI_and1
theorem rt_1sh : zI 1 <<< (zI 2 &&& 31) = zI 4 ∧ zI 1 <<< (zI 3 &&& 31) = zI 8 ∧ zI 1 <<< (zI 4 &&& 31) = zI 16 := by decide +kernel
theorem rt_or {a : Int} (h : 0 ≤ a ∧ a < 32) : (a / 4 % 2 ≠ 1 → zI a ||| zI 4 = zI (a + 4)) ∧ (a / 8 % 2 ≠ 1 → zI a ||| zI 8 = zI (a + 8)) ∧ (a / 16 % 2 ≠ 1 → zI a ||| zI 16 = zI (a + 16)) := by
  have g : ∀ k : Fin 32, ((k.val : Int) / 4 % 2 ≠ 1 → zI (k.val : Int) ||| zI 4 = zI ((k.val : Int) + 4)) ∧ ((k.val : Int) / 8 % 2 ≠ 1 → zI (k.val : Int) ||| zI 8 = zI ((k.val : Int) + 8)) ∧ ((k.val : Int) / 16 % 2 ≠ 1 → zI (k.val : Int) ||| zI 16 = zI ((k.val : Int) + 16)) := by decide +kernel
  have e := g ⟨a.toNat, by omega⟩
  rw [show ((a.toNat : Nat) : Int) = a by omega] at e
  exact e
/-- what a draft may hold -/
def RnD (D : zU) : Prop := (0 ≤ D 0 0 ∧ D 0 0 ≤ 8) ∧ (0 ≤ D 0 1 ∧ D 0 1 ≤ 3) ∧ (0 ≤ D 0 2 ∧ D 0 2 ≤ 9) ∧ (0 ≤ D 0 3 ∧ D 0 3 ≤ 9) ∧ (1 ≤ D 0 4 ∧ D 0 4 ≤ 4) ∧ (∀ l : Int, 0 ≤ l → l < D 0 0 → (0 ≤ D 1 l ∧ D 1 l ≤ 60) ∧ (0 ≤ D 2 l ∧ D 2 l ≤ 9) ∧ 0 ≤ D 3 l ∧ D 3 l ≤ 1) ∧ ∀ m : Int, 0 ≤ m → m < D 0 1 → 0 ≤ D 4 m ∧ D 4 m < D 0 0
theorem RnD_0 : RnD D0 := ⟨by decide, by decide, by decide, by decide, by decide, fun l h0 h1 => absurd (show l < 0 from h1) (by omega), fun l h0 h1 => absurd (show l < 0 from h1) (by omega)⟩
theorem RnD_ok {K N : Int → Int} {D D1 : zU} {i j : Int} (h : ItOk K N D i j D1) (hD : RnD D) : RnD D1 := by
  obtain ⟨d1, d2, d3, d4, d5, d6, d7⟩ := hD
  unfold ItOk Nu at h
  rcases h with h | h | h | h | h
  · obtain ⟨_, h8, n1, n2, n3, _, _, e⟩ := h
    rw [e]
    refine ⟨?_, d2, d3, d4, d5, fun l h0 h1 => ?_, fun m h0 h1 => ?_⟩
    · show 0 ≤ D 0 0 + 1 ∧ D 0 0 + 1 ≤ 8
      omega
    · have h1' : l < D 0 0 + 1 := h1
      show (0 ≤ (if l = D 0 0 then N (i + 1) else D 1 l) ∧ (if l = D 0 0 then N (i + 1) else D 1 l) ≤ 60) ∧ (0 ≤ (if l = D 0 0 then N (i + 1 + 1) else D 2 l) ∧ (if l = D 0 0 then N (i + 1 + 1) else D 2 l) ≤ 9) ∧ 0 ≤ (if l = D 0 0 then N (i + 1 + 1 + 1) else D 3 l) ∧ (if l = D 0 0 then N (i + 1 + 1 + 1) else D 3 l) ≤ 1
      by_cases q : l = D 0 0
      · rw [if_pos q, if_pos q, if_pos q]; exact ⟨n1.2, n2.2, n3.2⟩
      · rw [if_neg q, if_neg q, if_neg q]; exact d6 l h0 (by omega)
    · have g := d7 m h0 h1
      show 0 ≤ D 4 m ∧ D 4 m < D 0 0 + 1
      omega
  · obtain ⟨_, h3, n1, _, _, e⟩ := h
    rw [e]
    refine ⟨d1, ?_, d3, d4, d5, d6, fun m h0 h1 => ?_⟩
    · show 0 ≤ D 0 1 + 1 ∧ D 0 1 + 1 ≤ 3
      omega
    · have h1' : m < D 0 1 + 1 := h1
      show 0 ≤ (if m = D 0 1 then N (i + 1) else D 4 m) ∧ (if m = D 0 1 then N (i + 1) else D 4 m) < D 0 0
      by_cases q : m = D 0 1
      · rw [if_pos q]; omega
      · rw [if_neg q]; exact d7 m h0 (by omega)
  · obtain ⟨_, _, n1, _, _, e⟩ := h
    rw [e]; exact ⟨d1, d2, n1.2, d4, d5, d6, d7⟩
  · obtain ⟨_, _, n1, _, _, e⟩ := h
    rw [e]; exact ⟨d1, d2, d3, n1.2, d5, d6, d7⟩
  · obtain ⟨_, _, n1, _, _, e⟩ := h
    rw [e]; exact ⟨d1, d2, d3, d4, n1.2, d6, d7⟩
