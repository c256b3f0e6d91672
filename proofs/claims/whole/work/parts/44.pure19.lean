/-! ===== the law's relation: class and reference alike ===== -/
def SN (lv pp : Int) (f g : zU) : Prop := f 0 5 = g 0 5 ∧ f 0 6 = g 0 6 ∧ (f 0 7 = g 0 7 ∧ (f 0 7 = 8 ∨ f 0 7 < lv)) ∧ f 0 8 = g 0 8 ∧ f 0 9 = g 0 9 ∧ (∀ l : Int, 0 ≤ l → l < lv → f 1 l = g 1 l) ∧ (∀ m : Int, 0 ≤ m → m < pp → f 2 m = g 2 m) ∧ (∀ i : Int, 0 ≤ i → i < f 0 8 → f 3 i = g 3 i ∧ f 4 i = g 4 i) ∧ ∀ i : Int, 0 ≤ i → i < f 0 9 → f 5 i = g 5 i
/-- two NOWs that are alike -/
def NB (lv pp : Int) (f g : zU) : Prop := InN lv pp f ∧ (InN lv pp g ∧ Zm pp g) ∧ SN lv pp f g
def vB (u : zU) (b : Nat) : zU := fun k => u (b + k)
def TB (u v : zU) : Prop := (u 3 4 = v 0 12 ∧ u 3 5 = v 0 13 ∧ u 3 6 = v 9 0 ∧ u 3 8 = v 9 2) ∧ ∀ l : Int, 0 ≤ l → l < u 3 4 → u 5 l = v 6 l ∧ u 6 l = v 7 l
def Img (u v : zU) (d : Nat) (j b : Int) : Prop := (u 36 j = 0 ∧ v 20 b = -1) ∨ (u 36 j = 1 ∧ 0 ≤ v 20 b ∧ NB (u 3 4) (u 3 5) (vB u d) (kv (v 20) b))
def XBu (u : zU) : Prop := InT (fun k => u (3 + k)) ∧ InA (fun k => u (8 + k)) ∧ (0 ≤ u 1 1 ∧ u 1 1 ≤ 200) ∧ ∀ i : Int, 0 ≤ i → i < 200 → 0 ≤ u 2 i ∧ u 2 i ≤ 255
def XMv (v : zU) : Prop := (∀ i : Int, 0 ≤ i → i < 8 → 0 ≤ v 6 i ∧ v 6 i ≤ 9) ∧ ∀ i : Int, 0 ≤ i → i < 8 → 0 ≤ v 7 i ∧ v 7 i ≤ 1
def RR (u v : zU) : Prop := XBu u ∧ XMv v ∧ TB u v ∧ NB (u 3 4) (u 3 5) (vB u 17) (nv v) ∧ (Img u v 23 0 0 ∧ Img u v 29 1 36) ∧ (u 1 1 = v 0 1 ∧ u 2 = v 1) ∧ u 60 2 = v 0 34
section RRS
variable {u v u' v' : zU} {z z2 : Int}
theorem RR.ib (h : RR u v) : IB u := by
  obtain ⟨⟨a1, a2, a3, a4⟩, b, t, n, ⟨i1, i2⟩, _⟩ := h
  refine ⟨a1, a2, n.1, ?_, ?_, a3, a4⟩
  · rcases i1 with q | q
    · exact Or.inl q.1
    · exact Or.inr ⟨q.1, q.2.2.1⟩
  · rcases i2 with q | q
    · exact Or.inl q.1
    · exact Or.inr ⟨q.1, q.2.2.1⟩
theorem RR.im (h : RR u v) : IM v := by
  obtain ⟨⟨a1, a2, a3, a4⟩, b, ⟨⟨t1, t2, t3, t4⟩, t5⟩, n, ⟨i1, i2⟩, ⟨x1, x2⟩, _⟩ := h
  have q1 : 0 ≤ u 3 4 ∧ u 3 4 ≤ 8 := a1.2.1
  have q2 : 0 ≤ u 3 5 ∧ u 3 5 ≤ 3 := a1.2.2.1
  have q3 : 0 ≤ u 3 6 ∧ u 3 6 ≤ 9 := a1.2.2.2.1
  have q4 : 1 ≤ u 3 8 ∧ u 3 8 ≤ 4 := a1.2.2.2.2.2.1
  unfold Img at i1 i2
  rw [t1, t2] at n i1 i2
  refine ⟨by omega, by omega, by omega, by omega, b.1, b.2, n.2.1, ?_, ?_, by omega, by rw [← x2]; exact a4⟩
  · rcases i1 with q | q
    · exact Or.inl q.2
    · exact Or.inr q.2.2.2.1
  · rcases i2 with q | q
    · exact Or.inl q.2
    · exact Or.inr q.2.2.2.1
theorem RR.mk (hu : IB u) (hv : IM v) (ht : TB u v) (hs : SN (u 3 4) (u 3 5) (vB u 17) (nv v)) (h1 : u 36 0 = 0 ∧ v 20 0 = -1) (h2 : u 36 1 = 0 ∧ v 20 36 = -1) (hx : u 1 1 = v 0 1 ∧ u 2 = v 1) (hr : u 60 2 = v 0 34) : RR u v := by
  obtain ⟨a1, a2, a3, _, _, a6, a7⟩ := hu
  obtain ⟨_, _, _, _, b5, b6, b7, _⟩ := hv
  refine ⟨⟨a1, a2, a6, a7⟩, ⟨b5, b6⟩, ht, ⟨a3, ?_, hs⟩, ⟨Or.inl h1, Or.inl h2⟩, hx, hr⟩
  rw [ht.1.1, ht.1.2.1]; exact b7
theorem RR.lev (h : RR u v) : u 3 4 = v 0 12 := h.2.2.1.1.1
theorem RR.ppl (h : RR u v) : u 3 5 = v 0 13 := h.2.2.1.1.2.1
theorem RR.ear (h : RR u v) : u 3 6 = v 9 0 := h.2.2.1.1.2.2.1
theorem RR.pace (h : RR u v) : u 3 8 = v 9 2 := h.2.2.1.1.2.2.2
theorem RR.wear (h : RR u v) : ∀ l : Int, 0 ≤ l → l < u 3 4 → u 5 l = v 6 l := fun l a b => (h.2.2.1.2 l a b).1
theorem RR.echo (h : RR u v) : ∀ l : Int, 0 ≤ l → l < u 3 4 → u 6 l = v 7 l := fun l a b => (h.2.2.1.2 l a b).2
theorem RR.year (h : RR u v) : u 17 5 = v 0 19 := h.2.2.2.1.2.2.1
theorem RR.wet (h : RR u v) : u 17 6 = v 9 1 := h.2.2.2.1.2.2.2.1
theorem RR.rope (h : RR u v) : u 17 7 = v 0 20 ∧ (u 17 7 = 8 ∨ u 17 7 < u 3 4) := h.2.2.2.1.2.2.2.2.1
theorem RR.notes (h : RR u v) : u 17 8 = v 0 21 := h.2.2.2.1.2.2.2.2.2.1
theorem RR.sung (h : RR u v) : u 17 9 = v 0 31 := h.2.2.2.1.2.2.2.2.2.2.1
theorem RR.pitch (h : RR u v) : ∀ l : Int, 0 ≤ l → l < u 3 4 → u 18 l = v 5 l := h.2.2.2.1.2.2.2.2.2.2.2.1
theorem RR.stand (h : RR u v) : ∀ m : Int, 0 ≤ m → m < u 3 5 → u 19 m = v 8 m := h.2.2.2.1.2.2.2.2.2.2.2.2.1
theorem RR.minute (h : RR u v) : ∀ i : Int, 0 ≤ i → i < u 17 8 → u 20 i = v 10 i := fun i a b => (h.2.2.2.1.2.2.2.2.2.2.2.2.2.1 i a b).1
theorem RR.note (h : RR u v) : ∀ i : Int, 0 ≤ i → i < u 17 8 → u 21 i = v 11 i := fun i a b => (h.2.2.2.1.2.2.2.2.2.2.2.2.2.1 i a b).2
theorem RR.hymn (h : RR u v) : ∀ i : Int, 0 ≤ i → i < u 17 9 → u 22 i = v 18 i := h.2.2.2.1.2.2.2.2.2.2.2.2.2.2
theorem RR.len (h : RR u v) : u 1 1 = v 0 1 := h.2.2.2.2.2.1.1
theorem RR.txt (h : RR u v) : u 2 = v 1 := h.2.2.2.2.2.1.2
theorem RR.trc (h : RR u v) : u 60 2 = v 0 34 := h.2.2.2.2.2.2
theorem RR.sno (h : RR u v) : ∀ l : Int, 0 ≤ l → l < u 3 4 → snd (u 18 l) (u 17 6) l = snd (v 5 l) (v 9 1) l := fun l a b => by rw [h.pitch l a b, h.wet]
theorem like_congr {P P' : Int → Int} {w e lv s : Int} (h : ∀ i : Int, 0 ≤ i → i < lv → P i = P' i) : like P w e lv s = like P' w e lv s := by
  unfold like
  rw [show (fun q : Nat => alw P w e lv s q) = (fun q : Nat => alw P' w e lv s q) from funext (fun q => alw_congr h)]
theorem RR.lik (h : RR u v) (s : Int) : like (u 18) (u 17 6) (u 3 6) (u 3 4) s = like (v 5) (v 9 1) (v 9 0) (v 0 12) s := by
  rw [like_congr h.pitch, h.wet, h.ear, h.lev]
/-! the NOWs -/
variable {lv pp : Int} {f g : zU}
theorem NB_wet {w : Int} (h : NB lv pp f g) (hw : 0 ≤ w ∧ w ≤ 9) : NB lv pp (up f 0 6 w) (up g 0 6 w) := by
  obtain ⟨⟨a1, a2, a3, a4, a5, a6, a7, a8, a9, a10, a11, a12⟩, ⟨⟨b1, b2, b3, b4, b5, b6, b7, b8, b9, b10, b11, b12⟩, bz⟩, s1, s2, s3, s4, s5, s6, s7, s8, s9⟩ := h
  exact ⟨⟨a1, hw, a3, a4, a5, a6, a7, a8, a9, a10, a11, a12⟩, ⟨⟨b1, hw, b3, b4, b5, b6, b7, b8, b9, b10, b11, b12⟩, bz⟩, s1, rfl, s3, s4, s5, s6, s7, s8, s9⟩
theorem NB_rope {w : Int} (h : NB lv pp f g) (hw : 0 ≤ w ∧ w ≤ 8) (hr : w = 8 ∨ w < lv) : NB lv pp (up f 0 7 w) (up g 0 7 w) := by
  obtain ⟨⟨a1, a2, a3, a4, a5, a6, a7, a8, a9, a10, a11, a12⟩, ⟨⟨b1, b2, b3, b4, b5, b6, b7, b8, b9, b10, b11, b12⟩, bz⟩, s1, s2, s3, s4, s5, s6, s7, s8, s9⟩ := h
  exact ⟨⟨a1, a2, hw, a4, a5, a6, a7, a8, a9, a10, a11, a12⟩, ⟨⟨b1, b2, hw, b4, b5, b6, b7, b8, b9, b10, b11, b12⟩, bz⟩, s1, s2, ⟨rfl, hr⟩, s4, s5, s6, s7, s8, s9⟩
theorem NB_stand {m k : Int} (h : NB lv pp f g) (hl : lv ≤ 8) (hm : 0 ≤ m ∧ m < pp) (hk : 0 ≤ k ∧ k < lv) : NB lv pp (up f 2 m k) (up g 2 m k) := by
  obtain ⟨⟨a1, a2, a3, a4, a5, a6, a7, a8, a9, a10, a11, a12⟩, ⟨⟨b1, b2, b3, b4, b5, b6, b7, b8, b9, b10, b11, b12⟩, bz⟩, s1, s2, s3, s4, s5, s6, s7, s8, s9⟩ := h
  have c7 : ∀ F : Int → Int, (∀ i : Int, 0 ≤ i → i < 3 → 0 ≤ F i ∧ F i < 8) → ∀ i : Int, 0 ≤ i → i < 3 → 0 ≤ (if i = m then k else F i) ∧ (if i = m then k else F i) < 8 := fun F hF i h0 h1 => by
    by_cases e : i = m
    · rw [if_pos e]; omega
    · rw [if_neg e]; exact hF i h0 h1
  have c12 : ∀ F : Int → Int, (∀ i : Int, 0 ≤ i → i < pp → F i < lv) → ∀ i : Int, 0 ≤ i → i < pp → (if i = m then k else F i) < lv := fun F hF i h0 h1 => by
    by_cases e : i = m
    · rw [if_pos e]; omega
    · rw [if_neg e]; exact hF i h0 h1
  refine ⟨⟨a1, a2, a3, a4, a5, a6, c7 _ a7, a8, a9, a10, a11, c12 _ a12⟩, ⟨⟨b1, b2, b3, b4, b5, b6, c7 _ b7, b8, b9, b10, b11, c12 _ b12⟩, fun i h0 h1 => ?_⟩, s1, s2, s3, s4, s5, s6, fun i h0 h1 => ?_, s8, s9⟩
  · show (if i = m then k else g 2 i) = 0
    rw [if_neg (by omega)]; exact bz i h0 h1
  · show (if i = m then k else f 2 i) = (if i = m then k else g 2 i)
    rw [s7 i h0 h1]
theorem NB_year {W W' : Int → Int} (h : NB lv pp f g) (hl : lv ≤ 8) (hy : f 0 5 < 999) (hW : ∀ i : Int, 0 ≤ i → i < 8 → 0 ≤ W i ∧ W i ≤ 9) (hW2 : ∀ i : Int, 0 ≤ i → i < 8 → 0 ≤ W' i ∧ W' i ≤ 9) (hs : ∀ l : Int, 0 ≤ l → l < lv → W l = W' l) : NB lv pp (up (us f 1 (fun j => if 0 ≤ j ∧ j < lv then wrn (f 1 j) (W j) 1 else f 1 j)) 0 5 (f 0 5 + 1)) (up (us g 1 (fun j => if 0 ≤ j ∧ j < lv then wrn (g 1 j) (W' j) 1 else g 1 j)) 0 5 (g 0 5 + 1)) := by
  obtain ⟨⟨a1, a2, a3, a4, a5, a6, a7, a8, a9, a10, a11, a12⟩, ⟨⟨b1, b2, b3, b4, b5, b6, b7, b8, b9, b10, b11, b12⟩, bz⟩, s1, s2, s3, s4, s5, s6, s7, s8, s9⟩ := h
  have c : ∀ F w : Int → Int, (∀ i : Int, 0 ≤ i → i < 8 → 0 ≤ F i ∧ F i ≤ 60) → (∀ i : Int, 0 ≤ i → i < 8 → 0 ≤ w i ∧ w i ≤ 9) → ∀ i : Int, 0 ≤ i → i < 8 → 0 ≤ (if 0 ≤ i ∧ i < lv then wrn (F i) (w i) 1 else F i) ∧ (if 0 ≤ i ∧ i < lv then wrn (F i) (w i) 1 else F i) ≤ 60 := fun F w hF hw i h0 h1 => by
    by_cases e : 0 ≤ i ∧ i < lv
    · rw [if_pos e]; exact wrn_bd (hF i h0 h1) (hw i h0 h1) (by omega)
    · rw [if_neg e]; exact hF i h0 h1
  refine ⟨⟨?_, a2, a3, a4, a5, c _ _ a6 hW, a7, a8, a9, a10, a11, a12⟩, ⟨⟨?_, b2, b3, b4, b5, c _ _ b6 hW2, b7, b8, b9, b10, b11, b12⟩, bz⟩, ?_, s2, s3, s4, s5, fun l h0 h1 => ?_, s7, s8, s9⟩
  · show 0 ≤ f 0 5 + 1 ∧ f 0 5 + 1 ≤ 999
    omega
  · show 0 ≤ g 0 5 + 1 ∧ g 0 5 + 1 ≤ 999
    omega
  · show f 0 5 + 1 = g 0 5 + 1
    omega
  · show (if 0 ≤ l ∧ l < lv then wrn (f 1 l) (W l) 1 else f 1 l) = (if 0 ≤ l ∧ l < lv then wrn (g 1 l) (W' l) 1 else g 1 l)
    rw [if_pos ⟨h0, h1⟩, if_pos ⟨h0, h1⟩, s6 l h0 h1, hs l h0 h1]
theorem NB_heard {t s : Int} (h : NB lv pp f g) (h6 : f 0 8 < 6) (ht : 0 ≤ t ∧ t ≤ 99) (hs : -99 ≤ s ∧ s ≤ 99) (hm : 0 < f 0 8 → f 3 (f 0 8 - 1) ≤ t) : NB lv pp (up (up (up f 3 (f 0 8) t) 4 (f 0 8) s) 0 8 (f 0 8 + 1)) (up (up (up g 3 (g 0 8) t) 4 (g 0 8) s) 0 8 (g 0 8 + 1)) := by
  obtain ⟨⟨a1, a2, a3, a4, a5, a6, a7, a8, a9, a10, a11, a12⟩, ⟨⟨b1, b2, b3, b4, b5, b6, b7, b8, b9, b10, b11, b12⟩, bz⟩, s1, s2, s3, s4, s5, s6, s7, s8, s9⟩ := h
  have c : ∀ (F : Int → Int) (n x lo hi : Int), (lo ≤ x ∧ x ≤ hi) → (∀ i : Int, 0 ≤ i → i < 6 → lo ≤ F i ∧ F i ≤ hi) → ∀ i : Int, 0 ≤ i → i < 6 → lo ≤ (if i = n then x else F i) ∧ (if i = n then x else F i) ≤ hi := fun F n x lo hi hx hF i h0 h1 => by
    by_cases e : i = n
    · rw [if_pos e]; exact hx
    · rw [if_neg e]; exact hF i h0 h1
  have cm : ∀ (F : Int → Int) (n : Int), (0 < n → F (n - 1) ≤ t) → (∀ i j : Int, 0 ≤ i → i ≤ j → j < n → F i ≤ F j) → ∀ i j : Int, 0 ≤ i → i ≤ j → j < n + 1 → (if i = n then t else F i) ≤ (if j = n then t else F j) := fun F n h0 hF i j i0 ij jn => by
    by_cases e : j = n
    · rw [if_pos e]
      by_cases e2 : i = n
      · rw [if_pos e2]; omega
      · rw [if_neg e2]
        have q1 := hF i (n - 1) i0 (by omega) (by omega)
        have q2 := h0 (by omega)
        omega
    · rw [if_neg e, if_neg (by omega)]
      exact hF i j i0 ij (by omega)
  have hm2 : 0 < g 0 8 → g 3 (g 0 8 - 1) ≤ t := fun q => by
    rw [← s4] at q ⊢
    rw [← (s8 (f 0 8 - 1) (by omega) (by omega)).1]
    exact hm q
  refine ⟨⟨a1, a2, a3, ?_, a5, a6, a7, c _ _ _ _ _ ht a8, c _ _ _ _ _ hs a9, a10, cm _ _ hm a11, a12⟩, ⟨⟨b1, b2, b3, ?_, b5, b6, b7, c _ _ _ _ _ ht b8, c _ _ _ _ _ hs b9, b10, cm _ _ hm2 b11, b12⟩, bz⟩, s1, s2, s3, ?_, s5, s6, s7, fun i h0 h1 => ?_, s9⟩
  · show 0 ≤ f 0 8 + 1 ∧ f 0 8 + 1 ≤ 6
    omega
  · show 0 ≤ g 0 8 + 1 ∧ g 0 8 + 1 ≤ 6
    omega
  · show f 0 8 + 1 = g 0 8 + 1
    omega
  · have h1' : i < f 0 8 + 1 := h1
    show (if i = f 0 8 then t else f 3 i) = (if i = g 0 8 then t else g 3 i) ∧ (if i = f 0 8 then s else f 4 i) = (if i = g 0 8 then s else g 4 i)
    rw [← s4]
    by_cases e : i = f 0 8
    · rw [if_pos e, if_pos e, if_pos e, if_pos e]; exact ⟨rfl, rfl⟩
    · rw [if_neg e, if_neg e, if_neg e, if_neg e]; exact s8 i h0 (by omega)
theorem NB_forget (h : NB lv pp f g) : NB lv pp (up f 0 8 0) (up g 0 8 0) := by
  obtain ⟨⟨a1, a2, a3, a4, a5, a6, a7, a8, a9, a10, a11, a12⟩, ⟨⟨b1, b2, b3, b4, b5, b6, b7, b8, b9, b10, b11, b12⟩, bz⟩, s1, s2, s3, s4, s5, s6, s7, s8, s9⟩ := h
  exact ⟨⟨a1, a2, a3, (show (0 : Int) ≤ 0 ∧ (0 : Int) ≤ 6 by decide), a5, a6, a7, a8, a9, a10, fun i j h0 h1 h2 => absurd (show j < 0 from h2) (by omega), a12⟩, ⟨⟨b1, b2, b3, (show (0 : Int) ≤ 0 ∧ (0 : Int) ≤ 6 by decide), b5, b6, b7, b8, b9, b10, fun i j h0 h1 h2 => absurd (show j < 0 from h2) (by omega), b12⟩, bz⟩, s1, s2, s3, rfl, s5, s6, s7, fun i h0 h1 => absurd (show i < 0 from h1) (by omega), s9⟩
theorem NB_sing {s : Int} (h : NB lv pp f g) (h8 : f 0 9 < 8) (hs : -99 ≤ s ∧ s ≤ 99) : NB lv pp (up (up f 5 (f 0 9) s) 0 9 (f 0 9 + 1)) (up (up g 5 (g 0 9) s) 0 9 (g 0 9 + 1)) := by
  obtain ⟨⟨a1, a2, a3, a4, a5, a6, a7, a8, a9, a10, a11, a12⟩, ⟨⟨b1, b2, b3, b4, b5, b6, b7, b8, b9, b10, b11, b12⟩, bz⟩, s1, s2, s3, s4, s5, s6, s7, s8, s9⟩ := h
  have c : ∀ (F : Int → Int) (n : Int), (∀ i : Int, 0 ≤ i → i < 8 → -99 ≤ F i ∧ F i ≤ 99) → ∀ i : Int, 0 ≤ i → i < 8 → -99 ≤ (if i = n then s else F i) ∧ (if i = n then s else F i) ≤ 99 := fun F n hF i h0 h1 => by
    by_cases e : i = n
    · rw [if_pos e]; exact hs
    · rw [if_neg e]; exact hF i h0 h1
  refine ⟨⟨a1, a2, a3, a4, ?_, a6, a7, a8, a9, c _ _ a10, a11, a12⟩, ⟨⟨b1, b2, b3, b4, ?_, b6, b7, b8, b9, c _ _ b10, b11, b12⟩, bz⟩, s1, s2, s3, s4, ?_, s6, s7, s8, fun i h0 h1 => ?_⟩
  · show 0 ≤ f 0 9 + 1 ∧ f 0 9 + 1 ≤ 8
    omega
  · show 0 ≤ g 0 9 + 1 ∧ g 0 9 + 1 ≤ 8
    omega
  · show f 0 9 + 1 = g 0 9 + 1
    omega
  · have h1' : i < f 0 9 + 1 := h1
    show (if i = f 0 9 then s else f 5 i) = (if i = g 0 9 then s else g 5 i)
    rw [← s5]
    by_cases e : i = f 0 9
    · rw [if_pos e, if_pos e]
    · rw [if_neg e, if_neg e]; exact s9 i h0 (by omega)
theorem NB_hush (h : NB lv pp f g) : NB lv pp (up f 0 9 0) (up g 0 9 0) := by
  obtain ⟨⟨a1, a2, a3, a4, a5, a6, a7, a8, a9, a10, a11, a12⟩, ⟨⟨b1, b2, b3, b4, b5, b6, b7, b8, b9, b10, b11, b12⟩, bz⟩, s1, s2, s3, s4, s5, s6, s7, s8, s9⟩ := h
  exact ⟨⟨a1, a2, a3, a4, (show (0 : Int) ≤ 0 ∧ (0 : Int) ≤ 8 by decide), a6, a7, a8, a9, a10, a11, a12⟩, ⟨⟨b1, b2, b3, b4, (show (0 : Int) ≤ 0 ∧ (0 : Int) ≤ 8 by decide), b6, b7, b8, b9, b10, b11, b12⟩, bz⟩, s1, s2, s3, s4, rfl, s6, s7, s8, fun i h0 h1 => absurd (show i < 0 from h1) (by omega)⟩
/-- the same within what is used -/
def EqN (f g : zU) : Prop := (f 0 5 = g 0 5 ∧ f 0 6 = g 0 6 ∧ f 0 7 = g 0 7 ∧ f 0 8 = g 0 8 ∧ f 0 9 = g 0 9) ∧ (∀ i : Int, 0 ≤ i → i < 8 → f 1 i = g 1 i) ∧ (∀ i : Int, 0 ≤ i → i < 3 → f 2 i = g 2 i) ∧ (∀ i : Int, 0 ≤ i → i < 6 → f 3 i = g 3 i ∧ f 4 i = g 4 i) ∧ ∀ i : Int, 0 ≤ i → i < 8 → f 5 i = g 5 i
theorem EqN.inn (hp : pp ≤ 3) (e : EqN f g) (h : InN lv pp g) : InN lv pp f := by
  obtain ⟨b1, b2, b3, b4, b5, b6, b7, b8, b9, b10, b11, b12⟩ := h
  obtain ⟨⟨e5, e6, e7, e8, e9⟩, p1, p2, p3, p5⟩ := e
  refine ⟨by rw [e5]; exact b1, by rw [e6]; exact b2, by rw [e7]; exact b3, by rw [e8]; exact b4, by rw [e9]; exact b5, fun i h0 h1 => by rw [p1 i h0 h1]; exact b6 i h0 h1, fun i h0 h1 => by rw [p2 i h0 h1]; exact b7 i h0 h1, fun i h0 h1 => by rw [(p3 i h0 h1).1]; exact b8 i h0 h1, fun i h0 h1 => by rw [(p3 i h0 h1).2]; exact b9 i h0 h1, fun i h0 h1 => by rw [p5 i h0 h1]; exact b10 i h0 h1, fun i j h0 h1 h2 => ?_, fun i h0 h1 => by rw [p2 i h0 (by omega)]; exact b12 i h0 h1⟩
  rw [e8] at h2
  rw [(p3 i h0 (by omega)).1, (p3 j (by omega) (by omega)).1]
  exact b11 i j h0 h1 h2
theorem EqN.nb {f' g' : zU} (hl : lv ≤ 8) (hp : 0 ≤ pp ∧ pp ≤ 3) (e1 : EqN f' f) (e2 : EqN g' g) (h : NB lv pp f g) : NB lv pp f' g' := by
  obtain ⟨a, ⟨b, bz⟩, s1, s2, s3, s4, s5, s6, s7, s8, s9⟩ := h
  have a4 := a.2.2.2.1
  have a5 := a.2.2.2.2.1
  refine ⟨e1.inn hp.2 a, ⟨e2.inn hp.2 b, ?_⟩, ?_⟩
  · obtain ⟨_, _, q2, _⟩ := e2
    exact fun i h0 h1 => by rw [q2 i (by omega) h1]; exact bz i h0 h1
  · obtain ⟨⟨e5, e6, e7, e8, e9⟩, p1, p2, p3, p5⟩ := e1
    obtain ⟨⟨g5, g6, g7, g8, g9⟩, q1, q2, q3, q5⟩ := e2
    refine ⟨by rw [e5, g5]; exact s1, by rw [e6, g6]; exact s2, by rw [e7, g7]; exact s3, by rw [e8, g8]; exact s4, by rw [e9, g9]; exact s5, fun l h0 h1 => by rw [p1 l h0 (by omega), q1 l h0 (by omega)]; exact s6 l h0 h1, fun l h0 h1 => by rw [p2 l h0 (by omega), q2 l h0 (by omega)]; exact s7 l h0 h1, fun i h0 h1 => ?_, fun i h0 h1 => ?_⟩
    · rw [e8] at h1
      rw [(p3 i h0 (by omega)).1, (p3 i h0 (by omega)).2, (q3 i h0 (by omega)).1, (q3 i h0 (by omega)).2]
      exact s8 i h0 h1
    · rw [e9] at h1
      rw [p5 i h0 (by omega), q5 i h0 (by omega)]
      exact s9 i h0 h1
end RRS
