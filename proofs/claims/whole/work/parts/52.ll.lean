/-! ===== the law's loop ===== -/
set_option maxHeartbeats 4000000 in
set_option maxRecDepth 100000 in
theorem law_loop {x : zT} {c : Nat → ClassId} {sa sv : Nat → Nat} {b L : Nat} {X : Int → Int} {A B : Nat → Nat} (C : Cx x cL_law 4 wsL_law RL 40) (hK : Kx x (zTy c)) (hE : Ex x sa sv) (hR : Rx x 82 50824) (hX : SXx x b L X) (hL : L ≤ 2048) (hDD : ∀ u v : zU, va_D (zA x) (WB A c u ++ WM B c v)) (kret : ∀ (u v : zU) (lv : List (Nat × Value)), Z x 82 50824 (WB A c u ++ WM B c v) lv 856 [.int (zI 1)]) : ∀ (fu : Nat) (u v : zU) (i : Int), RR u v → (0 ≤ i ∧ i ≤ 4000) → (L : Int) - i < (fu : Int) → Z x 82 50824 (WB A c u ++ WM B c v) [(3, .int (zI i)), (2, .ref (B 0)), (1, .ref (A 0)), (0, .ref b)] 18 [] := by
  have exit : ∀ (u v : zU) (i : Int), Z x 82 50824 (WB A c u ++ WM B c v) [(3, .int (zI i)), (2, .ref (B 0)), (1, .ref (A 0)), (0, .ref b)] 855 [] := fun u v i => z_iconst C dL_law_855 (kret u v _)
  intro fu
  induction fu with
  | zero =>
    intro u v i h hi hm
    refine z_iload_n C 0 dL_law_18 rfl ?_
    refine z_aload_n C 3 dL_law_19 rfl ?_
    refine z_slen C hX dL_law_20 ?_
    refine z_iconst C dL_law_21 ?_
    refine z_isub C dL_law_22 ?_
    refine z_icmp_gt C 855 dL_law_23 (by decide) (by omega) (fun _ => exit u v i) (fun q => ?_)
    exfalso; omega
  | succ fu ih =>
    intro u v i h hi hm
    refine z_iload_n C 0 dL_law_18 rfl ?_
    refine z_aload_n C 3 dL_law_19 rfl ?_
    refine z_slen C hX dL_law_20 ?_
    refine z_iconst C dL_law_21 ?_
    refine z_isub C dL_law_22 ?_
    refine z_icmp_gt C 855 dL_law_23 (by decide) (by omega) (fun _ => exit u v i) (fun q => ?_)
    have h3 : 0 ≤ i ∧ i + 3 < (L : Int) := by omega
    have kk : ∀ u v : zU, RR u v → Z x 82 50824 (WB A c u ++ WM B c v) [(3, .int (zI i)), (2, .ref (B 0)), (1, .ref (A 0)), (0, .ref b)] 849 [] := fun u v h => by
      refine z_iinc C 0 [(3, .int (zI (i + 4))), (2, .ref (B 0)), (1, .ref (A 0)), (0, .ref b)] dL_law_849 rfl (by decide) rfl ?_
      refine z_goto C 18 dL_law_852 (by decide) ?_
      exact ih u v (i + 4) h (by omega) (by omega)
    refine z_aload_n C 3 dL_law_26 rfl ?_
    refine z_iload_n C 0 dL_law_27 rfl ?_
    refine z_sld C hX (by omega) (j := i) (by omega) dL_law_28 ?_
    refine z_bipush C dL_law_29 (by decide) ?_
    refine z_iand C (X i % 32) dL_law_31 (and31 _) ?_
    have he : 0 ≤ X i % 32 ∧ X i % 32 < 32 := by omega
    generalize X i % 32 = e at he ⊢
    by_cases ho : e < 0 ∨ 29 < e
    · exact z_tableOut C 849 dL_law_32 (by omega) ho (by decide) (kk u v h)
    by_cases h10 : e = 0
    · exact z_tableIn C (off := 136) 168 dL_law_32 (by omega) ⟨by omega, by omega⟩ (by rw [h10]; rfl) (by decide) (law_c0 C hK hE hR hX hL hDD h3 h kk)
    by_cases h11 : e = 1
    · exact z_tableIn C (off := 199) 231 dL_law_32 (by omega) ⟨by omega, by omega⟩ (by rw [h11]; rfl) (by decide) (law_c1 C hK hE hR hX hL hDD h3 h kk)
    by_cases h12 : e = 2
    · exact z_tableIn C (off := 212) 244 dL_law_32 (by omega) ⟨by omega, by omega⟩ (by rw [h12]; rfl) (by decide) (law_c2 C hK hE hR hX hL hDD h3 h kk)
    by_cases h13 : e = 3
    · exact z_tableIn C (off := 225) 257 dL_law_32 (by omega) ⟨by omega, by omega⟩ (by rw [h13]; rfl) (by decide) (law_c3 C hK hE hR hX hL hDD h3 h kk)
    by_cases h14 : e = 4
    · exact z_tableIn C (off := 258) 290 dL_law_32 (by omega) ⟨by omega, by omega⟩ (by rw [h14]; rfl) (by decide) (law_c4 C hK hE hR hX hL hDD h3 h kk)
    by_cases h15 : e = 5
    · exact z_tableIn C (off := 281) 313 dL_law_32 (by omega) ⟨by omega, by omega⟩ (by rw [h15]; rfl) (by decide) (law_c5 C hK hE hR hX hL hDD h3 h kk)
    by_cases h16 : e = 6
    · exact z_tableIn C (off := 304) 336 dL_law_32 (by omega) ⟨by omega, by omega⟩ (by rw [h16]; rfl) (by decide) (law_c6 C hK hE hR hX hL hDD h3 h kk)
    by_cases h17 : e = 7
    · exact z_tableIn C (off := 327) 359 dL_law_32 (by omega) ⟨by omega, by omega⟩ (by rw [h17]; rfl) (by decide) (law_c7 C hK hE hR hX hL hDD h3 h kk)
    by_cases h18 : e = 8
    · exact z_tableIn C (off := 350) 382 dL_law_32 (by omega) ⟨by omega, by omega⟩ (by rw [h18]; rfl) (by decide) (law_c8 C hK hE hR hX hL hDD h3 h kk)
    by_cases h19 : e = 9
    · exact z_tableIn C (off := 383) 415 dL_law_32 (by omega) ⟨by omega, by omega⟩ (by rw [h19]; rfl) (by decide) (law_c9 C hK hE hR hX hL hDD h3 h kk)
    by_cases h20 : e = 10
    · exact z_tableIn C (off := 406) 438 dL_law_32 (by omega) ⟨by omega, by omega⟩ (by rw [h20]; rfl) (by decide) (law_c10 C hK hE hR hX hL hDD h3 h kk)
    by_cases h21 : e = 11
    · exact z_tableIn C (off := 429) 461 dL_law_32 (by omega) ⟨by omega, by omega⟩ (by rw [h21]; rfl) (by decide) (law_c11 C hK hE hR hX hL hDD h3 h kk)
    by_cases h22 : e = 12
    · exact z_tableIn C (off := 442) 474 dL_law_32 (by omega) ⟨by omega, by omega⟩ (by rw [h22]; rfl) (by decide) (law_c12 C hK hE hR hX hL hDD h3 h kk)
    by_cases h23 : e = 13
    · exact z_tableIn C (off := 455) 487 dL_law_32 (by omega) ⟨by omega, by omega⟩ (by rw [h23]; rfl) (by decide) (law_c13 C hK hE hR hX hL hDD h3 h kk)
    by_cases h24 : e = 14
    · exact z_tableIn C (off := 488) 520 dL_law_32 (by omega) ⟨by omega, by omega⟩ (by rw [h24]; rfl) (by decide) (law_c14 C hK hE hR hX hL hDD h3 h kk)
    by_cases h25 : e = 15
    · exact z_tableIn C (off := 501) 533 dL_law_32 (by omega) ⟨by omega, by omega⟩ (by rw [h25]; rfl) (by decide) (law_c15 C hK hE hR hX hL hDD h3 h kk)
    by_cases h26 : e = 16
    · exact z_tableIn C (off := 514) 546 dL_law_32 (by omega) ⟨by omega, by omega⟩ (by rw [h26]; rfl) (by decide) (law_c16 C hK hE hR hX hL hDD h3 h kk)
    by_cases h27 : e = 17
    · exact z_tableIn C (off := 537) 569 dL_law_32 (by omega) ⟨by omega, by omega⟩ (by rw [h27]; rfl) (by decide) (law_c17 C hK hE hR hX hL hDD h3 h kk)
    by_cases h28 : e = 18
    · exact z_tableIn C (off := 550) 582 dL_law_32 (by omega) ⟨by omega, by omega⟩ (by rw [h28]; rfl) (by decide) (law_c18 C hK hE hR hX hL hDD h3 h kk)
    by_cases h29 : e = 19
    · exact z_tableIn C (off := 573) 605 dL_law_32 (by omega) ⟨by omega, by omega⟩ (by rw [h29]; rfl) (by decide) (law_c19 C hK hE hR hX hL hDD h3 h kk)
    by_cases h30 : e = 20
    · exact z_tableIn C (off := 606) 638 dL_law_32 (by omega) ⟨by omega, by omega⟩ (by rw [h30]; rfl) (by decide) (law_c20 C hK hE hR hX hL hDD h3 h kk)
    by_cases h31 : e = 21
    · exact z_tableIn C (off := 619) 651 dL_law_32 (by omega) ⟨by omega, by omega⟩ (by rw [h31]; rfl) (by decide) (law_c21 C hK hE hR hX hL hDD h3 h kk)
    by_cases h32 : e = 22
    · exact z_tableIn C (off := 642) 674 dL_law_32 (by omega) ⟨by omega, by omega⟩ (by rw [h32]; rfl) (by decide) (law_c22 C hK hE hR hX hL hDD h3 h kk)
    by_cases h33 : e = 23
    · exact z_tableIn C (off := 655) 687 dL_law_32 (by omega) ⟨by omega, by omega⟩ (by rw [h33]; rfl) (by decide) (law_c23 C hK hE hR hX hL hDD h3 h kk)
    by_cases h34 : e = 24
    · exact z_tableIn C (off := 668) 700 dL_law_32 (by omega) ⟨by omega, by omega⟩ (by rw [h34]; rfl) (by decide) (law_c24 C hK hE hR hX hL hDD h3 h kk)
    by_cases h35 : e = 25
    · exact z_tableIn C (off := 701) 733 dL_law_32 (by omega) ⟨by omega, by omega⟩ (by rw [h35]; rfl) (by decide) (law_c25 C hK hE hR hX hL hDD h3 h kk)
    by_cases h36 : e = 26
    · exact z_tableIn C (off := 734) 766 dL_law_32 (by omega) ⟨by omega, by omega⟩ (by rw [h36]; rfl) (by decide) (law_c26 C hK hE hR hX hL hDD h3 h kk)
    by_cases h37 : e = 27
    · exact z_tableIn C (off := 757) 789 dL_law_32 (by omega) ⟨by omega, by omega⟩ (by rw [h37]; rfl) (by decide) (law_c27 C hK hE hR hX hL hDD h3 h kk)
    by_cases h38 : e = 28
    · exact z_tableIn C (off := 780) 812 dL_law_32 (by omega) ⟨by omega, by omega⟩ (by rw [h38]; rfl) (by decide) (law_c28 C hK hE hR hX hL hDD h3 h kk)
    by_cases h39 : e = 29
    · exact z_tableIn C (off := 803) 835 dL_law_32 (by omega) ⟨by omega, by omega⟩ (by rw [h39]; rfl) (by decide) (law_c29 C hK hE hR hX hL hDD h3 h kk)
    exfalso; omega
