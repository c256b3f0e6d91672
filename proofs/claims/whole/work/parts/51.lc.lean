/-! ===== the law's cases ===== -/
set_option maxHeartbeats 4000000 in
set_option maxRecDepth 100000 in
theorem law_c0 {x : zT} {c : Nat → ClassId} {sa sv : Nat → Nat} {b L : Nat} {X : Int → Int} {A B : Nat → Nat} (C : Cx x cL_law 4 wsL_law RL 40) (hK : Kx x (zTy c)) (hE : Ex x sa sv) (hR : Rx x 82 50824) (hX : SXx x b L X) (hL : L ≤ 2048) (hDD : ∀ u v : zU, va_D (zA x) (WB A c u ++ WM B c v)) {u v : zU} {i : Int} (hi : 0 ≤ i ∧ i + 3 < (L : Int)) (h : RR u v) (kk : ∀ u v : zU, RR u v → Z x 82 50824 (WB A c u ++ WM B c v) [(3, .int (zI i)), (2, .ref (B 0)), (1, .ref (A 0)), (0, .ref b)] 849 []) : Z x 82 50824 (WB A c u ++ WM B c v) [(3, .int (zI i)), (2, .ref (B 0)), (1, .ref (A 0)), (0, .ref b)] 168 [] := by
  obtain ⟨V, hV⟩ : ∃ V : Int, V = ((zL (X (i + 1)) <<< ((zI 32).toInt64 &&& 63)) ||| (zL (X (i + 2)) &&& zL 4294967295)).toInt := ⟨_, rfl⟩
  have eV : (zL (X (i + 1)) <<< ((zI 32).toInt64 &&& 63)) ||| (zL (X (i + 2)) &&& zL 4294967295) = zL V := by rw [hV]; exact zL_of _
  have hVb := zL_rng ((zL (X (i + 1)) <<< ((zI 32).toInt64 &&& 63)) ||| (zL (X (i + 2)) &&& zL 4294967295))
  refine z_aload_n C 2 dL_law_168 rfl ?_
  refine z_aload_n C 3 dL_law_169 rfl ?_
  refine z_iload_n C 0 dL_law_170 rfl ?_
  refine z_iconst C dL_law_171 ?_
  refine z_iadd C dL_law_172 ?_
  refine z_sld C hX (by omega) (j := i + 1) (by omega) dL_law_173 ?_
  refine z_i2l C dL_law_174 (hX.bd _) ?_
  refine z_bipush C dL_law_175 (by decide) ?_
  refine z_lshl C (zL (X (i + 1)) <<< ((zI 32).toInt64 &&& 63)) dL_law_177 rfl ?_
  refine z_aload_n C 3 dL_law_178 rfl ?_
  refine z_iload_n C 0 dL_law_179 rfl ?_
  refine z_iconst C dL_law_180 ?_
  refine z_iadd C dL_law_181 ?_
  refine z_sld C hX (by omega) (j := i + 2) (by omega) dL_law_182 ?_
  refine z_i2l C dL_law_183 (hX.bd _) ?_
  refine z_ldc2 C (v := 4294967295) (z := 4294967295) (by decide) (List.mem_of_getElem? (i := 6) rfl) dL_law_184 ?_
  refine z_landW C (zL (X (i + 2)) &&& zL 4294967295) dL_law_187 rfl ?_
  refine z_lorW C ((zL (X (i + 1)) <<< ((zI 32).toInt64 &&& 63)) ||| (zL (X (i + 2)) &&& zL 4294967295)) dL_law_188 rfl ?_
  refine z_asLW eV ?_
  refine z_aload_n C 3 dL_law_189 rfl ?_
  refine z_iload_n C 0 dL_law_190 rfl ?_
  refine z_iconst C dL_law_191 ?_
  refine z_iadd C dL_law_192 ?_
  refine z_sld C hX (by omega) (j := i + 3) (by omega) dL_law_193 ?_
  refine z_lawl C hK hR hDD (c_X10_type (zl x) (zG x) A c u V (X (i + 3)) h.ib (by rw [hV]; exact hVb) (hX.bd _)) gL_law_X10_type rfl zy_X10_type 0 (WB_0 A c u) rfl ⟨by omega, by decide⟩ rfl (Nat.le_of_ble_eq_true rfl) (st := []) (stk2 := fun z => [.int (zI z)]) rfl (fun _ => rfl) dL_law_194 (fun z1 u2 h1 => ?_)
  refine z_aload_n C 1 dL_law_197 rfl ?_
  refine z_aload_n C 3 dL_law_198 rfl ?_
  refine z_iload_n C 0 dL_law_199 rfl ?_
  refine z_iconst C dL_law_200 ?_
  refine z_iadd C dL_law_201 ?_
  refine z_sld C hX (by omega) (j := i + 1) (by omega) dL_law_202 ?_
  refine z_i2l C dL_law_203 (hX.bd _) ?_
  refine z_bipush C dL_law_204 (by decide) ?_
  refine z_lshl C (zL (X (i + 1)) <<< ((zI 32).toInt64 &&& 63)) dL_law_206 rfl ?_
  refine z_aload_n C 3 dL_law_207 rfl ?_
  refine z_iload_n C 0 dL_law_208 rfl ?_
  refine z_iconst C dL_law_209 ?_
  refine z_iadd C dL_law_210 ?_
  refine z_sld C hX (by omega) (j := i + 2) (by omega) dL_law_211 ?_
  refine z_i2l C dL_law_212 (hX.bd _) ?_
  refine z_ldc2 C (v := 4294967295) (z := 4294967295) (by decide) (List.mem_of_getElem? (i := 6) rfl) dL_law_213 ?_
  refine z_landW C (zL (X (i + 2)) &&& zL 4294967295) dL_law_216 rfl ?_
  refine z_lorW C ((zL (X (i + 1)) <<< ((zI 32).toInt64 &&& 63)) ||| (zL (X (i + 2)) &&& zL 4294967295)) dL_law_217 rfl ?_
  refine z_asLW eV ?_
  refine z_aload_n C 3 dL_law_218 rfl ?_
  refine z_iload_n C 0 dL_law_219 rfl ?_
  refine z_iconst C dL_law_220 ?_
  refine z_iadd C dL_law_221 ?_
  refine z_sld C hX (by omega) (j := i + 3) (by omega) dL_law_222 ?_
  refine z_lawr C hK hR hDD (c_X11_type (zl x) (zG x) B c v V (X (i + 3)) h.im (by rw [hV]; exact hVb) (hX.bd _)) gL_law_X11_type rfl zy_X11_type 0 (WM_0 B c v) rfl ⟨by omega, by decide⟩ rfl (Nat.le_of_ble_eq_true rfl) (st := [.int (zI z1)]) (stk2 := fun z => [.int (zI z), .int (zI z1)]) rfl (fun _ => rfl) dL_law_223 (fun z2 v2 h2 => ?_)
  obtain ⟨ez, hRR⟩ := la_type h h1 h2
  exact z_eq_t C 849 dL_law_226 (by decide) ez (kk _ _ hRR)
set_option maxHeartbeats 4000000 in
set_option maxRecDepth 100000 in
theorem law_c1 {x : zT} {c : Nat → ClassId} {sa sv : Nat → Nat} {b L : Nat} {X : Int → Int} {A B : Nat → Nat} (C : Cx x cL_law 4 wsL_law RL 40) (hK : Kx x (zTy c)) (hE : Ex x sa sv) (hR : Rx x 82 50824) (hX : SXx x b L X) (hL : L ≤ 2048) (hDD : ∀ u v : zU, va_D (zA x) (WB A c u ++ WM B c v)) {u v : zU} {i : Int} (hi : 0 ≤ i ∧ i + 3 < (L : Int)) (h : RR u v) (kk : ∀ u v : zU, RR u v → Z x 82 50824 (WB A c u ++ WM B c v) [(3, .int (zI i)), (2, .ref (B 0)), (1, .ref (A 0)), (0, .ref b)] 849 []) : Z x 82 50824 (WB A c u ++ WM B c v) [(3, .int (zI i)), (2, .ref (B 0)), (1, .ref (A 0)), (0, .ref b)] 231 [] := by
  refine z_aload_n C 2 dL_law_231 rfl ?_
  refine z_lawl C hK hR hDD (c_X10_clear (zl x) (zG x) A c u  ) gL_law_X10_clear rfl zy_X10_clear 0 (WB_0 A c u) rfl ⟨by omega, by decide⟩ rfl (Nat.le_of_ble_eq_true rfl) (st := []) (stk2 := fun z => [.int (zI z)]) rfl (fun _ => rfl) dL_law_232 (fun z1 u2 h1 => ?_)
  refine z_aload_n C 1 dL_law_235 rfl ?_
  refine z_lawr C hK hR hDD (c_X11_clear (zl x) (zG x) B c v  ) gL_law_X11_clear rfl zy_X11_clear 0 (WM_0 B c v) rfl ⟨by omega, by decide⟩ rfl (Nat.le_of_ble_eq_true rfl) (st := [.int (zI z1)]) (stk2 := fun z => [.int (zI z), .int (zI z1)]) rfl (fun _ => rfl) dL_law_236 (fun z2 v2 h2 => ?_)
  obtain ⟨ez, hRR⟩ := la_clear h h1 h2
  exact z_eq_t C 849 dL_law_239 (by decide) ez (kk _ _ hRR)
set_option maxHeartbeats 4000000 in
set_option maxRecDepth 100000 in
theorem law_c2 {x : zT} {c : Nat → ClassId} {sa sv : Nat → Nat} {b L : Nat} {X : Int → Int} {A B : Nat → Nat} (C : Cx x cL_law 4 wsL_law RL 40) (hK : Kx x (zTy c)) (hE : Ex x sa sv) (hR : Rx x 82 50824) (hX : SXx x b L X) (hL : L ≤ 2048) (hDD : ∀ u v : zU, va_D (zA x) (WB A c u ++ WM B c v)) {u v : zU} {i : Int} (hi : 0 ≤ i ∧ i + 3 < (L : Int)) (h : RR u v) (kk : ∀ u v : zU, RR u v → Z x 82 50824 (WB A c u ++ WM B c v) [(3, .int (zI i)), (2, .ref (B 0)), (1, .ref (A 0)), (0, .ref b)] 849 []) : Z x 82 50824 (WB A c u ++ WM B c v) [(3, .int (zI i)), (2, .ref (B 0)), (1, .ref (A 0)), (0, .ref b)] 244 [] := by
  refine z_aload_n C 2 dL_law_244 rfl ?_
  refine z_lawE C hK hE hR hDD (c_X10_shaft (zl x) (zG x) sa sv A c u  h.ib) gL_law_X10_shaft rfl zy_X10_shaft 0 (WB_0 A c u) rfl ⟨by omega, by decide⟩ rfl (Nat.le_of_ble_eq_true rfl) (st := []) (stk2 := fun z => [.int (zI z)]) rfl (fun _ => rfl) dL_law_245 (fun z1 u2 h1 => ?_)
  refine z_aload_n C 1 dL_law_248 rfl ?_
  refine z_lawr C hK hR hDD (c_X11_shaft (zl x) (zG x) B c v  h.im) gL_law_X11_shaft rfl zy_X11_shaft 0 (WM_0 B c v) rfl ⟨by omega, by decide⟩ rfl (Nat.le_of_ble_eq_true rfl) (st := [.int (zI z1)]) (stk2 := fun z => [.int (zI z), .int (zI z1)]) rfl (fun _ => rfl) dL_law_249 (fun z2 v2 h2 => ?_)
  obtain ⟨ez, hRR⟩ := la_shaft h h1 h2
  exact z_eq_t C 849 dL_law_252 (by decide) ez (kk _ _ hRR)
set_option maxHeartbeats 4000000 in
set_option maxRecDepth 100000 in
theorem law_c3 {x : zT} {c : Nat → ClassId} {sa sv : Nat → Nat} {b L : Nat} {X : Int → Int} {A B : Nat → Nat} (C : Cx x cL_law 4 wsL_law RL 40) (hK : Kx x (zTy c)) (hE : Ex x sa sv) (hR : Rx x 82 50824) (hX : SXx x b L X) (hL : L ≤ 2048) (hDD : ∀ u v : zU, va_D (zA x) (WB A c u ++ WM B c v)) {u v : zU} {i : Int} (hi : 0 ≤ i ∧ i + 3 < (L : Int)) (h : RR u v) (kk : ∀ u v : zU, RR u v → Z x 82 50824 (WB A c u ++ WM B c v) [(3, .int (zI i)), (2, .ref (B 0)), (1, .ref (A 0)), (0, .ref b)] 849 []) : Z x 82 50824 (WB A c u ++ WM B c v) [(3, .int (zI i)), (2, .ref (B 0)), (1, .ref (A 0)), (0, .ref b)] 257 [] := by
  refine z_aload_n C 2 dL_law_257 rfl ?_
  refine z_aload_n C 3 dL_law_258 rfl ?_
  refine z_iload_n C 0 dL_law_259 rfl ?_
  refine z_iconst C dL_law_260 ?_
  refine z_iadd C dL_law_261 ?_
  refine z_sld C hX (by omega) (j := i + 1) (by omega) dL_law_262 ?_
  refine z_aload_n C 3 dL_law_263 rfl ?_
  refine z_iload_n C 0 dL_law_264 rfl ?_
  refine z_iconst C dL_law_265 ?_
  refine z_iadd C dL_law_266 ?_
  refine z_sld C hX (by omega) (j := i + 2) (by omega) dL_law_267 ?_
  refine z_lawl C hK hR hDD (c_X10_level (zl x) (zG x) A c u (X (i + 1)) (X (i + 2)) h.ib (hX.bd _) (hX.bd _)) gL_law_X10_level rfl zy_X10_level 0 (WB_0 A c u) rfl ⟨by omega, by decide⟩ rfl (Nat.le_of_ble_eq_true rfl) (st := []) (stk2 := fun z => [.int (zI z)]) rfl (fun _ => rfl) dL_law_268 (fun z1 u2 h1 => ?_)
  refine z_aload_n C 1 dL_law_271 rfl ?_
  refine z_aload_n C 3 dL_law_272 rfl ?_
  refine z_iload_n C 0 dL_law_273 rfl ?_
  refine z_iconst C dL_law_274 ?_
  refine z_iadd C dL_law_275 ?_
  refine z_sld C hX (by omega) (j := i + 1) (by omega) dL_law_276 ?_
  refine z_aload_n C 3 dL_law_277 rfl ?_
  refine z_iload_n C 0 dL_law_278 rfl ?_
  refine z_iconst C dL_law_279 ?_
  refine z_iadd C dL_law_280 ?_
  refine z_sld C hX (by omega) (j := i + 2) (by omega) dL_law_281 ?_
  refine z_lawr C hK hR hDD (c_X11_level (zl x) (zG x) B c v (X (i + 1)) (X (i + 2)) h.im (hX.bd _) (hX.bd _)) gL_law_X11_level rfl zy_X11_level 0 (WM_0 B c v) rfl ⟨by omega, by decide⟩ rfl (Nat.le_of_ble_eq_true rfl) (st := [.int (zI z1)]) (stk2 := fun z => [.int (zI z), .int (zI z1)]) rfl (fun _ => rfl) dL_law_282 (fun z2 v2 h2 => ?_)
  obtain ⟨ez, hRR⟩ := la_level h h1 h2
  exact z_eq_t C 849 dL_law_285 (by decide) ez (kk _ _ hRR)
set_option maxHeartbeats 4000000 in
set_option maxRecDepth 100000 in
theorem law_c4 {x : zT} {c : Nat → ClassId} {sa sv : Nat → Nat} {b L : Nat} {X : Int → Int} {A B : Nat → Nat} (C : Cx x cL_law 4 wsL_law RL 40) (hK : Kx x (zTy c)) (hE : Ex x sa sv) (hR : Rx x 82 50824) (hX : SXx x b L X) (hL : L ≤ 2048) (hDD : ∀ u v : zU, va_D (zA x) (WB A c u ++ WM B c v)) {u v : zU} {i : Int} (hi : 0 ≤ i ∧ i + 3 < (L : Int)) (h : RR u v) (kk : ∀ u v : zU, RR u v → Z x 82 50824 (WB A c u ++ WM B c v) [(3, .int (zI i)), (2, .ref (B 0)), (1, .ref (A 0)), (0, .ref b)] 849 []) : Z x 82 50824 (WB A c u ++ WM B c v) [(3, .int (zI i)), (2, .ref (B 0)), (1, .ref (A 0)), (0, .ref b)] 290 [] := by
  refine z_aload_n C 2 dL_law_290 rfl ?_
  refine z_aload_n C 3 dL_law_291 rfl ?_
  refine z_iload_n C 0 dL_law_292 rfl ?_
  refine z_iconst C dL_law_293 ?_
  refine z_iadd C dL_law_294 ?_
  refine z_sld C hX (by omega) (j := i + 1) (by omega) dL_law_295 ?_
  refine z_lawl C hK hR hDD (c_X10_man (zl x) (zG x) A c u (X (i + 1)) h.ib (hX.bd _)) gL_law_X10_man rfl zy_X10_man 0 (WB_0 A c u) rfl ⟨by omega, by decide⟩ rfl (Nat.le_of_ble_eq_true rfl) (st := []) (stk2 := fun z => [.int (zI z)]) rfl (fun _ => rfl) dL_law_296 (fun z1 u2 h1 => ?_)
  refine z_aload_n C 1 dL_law_299 rfl ?_
  refine z_aload_n C 3 dL_law_300 rfl ?_
  refine z_iload_n C 0 dL_law_301 rfl ?_
  refine z_iconst C dL_law_302 ?_
  refine z_iadd C dL_law_303 ?_
  refine z_sld C hX (by omega) (j := i + 1) (by omega) dL_law_304 ?_
  refine z_lawr C hK hR hDD (c_X11_man (zl x) (zG x) B c v (X (i + 1)) h.im (hX.bd _)) gL_law_X11_man rfl zy_X11_man 0 (WM_0 B c v) rfl ⟨by omega, by decide⟩ rfl (Nat.le_of_ble_eq_true rfl) (st := [.int (zI z1)]) (stk2 := fun z => [.int (zI z), .int (zI z1)]) rfl (fun _ => rfl) dL_law_305 (fun z2 v2 h2 => ?_)
  obtain ⟨ez, hRR⟩ := la_man h h1 h2
  exact z_eq_t C 849 dL_law_308 (by decide) ez (kk _ _ hRR)
set_option maxHeartbeats 4000000 in
set_option maxRecDepth 100000 in
theorem law_c5 {x : zT} {c : Nat → ClassId} {sa sv : Nat → Nat} {b L : Nat} {X : Int → Int} {A B : Nat → Nat} (C : Cx x cL_law 4 wsL_law RL 40) (hK : Kx x (zTy c)) (hE : Ex x sa sv) (hR : Rx x 82 50824) (hX : SXx x b L X) (hL : L ≤ 2048) (hDD : ∀ u v : zU, va_D (zA x) (WB A c u ++ WM B c v)) {u v : zU} {i : Int} (hi : 0 ≤ i ∧ i + 3 < (L : Int)) (h : RR u v) (kk : ∀ u v : zU, RR u v → Z x 82 50824 (WB A c u ++ WM B c v) [(3, .int (zI i)), (2, .ref (B 0)), (1, .ref (A 0)), (0, .ref b)] 849 []) : Z x 82 50824 (WB A c u ++ WM B c v) [(3, .int (zI i)), (2, .ref (B 0)), (1, .ref (A 0)), (0, .ref b)] 313 [] := by
  refine z_aload_n C 2 dL_law_313 rfl ?_
  refine z_aload_n C 3 dL_law_314 rfl ?_
  refine z_iload_n C 0 dL_law_315 rfl ?_
  refine z_iconst C dL_law_316 ?_
  refine z_iadd C dL_law_317 ?_
  refine z_sld C hX (by omega) (j := i + 1) (by omega) dL_law_318 ?_
  refine z_lawl C hK hR hDD (c_X10_wet (zl x) (zG x) A c u (X (i + 1)) h.ib (hX.bd _)) gL_law_X10_wet rfl zy_X10_wet 0 (WB_0 A c u) rfl ⟨by omega, by decide⟩ rfl (Nat.le_of_ble_eq_true rfl) (st := []) (stk2 := fun z => [.int (zI z)]) rfl (fun _ => rfl) dL_law_319 (fun z1 u2 h1 => ?_)
  refine z_aload_n C 1 dL_law_322 rfl ?_
  refine z_aload_n C 3 dL_law_323 rfl ?_
  refine z_iload_n C 0 dL_law_324 rfl ?_
  refine z_iconst C dL_law_325 ?_
  refine z_iadd C dL_law_326 ?_
  refine z_sld C hX (by omega) (j := i + 1) (by omega) dL_law_327 ?_
  refine z_lawr C hK hR hDD (c_X11_wet (zl x) (zG x) B c v (X (i + 1)) h.im (hX.bd _)) gL_law_X11_wet rfl zy_X11_wet 0 (WM_0 B c v) rfl ⟨by omega, by decide⟩ rfl (Nat.le_of_ble_eq_true rfl) (st := [.int (zI z1)]) (stk2 := fun z => [.int (zI z), .int (zI z1)]) rfl (fun _ => rfl) dL_law_328 (fun z2 v2 h2 => ?_)
  obtain ⟨ez, hRR⟩ := la_wet h h1 h2
  exact z_eq_t C 849 dL_law_331 (by decide) ez (kk _ _ hRR)
set_option maxHeartbeats 4000000 in
set_option maxRecDepth 100000 in
theorem law_c6 {x : zT} {c : Nat → ClassId} {sa sv : Nat → Nat} {b L : Nat} {X : Int → Int} {A B : Nat → Nat} (C : Cx x cL_law 4 wsL_law RL 40) (hK : Kx x (zTy c)) (hE : Ex x sa sv) (hR : Rx x 82 50824) (hX : SXx x b L X) (hL : L ≤ 2048) (hDD : ∀ u v : zU, va_D (zA x) (WB A c u ++ WM B c v)) {u v : zU} {i : Int} (hi : 0 ≤ i ∧ i + 3 < (L : Int)) (h : RR u v) (kk : ∀ u v : zU, RR u v → Z x 82 50824 (WB A c u ++ WM B c v) [(3, .int (zI i)), (2, .ref (B 0)), (1, .ref (A 0)), (0, .ref b)] 849 []) : Z x 82 50824 (WB A c u ++ WM B c v) [(3, .int (zI i)), (2, .ref (B 0)), (1, .ref (A 0)), (0, .ref b)] 336 [] := by
  refine z_aload_n C 2 dL_law_336 rfl ?_
  refine z_aload_n C 3 dL_law_337 rfl ?_
  refine z_iload_n C 0 dL_law_338 rfl ?_
  refine z_iconst C dL_law_339 ?_
  refine z_iadd C dL_law_340 ?_
  refine z_sld C hX (by omega) (j := i + 1) (by omega) dL_law_341 ?_
  refine z_lawl C hK hR hDD (c_X10_taken (zl x) (zG x) A c u (X (i + 1)) h.ib (hX.bd _)) gL_law_X10_taken rfl zy_X10_taken 0 (WB_0 A c u) rfl ⟨by omega, by decide⟩ rfl (Nat.le_of_ble_eq_true rfl) (st := []) (stk2 := fun z => [.int (zI z)]) rfl (fun _ => rfl) dL_law_342 (fun z1 u2 h1 => ?_)
  refine z_aload_n C 1 dL_law_345 rfl ?_
  refine z_aload_n C 3 dL_law_346 rfl ?_
  refine z_iload_n C 0 dL_law_347 rfl ?_
  refine z_iconst C dL_law_348 ?_
  refine z_iadd C dL_law_349 ?_
  refine z_sld C hX (by omega) (j := i + 1) (by omega) dL_law_350 ?_
  refine z_lawr C hK hR hDD (c_X11_taken (zl x) (zG x) B c v (X (i + 1)) h.im (hX.bd _)) gL_law_X11_taken rfl zy_X11_taken 0 (WM_0 B c v) rfl ⟨by omega, by decide⟩ rfl (Nat.le_of_ble_eq_true rfl) (st := [.int (zI z1)]) (stk2 := fun z => [.int (zI z), .int (zI z1)]) rfl (fun _ => rfl) dL_law_351 (fun z2 v2 h2 => ?_)
  obtain ⟨ez, hRR⟩ := la_taken h h1 h2
  exact z_eq_t C 849 dL_law_354 (by decide) ez (kk _ _ hRR)
set_option maxHeartbeats 4000000 in
set_option maxRecDepth 100000 in
theorem law_c7 {x : zT} {c : Nat → ClassId} {sa sv : Nat → Nat} {b L : Nat} {X : Int → Int} {A B : Nat → Nat} (C : Cx x cL_law 4 wsL_law RL 40) (hK : Kx x (zTy c)) (hE : Ex x sa sv) (hR : Rx x 82 50824) (hX : SXx x b L X) (hL : L ≤ 2048) (hDD : ∀ u v : zU, va_D (zA x) (WB A c u ++ WM B c v)) {u v : zU} {i : Int} (hi : 0 ≤ i ∧ i + 3 < (L : Int)) (h : RR u v) (kk : ∀ u v : zU, RR u v → Z x 82 50824 (WB A c u ++ WM B c v) [(3, .int (zI i)), (2, .ref (B 0)), (1, .ref (A 0)), (0, .ref b)] 849 []) : Z x 82 50824 (WB A c u ++ WM B c v) [(3, .int (zI i)), (2, .ref (B 0)), (1, .ref (A 0)), (0, .ref b)] 359 [] := by
  refine z_aload_n C 2 dL_law_359 rfl ?_
  refine z_aload_n C 3 dL_law_360 rfl ?_
  refine z_iload_n C 0 dL_law_361 rfl ?_
  refine z_iconst C dL_law_362 ?_
  refine z_iadd C dL_law_363 ?_
  refine z_sld C hX (by omega) (j := i + 1) (by omega) dL_law_364 ?_
  refine z_lawl C hK hR hDD (c_X10_comes (zl x) (zG x) A c u (X (i + 1)) h.ib (hX.bd _)) gL_law_X10_comes rfl zy_X10_comes 0 (WB_0 A c u) rfl ⟨by omega, by decide⟩ rfl (Nat.le_of_ble_eq_true rfl) (st := []) (stk2 := fun z => [.int (zI z)]) rfl (fun _ => rfl) dL_law_365 (fun z1 u2 h1 => ?_)
  refine z_aload_n C 1 dL_law_368 rfl ?_
  refine z_aload_n C 3 dL_law_369 rfl ?_
  refine z_iload_n C 0 dL_law_370 rfl ?_
  refine z_iconst C dL_law_371 ?_
  refine z_iadd C dL_law_372 ?_
  refine z_sld C hX (by omega) (j := i + 1) (by omega) dL_law_373 ?_
  refine z_lawr C hK hR hDD (c_X11_comes (zl x) (zG x) B c v (X (i + 1)) h.im (hX.bd _)) gL_law_X11_comes rfl zy_X11_comes 0 (WM_0 B c v) rfl ⟨by omega, by decide⟩ rfl (Nat.le_of_ble_eq_true rfl) (st := [.int (zI z1)]) (stk2 := fun z => [.int (zI z), .int (zI z1)]) rfl (fun _ => rfl) dL_law_374 (fun z2 v2 h2 => ?_)
  obtain ⟨ez, hRR⟩ := la_comes h h1 h2
  exact z_eq_t C 849 dL_law_377 (by decide) ez (kk _ _ hRR)
set_option maxHeartbeats 4000000 in
set_option maxRecDepth 100000 in
theorem law_c8 {x : zT} {c : Nat → ClassId} {sa sv : Nat → Nat} {b L : Nat} {X : Int → Int} {A B : Nat → Nat} (C : Cx x cL_law 4 wsL_law RL 40) (hK : Kx x (zTy c)) (hE : Ex x sa sv) (hR : Rx x 82 50824) (hX : SXx x b L X) (hL : L ≤ 2048) (hDD : ∀ u v : zU, va_D (zA x) (WB A c u ++ WM B c v)) {u v : zU} {i : Int} (hi : 0 ≤ i ∧ i + 3 < (L : Int)) (h : RR u v) (kk : ∀ u v : zU, RR u v → Z x 82 50824 (WB A c u ++ WM B c v) [(3, .int (zI i)), (2, .ref (B 0)), (1, .ref (A 0)), (0, .ref b)] 849 []) : Z x 82 50824 (WB A c u ++ WM B c v) [(3, .int (zI i)), (2, .ref (B 0)), (1, .ref (A 0)), (0, .ref b)] 382 [] := by
  refine z_aload_n C 2 dL_law_382 rfl ?_
  refine z_aload_n C 3 dL_law_383 rfl ?_
  refine z_iload_n C 0 dL_law_384 rfl ?_
  refine z_iconst C dL_law_385 ?_
  refine z_iadd C dL_law_386 ?_
  refine z_sld C hX (by omega) (j := i + 1) (by omega) dL_law_387 ?_
  refine z_aload_n C 3 dL_law_388 rfl ?_
  refine z_iload_n C 0 dL_law_389 rfl ?_
  refine z_iconst C dL_law_390 ?_
  refine z_iadd C dL_law_391 ?_
  refine z_sld C hX (by omega) (j := i + 2) (by omega) dL_law_392 ?_
  refine z_lawl C hK hR hDD (c_X10_climbs (zl x) (zG x) A c u (X (i + 1)) (X (i + 2)) h.ib (hX.bd _) (hX.bd _)) gL_law_X10_climbs rfl zy_X10_climbs 0 (WB_0 A c u) rfl ⟨by omega, by decide⟩ rfl (Nat.le_of_ble_eq_true rfl) (st := []) (stk2 := fun z => [.int (zI z)]) rfl (fun _ => rfl) dL_law_393 (fun z1 u2 h1 => ?_)
  refine z_aload_n C 1 dL_law_396 rfl ?_
  refine z_aload_n C 3 dL_law_397 rfl ?_
  refine z_iload_n C 0 dL_law_398 rfl ?_
  refine z_iconst C dL_law_399 ?_
  refine z_iadd C dL_law_400 ?_
  refine z_sld C hX (by omega) (j := i + 1) (by omega) dL_law_401 ?_
  refine z_aload_n C 3 dL_law_402 rfl ?_
  refine z_iload_n C 0 dL_law_403 rfl ?_
  refine z_iconst C dL_law_404 ?_
  refine z_iadd C dL_law_405 ?_
  refine z_sld C hX (by omega) (j := i + 2) (by omega) dL_law_406 ?_
  refine z_lawr C hK hR hDD (c_X11_climbs (zl x) (zG x) B c v (X (i + 1)) (X (i + 2)) h.im (hX.bd _) (hX.bd _)) gL_law_X11_climbs rfl zy_X11_climbs 0 (WM_0 B c v) rfl ⟨by omega, by decide⟩ rfl (Nat.le_of_ble_eq_true rfl) (st := [.int (zI z1)]) (stk2 := fun z => [.int (zI z), .int (zI z1)]) rfl (fun _ => rfl) dL_law_407 (fun z2 v2 h2 => ?_)
  obtain ⟨ez, hRR⟩ := la_climbs h h1 h2
  exact z_eq_t C 849 dL_law_410 (by decide) ez (kk _ _ hRR)
set_option maxHeartbeats 4000000 in
set_option maxRecDepth 100000 in
theorem law_c9 {x : zT} {c : Nat → ClassId} {sa sv : Nat → Nat} {b L : Nat} {X : Int → Int} {A B : Nat → Nat} (C : Cx x cL_law 4 wsL_law RL 40) (hK : Kx x (zTy c)) (hE : Ex x sa sv) (hR : Rx x 82 50824) (hX : SXx x b L X) (hL : L ≤ 2048) (hDD : ∀ u v : zU, va_D (zA x) (WB A c u ++ WM B c v)) {u v : zU} {i : Int} (hi : 0 ≤ i ∧ i + 3 < (L : Int)) (h : RR u v) (kk : ∀ u v : zU, RR u v → Z x 82 50824 (WB A c u ++ WM B c v) [(3, .int (zI i)), (2, .ref (B 0)), (1, .ref (A 0)), (0, .ref b)] 849 []) : Z x 82 50824 (WB A c u ++ WM B c v) [(3, .int (zI i)), (2, .ref (B 0)), (1, .ref (A 0)), (0, .ref b)] 415 [] := by
  refine z_aload_n C 2 dL_law_415 rfl ?_
  refine z_aload_n C 3 dL_law_416 rfl ?_
  refine z_iload_n C 0 dL_law_417 rfl ?_
  refine z_iconst C dL_law_418 ?_
  refine z_iadd C dL_law_419 ?_
  refine z_sld C hX (by omega) (j := i + 1) (by omega) dL_law_420 ?_
  refine z_lawl C hK hR hDD (c_X10_plucks (zl x) (zG x) A c u (X (i + 1)) h.ib (hX.bd _)) gL_law_X10_plucks rfl zy_X10_plucks 0 (WB_0 A c u) rfl ⟨by omega, by decide⟩ rfl (Nat.le_of_ble_eq_true rfl) (st := []) (stk2 := fun z => [.int (zI z)]) rfl (fun _ => rfl) dL_law_421 (fun z1 u2 h1 => ?_)
  refine z_aload_n C 1 dL_law_424 rfl ?_
  refine z_aload_n C 3 dL_law_425 rfl ?_
  refine z_iload_n C 0 dL_law_426 rfl ?_
  refine z_iconst C dL_law_427 ?_
  refine z_iadd C dL_law_428 ?_
  refine z_sld C hX (by omega) (j := i + 1) (by omega) dL_law_429 ?_
  refine z_lawr C hK hR hDD (c_X11_plucks (zl x) (zG x) B c v (X (i + 1)) h.im (hX.bd _)) gL_law_X11_plucks rfl zy_X11_plucks 0 (WM_0 B c v) rfl ⟨by omega, by decide⟩ rfl (Nat.le_of_ble_eq_true rfl) (st := [.int (zI z1)]) (stk2 := fun z => [.int (zI z), .int (zI z1)]) rfl (fun _ => rfl) dL_law_430 (fun z2 v2 h2 => ?_)
  obtain ⟨ez, hRR⟩ := la_plucks h h1 h2
  exact z_eq_t C 849 dL_law_433 (by decide) ez (kk _ _ hRR)
set_option maxHeartbeats 4000000 in
set_option maxRecDepth 100000 in
theorem law_c10 {x : zT} {c : Nat → ClassId} {sa sv : Nat → Nat} {b L : Nat} {X : Int → Int} {A B : Nat → Nat} (C : Cx x cL_law 4 wsL_law RL 40) (hK : Kx x (zTy c)) (hE : Ex x sa sv) (hR : Rx x 82 50824) (hX : SXx x b L X) (hL : L ≤ 2048) (hDD : ∀ u v : zU, va_D (zA x) (WB A c u ++ WM B c v)) {u v : zU} {i : Int} (hi : 0 ≤ i ∧ i + 3 < (L : Int)) (h : RR u v) (kk : ∀ u v : zU, RR u v → Z x 82 50824 (WB A c u ++ WM B c v) [(3, .int (zI i)), (2, .ref (B 0)), (1, .ref (A 0)), (0, .ref b)] 849 []) : Z x 82 50824 (WB A c u ++ WM B c v) [(3, .int (zI i)), (2, .ref (B 0)), (1, .ref (A 0)), (0, .ref b)] 438 [] := by
  refine z_aload_n C 2 dL_law_438 rfl ?_
  refine z_aload_n C 3 dL_law_439 rfl ?_
  refine z_iload_n C 0 dL_law_440 rfl ?_
  refine z_iconst C dL_law_441 ?_
  refine z_iadd C dL_law_442 ?_
  refine z_sld C hX (by omega) (j := i + 1) (by omega) dL_law_443 ?_
  refine z_lawl C hK hR hDD (c_X10_falls (zl x) (zG x) A c u (X (i + 1)) h.ib (hX.bd _)) gL_law_X10_falls rfl zy_X10_falls 0 (WB_0 A c u) rfl ⟨by omega, by decide⟩ rfl (Nat.le_of_ble_eq_true rfl) (st := []) (stk2 := fun z => [.int (zI z)]) rfl (fun _ => rfl) dL_law_444 (fun z1 u2 h1 => ?_)
  refine z_aload_n C 1 dL_law_447 rfl ?_
  refine z_aload_n C 3 dL_law_448 rfl ?_
  refine z_iload_n C 0 dL_law_449 rfl ?_
  refine z_iconst C dL_law_450 ?_
  refine z_iadd C dL_law_451 ?_
  refine z_sld C hX (by omega) (j := i + 1) (by omega) dL_law_452 ?_
  refine z_lawr C hK hR hDD (c_X11_falls (zl x) (zG x) B c v (X (i + 1)) h.im (hX.bd _)) gL_law_X11_falls rfl zy_X11_falls 0 (WM_0 B c v) rfl ⟨by omega, by decide⟩ rfl (Nat.le_of_ble_eq_true rfl) (st := [.int (zI z1)]) (stk2 := fun z => [.int (zI z), .int (zI z1)]) rfl (fun _ => rfl) dL_law_453 (fun z2 v2 h2 => ?_)
  obtain ⟨ez, hRR⟩ := la_falls h h1 h2
  exact z_eq_t C 849 dL_law_456 (by decide) ez (kk _ _ hRR)
set_option maxHeartbeats 4000000 in
set_option maxRecDepth 100000 in
theorem law_c11 {x : zT} {c : Nat → ClassId} {sa sv : Nat → Nat} {b L : Nat} {X : Int → Int} {A B : Nat → Nat} (C : Cx x cL_law 4 wsL_law RL 40) (hK : Kx x (zTy c)) (hE : Ex x sa sv) (hR : Rx x 82 50824) (hX : SXx x b L X) (hL : L ≤ 2048) (hDD : ∀ u v : zU, va_D (zA x) (WB A c u ++ WM B c v)) {u v : zU} {i : Int} (hi : 0 ≤ i ∧ i + 3 < (L : Int)) (h : RR u v) (kk : ∀ u v : zU, RR u v → Z x 82 50824 (WB A c u ++ WM B c v) [(3, .int (zI i)), (2, .ref (B 0)), (1, .ref (A 0)), (0, .ref b)] 849 []) : Z x 82 50824 (WB A c u ++ WM B c v) [(3, .int (zI i)), (2, .ref (B 0)), (1, .ref (A 0)), (0, .ref b)] 461 [] := by
  refine z_aload_n C 2 dL_law_461 rfl ?_
  refine z_lawl C hK hR hDD (c_X10_mends (zl x) (zG x) A c u  h.ib) gL_law_X10_mends rfl zy_X10_mends 0 (WB_0 A c u) rfl ⟨by omega, by decide⟩ rfl (Nat.le_of_ble_eq_true rfl) (st := []) (stk2 := fun z => [.int (zI z)]) rfl (fun _ => rfl) dL_law_462 (fun z1 u2 h1 => ?_)
  refine z_aload_n C 1 dL_law_465 rfl ?_
  refine z_lawr C hK hR hDD (c_X11_mends (zl x) (zG x) B c v  h.im) gL_law_X11_mends rfl zy_X11_mends 0 (WM_0 B c v) rfl ⟨by omega, by decide⟩ rfl (Nat.le_of_ble_eq_true rfl) (st := [.int (zI z1)]) (stk2 := fun z => [.int (zI z), .int (zI z1)]) rfl (fun _ => rfl) dL_law_466 (fun z2 v2 h2 => ?_)
  obtain ⟨ez, hRR⟩ := la_mends h h1 h2
  exact z_eq_t C 849 dL_law_469 (by decide) ez (kk _ _ hRR)
set_option maxHeartbeats 4000000 in
set_option maxRecDepth 100000 in
theorem law_c12 {x : zT} {c : Nat → ClassId} {sa sv : Nat → Nat} {b L : Nat} {X : Int → Int} {A B : Nat → Nat} (C : Cx x cL_law 4 wsL_law RL 40) (hK : Kx x (zTy c)) (hE : Ex x sa sv) (hR : Rx x 82 50824) (hX : SXx x b L X) (hL : L ≤ 2048) (hDD : ∀ u v : zU, va_D (zA x) (WB A c u ++ WM B c v)) {u v : zU} {i : Int} (hi : 0 ≤ i ∧ i + 3 < (L : Int)) (h : RR u v) (kk : ∀ u v : zU, RR u v → Z x 82 50824 (WB A c u ++ WM B c v) [(3, .int (zI i)), (2, .ref (B 0)), (1, .ref (A 0)), (0, .ref b)] 849 []) : Z x 82 50824 (WB A c u ++ WM B c v) [(3, .int (zI i)), (2, .ref (B 0)), (1, .ref (A 0)), (0, .ref b)] 474 [] := by
  refine z_aload_n C 2 dL_law_474 rfl ?_
  refine z_lawl C hK hR hDD (c_X10_year (zl x) (zG x) A c u  h.ib) gL_law_X10_year rfl zy_X10_year 0 (WB_0 A c u) rfl ⟨by omega, by decide⟩ rfl (Nat.le_of_ble_eq_true rfl) (st := []) (stk2 := fun z => [.int (zI z)]) rfl (fun _ => rfl) dL_law_475 (fun z1 u2 h1 => ?_)
  refine z_aload_n C 1 dL_law_478 rfl ?_
  refine z_lawr C hK hR hDD (c_X11_year (zl x) (zG x) B c v  h.im) gL_law_X11_year rfl zy_X11_year 0 (WM_0 B c v) rfl ⟨by omega, by decide⟩ rfl (Nat.le_of_ble_eq_true rfl) (st := [.int (zI z1)]) (stk2 := fun z => [.int (zI z), .int (zI z1)]) rfl (fun _ => rfl) dL_law_479 (fun z2 v2 h2 => ?_)
  obtain ⟨ez, hRR⟩ := la_year h h1 h2
  exact z_eq_t C 849 dL_law_482 (by decide) ez (kk _ _ hRR)
set_option maxHeartbeats 4000000 in
set_option maxRecDepth 100000 in
theorem law_c13 {x : zT} {c : Nat → ClassId} {sa sv : Nat → Nat} {b L : Nat} {X : Int → Int} {A B : Nat → Nat} (C : Cx x cL_law 4 wsL_law RL 40) (hK : Kx x (zTy c)) (hE : Ex x sa sv) (hR : Rx x 82 50824) (hX : SXx x b L X) (hL : L ≤ 2048) (hDD : ∀ u v : zU, va_D (zA x) (WB A c u ++ WM B c v)) {u v : zU} {i : Int} (hi : 0 ≤ i ∧ i + 3 < (L : Int)) (h : RR u v) (kk : ∀ u v : zU, RR u v → Z x 82 50824 (WB A c u ++ WM B c v) [(3, .int (zI i)), (2, .ref (B 0)), (1, .ref (A 0)), (0, .ref b)] 849 []) : Z x 82 50824 (WB A c u ++ WM B c v) [(3, .int (zI i)), (2, .ref (B 0)), (1, .ref (A 0)), (0, .ref b)] 487 [] := by
  refine z_aload_n C 2 dL_law_487 rfl ?_
  refine z_aload_n C 3 dL_law_488 rfl ?_
  refine z_iload_n C 0 dL_law_489 rfl ?_
  refine z_iconst C dL_law_490 ?_
  refine z_iadd C dL_law_491 ?_
  refine z_sld C hX (by omega) (j := i + 1) (by omega) dL_law_492 ?_
  refine z_aload_n C 3 dL_law_493 rfl ?_
  refine z_iload_n C 0 dL_law_494 rfl ?_
  refine z_iconst C dL_law_495 ?_
  refine z_iadd C dL_law_496 ?_
  refine z_sld C hX (by omega) (j := i + 2) (by omega) dL_law_497 ?_
  refine z_lawl C hK hR hDD (c_X10_heard (zl x) (zG x) A c u (X (i + 1)) (X (i + 2)) h.ib (hX.bd _) (hX.bd _)) gL_law_X10_heard rfl zy_X10_heard 0 (WB_0 A c u) rfl ⟨by omega, by decide⟩ rfl (Nat.le_of_ble_eq_true rfl) (st := []) (stk2 := fun z => [.int (zI z)]) rfl (fun _ => rfl) dL_law_498 (fun z1 u2 h1 => ?_)
  refine z_aload_n C 1 dL_law_501 rfl ?_
  refine z_aload_n C 3 dL_law_502 rfl ?_
  refine z_iload_n C 0 dL_law_503 rfl ?_
  refine z_iconst C dL_law_504 ?_
  refine z_iadd C dL_law_505 ?_
  refine z_sld C hX (by omega) (j := i + 1) (by omega) dL_law_506 ?_
  refine z_aload_n C 3 dL_law_507 rfl ?_
  refine z_iload_n C 0 dL_law_508 rfl ?_
  refine z_iconst C dL_law_509 ?_
  refine z_iadd C dL_law_510 ?_
  refine z_sld C hX (by omega) (j := i + 2) (by omega) dL_law_511 ?_
  refine z_lawr C hK hR hDD (c_X11_heard (zl x) (zG x) B c v (X (i + 1)) (X (i + 2)) h.im (hX.bd _) (hX.bd _)) gL_law_X11_heard rfl zy_X11_heard 0 (WM_0 B c v) rfl ⟨by omega, by decide⟩ rfl (Nat.le_of_ble_eq_true rfl) (st := [.int (zI z1)]) (stk2 := fun z => [.int (zI z), .int (zI z1)]) rfl (fun _ => rfl) dL_law_512 (fun z2 v2 h2 => ?_)
  obtain ⟨ez, hRR⟩ := la_heard h h1 h2
  exact z_eq_t C 849 dL_law_515 (by decide) ez (kk _ _ hRR)
set_option maxHeartbeats 4000000 in
set_option maxRecDepth 100000 in
theorem law_c14 {x : zT} {c : Nat → ClassId} {sa sv : Nat → Nat} {b L : Nat} {X : Int → Int} {A B : Nat → Nat} (C : Cx x cL_law 4 wsL_law RL 40) (hK : Kx x (zTy c)) (hE : Ex x sa sv) (hR : Rx x 82 50824) (hX : SXx x b L X) (hL : L ≤ 2048) (hDD : ∀ u v : zU, va_D (zA x) (WB A c u ++ WM B c v)) {u v : zU} {i : Int} (hi : 0 ≤ i ∧ i + 3 < (L : Int)) (h : RR u v) (kk : ∀ u v : zU, RR u v → Z x 82 50824 (WB A c u ++ WM B c v) [(3, .int (zI i)), (2, .ref (B 0)), (1, .ref (A 0)), (0, .ref b)] 849 []) : Z x 82 50824 (WB A c u ++ WM B c v) [(3, .int (zI i)), (2, .ref (B 0)), (1, .ref (A 0)), (0, .ref b)] 520 [] := by
  refine z_aload_n C 2 dL_law_520 rfl ?_
  refine z_lawl C hK hR hDD (c_X10_forget (zl x) (zG x) A c u  h.ib) gL_law_X10_forget rfl zy_X10_forget 0 (WB_0 A c u) rfl ⟨by omega, by decide⟩ rfl (Nat.le_of_ble_eq_true rfl) (st := []) (stk2 := fun z => [.int (zI z)]) rfl (fun _ => rfl) dL_law_521 (fun z1 u2 h1 => ?_)
  refine z_aload_n C 1 dL_law_524 rfl ?_
  refine z_lawr C hK hR hDD (c_X11_forget (zl x) (zG x) B c v  ) gL_law_X11_forget rfl zy_X11_forget 0 (WM_0 B c v) rfl ⟨by omega, by decide⟩ rfl (Nat.le_of_ble_eq_true rfl) (st := [.int (zI z1)]) (stk2 := fun z => [.int (zI z), .int (zI z1)]) rfl (fun _ => rfl) dL_law_525 (fun z2 v2 h2 => ?_)
  obtain ⟨ez, hRR⟩ := la_forget h h1 h2
  exact z_eq_t C 849 dL_law_528 (by decide) ez (kk _ _ hRR)
set_option maxHeartbeats 4000000 in
set_option maxRecDepth 100000 in
theorem law_c15 {x : zT} {c : Nat → ClassId} {sa sv : Nat → Nat} {b L : Nat} {X : Int → Int} {A B : Nat → Nat} (C : Cx x cL_law 4 wsL_law RL 40) (hK : Kx x (zTy c)) (hE : Ex x sa sv) (hR : Rx x 82 50824) (hX : SXx x b L X) (hL : L ≤ 2048) (hDD : ∀ u v : zU, va_D (zA x) (WB A c u ++ WM B c v)) {u v : zU} {i : Int} (hi : 0 ≤ i ∧ i + 3 < (L : Int)) (h : RR u v) (kk : ∀ u v : zU, RR u v → Z x 82 50824 (WB A c u ++ WM B c v) [(3, .int (zI i)), (2, .ref (B 0)), (1, .ref (A 0)), (0, .ref b)] 849 []) : Z x 82 50824 (WB A c u ++ WM B c v) [(3, .int (zI i)), (2, .ref (B 0)), (1, .ref (A 0)), (0, .ref b)] 533 [] := by
  refine z_aload_n C 2 dL_law_533 rfl ?_
  refine z_lawl C hK hR hDD (c_X10_tracks (zl x) (zG x) A c u  h.ib) gL_law_X10_tracks rfl zy_X10_tracks 0 (WB_0 A c u) rfl ⟨by omega, by decide⟩ rfl (Nat.le_of_ble_eq_true rfl) (st := []) (stk2 := fun z => [.int (zI z)]) rfl (fun _ => rfl) dL_law_534 (fun z1 u2 h1 => ?_)
  refine z_aload_n C 1 dL_law_537 rfl ?_
  refine z_lawr C hK hR hDD (c_X11_tracks (zl x) (zG x) B c v  h.im) gL_law_X11_tracks rfl zy_X11_tracks 0 (WM_0 B c v) rfl ⟨by omega, by decide⟩ rfl (Nat.le_of_ble_eq_true rfl) (st := [.int (zI z1)]) (stk2 := fun z => [.int (zI z), .int (zI z1)]) rfl (fun _ => rfl) dL_law_538 (fun z2 v2 h2 => ?_)
  obtain ⟨ez, hRR⟩ := la_tracks h h1 h2
  exact z_eq_t C 849 dL_law_541 (by decide) ez (kk _ _ hRR)
set_option maxHeartbeats 4000000 in
set_option maxRecDepth 100000 in
theorem law_c16 {x : zT} {c : Nat → ClassId} {sa sv : Nat → Nat} {b L : Nat} {X : Int → Int} {A B : Nat → Nat} (C : Cx x cL_law 4 wsL_law RL 40) (hK : Kx x (zTy c)) (hE : Ex x sa sv) (hR : Rx x 82 50824) (hX : SXx x b L X) (hL : L ≤ 2048) (hDD : ∀ u v : zU, va_D (zA x) (WB A c u ++ WM B c v)) {u v : zU} {i : Int} (hi : 0 ≤ i ∧ i + 3 < (L : Int)) (h : RR u v) (kk : ∀ u v : zU, RR u v → Z x 82 50824 (WB A c u ++ WM B c v) [(3, .int (zI i)), (2, .ref (B 0)), (1, .ref (A 0)), (0, .ref b)] 849 []) : Z x 82 50824 (WB A c u ++ WM B c v) [(3, .int (zI i)), (2, .ref (B 0)), (1, .ref (A 0)), (0, .ref b)] 546 [] := by
  refine z_aload_n C 2 dL_law_546 rfl ?_
  refine z_aload_n C 3 dL_law_547 rfl ?_
  refine z_iload_n C 0 dL_law_548 rfl ?_
  refine z_iconst C dL_law_549 ?_
  refine z_iadd C dL_law_550 ?_
  refine z_sld C hX (by omega) (j := i + 1) (by omega) dL_law_551 ?_
  refine z_lawl C hK hR hDD (c_X10_where (zl x) (zG x) A c u (X (i + 1)) h.ib (hX.bd _)) gL_law_X10_where rfl zy_X10_where 0 (WB_0 A c u) rfl ⟨by omega, by decide⟩ rfl (Nat.le_of_ble_eq_true rfl) (st := []) (stk2 := fun z => [.int (zI z)]) rfl (fun _ => rfl) dL_law_552 (fun z1 u2 h1 => ?_)
  refine z_aload_n C 1 dL_law_555 rfl ?_
  refine z_aload_n C 3 dL_law_556 rfl ?_
  refine z_iload_n C 0 dL_law_557 rfl ?_
  refine z_iconst C dL_law_558 ?_
  refine z_iadd C dL_law_559 ?_
  refine z_sld C hX (by omega) (j := i + 1) (by omega) dL_law_560 ?_
  refine z_lawr C hK hR hDD (c_X11_where (zl x) (zG x) B c v (X (i + 1)) h.im (hX.bd _)) gL_law_X11_where rfl zy_X11_where 0 (WM_0 B c v) rfl ⟨by omega, by decide⟩ rfl (Nat.le_of_ble_eq_true rfl) (st := [.int (zI z1)]) (stk2 := fun z => [.int (zI z), .int (zI z1)]) rfl (fun _ => rfl) dL_law_561 (fun z2 v2 h2 => ?_)
  obtain ⟨ez, hRR⟩ := la_where h h1 h2
  exact z_eq_t C 849 dL_law_564 (by decide) ez (kk _ _ hRR)
set_option maxHeartbeats 4000000 in
set_option maxRecDepth 100000 in
theorem law_c17 {x : zT} {c : Nat → ClassId} {sa sv : Nat → Nat} {b L : Nat} {X : Int → Int} {A B : Nat → Nat} (C : Cx x cL_law 4 wsL_law RL 40) (hK : Kx x (zTy c)) (hE : Ex x sa sv) (hR : Rx x 82 50824) (hX : SXx x b L X) (hL : L ≤ 2048) (hDD : ∀ u v : zU, va_D (zA x) (WB A c u ++ WM B c v)) {u v : zU} {i : Int} (hi : 0 ≤ i ∧ i + 3 < (L : Int)) (h : RR u v) (kk : ∀ u v : zU, RR u v → Z x 82 50824 (WB A c u ++ WM B c v) [(3, .int (zI i)), (2, .ref (B 0)), (1, .ref (A 0)), (0, .ref b)] 849 []) : Z x 82 50824 (WB A c u ++ WM B c v) [(3, .int (zI i)), (2, .ref (B 0)), (1, .ref (A 0)), (0, .ref b)] 569 [] := by
  refine z_aload_n C 2 dL_law_569 rfl ?_
  refine z_lawl C hK hR hDD (c_X10_men (zl x) (zG x) A c u  h.ib) gL_law_X10_men rfl zy_X10_men 0 (WB_0 A c u) rfl ⟨by omega, by decide⟩ rfl (Nat.le_of_ble_eq_true rfl) (st := []) (stk2 := fun z => [.int (zI z)]) rfl (fun _ => rfl) dL_law_570 (fun z1 u2 h1 => ?_)
  refine z_aload_n C 1 dL_law_573 rfl ?_
  refine z_lawr C hK hR hDD (c_X11_men (zl x) (zG x) B c v  h.im) gL_law_X11_men rfl zy_X11_men 0 (WM_0 B c v) rfl ⟨by omega, by decide⟩ rfl (Nat.le_of_ble_eq_true rfl) (st := [.int (zI z1)]) (stk2 := fun z => [.int (zI z), .int (zI z1)]) rfl (fun _ => rfl) dL_law_574 (fun z2 v2 h2 => ?_)
  obtain ⟨ez, hRR⟩ := la_men h h1 h2
  exact z_eq_t C 849 dL_law_577 (by decide) ez (kk _ _ hRR)
set_option maxHeartbeats 4000000 in
set_option maxRecDepth 100000 in
theorem law_c18 {x : zT} {c : Nat → ClassId} {sa sv : Nat → Nat} {b L : Nat} {X : Int → Int} {A B : Nat → Nat} (C : Cx x cL_law 4 wsL_law RL 40) (hK : Kx x (zTy c)) (hE : Ex x sa sv) (hR : Rx x 82 50824) (hX : SXx x b L X) (hL : L ≤ 2048) (hDD : ∀ u v : zU, va_D (zA x) (WB A c u ++ WM B c v)) {u v : zU} {i : Int} (hi : 0 ≤ i ∧ i + 3 < (L : Int)) (h : RR u v) (kk : ∀ u v : zU, RR u v → Z x 82 50824 (WB A c u ++ WM B c v) [(3, .int (zI i)), (2, .ref (B 0)), (1, .ref (A 0)), (0, .ref b)] 849 []) : Z x 82 50824 (WB A c u ++ WM B c v) [(3, .int (zI i)), (2, .ref (B 0)), (1, .ref (A 0)), (0, .ref b)] 582 [] := by
  refine z_aload_n C 2 dL_law_582 rfl ?_
  refine z_aload_n C 3 dL_law_583 rfl ?_
  refine z_iload_n C 0 dL_law_584 rfl ?_
  refine z_iconst C dL_law_585 ?_
  refine z_iadd C dL_law_586 ?_
  refine z_sld C hX (by omega) (j := i + 1) (by omega) dL_law_587 ?_
  refine z_lawl C hK hR hDD (c_X10_keeps (zl x) (zG x) A c u (X (i + 1)) h.ib (hX.bd _)) gL_law_X10_keeps rfl zy_X10_keeps 0 (WB_0 A c u) rfl ⟨by omega, by decide⟩ rfl (Nat.le_of_ble_eq_true rfl) (st := []) (stk2 := fun z => [.int (zI z)]) rfl (fun _ => rfl) dL_law_588 (fun z1 u2 h1 => ?_)
  refine z_aload_n C 1 dL_law_591 rfl ?_
  refine z_aload_n C 3 dL_law_592 rfl ?_
  refine z_iload_n C 0 dL_law_593 rfl ?_
  refine z_iconst C dL_law_594 ?_
  refine z_iadd C dL_law_595 ?_
  refine z_sld C hX (by omega) (j := i + 1) (by omega) dL_law_596 ?_
  refine z_lawr C hK hR hDD (c_X11_keeps (zl x) (zG x) B c v (X (i + 1)) h.im (hX.bd _)) gL_law_X11_keeps rfl zy_X11_keeps 0 (WM_0 B c v) rfl ⟨by omega, by decide⟩ rfl (Nat.le_of_ble_eq_true rfl) (st := [.int (zI z1)]) (stk2 := fun z => [.int (zI z), .int (zI z1)]) rfl (fun _ => rfl) dL_law_597 (fun z2 v2 h2 => ?_)
  obtain ⟨ez, hRR⟩ := la_keeps h h1 h2
  exact z_eq_t C 849 dL_law_600 (by decide) ez (kk _ _ hRR)
set_option maxHeartbeats 4000000 in
set_option maxRecDepth 100000 in
theorem law_c19 {x : zT} {c : Nat → ClassId} {sa sv : Nat → Nat} {b L : Nat} {X : Int → Int} {A B : Nat → Nat} (C : Cx x cL_law 4 wsL_law RL 40) (hK : Kx x (zTy c)) (hE : Ex x sa sv) (hR : Rx x 82 50824) (hX : SXx x b L X) (hL : L ≤ 2048) (hDD : ∀ u v : zU, va_D (zA x) (WB A c u ++ WM B c v)) {u v : zU} {i : Int} (hi : 0 ≤ i ∧ i + 3 < (L : Int)) (h : RR u v) (kk : ∀ u v : zU, RR u v → Z x 82 50824 (WB A c u ++ WM B c v) [(3, .int (zI i)), (2, .ref (B 0)), (1, .ref (A 0)), (0, .ref b)] 849 []) : Z x 82 50824 (WB A c u ++ WM B c v) [(3, .int (zI i)), (2, .ref (B 0)), (1, .ref (A 0)), (0, .ref b)] 605 [] := by
  refine z_aload_n C 2 dL_law_605 rfl ?_
  refine z_aload_n C 3 dL_law_606 rfl ?_
  refine z_iload_n C 0 dL_law_607 rfl ?_
  refine z_iconst C dL_law_608 ?_
  refine z_iadd C dL_law_609 ?_
  refine z_sld C hX (by omega) (j := i + 1) (by omega) dL_law_610 ?_
  refine z_aload_n C 3 dL_law_611 rfl ?_
  refine z_iload_n C 0 dL_law_612 rfl ?_
  refine z_iconst C dL_law_613 ?_
  refine z_iadd C dL_law_614 ?_
  refine z_sld C hX (by omega) (j := i + 2) (by omega) dL_law_615 ?_
  refine z_lawl C hK hR hDD (c_X10_meet (zl x) (zG x) A c u (X (i + 1)) (X (i + 2)) h.ib (hX.bd _) (hX.bd _)) gL_law_X10_meet rfl zy_X10_meet 0 (WB_0 A c u) rfl ⟨by omega, by decide⟩ rfl (Nat.le_of_ble_eq_true rfl) (st := []) (stk2 := fun z => [.int (zI z)]) rfl (fun _ => rfl) dL_law_616 (fun z1 u2 h1 => ?_)
  refine z_aload_n C 1 dL_law_619 rfl ?_
  refine z_aload_n C 3 dL_law_620 rfl ?_
  refine z_iload_n C 0 dL_law_621 rfl ?_
  refine z_iconst C dL_law_622 ?_
  refine z_iadd C dL_law_623 ?_
  refine z_sld C hX (by omega) (j := i + 1) (by omega) dL_law_624 ?_
  refine z_aload_n C 3 dL_law_625 rfl ?_
  refine z_iload_n C 0 dL_law_626 rfl ?_
  refine z_iconst C dL_law_627 ?_
  refine z_iadd C dL_law_628 ?_
  refine z_sld C hX (by omega) (j := i + 2) (by omega) dL_law_629 ?_
  refine z_lawr C hK hR hDD (c_X11_meet (zl x) (zG x) B c v (X (i + 1)) (X (i + 2)) h.im (hX.bd _) (hX.bd _)) gL_law_X11_meet rfl zy_X11_meet 0 (WM_0 B c v) rfl ⟨by omega, by decide⟩ rfl (Nat.le_of_ble_eq_true rfl) (st := [.int (zI z1)]) (stk2 := fun z => [.int (zI z), .int (zI z1)]) rfl (fun _ => rfl) dL_law_630 (fun z2 v2 h2 => ?_)
  obtain ⟨ez, hRR⟩ := la_meet h h1 h2
  exact z_eq_t C 849 dL_law_633 (by decide) ez (kk _ _ hRR)
set_option maxHeartbeats 4000000 in
set_option maxRecDepth 100000 in
theorem law_c20 {x : zT} {c : Nat → ClassId} {sa sv : Nat → Nat} {b L : Nat} {X : Int → Int} {A B : Nat → Nat} (C : Cx x cL_law 4 wsL_law RL 40) (hK : Kx x (zTy c)) (hE : Ex x sa sv) (hR : Rx x 82 50824) (hX : SXx x b L X) (hL : L ≤ 2048) (hDD : ∀ u v : zU, va_D (zA x) (WB A c u ++ WM B c v)) {u v : zU} {i : Int} (hi : 0 ≤ i ∧ i + 3 < (L : Int)) (h : RR u v) (kk : ∀ u v : zU, RR u v → Z x 82 50824 (WB A c u ++ WM B c v) [(3, .int (zI i)), (2, .ref (B 0)), (1, .ref (A 0)), (0, .ref b)] 849 []) : Z x 82 50824 (WB A c u ++ WM B c v) [(3, .int (zI i)), (2, .ref (B 0)), (1, .ref (A 0)), (0, .ref b)] 638 [] := by
  refine z_aload_n C 2 dL_law_638 rfl ?_
  refine z_lawl C hK hR hDD (c_X10_first (zl x) (zG x) A c u  h.ib) gL_law_X10_first rfl zy_X10_first 0 (WB_0 A c u) rfl ⟨by omega, by decide⟩ rfl (Nat.le_of_ble_eq_true rfl) (st := []) (stk2 := fun z => [.int (zI z)]) rfl (fun _ => rfl) dL_law_639 (fun z1 u2 h1 => ?_)
  refine z_aload_n C 1 dL_law_642 rfl ?_
  refine z_lawr C hK hR hDD (c_X11_first (zl x) (zG x) B c v  h.im) gL_law_X11_first rfl zy_X11_first 0 (WM_0 B c v) rfl ⟨by omega, by decide⟩ rfl (Nat.le_of_ble_eq_true rfl) (st := [.int (zI z1)]) (stk2 := fun z => [.int (zI z), .int (zI z1)]) rfl (fun _ => rfl) dL_law_643 (fun z2 v2 h2 => ?_)
  obtain ⟨ez, hRR⟩ := la_first h h1 h2
  exact z_eq_t C 849 dL_law_646 (by decide) ez (kk _ _ hRR)
set_option maxHeartbeats 4000000 in
set_option maxRecDepth 100000 in
theorem law_c21 {x : zT} {c : Nat → ClassId} {sa sv : Nat → Nat} {b L : Nat} {X : Int → Int} {A B : Nat → Nat} (C : Cx x cL_law 4 wsL_law RL 40) (hK : Kx x (zTy c)) (hE : Ex x sa sv) (hR : Rx x 82 50824) (hX : SXx x b L X) (hL : L ≤ 2048) (hDD : ∀ u v : zU, va_D (zA x) (WB A c u ++ WM B c v)) {u v : zU} {i : Int} (hi : 0 ≤ i ∧ i + 3 < (L : Int)) (h : RR u v) (kk : ∀ u v : zU, RR u v → Z x 82 50824 (WB A c u ++ WM B c v) [(3, .int (zI i)), (2, .ref (B 0)), (1, .ref (A 0)), (0, .ref b)] 849 []) : Z x 82 50824 (WB A c u ++ WM B c v) [(3, .int (zI i)), (2, .ref (B 0)), (1, .ref (A 0)), (0, .ref b)] 651 [] := by
  refine z_aload_n C 2 dL_law_651 rfl ?_
  refine z_aload_n C 3 dL_law_652 rfl ?_
  refine z_iload_n C 0 dL_law_653 rfl ?_
  refine z_iconst C dL_law_654 ?_
  refine z_iadd C dL_law_655 ?_
  refine z_sld C hX (by omega) (j := i + 1) (by omega) dL_law_656 ?_
  refine z_lawl C hK hR hDD (c_X10_sing (zl x) (zG x) A c u (X (i + 1)) h.ib (hX.bd _)) gL_law_X10_sing rfl zy_X10_sing 0 (WB_0 A c u) rfl ⟨by omega, by decide⟩ rfl (Nat.le_of_ble_eq_true rfl) (st := []) (stk2 := fun z => [.int (zI z)]) rfl (fun _ => rfl) dL_law_657 (fun z1 u2 h1 => ?_)
  refine z_aload_n C 1 dL_law_660 rfl ?_
  refine z_aload_n C 3 dL_law_661 rfl ?_
  refine z_iload_n C 0 dL_law_662 rfl ?_
  refine z_iconst C dL_law_663 ?_
  refine z_iadd C dL_law_664 ?_
  refine z_sld C hX (by omega) (j := i + 1) (by omega) dL_law_665 ?_
  refine z_lawr C hK hR hDD (c_X11_sing (zl x) (zG x) B c v (X (i + 1)) h.im (hX.bd _)) gL_law_X11_sing rfl zy_X11_sing 0 (WM_0 B c v) rfl ⟨by omega, by decide⟩ rfl (Nat.le_of_ble_eq_true rfl) (st := [.int (zI z1)]) (stk2 := fun z => [.int (zI z), .int (zI z1)]) rfl (fun _ => rfl) dL_law_666 (fun z2 v2 h2 => ?_)
  obtain ⟨ez, hRR⟩ := la_sing h h1 h2
  exact z_eq_t C 849 dL_law_669 (by decide) ez (kk _ _ hRR)
set_option maxHeartbeats 4000000 in
set_option maxRecDepth 100000 in
theorem law_c22 {x : zT} {c : Nat → ClassId} {sa sv : Nat → Nat} {b L : Nat} {X : Int → Int} {A B : Nat → Nat} (C : Cx x cL_law 4 wsL_law RL 40) (hK : Kx x (zTy c)) (hE : Ex x sa sv) (hR : Rx x 82 50824) (hX : SXx x b L X) (hL : L ≤ 2048) (hDD : ∀ u v : zU, va_D (zA x) (WB A c u ++ WM B c v)) {u v : zU} {i : Int} (hi : 0 ≤ i ∧ i + 3 < (L : Int)) (h : RR u v) (kk : ∀ u v : zU, RR u v → Z x 82 50824 (WB A c u ++ WM B c v) [(3, .int (zI i)), (2, .ref (B 0)), (1, .ref (A 0)), (0, .ref b)] 849 []) : Z x 82 50824 (WB A c u ++ WM B c v) [(3, .int (zI i)), (2, .ref (B 0)), (1, .ref (A 0)), (0, .ref b)] 674 [] := by
  refine z_aload_n C 2 dL_law_674 rfl ?_
  refine z_lawl C hK hR hDD (c_X10_hush (zl x) (zG x) A c u  h.ib) gL_law_X10_hush rfl zy_X10_hush 0 (WB_0 A c u) rfl ⟨by omega, by decide⟩ rfl (Nat.le_of_ble_eq_true rfl) (st := []) (stk2 := fun z => [.int (zI z)]) rfl (fun _ => rfl) dL_law_675 (fun z1 u2 h1 => ?_)
  refine z_aload_n C 1 dL_law_678 rfl ?_
  refine z_lawr C hK hR hDD (c_X11_hush (zl x) (zG x) B c v  ) gL_law_X11_hush rfl zy_X11_hush 0 (WM_0 B c v) rfl ⟨by omega, by decide⟩ rfl (Nat.le_of_ble_eq_true rfl) (st := [.int (zI z1)]) (stk2 := fun z => [.int (zI z), .int (zI z1)]) rfl (fun _ => rfl) dL_law_679 (fun z2 v2 h2 => ?_)
  obtain ⟨ez, hRR⟩ := la_hush h h1 h2
  exact z_eq_t C 849 dL_law_682 (by decide) ez (kk _ _ hRR)
set_option maxHeartbeats 4000000 in
set_option maxRecDepth 100000 in
theorem law_c23 {x : zT} {c : Nat → ClassId} {sa sv : Nat → Nat} {b L : Nat} {X : Int → Int} {A B : Nat → Nat} (C : Cx x cL_law 4 wsL_law RL 40) (hK : Kx x (zTy c)) (hE : Ex x sa sv) (hR : Rx x 82 50824) (hX : SXx x b L X) (hL : L ≤ 2048) (hDD : ∀ u v : zU, va_D (zA x) (WB A c u ++ WM B c v)) {u v : zU} {i : Int} (hi : 0 ≤ i ∧ i + 3 < (L : Int)) (h : RR u v) (kk : ∀ u v : zU, RR u v → Z x 82 50824 (WB A c u ++ WM B c v) [(3, .int (zI i)), (2, .ref (B 0)), (1, .ref (A 0)), (0, .ref b)] 849 []) : Z x 82 50824 (WB A c u ++ WM B c v) [(3, .int (zI i)), (2, .ref (B 0)), (1, .ref (A 0)), (0, .ref b)] 687 [] := by
  refine z_aload_n C 2 dL_law_687 rfl ?_
  refine z_lawl C hK hR hDD (c_X10_climbing (zl x) (zG x) A c u  h.ib) gL_law_X10_climbing rfl zy_X10_climbing 0 (WB_0 A c u) rfl ⟨by omega, by decide⟩ rfl (Nat.le_of_ble_eq_true rfl) (st := []) (stk2 := fun z => [.int (zI z)]) rfl (fun _ => rfl) dL_law_688 (fun z1 u2 h1 => ?_)
  refine z_aload_n C 1 dL_law_691 rfl ?_
  refine z_lawr C hK hR hDD (c_X11_climbing (zl x) (zG x) B c v  h.im) gL_law_X11_climbing rfl zy_X11_climbing 0 (WM_0 B c v) rfl ⟨by omega, by decide⟩ rfl (Nat.le_of_ble_eq_true rfl) (st := [.int (zI z1)]) (stk2 := fun z => [.int (zI z), .int (zI z1)]) rfl (fun _ => rfl) dL_law_692 (fun z2 v2 h2 => ?_)
  obtain ⟨ez, hRR⟩ := la_climbing h h1 h2
  exact z_eq_t C 849 dL_law_695 (by decide) ez (kk _ _ hRR)
set_option maxHeartbeats 4000000 in
set_option maxRecDepth 100000 in
theorem law_c24 {x : zT} {c : Nat → ClassId} {sa sv : Nat → Nat} {b L : Nat} {X : Int → Int} {A B : Nat → Nat} (C : Cx x cL_law 4 wsL_law RL 40) (hK : Kx x (zTy c)) (hE : Ex x sa sv) (hR : Rx x 82 50824) (hX : SXx x b L X) (hL : L ≤ 2048) (hDD : ∀ u v : zU, va_D (zA x) (WB A c u ++ WM B c v)) {u v : zU} {i : Int} (hi : 0 ≤ i ∧ i + 3 < (L : Int)) (h : RR u v) (kk : ∀ u v : zU, RR u v → Z x 82 50824 (WB A c u ++ WM B c v) [(3, .int (zI i)), (2, .ref (B 0)), (1, .ref (A 0)), (0, .ref b)] 849 []) : Z x 82 50824 (WB A c u ++ WM B c v) [(3, .int (zI i)), (2, .ref (B 0)), (1, .ref (A 0)), (0, .ref b)] 700 [] := by
  refine z_aload_n C 2 dL_law_700 rfl ?_
  refine z_aload_n C 3 dL_law_701 rfl ?_
  refine z_iload_n C 0 dL_law_702 rfl ?_
  refine z_iconst C dL_law_703 ?_
  refine z_iadd C dL_law_704 ?_
  refine z_sld C hX (by omega) (j := i + 1) (by omega) dL_law_705 ?_
  refine z_aload_n C 3 dL_law_706 rfl ?_
  refine z_iload_n C 0 dL_law_707 rfl ?_
  refine z_iconst C dL_law_708 ?_
  refine z_iadd C dL_law_709 ?_
  refine z_sld C hX (by omega) (j := i + 2) (by omega) dL_law_710 ?_
  refine z_lawl C hK hR hDD (c_X10_by (zl x) (zG x) A c u (X (i + 1)) (X (i + 2)) h.ib (hX.bd _) (hX.bd _)) gL_law_X10_by rfl zy_X10_by 0 (WB_0 A c u) rfl ⟨by omega, by decide⟩ rfl (Nat.le_of_ble_eq_true rfl) (st := []) (stk2 := fun z => [.int (zI z)]) rfl (fun _ => rfl) dL_law_711 (fun z1 u2 h1 => ?_)
  refine z_aload_n C 1 dL_law_714 rfl ?_
  refine z_aload_n C 3 dL_law_715 rfl ?_
  refine z_iload_n C 0 dL_law_716 rfl ?_
  refine z_iconst C dL_law_717 ?_
  refine z_iadd C dL_law_718 ?_
  refine z_sld C hX (by omega) (j := i + 1) (by omega) dL_law_719 ?_
  refine z_aload_n C 3 dL_law_720 rfl ?_
  refine z_iload_n C 0 dL_law_721 rfl ?_
  refine z_iconst C dL_law_722 ?_
  refine z_iadd C dL_law_723 ?_
  refine z_sld C hX (by omega) (j := i + 2) (by omega) dL_law_724 ?_
  refine z_lawr C hK hR hDD (c_X11_by (zl x) (zG x) B c v (X (i + 1)) (X (i + 2)) h.im (hX.bd _) (hX.bd _)) gL_law_X11_by rfl zy_X11_by 0 (WM_0 B c v) rfl ⟨by omega, by decide⟩ rfl (Nat.le_of_ble_eq_true rfl) (st := [.int (zI z1)]) (stk2 := fun z => [.int (zI z), .int (zI z1)]) rfl (fun _ => rfl) dL_law_725 (fun z2 v2 h2 => ?_)
  obtain ⟨ez, hRR⟩ := la_by h h1 h2
  exact z_eq_t C 849 dL_law_728 (by decide) ez (kk _ _ hRR)
set_option maxHeartbeats 4000000 in
set_option maxRecDepth 100000 in
theorem law_c25 {x : zT} {c : Nat → ClassId} {sa sv : Nat → Nat} {b L : Nat} {X : Int → Int} {A B : Nat → Nat} (C : Cx x cL_law 4 wsL_law RL 40) (hK : Kx x (zTy c)) (hE : Ex x sa sv) (hR : Rx x 82 50824) (hX : SXx x b L X) (hL : L ≤ 2048) (hDD : ∀ u v : zU, va_D (zA x) (WB A c u ++ WM B c v)) {u v : zU} {i : Int} (hi : 0 ≤ i ∧ i + 3 < (L : Int)) (h : RR u v) (kk : ∀ u v : zU, RR u v → Z x 82 50824 (WB A c u ++ WM B c v) [(3, .int (zI i)), (2, .ref (B 0)), (1, .ref (A 0)), (0, .ref b)] 849 []) : Z x 82 50824 (WB A c u ++ WM B c v) [(3, .int (zI i)), (2, .ref (B 0)), (1, .ref (A 0)), (0, .ref b)] 733 [] := by
  refine z_aload_n C 2 dL_law_733 rfl ?_
  refine z_aload_n C 3 dL_law_734 rfl ?_
  refine z_iload_n C 0 dL_law_735 rfl ?_
  refine z_iconst C dL_law_736 ?_
  refine z_iadd C dL_law_737 ?_
  refine z_sld C hX (by omega) (j := i + 1) (by omega) dL_law_738 ?_
  refine z_aload_n C 3 dL_law_739 rfl ?_
  refine z_iload_n C 0 dL_law_740 rfl ?_
  refine z_iconst C dL_law_741 ?_
  refine z_iadd C dL_law_742 ?_
  refine z_sld C hX (by omega) (j := i + 2) (by omega) dL_law_743 ?_
  refine z_lawl C hK hR hDD (c_X10_mark (zl x) (zG x) A c u (X (i + 1)) (X (i + 2)) h.ib (hX.bd _) (hX.bd _)) gL_law_X10_mark rfl zy_X10_mark 0 (WB_0 A c u) rfl ⟨by omega, by decide⟩ rfl (Nat.le_of_ble_eq_true rfl) (st := []) (stk2 := fun z => [.int (zI z)]) rfl (fun _ => rfl) dL_law_744 (fun z1 u2 h1 => ?_)
  refine z_aload_n C 1 dL_law_747 rfl ?_
  refine z_aload_n C 3 dL_law_748 rfl ?_
  refine z_iload_n C 0 dL_law_749 rfl ?_
  refine z_iconst C dL_law_750 ?_
  refine z_iadd C dL_law_751 ?_
  refine z_sld C hX (by omega) (j := i + 1) (by omega) dL_law_752 ?_
  refine z_aload_n C 3 dL_law_753 rfl ?_
  refine z_iload_n C 0 dL_law_754 rfl ?_
  refine z_iconst C dL_law_755 ?_
  refine z_iadd C dL_law_756 ?_
  refine z_sld C hX (by omega) (j := i + 2) (by omega) dL_law_757 ?_
  refine z_lawr C hK hR hDD (c_X11_mark (zl x) (zG x) B c v (X (i + 1)) (X (i + 2)) h.im (hX.bd _) (hX.bd _)) gL_law_X11_mark rfl zy_X11_mark 0 (WM_0 B c v) rfl ⟨by omega, by decide⟩ rfl (Nat.le_of_ble_eq_true rfl) (st := [.int (zI z1)]) (stk2 := fun z => [.int (zI z), .int (zI z1)]) rfl (fun _ => rfl) dL_law_758 (fun z2 v2 h2 => ?_)
  obtain ⟨ez, hRR⟩ := la_mark h h1 h2
  exact z_eq_t C 849 dL_law_761 (by decide) ez (kk _ _ hRR)
set_option maxHeartbeats 4000000 in
set_option maxRecDepth 100000 in
theorem law_c26 {x : zT} {c : Nat → ClassId} {sa sv : Nat → Nat} {b L : Nat} {X : Int → Int} {A B : Nat → Nat} (C : Cx x cL_law 4 wsL_law RL 40) (hK : Kx x (zTy c)) (hE : Ex x sa sv) (hR : Rx x 82 50824) (hX : SXx x b L X) (hL : L ≤ 2048) (hDD : ∀ u v : zU, va_D (zA x) (WB A c u ++ WM B c v)) {u v : zU} {i : Int} (hi : 0 ≤ i ∧ i + 3 < (L : Int)) (h : RR u v) (kk : ∀ u v : zU, RR u v → Z x 82 50824 (WB A c u ++ WM B c v) [(3, .int (zI i)), (2, .ref (B 0)), (1, .ref (A 0)), (0, .ref b)] 849 []) : Z x 82 50824 (WB A c u ++ WM B c v) [(3, .int (zI i)), (2, .ref (B 0)), (1, .ref (A 0)), (0, .ref b)] 766 [] := by
  refine z_aload_n C 2 dL_law_766 rfl ?_
  refine z_aload_n C 3 dL_law_767 rfl ?_
  refine z_iload_n C 0 dL_law_768 rfl ?_
  refine z_iconst C dL_law_769 ?_
  refine z_iadd C dL_law_770 ?_
  refine z_sld C hX (by omega) (j := i + 1) (by omega) dL_law_771 ?_
  refine z_lawl C hK hR hDD (c_X10_keep (zl x) (zG x) A c u (X (i + 1)) (hX.bd _)) gL_law_X10_keep rfl zy_X10_keep 0 (WB_0 A c u) rfl ⟨by omega, by decide⟩ rfl (Nat.le_of_ble_eq_true rfl) (st := []) (stk2 := fun z => [.int (zI z)]) rfl (fun _ => rfl) dL_law_772 (fun z1 u2 h1 => ?_)
  refine z_aload_n C 1 dL_law_775 rfl ?_
  refine z_aload_n C 3 dL_law_776 rfl ?_
  refine z_iload_n C 0 dL_law_777 rfl ?_
  refine z_iconst C dL_law_778 ?_
  refine z_iadd C dL_law_779 ?_
  refine z_sld C hX (by omega) (j := i + 1) (by omega) dL_law_780 ?_
  refine z_lawr C hK hR hDD (c_X11_keep (zl x) (zG x) B c v (X (i + 1)) (hX.bd _)) gL_law_X11_keep rfl zy_X11_keep 0 (WM_0 B c v) rfl ⟨by omega, by decide⟩ rfl (Nat.le_of_ble_eq_true rfl) (st := [.int (zI z1)]) (stk2 := fun z => [.int (zI z), .int (zI z1)]) rfl (fun _ => rfl) dL_law_781 (fun z2 v2 h2 => ?_)
  obtain ⟨ez, hRR⟩ := la_keep h h1 h2
  exact z_eq_t C 849 dL_law_784 (by decide) ez (kk _ _ hRR)
set_option maxHeartbeats 4000000 in
set_option maxRecDepth 100000 in
theorem law_c27 {x : zT} {c : Nat → ClassId} {sa sv : Nat → Nat} {b L : Nat} {X : Int → Int} {A B : Nat → Nat} (C : Cx x cL_law 4 wsL_law RL 40) (hK : Kx x (zTy c)) (hE : Ex x sa sv) (hR : Rx x 82 50824) (hX : SXx x b L X) (hL : L ≤ 2048) (hDD : ∀ u v : zU, va_D (zA x) (WB A c u ++ WM B c v)) {u v : zU} {i : Int} (hi : 0 ≤ i ∧ i + 3 < (L : Int)) (h : RR u v) (kk : ∀ u v : zU, RR u v → Z x 82 50824 (WB A c u ++ WM B c v) [(3, .int (zI i)), (2, .ref (B 0)), (1, .ref (A 0)), (0, .ref b)] 849 []) : Z x 82 50824 (WB A c u ++ WM B c v) [(3, .int (zI i)), (2, .ref (B 0)), (1, .ref (A 0)), (0, .ref b)] 789 [] := by
  refine z_aload_n C 2 dL_law_789 rfl ?_
  refine z_aload_n C 3 dL_law_790 rfl ?_
  refine z_iload_n C 0 dL_law_791 rfl ?_
  refine z_iconst C dL_law_792 ?_
  refine z_iadd C dL_law_793 ?_
  refine z_sld C hX (by omega) (j := i + 1) (by omega) dL_law_794 ?_
  refine z_lawl C hK hR hDD (c_X10_back (zl x) (zG x) A c u (X (i + 1)) h.ib (hX.bd _)) gL_law_X10_back rfl zy_X10_back 0 (WB_0 A c u) rfl ⟨by omega, by decide⟩ rfl (Nat.le_of_ble_eq_true rfl) (st := []) (stk2 := fun z => [.int (zI z)]) rfl (fun _ => rfl) dL_law_795 (fun z1 u2 h1 => ?_)
  refine z_aload_n C 1 dL_law_798 rfl ?_
  refine z_aload_n C 3 dL_law_799 rfl ?_
  refine z_iload_n C 0 dL_law_800 rfl ?_
  refine z_iconst C dL_law_801 ?_
  refine z_iadd C dL_law_802 ?_
  refine z_sld C hX (by omega) (j := i + 1) (by omega) dL_law_803 ?_
  refine z_lawr C hK hR hDD (c_X11_back (zl x) (zG x) B c v (X (i + 1)) h.im (hX.bd _)) gL_law_X11_back rfl zy_X11_back 0 (WM_0 B c v) rfl ⟨by omega, by decide⟩ rfl (Nat.le_of_ble_eq_true rfl) (st := [.int (zI z1)]) (stk2 := fun z => [.int (zI z), .int (zI z1)]) rfl (fun _ => rfl) dL_law_804 (fun z2 v2 h2 => ?_)
  obtain ⟨ez, hRR⟩ := la_back h h1 h2
  exact z_eq_t C 849 dL_law_807 (by decide) ez (kk _ _ hRR)
set_option maxHeartbeats 4000000 in
set_option maxRecDepth 100000 in
theorem law_c28 {x : zT} {c : Nat → ClassId} {sa sv : Nat → Nat} {b L : Nat} {X : Int → Int} {A B : Nat → Nat} (C : Cx x cL_law 4 wsL_law RL 40) (hK : Kx x (zTy c)) (hE : Ex x sa sv) (hR : Rx x 82 50824) (hX : SXx x b L X) (hL : L ≤ 2048) (hDD : ∀ u v : zU, va_D (zA x) (WB A c u ++ WM B c v)) {u v : zU} {i : Int} (hi : 0 ≤ i ∧ i + 3 < (L : Int)) (h : RR u v) (kk : ∀ u v : zU, RR u v → Z x 82 50824 (WB A c u ++ WM B c v) [(3, .int (zI i)), (2, .ref (B 0)), (1, .ref (A 0)), (0, .ref b)] 849 []) : Z x 82 50824 (WB A c u ++ WM B c v) [(3, .int (zI i)), (2, .ref (B 0)), (1, .ref (A 0)), (0, .ref b)] 812 [] := by
  refine z_aload_n C 2 dL_law_812 rfl ?_
  refine z_aload_n C 3 dL_law_813 rfl ?_
  refine z_iload_n C 0 dL_law_814 rfl ?_
  refine z_iconst C dL_law_815 ?_
  refine z_iadd C dL_law_816 ?_
  refine z_sld C hX (by omega) (j := i + 1) (by omega) dL_law_817 ?_
  refine z_lawl C hK hR hDD (c_X10_count (zl x) (zG x) A c u (X (i + 1)) (hX.bd _)) gL_law_X10_count rfl zy_X10_count 0 (WB_0 A c u) rfl ⟨by omega, by decide⟩ rfl (Nat.le_of_ble_eq_true rfl) (st := []) (stk2 := fun z => [.int (zI z)]) rfl (fun _ => rfl) dL_law_818 (fun z1 u2 h1 => ?_)
  refine z_aload_n C 1 dL_law_821 rfl ?_
  refine z_aload_n C 3 dL_law_822 rfl ?_
  refine z_iload_n C 0 dL_law_823 rfl ?_
  refine z_iconst C dL_law_824 ?_
  refine z_iadd C dL_law_825 ?_
  refine z_sld C hX (by omega) (j := i + 1) (by omega) dL_law_826 ?_
  refine z_lawr C hK hR hDD (c_X11_count (zl x) (zG x) B c v (X (i + 1)) (hX.bd _)) gL_law_X11_count rfl zy_X11_count 0 (WM_0 B c v) rfl ⟨by omega, by decide⟩ rfl (Nat.le_of_ble_eq_true rfl) (st := [.int (zI z1)]) (stk2 := fun z => [.int (zI z), .int (zI z1)]) rfl (fun _ => rfl) dL_law_827 (fun z2 v2 h2 => ?_)
  obtain ⟨ez, hRR⟩ := la_count h h1 h2
  exact z_eq_t C 849 dL_law_830 (by decide) ez (kk _ _ hRR)
set_option maxHeartbeats 4000000 in
set_option maxRecDepth 100000 in
theorem law_c29 {x : zT} {c : Nat → ClassId} {sa sv : Nat → Nat} {b L : Nat} {X : Int → Int} {A B : Nat → Nat} (C : Cx x cL_law 4 wsL_law RL 40) (hK : Kx x (zTy c)) (hE : Ex x sa sv) (hR : Rx x 82 50824) (hX : SXx x b L X) (hL : L ≤ 2048) (hDD : ∀ u v : zU, va_D (zA x) (WB A c u ++ WM B c v)) {u v : zU} {i : Int} (hi : 0 ≤ i ∧ i + 3 < (L : Int)) (h : RR u v) (kk : ∀ u v : zU, RR u v → Z x 82 50824 (WB A c u ++ WM B c v) [(3, .int (zI i)), (2, .ref (B 0)), (1, .ref (A 0)), (0, .ref b)] 849 []) : Z x 82 50824 (WB A c u ++ WM B c v) [(3, .int (zI i)), (2, .ref (B 0)), (1, .ref (A 0)), (0, .ref b)] 835 [] := by
  refine z_aload_n C 2 dL_law_835 rfl ?_
  refine z_lawl C hK hR hDD (c_X10_trace (zl x) (zG x) A c u  ) gL_law_X10_trace rfl zy_X10_trace 0 (WB_0 A c u) rfl ⟨by omega, by decide⟩ rfl (Nat.le_of_ble_eq_true rfl) (st := []) (stk2 := fun z => [.long (zL z)]) rfl (fun _ => rfl) dL_law_836 (fun z1 u2 h1 => ?_)
  refine z_aload_n C 1 dL_law_839 rfl ?_
  refine z_lawr C hK hR hDD (c_X11_trace (zl x) (zG x) B c v  ) gL_law_X11_trace rfl zy_X11_trace 0 (WM_0 B c v) rfl ⟨by omega, by decide⟩ rfl (Nat.le_of_ble_eq_true rfl) (st := [.long (zL z1)]) (stk2 := fun z => [.long (zL z), .long (zL z1)]) rfl (fun _ => rfl) dL_law_840 (fun z2 v2 h2 => ?_)
  obtain ⟨ez, hRR⟩ := la_trace h h1 h2
  refine z_lcmp_t C dL_law_843 ez ?_
  exact z_if_eq C 849 dL_law_844 (by decide) (by omega) (fun _ => kk _ _ hRR) (fun q => absurd rfl q)
