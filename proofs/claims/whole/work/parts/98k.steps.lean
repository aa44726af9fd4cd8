/-! ===== the law's steps ===== -/
def lwI (m N C : Nat) (S : wo_S) (sh : mm_S) (d : mm_D) (g : mm_G) (r : mm_R) : Prop := shp sh ∧ sh.2.1 ≤ N ∧ sh.2.2.1 ≤ C ∧ rfx r ∧ okS m S ∧ repC d g r S ∧ repM d g S
theorem la0 (k : Nat) : nI k + 1 = nI (k + 1) := nI_pl k 1
theorem la2 (k : Nat) : nI k + 2 = nI (k + 2) := nI_pl k 2
theorem la3 (k : Nat) : nI k + 3 = nI (k + 3) := nI_pl k 3
theorem la4 (k : Nat) : nI k + 4 = nI (k + 4) := nI_pl k 4
theorem la5 (k : Nat) : nI k + 5 = nI (k + 5) := nI_pl k 5
theorem lw_c0 {xs : List Int32} {n : Nat} {Q : Option Value → mm_M → Prop} {i m N C : Nat} {S : wo_S} {sh : mm_S} {d : mm_D} {g : mm_G} {r : mm_R} (hl : (mm_ca xs mm_K).length < 2 ^ 31) (hi : i + 6 ≤ (mm_ca xs mm_K).length) (hm : m < 2 ^ 22) (hI : lwI m N C S sh d g r) (u5 u6 : Option Value) (hx : ∀ (sh2 : mm_S) (d2 : mm_D) (g2 : mm_G) (r2 : mm_R) (S2 : wo_S) (v5 v6 : Option Value), lwI (m + 240) (N + 1) (C + 6) S2 sh2 d2 g2 r2 → wp xs (lwX xs) (n + 70) 0 1450 [some (.ref mm_K), some (.ref 0), some (.ref 250), some (.ref 281), some (.int (nI i)), v5, v6] [] (sh2, d2, g2, r2) Q) : wp xs (lwX xs) (n + 70) 0 196 [some (.ref mm_K), some (.ref 0), some (.ref 250), some (.ref 281), some (.int (nI i)), u5, u6] [] (sh, d, g, r) Q := by
  obtain ⟨hsh, hN, hK, hr, hok, hC, hM⟩ := hI
  refine wp_aload_n (j := 1) rfl q0_ok d0_196 ?_
  refine wp_aload_n (j := 0) rfl q0_ok d0_197 ?_
  refine wp_iload (j := 4) rfl q0_ok d0_198 ?_
  refine wp_iconst (v := 1) (by decide) q0_ok d0_200 ?_
  refine wp_iadd (la0 i) q0_ok d0_201 ?_
  refine wp_ialdK q0_ok d0_202 (Nat.le_of_ble_eq_true rfl) (Nat.le_of_ble_eq_true rfl) (ixn_nI (j := i + 1) (by omega) hl) rfl ?_
  refine wp_aload_n (j := 0) rfl q0_ok d0_203 ?_
  refine wp_iload (j := 4) rfl q0_ok d0_204 ?_
  refine wp_iconst (v := 2) (by decide) q0_ok d0_206 ?_
  refine wp_iadd (la2 i) q0_ok d0_207 ?_
  refine wp_ialdK q0_ok d0_208 (Nat.le_of_ble_eq_true rfl) (Nat.le_of_ble_eq_true rfl) (ixn_nI (j := i + 2) (by omega) hl) rfl ?_
  refine wp_aload_n (j := 0) rfl q0_ok d0_209 ?_
  refine wp_iload (j := 4) rfl q0_ok d0_210 ?_
  refine wp_iconst (v := 3) (by decide) q0_ok d0_212 ?_
  refine wp_iadd (la3 i) q0_ok d0_213 ?_
  refine wp_ialdK q0_ok d0_214 (Nat.le_of_ble_eq_true rfl) (Nat.le_of_ble_eq_true rfl) (ixn_nI (j := i + 3) (by omega) hl) rfl ?_
  refine wp_aload_n (j := 0) rfl q0_ok d0_215 ?_
  refine wp_iload (j := 4) rfl q0_ok d0_216 ?_
  refine wp_iconst (v := 4) (by decide) q0_ok d0_218 ?_
  refine wp_iadd (la4 i) q0_ok d0_219 ?_
  refine wp_ialdK q0_ok d0_220 (Nat.le_of_ble_eq_true rfl) (Nat.le_of_ble_eq_true rfl) (ixn_nI (j := i + 4) (by omega) hl) rfl ?_
  refine wp_aload_n (j := 0) rfl q0_ok d0_221 ?_
  refine wp_iload (j := 4) rfl q0_ok d0_222 ?_
  refine wp_iconst (v := 5) (by decide) q0_ok d0_224 ?_
  refine wp_iadd (la5 i) q0_ok d0_225 ?_
  refine wp_ialdK q0_ok d0_226 (Nat.le_of_ble_eq_true rfl) (Nat.le_of_ble_eq_true rfl) (ixn_nI (j := i + 5) (by omega) hl) rfl ?_
  refine wp_cV q0_ok d0_227 ml_12_19 rfl q88_ok (u := 10) rfl (by first | assumption | exact so0 hsh rfl) rfl (Nat.le_of_ble_eq_true rfl) (Nat.le_of_ble_eq_true rfl) (k_feed (n := n + 68) hsh hr hok.1 hC _ _ _ _ _) (fun v227 μ227 hc => ?_)
  obtain ⟨rfl, d1, g1, r1, rfl, hr1, hC1, f1⟩ := hc
  refine ⟨mm_le_same rfl, ?_⟩
  have hM1 := repM_hi hM (fun c a b => ⟨(f1 c a).1, (f1 c a).2.1⟩)
  refine wp_aload_n (j := 2) rfl q0_ok d0_230 ?_
  refine wp_aload_n (j := 0) rfl q0_ok d0_231 ?_
  refine wp_iload (j := 4) rfl q0_ok d0_232 ?_
  refine wp_iconst (v := 1) (by decide) q0_ok d0_234 ?_
  refine wp_iadd (la0 i) q0_ok d0_235 ?_
  refine wp_ialdK q0_ok d0_236 (Nat.le_of_ble_eq_true rfl) (Nat.le_of_ble_eq_true rfl) (ixn_nI (j := i + 1) (by omega) hl) rfl ?_
  refine wp_aload_n (j := 0) rfl q0_ok d0_237 ?_
  refine wp_iload (j := 4) rfl q0_ok d0_238 ?_
  refine wp_iconst (v := 2) (by decide) q0_ok d0_240 ?_
  refine wp_iadd (la2 i) q0_ok d0_241 ?_
  refine wp_ialdK q0_ok d0_242 (Nat.le_of_ble_eq_true rfl) (Nat.le_of_ble_eq_true rfl) (ixn_nI (j := i + 2) (by omega) hl) rfl ?_
  refine wp_aload_n (j := 0) rfl q0_ok d0_243 ?_
  refine wp_iload (j := 4) rfl q0_ok d0_244 ?_
  refine wp_iconst (v := 3) (by decide) q0_ok d0_246 ?_
  refine wp_iadd (la3 i) q0_ok d0_247 ?_
  refine wp_ialdK q0_ok d0_248 (Nat.le_of_ble_eq_true rfl) (Nat.le_of_ble_eq_true rfl) (ixn_nI (j := i + 3) (by omega) hl) rfl ?_
  refine wp_aload_n (j := 0) rfl q0_ok d0_249 ?_
  refine wp_iload (j := 4) rfl q0_ok d0_250 ?_
  refine wp_iconst (v := 4) (by decide) q0_ok d0_252 ?_
  refine wp_iadd (la4 i) q0_ok d0_253 ?_
  refine wp_ialdK q0_ok d0_254 (Nat.le_of_ble_eq_true rfl) (Nat.le_of_ble_eq_true rfl) (ixn_nI (j := i + 4) (by omega) hl) rfl ?_
  refine wp_aload_n (j := 0) rfl q0_ok d0_255 ?_
  refine wp_iload (j := 4) rfl q0_ok d0_256 ?_
  refine wp_iconst (v := 5) (by decide) q0_ok d0_258 ?_
  refine wp_iadd (la5 i) q0_ok d0_259 ?_
  refine wp_ialdK q0_ok d0_260 (Nat.le_of_ble_eq_true rfl) (Nat.le_of_ble_eq_true rfl) (ixn_nI (j := i + 5) (by omega) hl) rfl ?_
  refine wp_cV q0_ok d0_261 ml_12_23 rfl q138_ok (u := 11) rfl (by first | assumption | exact so0 hsh rfl) rfl (Nat.le_of_ble_eq_true rfl) (Nat.le_of_ble_eq_true rfl) (j_feed (n := n + 68) hsh hr1 hok hm hM1 _ _ _ _ _) (fun v261 μ261 hc => ?_)
  obtain ⟨rfl, d2, g2, rfl, hM2, f2⟩ := hc
  refine ⟨mm_le_same rfl, ?_⟩
  refine wp_icmp_eq q0_ok d0_264 (t := 1450) rfl (fun h264 => ?_) (fun h264 => ?_)
  · exact hx sh d2 g2 r1 _ u5 u6 ⟨hsh, by omega, by omega, hr1, okS_up (okS_feed hok _ _ _ _ _) (by omega), repC_lo (okS_feed hok _ _ _ _ _).1 hC1 (fun c a => f2 c (Or.inl a)), hM2⟩
  · exact absurd rfl h264
theorem lw_c1 {xs : List Int32} {n : Nat} {Q : Option Value → mm_M → Prop} {i m N C : Nat} {S : wo_S} {sh : mm_S} {d : mm_D} {g : mm_G} {r : mm_R} (hl : (mm_ca xs mm_K).length < 2 ^ 31) (hi : i + 6 ≤ (mm_ca xs mm_K).length) (hm : m < 2 ^ 22) (hI : lwI m N C S sh d g r) (u5 u6 : Option Value) (hx : ∀ (sh2 : mm_S) (d2 : mm_D) (g2 : mm_G) (r2 : mm_R) (S2 : wo_S) (v5 v6 : Option Value), lwI (m + 240) (N + 1) (C + 6) S2 sh2 d2 g2 r2 → wp xs (lwX xs) (n + 70) 0 1450 [some (.ref mm_K), some (.ref 0), some (.ref 250), some (.ref 281), some (.int (nI i)), v5, v6] [] (sh2, d2, g2, r2) Q) : wp xs (lwX xs) (n + 70) 0 269 [some (.ref mm_K), some (.ref 0), some (.ref 250), some (.ref 281), some (.int (nI i)), u5, u6] [] (sh, d, g, r) Q := by
  obtain ⟨hsh, hN, hK, hr, hok, hC, hM⟩ := hI
  refine wp_aload_n (j := 1) rfl q0_ok d0_269 ?_
  refine wp_aload_n (j := 0) rfl q0_ok d0_270 ?_
  refine wp_iload (j := 4) rfl q0_ok d0_271 ?_
  refine wp_iconst (v := 1) (by decide) q0_ok d0_273 ?_
  refine wp_iadd (la0 i) q0_ok d0_274 ?_
  refine wp_ialdK q0_ok d0_275 (Nat.le_of_ble_eq_true rfl) (Nat.le_of_ble_eq_true rfl) (ixn_nI (j := i + 1) (by omega) hl) rfl ?_
  refine wp_cV q0_ok d0_276 ml_12_24 rfl q89_ok (u := 10) rfl (by first | assumption | exact so0 hsh rfl) rfl (Nat.le_of_ble_eq_true rfl) (Nat.le_of_ble_eq_true rfl) (k_end (n := n + 69) hsh hr hok.1 hC _) (fun v276 μ276 hc => ?_)
  obtain ⟨rfl, d1, g1, r1, rfl, hr1, hC1, f1⟩ := hc
  refine ⟨mm_le_same rfl, ?_⟩
  have hM1 := repM_hi hM (fun c a b => ⟨(f1 c a).1, (f1 c a).2.1⟩)
  refine wp_aload_n (j := 2) rfl q0_ok d0_279 ?_
  refine wp_aload_n (j := 0) rfl q0_ok d0_280 ?_
  refine wp_iload (j := 4) rfl q0_ok d0_281 ?_
  refine wp_iconst (v := 1) (by decide) q0_ok d0_283 ?_
  refine wp_iadd (la0 i) q0_ok d0_284 ?_
  refine wp_ialdK q0_ok d0_285 (Nat.le_of_ble_eq_true rfl) (Nat.le_of_ble_eq_true rfl) (ixn_nI (j := i + 1) (by omega) hl) rfl ?_
  refine wp_cV q0_ok d0_286 ml_12_28 rfl q139_ok (u := 11) rfl (by first | assumption | exact so0 hsh rfl) rfl (Nat.le_of_ble_eq_true rfl) (Nat.le_of_ble_eq_true rfl) (j_end (n := n + 69) hsh hr1 hok hm hM1 _) (fun v286 μ286 hc => ?_)
  obtain ⟨rfl, d2, g2, rfl, hM2, f2⟩ := hc
  refine ⟨mm_le_same rfl, ?_⟩
  refine wp_icmp_eq q0_ok d0_289 (t := 1450) rfl (fun h289 => ?_) (fun h289 => ?_)
  · exact hx sh d2 g2 r1 _ u5 u6 ⟨hsh, by omega, by omega, hr1, okS_up (okS_end hok _) (by omega), repC_lo (okS_end hok _).1 hC1 (fun c a => f2 c (Or.inl a)), hM2⟩
  · exact absurd rfl h289
theorem lw_c2 {xs : List Int32} {n : Nat} {Q : Option Value → mm_M → Prop} {i m N C : Nat} {S : wo_S} {sh : mm_S} {d : mm_D} {g : mm_G} {r : mm_R} (hl : (mm_ca xs mm_K).length < 2 ^ 31) (hi : i + 6 ≤ (mm_ca xs mm_K).length) (hm : m < 2 ^ 22) (hI : lwI m N C S sh d g r) (u5 u6 : Option Value) (hx : ∀ (sh2 : mm_S) (d2 : mm_D) (g2 : mm_G) (r2 : mm_R) (S2 : wo_S) (v5 v6 : Option Value), lwI (m + 240) (N + 1) (C + 6) S2 sh2 d2 g2 r2 → wp xs (lwX xs) (n + 70) 0 1450 [some (.ref mm_K), some (.ref 0), some (.ref 250), some (.ref 281), some (.int (nI i)), v5, v6] [] (sh2, d2, g2, r2) Q) : wp xs (lwX xs) (n + 70) 0 294 [some (.ref mm_K), some (.ref 0), some (.ref 250), some (.ref 281), some (.int (nI i)), u5, u6] [] (sh, d, g, r) Q := by
  obtain ⟨hsh, hN, hK, hr, hok, hC, hM⟩ := hI
  refine wp_aload_n (j := 1) rfl q0_ok d0_294 ?_
  refine wp_aload_n (j := 0) rfl q0_ok d0_295 ?_
  refine wp_iload (j := 4) rfl q0_ok d0_296 ?_
  refine wp_iconst (v := 1) (by decide) q0_ok d0_298 ?_
  refine wp_iadd (la0 i) q0_ok d0_299 ?_
  refine wp_ialdK q0_ok d0_300 (Nat.le_of_ble_eq_true rfl) (Nat.le_of_ble_eq_true rfl) (ixn_nI (j := i + 1) (by omega) hl) rfl ?_
  refine wp_cV q0_ok d0_301 ml_12_29 rfl q90_ok (u := 10) rfl (by first | assumption | exact so0 hsh rfl) rfl (Nat.le_of_ble_eq_true rfl) (Nat.le_of_ble_eq_true rfl) (k_fault (n := n + 7) hsh hr hok.1 hC _) (fun v301 μ301 hc => ?_)
  obtain ⟨rfl, d1, g1, r1, rfl, hr1, hC1, f1⟩ := hc
  refine ⟨mm_le_same rfl, ?_⟩
  have hM1 := repM_hi hM (fun c a b => ⟨(f1 c a).1, (f1 c a).2.1⟩)
  refine wp_aload_n (j := 2) rfl q0_ok d0_304 ?_
  refine wp_aload_n (j := 0) rfl q0_ok d0_305 ?_
  refine wp_iload (j := 4) rfl q0_ok d0_306 ?_
  refine wp_iconst (v := 1) (by decide) q0_ok d0_308 ?_
  refine wp_iadd (la0 i) q0_ok d0_309 ?_
  refine wp_ialdK q0_ok d0_310 (Nat.le_of_ble_eq_true rfl) (Nat.le_of_ble_eq_true rfl) (ixn_nI (j := i + 1) (by omega) hl) rfl ?_
  refine wp_cV q0_ok d0_311 ml_12_33 rfl q174_ok (u := 11) rfl (by first | assumption | exact so0 hsh rfl) rfl (Nat.le_of_ble_eq_true rfl) (Nat.le_of_ble_eq_true rfl) (j_fault (n := n + 32) hsh hr1 hok hm hM1 _) (fun v311 μ311 hc => ?_)
  obtain ⟨rfl, d2, g2, rfl, hM2, f2⟩ := hc
  refine ⟨mm_le_same rfl, ?_⟩
  refine wp_icmp_eq q0_ok d0_314 (t := 1450) rfl (fun h314 => ?_) (fun h314 => ?_)
  · exact hx sh d2 g2 r1 _ u5 u6 ⟨hsh, by omega, by omega, hr1, okS_up (hok) (by omega), repC_lo (hok).1 hC1 (fun c a => f2 c (Or.inl a)), hM2⟩
  · exact absurd rfl h314
theorem lw_c3 {xs : List Int32} {n : Nat} {Q : Option Value → mm_M → Prop} {i m N C : Nat} {S : wo_S} {sh : mm_S} {d : mm_D} {g : mm_G} {r : mm_R} (hl : (mm_ca xs mm_K).length < 2 ^ 31) (hi : i + 6 ≤ (mm_ca xs mm_K).length) (hm : m < 2 ^ 22) (hI : lwI m N C S sh d g r) (u5 u6 : Option Value) (hx : ∀ (sh2 : mm_S) (d2 : mm_D) (g2 : mm_G) (r2 : mm_R) (S2 : wo_S) (v5 v6 : Option Value), lwI (m + 240) (N + 1) (C + 6) S2 sh2 d2 g2 r2 → wp xs (lwX xs) (n + 70) 0 1450 [some (.ref mm_K), some (.ref 0), some (.ref 250), some (.ref 281), some (.int (nI i)), v5, v6] [] (sh2, d2, g2, r2) Q) : wp xs (lwX xs) (n + 70) 0 319 [some (.ref mm_K), some (.ref 0), some (.ref 250), some (.ref 281), some (.int (nI i)), u5, u6] [] (sh, d, g, r) Q := by
  obtain ⟨hsh, hN, hK, hr, hok, hC, hM⟩ := hI
  refine wp_aload_n (j := 1) rfl q0_ok d0_319 ?_
  refine wp_aload_n (j := 0) rfl q0_ok d0_320 ?_
  refine wp_iload (j := 4) rfl q0_ok d0_321 ?_
  refine wp_iconst (v := 1) (by decide) q0_ok d0_323 ?_
  refine wp_iadd (la0 i) q0_ok d0_324 ?_
  refine wp_ialdK q0_ok d0_325 (Nat.le_of_ble_eq_true rfl) (Nat.le_of_ble_eq_true rfl) (ixn_nI (j := i + 1) (by omega) hl) rfl ?_
  refine wp_cV q0_ok d0_326 ml_12_34 rfl q91_ok (u := 10) rfl (by first | assumption | exact so0 hsh rfl) rfl (Nat.le_of_ble_eq_true rfl) (Nat.le_of_ble_eq_true rfl) (k_text (n := n + 7) hsh hr hok.1 hC _) (fun v326 μ326 hc => ?_)
  obtain ⟨rfl, d1, g1, r1, rfl, hr1, hC1, f1⟩ := hc
  refine ⟨mm_le_same rfl, ?_⟩
  have hM1 := repM_hi hM (fun c a b => ⟨(f1 c a).1, (f1 c a).2.1⟩)
  refine wp_aload_n (j := 2) rfl q0_ok d0_329 ?_
  refine wp_aload_n (j := 0) rfl q0_ok d0_330 ?_
  refine wp_iload (j := 4) rfl q0_ok d0_331 ?_
  refine wp_iconst (v := 1) (by decide) q0_ok d0_333 ?_
  refine wp_iadd (la0 i) q0_ok d0_334 ?_
  refine wp_ialdK q0_ok d0_335 (Nat.le_of_ble_eq_true rfl) (Nat.le_of_ble_eq_true rfl) (ixn_nI (j := i + 1) (by omega) hl) rfl ?_
  refine wp_cV q0_ok d0_336 ml_12_37 rfl q176_ok (u := 11) rfl (by first | assumption | exact so0 hsh rfl) rfl (Nat.le_of_ble_eq_true rfl) (Nat.le_of_ble_eq_true rfl) (j_text (n := n + 32) hsh hr1 hok hm hM1 _) (fun v336 μ336 hc => ?_)
  obtain ⟨rfl, d2, g2, rfl, hM2, f2⟩ := hc
  refine ⟨mm_le_same rfl, ?_⟩
  refine wp_icmp_eq q0_ok d0_339 (t := 1450) rfl (fun h339 => ?_) (fun h339 => ?_)
  · exact hx sh d2 g2 r1 _ u5 u6 ⟨hsh, by omega, by omega, hr1, okS_up (okS_text hok _) (by omega), repC_lo (okS_text hok _).1 hC1 (fun c a => f2 c (Or.inl a)), hM2⟩
  · exact absurd rfl h339
theorem lw_c5 {xs : List Int32} {n : Nat} {Q : Option Value → mm_M → Prop} {i m N C : Nat} {S : wo_S} {sh : mm_S} {d : mm_D} {g : mm_G} {r : mm_R} (hl : (mm_ca xs mm_K).length < 2 ^ 31) (hi : i + 6 ≤ (mm_ca xs mm_K).length) (hm : m < 2 ^ 22) (hI : lwI m N C S sh d g r) (u5 u6 : Option Value) (hx : ∀ (sh2 : mm_S) (d2 : mm_D) (g2 : mm_G) (r2 : mm_R) (S2 : wo_S) (v5 v6 : Option Value), lwI (m + 240) (N + 1) (C + 6) S2 sh2 d2 g2 r2 → wp xs (lwX xs) (n + 70) 0 1450 [some (.ref mm_K), some (.ref 0), some (.ref 250), some (.ref 281), some (.int (nI i)), v5, v6] [] (sh2, d2, g2, r2) Q) : wp xs (lwX xs) (n + 70) 0 412 [some (.ref mm_K), some (.ref 0), some (.ref 250), some (.ref 281), some (.int (nI i)), u5, u6] [] (sh, d, g, r) Q := by
  obtain ⟨hsh, hN, hK, hr, hok, hC, hM⟩ := hI
  refine wp_aload_n (j := 1) rfl q0_ok d0_412 ?_
  refine wp_aload_n (j := 0) rfl q0_ok d0_413 ?_
  refine wp_iload (j := 4) rfl q0_ok d0_414 ?_
  refine wp_iconst (v := 1) (by decide) q0_ok d0_416 ?_
  refine wp_iadd (la0 i) q0_ok d0_417 ?_
  refine wp_ialdK q0_ok d0_418 (Nat.le_of_ble_eq_true rfl) (Nat.le_of_ble_eq_true rfl) (ixn_nI (j := i + 1) (by omega) hl) rfl ?_
  refine wp_aload_n (j := 0) rfl q0_ok d0_419 ?_
  refine wp_iload (j := 4) rfl q0_ok d0_420 ?_
  refine wp_iconst (v := 2) (by decide) q0_ok d0_422 ?_
  refine wp_iadd (la2 i) q0_ok d0_423 ?_
  refine wp_ialdK q0_ok d0_424 (Nat.le_of_ble_eq_true rfl) (Nat.le_of_ble_eq_true rfl) (ixn_nI (j := i + 2) (by omega) hl) rfl ?_
  refine wp_cV q0_ok d0_425 ml_12_48 rfl q95_ok (u := 10) rfl (by first | assumption | exact so0 hsh rfl) rfl (Nat.le_of_ble_eq_true rfl) (Nat.le_of_ble_eq_true rfl) (k_bell (n := n + 68) hsh hr hok.1 hC _ _) (fun v425 μ425 hc => ?_)
  obtain ⟨rfl, d1, g1, r1, rfl, hr1, hC1, f1⟩ := hc
  refine ⟨mm_le_same rfl, ?_⟩
  have hM1 := repM_hi hM (fun c a b => ⟨(f1 c a).1, (f1 c a).2.1⟩)
  refine wp_aload_n (j := 2) rfl q0_ok d0_428 ?_
  refine wp_aload_n (j := 0) rfl q0_ok d0_429 ?_
  refine wp_iload (j := 4) rfl q0_ok d0_430 ?_
  refine wp_iconst (v := 1) (by decide) q0_ok d0_432 ?_
  refine wp_iadd (la0 i) q0_ok d0_433 ?_
  refine wp_ialdK q0_ok d0_434 (Nat.le_of_ble_eq_true rfl) (Nat.le_of_ble_eq_true rfl) (ixn_nI (j := i + 1) (by omega) hl) rfl ?_
  refine wp_aload_n (j := 0) rfl q0_ok d0_435 ?_
  refine wp_iload (j := 4) rfl q0_ok d0_436 ?_
  refine wp_iconst (v := 2) (by decide) q0_ok d0_438 ?_
  refine wp_iadd (la2 i) q0_ok d0_439 ?_
  refine wp_ialdK q0_ok d0_440 (Nat.le_of_ble_eq_true rfl) (Nat.le_of_ble_eq_true rfl) (ixn_nI (j := i + 2) (by omega) hl) rfl ?_
  refine wp_cV q0_ok d0_441 ml_12_51 rfl q186_ok (u := 11) rfl (by first | assumption | exact so0 hsh rfl) rfl (Nat.le_of_ble_eq_true rfl) (Nat.le_of_ble_eq_true rfl) (j_bell (n := n + 67) hsh hr1 hok hm hM1 _ _) (fun v441 μ441 hc => ?_)
  obtain ⟨rfl, d2, g2, rfl, hM2, f2⟩ := hc
  refine ⟨mm_le_same rfl, ?_⟩
  refine wp_icmp_eq q0_ok d0_444 (t := 1450) rfl (fun h444 => ?_) (fun h444 => ?_)
  · exact hx sh d2 g2 r1 _ u5 u6 ⟨hsh, by omega, by omega, hr1, okS_up (hok) (by omega), repC_lo (hok).1 hC1 (fun c a => f2 c (Or.inl a)), hM2⟩
  · exact absurd rfl h444
theorem lw_c6 {xs : List Int32} {n : Nat} {Q : Option Value → mm_M → Prop} {i m N C : Nat} {S : wo_S} {sh : mm_S} {d : mm_D} {g : mm_G} {r : mm_R} (hl : (mm_ca xs mm_K).length < 2 ^ 31) (hi : i + 6 ≤ (mm_ca xs mm_K).length) (hm : m < 2 ^ 22) (hI : lwI m N C S sh d g r) (u5 u6 : Option Value) (hx : ∀ (sh2 : mm_S) (d2 : mm_D) (g2 : mm_G) (r2 : mm_R) (S2 : wo_S) (v5 v6 : Option Value), lwI (m + 240) (N + 1) (C + 6) S2 sh2 d2 g2 r2 → wp xs (lwX xs) (n + 70) 0 1450 [some (.ref mm_K), some (.ref 0), some (.ref 250), some (.ref 281), some (.int (nI i)), v5, v6] [] (sh2, d2, g2, r2) Q) : wp xs (lwX xs) (n + 70) 0 449 [some (.ref mm_K), some (.ref 0), some (.ref 250), some (.ref 281), some (.int (nI i)), u5, u6] [] (sh, d, g, r) Q := by
  obtain ⟨hsh, hN, hK, hr, hok, hC, hM⟩ := hI
  refine wp_aload_n (j := 1) rfl q0_ok d0_449 ?_
  refine wp_aload_n (j := 0) rfl q0_ok d0_450 ?_
  refine wp_iload (j := 4) rfl q0_ok d0_451 ?_
  refine wp_iconst (v := 1) (by decide) q0_ok d0_453 ?_
  refine wp_iadd (la0 i) q0_ok d0_454 ?_
  refine wp_ialdK q0_ok d0_455 (Nat.le_of_ble_eq_true rfl) (Nat.le_of_ble_eq_true rfl) (ixn_nI (j := i + 1) (by omega) hl) rfl ?_
  refine wp_cV q0_ok d0_456 ml_12_52 rfl q96_ok (u := 10) rfl (by first | assumption | exact so0 hsh rfl) rfl (Nat.le_of_ble_eq_true rfl) (Nat.le_of_ble_eq_true rfl) (k_fog (n := n + 66) hsh hr hok.1 hC _) (fun v456 μ456 hc => ?_)
  obtain ⟨rfl, d1, g1, r1, rfl, hr1, hC1, f1⟩ := hc
  refine ⟨mm_le_same rfl, ?_⟩
  have hM1 := repM_hi hM (fun c a b => ⟨(f1 c a).1, (f1 c a).2.1⟩)
  refine wp_aload_n (j := 2) rfl q0_ok d0_459 ?_
  refine wp_aload_n (j := 0) rfl q0_ok d0_460 ?_
  refine wp_iload (j := 4) rfl q0_ok d0_461 ?_
  refine wp_iconst (v := 1) (by decide) q0_ok d0_463 ?_
  refine wp_iadd (la0 i) q0_ok d0_464 ?_
  refine wp_ialdK q0_ok d0_465 (Nat.le_of_ble_eq_true rfl) (Nat.le_of_ble_eq_true rfl) (ixn_nI (j := i + 1) (by omega) hl) rfl ?_
  refine wp_cV q0_ok d0_466 ml_12_55 rfl q187_ok (u := 11) rfl (by first | assumption | exact so0 hsh rfl) rfl (Nat.le_of_ble_eq_true rfl) (Nat.le_of_ble_eq_true rfl) (j_fog (n := n + 66) hsh hr1 hok hm hM1 _) (fun v466 μ466 hc => ?_)
  obtain ⟨rfl, d2, g2, rfl, hM2, f2⟩ := hc
  refine ⟨mm_le_same rfl, ?_⟩
  refine wp_icmp_eq q0_ok d0_469 (t := 1450) rfl (fun h469 => ?_) (fun h469 => ?_)
  · exact hx sh d2 g2 r1 _ u5 u6 ⟨hsh, by omega, by omega, hr1, okS_up (hok) (by omega), repC_lo (hok).1 hC1 (fun c a => f2 c (Or.inl a)), hM2⟩
  · exact absurd rfl h469
theorem lw_c7 {xs : List Int32} {n : Nat} {Q : Option Value → mm_M → Prop} {i m N C : Nat} {S : wo_S} {sh : mm_S} {d : mm_D} {g : mm_G} {r : mm_R} (hl : (mm_ca xs mm_K).length < 2 ^ 31) (hi : i + 6 ≤ (mm_ca xs mm_K).length) (hm : m < 2 ^ 22) (hI : lwI m N C S sh d g r) (u5 u6 : Option Value) (hx : ∀ (sh2 : mm_S) (d2 : mm_D) (g2 : mm_G) (r2 : mm_R) (S2 : wo_S) (v5 v6 : Option Value), lwI (m + 240) (N + 1) (C + 6) S2 sh2 d2 g2 r2 → wp xs (lwX xs) (n + 70) 0 1450 [some (.ref mm_K), some (.ref 0), some (.ref 250), some (.ref 281), some (.int (nI i)), v5, v6] [] (sh2, d2, g2, r2) Q) : wp xs (lwX xs) (n + 70) 0 474 [some (.ref mm_K), some (.ref 0), some (.ref 250), some (.ref 281), some (.int (nI i)), u5, u6] [] (sh, d, g, r) Q := by
  obtain ⟨hsh, hN, hK, hr, hok, hC, hM⟩ := hI
  refine wp_aload_n (j := 1) rfl q0_ok d0_474 ?_
  refine wp_aload_n (j := 0) rfl q0_ok d0_475 ?_
  refine wp_iload (j := 4) rfl q0_ok d0_476 ?_
  refine wp_iconst (v := 1) (by decide) q0_ok d0_478 ?_
  refine wp_iadd (la0 i) q0_ok d0_479 ?_
  refine wp_ialdK q0_ok d0_480 (Nat.le_of_ble_eq_true rfl) (Nat.le_of_ble_eq_true rfl) (ixn_nI (j := i + 1) (by omega) hl) rfl ?_
  refine wp_aload_n (j := 0) rfl q0_ok d0_481 ?_
  refine wp_iload (j := 4) rfl q0_ok d0_482 ?_
  refine wp_iconst (v := 2) (by decide) q0_ok d0_484 ?_
  refine wp_iadd (la2 i) q0_ok d0_485 ?_
  refine wp_ialdK q0_ok d0_486 (Nat.le_of_ble_eq_true rfl) (Nat.le_of_ble_eq_true rfl) (ixn_nI (j := i + 2) (by omega) hl) rfl ?_
  refine wp_aload_n (j := 0) rfl q0_ok d0_487 ?_
  refine wp_iload (j := 4) rfl q0_ok d0_488 ?_
  refine wp_iconst (v := 3) (by decide) q0_ok d0_490 ?_
  refine wp_iadd (la3 i) q0_ok d0_491 ?_
  refine wp_ialdK q0_ok d0_492 (Nat.le_of_ble_eq_true rfl) (Nat.le_of_ble_eq_true rfl) (ixn_nI (j := i + 3) (by omega) hl) rfl ?_
  refine wp_cV q0_ok d0_493 ml_12_56 rfl q97_ok (u := 10) rfl (by first | assumption | exact so0 hsh rfl) rfl (Nat.le_of_ble_eq_true rfl) (Nat.le_of_ble_eq_true rfl) (k_set (n := n + 68) hsh hr hok.1 hC _ _ _) (fun v493 μ493 hc => ?_)
  obtain ⟨rfl, d1, g1, r1, rfl, hr1, hC1, f1⟩ := hc
  refine ⟨mm_le_same rfl, ?_⟩
  have hM1 := repM_hi hM (fun c a b => ⟨(f1 c a).1, (f1 c a).2.1⟩)
  refine wp_aload_n (j := 2) rfl q0_ok d0_496 ?_
  refine wp_aload_n (j := 0) rfl q0_ok d0_497 ?_
  refine wp_iload (j := 4) rfl q0_ok d0_498 ?_
  refine wp_iconst (v := 1) (by decide) q0_ok d0_500 ?_
  refine wp_iadd (la0 i) q0_ok d0_501 ?_
  refine wp_ialdK q0_ok d0_502 (Nat.le_of_ble_eq_true rfl) (Nat.le_of_ble_eq_true rfl) (ixn_nI (j := i + 1) (by omega) hl) rfl ?_
  refine wp_aload_n (j := 0) rfl q0_ok d0_503 ?_
  refine wp_iload (j := 4) rfl q0_ok d0_504 ?_
  refine wp_iconst (v := 2) (by decide) q0_ok d0_506 ?_
  refine wp_iadd (la2 i) q0_ok d0_507 ?_
  refine wp_ialdK q0_ok d0_508 (Nat.le_of_ble_eq_true rfl) (Nat.le_of_ble_eq_true rfl) (ixn_nI (j := i + 2) (by omega) hl) rfl ?_
  refine wp_aload_n (j := 0) rfl q0_ok d0_509 ?_
  refine wp_iload (j := 4) rfl q0_ok d0_510 ?_
  refine wp_iconst (v := 3) (by decide) q0_ok d0_512 ?_
  refine wp_iadd (la3 i) q0_ok d0_513 ?_
  refine wp_ialdK q0_ok d0_514 (Nat.le_of_ble_eq_true rfl) (Nat.le_of_ble_eq_true rfl) (ixn_nI (j := i + 3) (by omega) hl) rfl ?_
  refine wp_cV q0_ok d0_515 ml_12_60 rfl q188_ok (u := 11) rfl (by first | assumption | exact so0 hsh rfl) rfl (Nat.le_of_ble_eq_true rfl) (Nat.le_of_ble_eq_true rfl) (j_set (n := n + 67) hsh hr1 hok hm hM1 _ _ _) (fun v515 μ515 hc => ?_)
  obtain ⟨rfl, d2, g2, rfl, hM2, f2⟩ := hc
  refine ⟨mm_le_same rfl, ?_⟩
  refine wp_icmp_eq q0_ok d0_518 (t := 1450) rfl (fun h518 => ?_) (fun h518 => ?_)
  · exact hx sh d2 g2 r1 _ u5 u6 ⟨hsh, by omega, by omega, hr1, okS_up (okS_set hok _ _ _) (by omega), repC_lo (okS_set hok _ _ _).1 hC1 (fun c a => f2 c (Or.inl a)), hM2⟩
  · exact absurd rfl h518
theorem lw_c8 {xs : List Int32} {n : Nat} {Q : Option Value → mm_M → Prop} {i m N C : Nat} {S : wo_S} {sh : mm_S} {d : mm_D} {g : mm_G} {r : mm_R} (hl : (mm_ca xs mm_K).length < 2 ^ 31) (hi : i + 6 ≤ (mm_ca xs mm_K).length) (hm : m < 2 ^ 22) (hI : lwI m N C S sh d g r) (u5 u6 : Option Value) (hx : ∀ (sh2 : mm_S) (d2 : mm_D) (g2 : mm_G) (r2 : mm_R) (S2 : wo_S) (v5 v6 : Option Value), lwI (m + 240) (N + 1) (C + 6) S2 sh2 d2 g2 r2 → wp xs (lwX xs) (n + 70) 0 1450 [some (.ref mm_K), some (.ref 0), some (.ref 250), some (.ref 281), some (.int (nI i)), v5, v6] [] (sh2, d2, g2, r2) Q) : wp xs (lwX xs) (n + 70) 0 523 [some (.ref mm_K), some (.ref 0), some (.ref 250), some (.ref 281), some (.int (nI i)), u5, u6] [] (sh, d, g, r) Q := by
  obtain ⟨hsh, hN, hK, hr, hok, hC, hM⟩ := hI
  refine wp_aload_n (j := 1) rfl q0_ok d0_523 ?_
  refine wp_aload_n (j := 0) rfl q0_ok d0_524 ?_
  refine wp_iload (j := 4) rfl q0_ok d0_525 ?_
  refine wp_iconst (v := 1) (by decide) q0_ok d0_527 ?_
  refine wp_iadd (la0 i) q0_ok d0_528 ?_
  refine wp_ialdK q0_ok d0_529 (Nat.le_of_ble_eq_true rfl) (Nat.le_of_ble_eq_true rfl) (ixn_nI (j := i + 1) (by omega) hl) rfl ?_
  refine wp_cV q0_ok d0_530 ml_12_61 rfl q99_ok (u := 10) rfl (by first | assumption | exact so0 hsh rfl) rfl (Nat.le_of_ble_eq_true rfl) (Nat.le_of_ble_eq_true rfl) (k_risk (n := n + 69) hsh hr hok.1 hC _) (fun v530 μ530 hc => ?_)
  obtain ⟨rfl, d1, g1, r1, rfl, hr1, hC1, f1⟩ := hc
  refine ⟨mm_le_same rfl, ?_⟩
  have hM1 := repM_hi hM (fun c a b => ⟨(f1 c a).1, (f1 c a).2.1⟩)
  refine wp_aload_n (j := 2) rfl q0_ok d0_533 ?_
  refine wp_aload_n (j := 0) rfl q0_ok d0_534 ?_
  refine wp_iload (j := 4) rfl q0_ok d0_535 ?_
  refine wp_iconst (v := 1) (by decide) q0_ok d0_537 ?_
  refine wp_iadd (la0 i) q0_ok d0_538 ?_
  refine wp_ialdK q0_ok d0_539 (Nat.le_of_ble_eq_true rfl) (Nat.le_of_ble_eq_true rfl) (ixn_nI (j := i + 1) (by omega) hl) rfl ?_
  refine wp_cV q0_ok d0_540 ml_12_64 rfl q189_ok (u := 11) rfl (by first | assumption | exact so0 hsh rfl) rfl (Nat.le_of_ble_eq_true rfl) (Nat.le_of_ble_eq_true rfl) (j_risk (n := n + 68) hsh hr1 hok hm hM1 _) (fun v540 μ540 hc => ?_)
  obtain ⟨rfl, d2, g2, rfl, hM2, f2⟩ := hc
  refine ⟨mm_le_same rfl, ?_⟩
  refine wp_icmp_eq q0_ok d0_543 (t := 1450) rfl (fun h543 => ?_) (fun h543 => ?_)
  · exact hx sh d2 g2 r1 _ u5 u6 ⟨hsh, by omega, by omega, hr1, okS_up (okS_risk hok) (by omega), repC_lo (okS_risk hok).1 hC1 (fun c a => f2 c (Or.inl a)), hM2⟩
  · exact absurd rfl h543
theorem lw_c9 {xs : List Int32} {n : Nat} {Q : Option Value → mm_M → Prop} {i m N C : Nat} {S : wo_S} {sh : mm_S} {d : mm_D} {g : mm_G} {r : mm_R} (hl : (mm_ca xs mm_K).length < 2 ^ 31) (hi : i + 6 ≤ (mm_ca xs mm_K).length) (hm : m < 2 ^ 22) (hI : lwI m N C S sh d g r) (u5 u6 : Option Value) (hx : ∀ (sh2 : mm_S) (d2 : mm_D) (g2 : mm_G) (r2 : mm_R) (S2 : wo_S) (v5 v6 : Option Value), lwI (m + 240) (N + 1) (C + 6) S2 sh2 d2 g2 r2 → wp xs (lwX xs) (n + 70) 0 1450 [some (.ref mm_K), some (.ref 0), some (.ref 250), some (.ref 281), some (.int (nI i)), v5, v6] [] (sh2, d2, g2, r2) Q) : wp xs (lwX xs) (n + 70) 0 548 [some (.ref mm_K), some (.ref 0), some (.ref 250), some (.ref 281), some (.int (nI i)), u5, u6] [] (sh, d, g, r) Q := by
  obtain ⟨hsh, hN, hK, hr, hok, hC, hM⟩ := hI
  refine wp_aload_n (j := 1) rfl q0_ok d0_548 ?_
  refine wp_aload_n (j := 0) rfl q0_ok d0_549 ?_
  refine wp_iload (j := 4) rfl q0_ok d0_550 ?_
  refine wp_iconst (v := 1) (by decide) q0_ok d0_552 ?_
  refine wp_iadd (la0 i) q0_ok d0_553 ?_
  refine wp_ialdK q0_ok d0_554 (Nat.le_of_ble_eq_true rfl) (Nat.le_of_ble_eq_true rfl) (ixn_nI (j := i + 1) (by omega) hl) rfl ?_
  refine wp_i2l rfl q0_ok d0_555 ?_
  refine wp_bipush (v := 32) (by decide) q0_ok d0_556 ?_
  refine wp_lshl rfl q0_ok d0_558 ?_
  refine wp_aload_n (j := 0) rfl q0_ok d0_559 ?_
  refine wp_iload (j := 4) rfl q0_ok d0_560 ?_
  refine wp_iconst (v := 2) (by decide) q0_ok d0_562 ?_
  refine wp_iadd (la2 i) q0_ok d0_563 ?_
  refine wp_ialdK q0_ok d0_564 (Nat.le_of_ble_eq_true rfl) (Nat.le_of_ble_eq_true rfl) (ixn_nI (j := i + 2) (by omega) hl) rfl ?_
  refine wp_i2l rfl q0_ok d0_565 ?_
  refine wp_ldc2 kl_12_65 q0_ok d0_566 ?_
  refine wp_land rfl q0_ok d0_569 ?_
  refine wp_lor rfl q0_ok d0_570 ?_
  refine wp_cV q0_ok d0_571 ml_12_67 rfl q100_ok (u := 10) rfl (by first | assumption | exact so0 hsh rfl) rfl (Nat.le_of_ble_eq_true rfl) (Nat.le_of_ble_eq_true rfl) (k_seed (n := n + 69) hsh hr hok.1 hC _) (fun v571 μ571 hc => ?_)
  obtain ⟨rfl, d1, g1, r1, rfl, hr1, hC1, f1⟩ := hc
  refine ⟨mm_le_same rfl, ?_⟩
  have hM1 := repM_hi hM (fun c a b => ⟨(f1 c a).1, (f1 c a).2.1⟩)
  refine wp_aload_n (j := 2) rfl q0_ok d0_574 ?_
  refine wp_aload_n (j := 0) rfl q0_ok d0_575 ?_
  refine wp_iload (j := 4) rfl q0_ok d0_576 ?_
  refine wp_iconst (v := 1) (by decide) q0_ok d0_578 ?_
  refine wp_iadd (la0 i) q0_ok d0_579 ?_
  refine wp_ialdK q0_ok d0_580 (Nat.le_of_ble_eq_true rfl) (Nat.le_of_ble_eq_true rfl) (ixn_nI (j := i + 1) (by omega) hl) rfl ?_
  refine wp_i2l rfl q0_ok d0_581 ?_
  refine wp_bipush (v := 32) (by decide) q0_ok d0_582 ?_
  refine wp_lshl rfl q0_ok d0_584 ?_
  refine wp_aload_n (j := 0) rfl q0_ok d0_585 ?_
  refine wp_iload (j := 4) rfl q0_ok d0_586 ?_
  refine wp_iconst (v := 2) (by decide) q0_ok d0_588 ?_
  refine wp_iadd (la2 i) q0_ok d0_589 ?_
  refine wp_ialdK q0_ok d0_590 (Nat.le_of_ble_eq_true rfl) (Nat.le_of_ble_eq_true rfl) (ixn_nI (j := i + 2) (by omega) hl) rfl ?_
  refine wp_i2l rfl q0_ok d0_591 ?_
  refine wp_ldc2 kl_12_65 q0_ok d0_592 ?_
  refine wp_land rfl q0_ok d0_595 ?_
  refine wp_lor rfl q0_ok d0_596 ?_
  refine wp_cV q0_ok d0_597 ml_12_71 rfl q190_ok (u := 11) rfl (by first | assumption | exact so0 hsh rfl) rfl (Nat.le_of_ble_eq_true rfl) (Nat.le_of_ble_eq_true rfl) (j_seed (n := n + 69) hsh hr1 hok hm hM1 _) (fun v597 μ597 hc => ?_)
  obtain ⟨rfl, d2, g2, rfl, hM2, f2⟩ := hc
  refine ⟨mm_le_same rfl, ?_⟩
  refine wp_icmp_eq q0_ok d0_600 (t := 1450) rfl (fun h600 => ?_) (fun h600 => ?_)
  · exact hx sh d2 g2 r1 _ u5 u6 ⟨hsh, by omega, by omega, hr1, okS_up (okS_seed hok _) (by omega), repC_lo (okS_seed hok _).1 hC1 (fun c a => f2 c (Or.inl a)), hM2⟩
  · exact absurd rfl h600
theorem lw_c10 {xs : List Int32} {n : Nat} {Q : Option Value → mm_M → Prop} {i m N C : Nat} {S : wo_S} {sh : mm_S} {d : mm_D} {g : mm_G} {r : mm_R} (hl : (mm_ca xs mm_K).length < 2 ^ 31) (hi : i + 6 ≤ (mm_ca xs mm_K).length) (hm : m < 2 ^ 22) (hI : lwI m N C S sh d g r) (u5 u6 : Option Value) (hx : ∀ (sh2 : mm_S) (d2 : mm_D) (g2 : mm_G) (r2 : mm_R) (S2 : wo_S) (v5 v6 : Option Value), lwI (m + 240) (N + 1) (C + 6) S2 sh2 d2 g2 r2 → wp xs (lwX xs) (n + 70) 0 1450 [some (.ref mm_K), some (.ref 0), some (.ref 250), some (.ref 281), some (.int (nI i)), v5, v6] [] (sh2, d2, g2, r2) Q) : wp xs (lwX xs) (n + 70) 0 605 [some (.ref mm_K), some (.ref 0), some (.ref 250), some (.ref 281), some (.int (nI i)), u5, u6] [] (sh, d, g, r) Q := by
  obtain ⟨hsh, hN, hK, hr, hok, hC, hM⟩ := hI
  refine wp_aload_n (j := 1) rfl q0_ok d0_605 ?_
  refine wp_aload_n (j := 0) rfl q0_ok d0_606 ?_
  refine wp_iload (j := 4) rfl q0_ok d0_607 ?_
  refine wp_iconst (v := 1) (by decide) q0_ok d0_609 ?_
  refine wp_iadd (la0 i) q0_ok d0_610 ?_
  refine wp_ialdK q0_ok d0_611 (Nat.le_of_ble_eq_true rfl) (Nat.le_of_ble_eq_true rfl) (ixn_nI (j := i + 1) (by omega) hl) rfl ?_
  refine wp_cV q0_ok d0_612 ml_12_72 rfl q101_ok (u := 10) rfl (by first | assumption | exact so0 hsh rfl) rfl (Nat.le_of_ble_eq_true rfl) (Nat.le_of_ble_eq_true rfl) (k_go (n := n + 62) hsh hr hok.1 hC _) (fun v612 μ612 hc => ?_)
  obtain ⟨rfl, d1, g1, r1, rfl, hr1, hC1, f1⟩ := hc
  refine ⟨mm_le_same rfl, ?_⟩
  have hM1 := repM_hi hM (fun c a b => ⟨(f1 c a).1, (f1 c a).2.1⟩)
  refine wp_aload_n (j := 2) rfl q0_ok d0_615 ?_
  refine wp_aload_n (j := 0) rfl q0_ok d0_616 ?_
  refine wp_iload (j := 4) rfl q0_ok d0_617 ?_
  refine wp_iconst (v := 1) (by decide) q0_ok d0_619 ?_
  refine wp_iadd (la0 i) q0_ok d0_620 ?_
  refine wp_ialdK q0_ok d0_621 (Nat.le_of_ble_eq_true rfl) (Nat.le_of_ble_eq_true rfl) (ixn_nI (j := i + 1) (by omega) hl) rfl ?_
  refine wp_cV q0_ok d0_622 ml_12_75 rfl q193_ok (u := 11) rfl (by first | assumption | exact so0 hsh rfl) rfl (Nat.le_of_ble_eq_true rfl) (Nat.le_of_ble_eq_true rfl) (j_go (n := n + 60) hsh hr1 hok hm hM1 _) (fun v622 μ622 hc => ?_)
  obtain ⟨rfl, d2, g2, rfl, hM2, f2⟩ := hc
  refine ⟨mm_le_same rfl, ?_⟩
  refine wp_icmp_eq q0_ok d0_625 (t := 1450) rfl (fun h625 => ?_) (fun h625 => ?_)
  · exact hx sh d2 g2 r1 _ u5 u6 ⟨hsh, by omega, by omega, hr1, okS_go hok hm _, repC_lo (okS_go hok hm _).1 hC1 (fun c a => f2 c (Or.inl a)), hM2⟩
  · exact absurd rfl h625
theorem lw_c11 {xs : List Int32} {n : Nat} {Q : Option Value → mm_M → Prop} {i m N C : Nat} {S : wo_S} {sh : mm_S} {d : mm_D} {g : mm_G} {r : mm_R} (hl : (mm_ca xs mm_K).length < 2 ^ 31) (hi : i + 6 ≤ (mm_ca xs mm_K).length) (hm : m < 2 ^ 22) (hI : lwI m N C S sh d g r) (u5 u6 : Option Value) (hx : ∀ (sh2 : mm_S) (d2 : mm_D) (g2 : mm_G) (r2 : mm_R) (S2 : wo_S) (v5 v6 : Option Value), lwI (m + 240) (N + 1) (C + 6) S2 sh2 d2 g2 r2 → wp xs (lwX xs) (n + 70) 0 1450 [some (.ref mm_K), some (.ref 0), some (.ref 250), some (.ref 281), some (.int (nI i)), v5, v6] [] (sh2, d2, g2, r2) Q) : wp xs (lwX xs) (n + 70) 0 630 [some (.ref mm_K), some (.ref 0), some (.ref 250), some (.ref 281), some (.int (nI i)), u5, u6] [] (sh, d, g, r) Q := by
  obtain ⟨hsh, hN, hK, hr, hok, hC, hM⟩ := hI
  refine wp_aload_n (j := 1) rfl q0_ok d0_630 ?_
  refine wp_cV q0_ok d0_631 ml_12_76 rfl q102_ok (u := 10) rfl (by first | assumption | exact so0 hsh rfl) rfl (Nat.le_of_ble_eq_true rfl) (Nat.le_of_ble_eq_true rfl) (k_undo (n := n + 66) hsh hr hok.1 hC ) (fun v631 μ631 hc => ?_)
  obtain ⟨rfl, d1, g1, r1, rfl, hr1, hC1, f1⟩ := hc
  refine ⟨mm_le_same rfl, ?_⟩
  have hM1 := repM_hi hM (fun c a b => ⟨(f1 c a).1, (f1 c a).2.1⟩)
  refine wp_aload_n (j := 2) rfl q0_ok d0_634 ?_
  refine wp_cV q0_ok d0_635 ml_12_79 rfl q194_ok (u := 11) rfl (by first | assumption | exact so0 hsh rfl) rfl (Nat.le_of_ble_eq_true rfl) (Nat.le_of_ble_eq_true rfl) (j_undo (n := n + 69) hsh hr1 hok hm hM1 ) (fun v635 μ635 hc => ?_)
  obtain ⟨rfl, d2, g2, rfl, hM2, f2⟩ := hc
  refine ⟨mm_le_same rfl, ?_⟩
  refine wp_icmp_eq q0_ok d0_638 (t := 1450) rfl (fun h638 => ?_) (fun h638 => ?_)
  · exact hx sh d2 g2 r1 _ u5 u6 ⟨hsh, by omega, by omega, hr1, okS_up (okS_und hok) (by omega), repC_lo (okS_und hok).1 hC1 (fun c a => f2 c (Or.inl a)), hM2⟩
  · exact absurd rfl h638
theorem lw_c12 {xs : List Int32} {n : Nat} {Q : Option Value → mm_M → Prop} {i m N C : Nat} {S : wo_S} {sh : mm_S} {d : mm_D} {g : mm_G} {r : mm_R} (hl : (mm_ca xs mm_K).length < 2 ^ 31) (hi : i + 6 ≤ (mm_ca xs mm_K).length) (hm : m < 2 ^ 22) (hI : lwI m N C S sh d g r) (u5 u6 : Option Value) (hx : ∀ (sh2 : mm_S) (d2 : mm_D) (g2 : mm_G) (r2 : mm_R) (S2 : wo_S) (v5 v6 : Option Value), lwI (m + 240) (N + 1) (C + 6) S2 sh2 d2 g2 r2 → wp xs (lwX xs) (n + 70) 0 1450 [some (.ref mm_K), some (.ref 0), some (.ref 250), some (.ref 281), some (.int (nI i)), v5, v6] [] (sh2, d2, g2, r2) Q) : wp xs (lwX xs) (n + 70) 0 643 [some (.ref mm_K), some (.ref 0), some (.ref 250), some (.ref 281), some (.int (nI i)), u5, u6] [] (sh, d, g, r) Q := by
  obtain ⟨hsh, hN, hK, hr, hok, hC, hM⟩ := hI
  refine wp_aload_n (j := 1) rfl q0_ok d0_643 ?_
  refine wp_aload_n (j := 0) rfl q0_ok d0_644 ?_
  refine wp_iload (j := 4) rfl q0_ok d0_645 ?_
  refine wp_iconst (v := 1) (by decide) q0_ok d0_647 ?_
  refine wp_iadd (la0 i) q0_ok d0_648 ?_
  refine wp_ialdK q0_ok d0_649 (Nat.le_of_ble_eq_true rfl) (Nat.le_of_ble_eq_true rfl) (ixn_nI (j := i + 1) (by omega) hl) rfl ?_
  refine wp_aload_n (j := 0) rfl q0_ok d0_650 ?_
  refine wp_iload (j := 4) rfl q0_ok d0_651 ?_
  refine wp_iconst (v := 2) (by decide) q0_ok d0_653 ?_
  refine wp_iadd (la2 i) q0_ok d0_654 ?_
  refine wp_ialdK q0_ok d0_655 (Nat.le_of_ble_eq_true rfl) (Nat.le_of_ble_eq_true rfl) (ixn_nI (j := i + 2) (by omega) hl) rfl ?_
  refine wp_aload_n (j := 0) rfl q0_ok d0_656 ?_
  refine wp_iload (j := 4) rfl q0_ok d0_657 ?_
  refine wp_iconst (v := 3) (by decide) q0_ok d0_659 ?_
  refine wp_iadd (la3 i) q0_ok d0_660 ?_
  refine wp_ialdK q0_ok d0_661 (Nat.le_of_ble_eq_true rfl) (Nat.le_of_ble_eq_true rfl) (ixn_nI (j := i + 3) (by omega) hl) rfl ?_
  refine wp_cV q0_ok d0_662 ml_12_80 rfl q103_ok (u := 10) rfl (by first | assumption | exact so0 hsh rfl) rfl (Nat.le_of_ble_eq_true rfl) (Nat.le_of_ble_eq_true rfl) (k_ahead (n := n + 62) hsh hr hok.1 hC _ _ _) (fun v662 μ662 hc => ?_)
  obtain ⟨rfl, d1, g1, r1, rfl, hr1, hC1, f1⟩ := hc
  refine ⟨mm_le_same rfl, ?_⟩
  have hM1 := repM_hi hM (fun c a b => ⟨(f1 c a).1, (f1 c a).2.1⟩)
  refine wp_aload_n (j := 2) rfl q0_ok d0_665 ?_
  refine wp_aload_n (j := 0) rfl q0_ok d0_666 ?_
  refine wp_iload (j := 4) rfl q0_ok d0_667 ?_
  refine wp_iconst (v := 1) (by decide) q0_ok d0_669 ?_
  refine wp_iadd (la0 i) q0_ok d0_670 ?_
  refine wp_ialdK q0_ok d0_671 (Nat.le_of_ble_eq_true rfl) (Nat.le_of_ble_eq_true rfl) (ixn_nI (j := i + 1) (by omega) hl) rfl ?_
  refine wp_aload_n (j := 0) rfl q0_ok d0_672 ?_
  refine wp_iload (j := 4) rfl q0_ok d0_673 ?_
  refine wp_iconst (v := 2) (by decide) q0_ok d0_675 ?_
  refine wp_iadd (la2 i) q0_ok d0_676 ?_
  refine wp_ialdK q0_ok d0_677 (Nat.le_of_ble_eq_true rfl) (Nat.le_of_ble_eq_true rfl) (ixn_nI (j := i + 2) (by omega) hl) rfl ?_
  refine wp_aload_n (j := 0) rfl q0_ok d0_678 ?_
  refine wp_iload (j := 4) rfl q0_ok d0_679 ?_
  refine wp_iconst (v := 3) (by decide) q0_ok d0_681 ?_
  refine wp_iadd (la3 i) q0_ok d0_682 ?_
  refine wp_ialdK q0_ok d0_683 (Nat.le_of_ble_eq_true rfl) (Nat.le_of_ble_eq_true rfl) (ixn_nI (j := i + 3) (by omega) hl) rfl ?_
  refine wp_cV q0_ok d0_684 ml_12_84 rfl q198_ok (u := 11) rfl (by first | assumption | exact so0 hsh rfl) rfl (Nat.le_of_ble_eq_true rfl) (Nat.le_of_ble_eq_true rfl) (j_ahead (n := n + 59) hsh hr1 hok hm hM1 _ _ _) (fun v684 μ684 hc => ?_)
  obtain ⟨rfl, d2, g2, rfl, hM2, f2⟩ := hc
  refine ⟨mm_le_same rfl, ?_⟩
  refine wp_icmp_eq q0_ok d0_687 (t := 1450) rfl (fun h687 => ?_) (fun h687 => ?_)
  · exact hx sh d2 g2 r1 _ u5 u6 ⟨hsh, by omega, by omega, hr1, okS_up (hok) (by omega), repC_lo (hok).1 hC1 (fun c a => f2 c (Or.inl a)), hM2⟩
  · exact absurd rfl h687
theorem lw_c13 {xs : List Int32} {n : Nat} {Q : Option Value → mm_M → Prop} {i m N C : Nat} {S : wo_S} {sh : mm_S} {d : mm_D} {g : mm_G} {r : mm_R} (hl : (mm_ca xs mm_K).length < 2 ^ 31) (hi : i + 6 ≤ (mm_ca xs mm_K).length) (hm : m < 2 ^ 22) (hI : lwI m N C S sh d g r) (u5 u6 : Option Value) (hx : ∀ (sh2 : mm_S) (d2 : mm_D) (g2 : mm_G) (r2 : mm_R) (S2 : wo_S) (v5 v6 : Option Value), lwI (m + 240) (N + 1) (C + 6) S2 sh2 d2 g2 r2 → wp xs (lwX xs) (n + 70) 0 1450 [some (.ref mm_K), some (.ref 0), some (.ref 250), some (.ref 281), some (.int (nI i)), v5, v6] [] (sh2, d2, g2, r2) Q) : wp xs (lwX xs) (n + 70) 0 692 [some (.ref mm_K), some (.ref 0), some (.ref 250), some (.ref 281), some (.int (nI i)), u5, u6] [] (sh, d, g, r) Q := by
  obtain ⟨hsh, hN, hK, hr, hok, hC, hM⟩ := hI
  refine wp_aload_n (j := 1) rfl q0_ok d0_692 ?_
  refine wp_aload_n (j := 0) rfl q0_ok d0_693 ?_
  refine wp_iload (j := 4) rfl q0_ok d0_694 ?_
  refine wp_iconst (v := 1) (by decide) q0_ok d0_696 ?_
  refine wp_iadd (la0 i) q0_ok d0_697 ?_
  refine wp_ialdK q0_ok d0_698 (Nat.le_of_ble_eq_true rfl) (Nat.le_of_ble_eq_true rfl) (ixn_nI (j := i + 1) (by omega) hl) rfl ?_
  refine wp_aload_n (j := 0) rfl q0_ok d0_699 ?_
  refine wp_iload (j := 4) rfl q0_ok d0_700 ?_
  refine wp_iconst (v := 2) (by decide) q0_ok d0_702 ?_
  refine wp_iadd (la2 i) q0_ok d0_703 ?_
  refine wp_ialdK q0_ok d0_704 (Nat.le_of_ble_eq_true rfl) (Nat.le_of_ble_eq_true rfl) (ixn_nI (j := i + 2) (by omega) hl) rfl ?_
  refine wp_cV q0_ok d0_705 ml_12_85 rfl q104_ok (u := 10) rfl (by first | assumption | exact so0 hsh rfl) rfl (Nat.le_of_ble_eq_true rfl) (Nat.le_of_ble_eq_true rfl) (k_strike (n := n + 62) hsh hr hok.1 hC _ _) (fun v705 μ705 hc => ?_)
  obtain ⟨rfl, d1, g1, r1, rfl, hr1, hC1, f1⟩ := hc
  refine ⟨mm_le_same rfl, ?_⟩
  have hM1 := repM_hi hM (fun c a b => ⟨(f1 c a).1, (f1 c a).2.1⟩)
  refine wp_aload_n (j := 2) rfl q0_ok d0_708 ?_
  refine wp_aload_n (j := 0) rfl q0_ok d0_709 ?_
  refine wp_iload (j := 4) rfl q0_ok d0_710 ?_
  refine wp_iconst (v := 1) (by decide) q0_ok d0_712 ?_
  refine wp_iadd (la0 i) q0_ok d0_713 ?_
  refine wp_ialdK q0_ok d0_714 (Nat.le_of_ble_eq_true rfl) (Nat.le_of_ble_eq_true rfl) (ixn_nI (j := i + 1) (by omega) hl) rfl ?_
  refine wp_aload_n (j := 0) rfl q0_ok d0_715 ?_
  refine wp_iload (j := 4) rfl q0_ok d0_716 ?_
  refine wp_iconst (v := 2) (by decide) q0_ok d0_718 ?_
  refine wp_iadd (la2 i) q0_ok d0_719 ?_
  refine wp_ialdK q0_ok d0_720 (Nat.le_of_ble_eq_true rfl) (Nat.le_of_ble_eq_true rfl) (ixn_nI (j := i + 2) (by omega) hl) rfl ?_
  refine wp_cV q0_ok d0_721 ml_12_88 rfl q199_ok (u := 11) rfl (by first | assumption | exact so0 hsh rfl) rfl (Nat.le_of_ble_eq_true rfl) (Nat.le_of_ble_eq_true rfl) (j_strike (n := n + 59) hsh hr1 hok hm hM1 _ _) (fun v721 μ721 hc => ?_)
  obtain ⟨rfl, d2, g2, rfl, hM2, f2⟩ := hc
  refine ⟨mm_le_same rfl, ?_⟩
  refine wp_icmp_eq q0_ok d0_724 (t := 1450) rfl (fun h724 => ?_) (fun h724 => ?_)
  · exact hx sh d2 g2 r1 _ u5 u6 ⟨hsh, by omega, by omega, hr1, okS_up (hok) (by omega), repC_lo (hok).1 hC1 (fun c a => f2 c (Or.inl a)), hM2⟩
  · exact absurd rfl h724
theorem lw_c14 {xs : List Int32} {n : Nat} {Q : Option Value → mm_M → Prop} {i m N C : Nat} {S : wo_S} {sh : mm_S} {d : mm_D} {g : mm_G} {r : mm_R} (hl : (mm_ca xs mm_K).length < 2 ^ 31) (hi : i + 6 ≤ (mm_ca xs mm_K).length) (hm : m < 2 ^ 22) (hI : lwI m N C S sh d g r) (u5 u6 : Option Value) (hx : ∀ (sh2 : mm_S) (d2 : mm_D) (g2 : mm_G) (r2 : mm_R) (S2 : wo_S) (v5 v6 : Option Value), lwI (m + 240) (N + 1) (C + 6) S2 sh2 d2 g2 r2 → wp xs (lwX xs) (n + 70) 0 1450 [some (.ref mm_K), some (.ref 0), some (.ref 250), some (.ref 281), some (.int (nI i)), v5, v6] [] (sh2, d2, g2, r2) Q) : wp xs (lwX xs) (n + 70) 0 729 [some (.ref mm_K), some (.ref 0), some (.ref 250), some (.ref 281), some (.int (nI i)), u5, u6] [] (sh, d, g, r) Q := by
  obtain ⟨hsh, hN, hK, hr, hok, hC, hM⟩ := hI
  refine wp_aload_n (j := 1) rfl q0_ok d0_729 ?_
  refine wp_aload_n (j := 0) rfl q0_ok d0_730 ?_
  refine wp_iload (j := 4) rfl q0_ok d0_731 ?_
  refine wp_iconst (v := 1) (by decide) q0_ok d0_733 ?_
  refine wp_iadd (la0 i) q0_ok d0_734 ?_
  refine wp_ialdK q0_ok d0_735 (Nat.le_of_ble_eq_true rfl) (Nat.le_of_ble_eq_true rfl) (ixn_nI (j := i + 1) (by omega) hl) rfl ?_
  refine wp_aload_n (j := 0) rfl q0_ok d0_736 ?_
  refine wp_iload (j := 4) rfl q0_ok d0_737 ?_
  refine wp_iconst (v := 2) (by decide) q0_ok d0_739 ?_
  refine wp_iadd (la2 i) q0_ok d0_740 ?_
  refine wp_ialdK q0_ok d0_741 (Nat.le_of_ble_eq_true rfl) (Nat.le_of_ble_eq_true rfl) (ixn_nI (j := i + 2) (by omega) hl) rfl ?_
  refine wp_cV q0_ok d0_742 ml_12_89 rfl q105_ok (u := 10) rfl (by first | assumption | exact so0 hsh rfl) rfl (Nat.le_of_ble_eq_true rfl) (Nat.le_of_ble_eq_true rfl) (k_late (n := n + 62) hsh hr hok.1 hC _ _) (fun v742 μ742 hc => ?_)
  obtain ⟨rfl, d1, g1, r1, rfl, hr1, hC1, f1⟩ := hc
  refine ⟨mm_le_same rfl, ?_⟩
  have hM1 := repM_hi hM (fun c a b => ⟨(f1 c a).1, (f1 c a).2.1⟩)
  refine wp_aload_n (j := 2) rfl q0_ok d0_745 ?_
  refine wp_aload_n (j := 0) rfl q0_ok d0_746 ?_
  refine wp_iload (j := 4) rfl q0_ok d0_747 ?_
  refine wp_iconst (v := 1) (by decide) q0_ok d0_749 ?_
  refine wp_iadd (la0 i) q0_ok d0_750 ?_
  refine wp_ialdK q0_ok d0_751 (Nat.le_of_ble_eq_true rfl) (Nat.le_of_ble_eq_true rfl) (ixn_nI (j := i + 1) (by omega) hl) rfl ?_
  refine wp_aload_n (j := 0) rfl q0_ok d0_752 ?_
  refine wp_iload (j := 4) rfl q0_ok d0_753 ?_
  refine wp_iconst (v := 2) (by decide) q0_ok d0_755 ?_
  refine wp_iadd (la2 i) q0_ok d0_756 ?_
  refine wp_ialdK q0_ok d0_757 (Nat.le_of_ble_eq_true rfl) (Nat.le_of_ble_eq_true rfl) (ixn_nI (j := i + 2) (by omega) hl) rfl ?_
  refine wp_cV q0_ok d0_758 ml_12_92 rfl q201_ok (u := 11) rfl (by first | assumption | exact so0 hsh rfl) rfl (Nat.le_of_ble_eq_true rfl) (Nat.le_of_ble_eq_true rfl) (j_late (n := n + 59) hsh hr1 hok hm hM1 _ _) (fun v758 μ758 hc => ?_)
  obtain ⟨rfl, d2, g2, rfl, hM2, f2⟩ := hc
  refine ⟨mm_le_same rfl, ?_⟩
  refine wp_icmp_eq q0_ok d0_761 (t := 1450) rfl (fun h761 => ?_) (fun h761 => ?_)
  · exact hx sh d2 g2 r1 _ u5 u6 ⟨hsh, by omega, by omega, hr1, okS_up (hok) (by omega), repC_lo (hok).1 hC1 (fun c a => f2 c (Or.inl a)), hM2⟩
  · exact absurd rfl h761
theorem lw_c15 {xs : List Int32} {n : Nat} {Q : Option Value → mm_M → Prop} {i m N C : Nat} {S : wo_S} {sh : mm_S} {d : mm_D} {g : mm_G} {r : mm_R} (hl : (mm_ca xs mm_K).length < 2 ^ 31) (hi : i + 6 ≤ (mm_ca xs mm_K).length) (hm : m < 2 ^ 22) (hI : lwI m N C S sh d g r) (u5 u6 : Option Value) (hx : ∀ (sh2 : mm_S) (d2 : mm_D) (g2 : mm_G) (r2 : mm_R) (S2 : wo_S) (v5 v6 : Option Value), lwI (m + 240) (N + 1) (C + 6) S2 sh2 d2 g2 r2 → wp xs (lwX xs) (n + 70) 0 1450 [some (.ref mm_K), some (.ref 0), some (.ref 250), some (.ref 281), some (.int (nI i)), v5, v6] [] (sh2, d2, g2, r2) Q) : wp xs (lwX xs) (n + 70) 0 766 [some (.ref mm_K), some (.ref 0), some (.ref 250), some (.ref 281), some (.int (nI i)), u5, u6] [] (sh, d, g, r) Q := by
  obtain ⟨hsh, hN, hK, hr, hok, hC, hM⟩ := hI
  refine wp_aload_n (j := 1) rfl q0_ok d0_766 ?_
  refine wp_aload_n (j := 0) rfl q0_ok d0_767 ?_
  refine wp_iload (j := 4) rfl q0_ok d0_768 ?_
  refine wp_iconst (v := 1) (by decide) q0_ok d0_770 ?_
  refine wp_iadd (la0 i) q0_ok d0_771 ?_
  refine wp_ialdK q0_ok d0_772 (Nat.le_of_ble_eq_true rfl) (Nat.le_of_ble_eq_true rfl) (ixn_nI (j := i + 1) (by omega) hl) rfl ?_
  refine wp_aload_n (j := 0) rfl q0_ok d0_773 ?_
  refine wp_iload (j := 4) rfl q0_ok d0_774 ?_
  refine wp_iconst (v := 2) (by decide) q0_ok d0_776 ?_
  refine wp_iadd (la2 i) q0_ok d0_777 ?_
  refine wp_ialdK q0_ok d0_778 (Nat.le_of_ble_eq_true rfl) (Nat.le_of_ble_eq_true rfl) (ixn_nI (j := i + 2) (by omega) hl) rfl ?_
  refine wp_cV q0_ok d0_779 ml_12_93 rfl q106_ok (u := 10) rfl (by first | assumption | exact so0 hsh rfl) rfl (Nat.le_of_ble_eq_true rfl) (Nat.le_of_ble_eq_true rfl) (k_bunch (n := n + 62) hsh hr hok.1 hC _ _) (fun v779 μ779 hc => ?_)
  obtain ⟨rfl, d1, g1, r1, rfl, hr1, hC1, f1⟩ := hc
  refine ⟨mm_le_same rfl, ?_⟩
  have hM1 := repM_hi hM (fun c a b => ⟨(f1 c a).1, (f1 c a).2.1⟩)
  refine wp_aload_n (j := 2) rfl q0_ok d0_782 ?_
  refine wp_aload_n (j := 0) rfl q0_ok d0_783 ?_
  refine wp_iload (j := 4) rfl q0_ok d0_784 ?_
  refine wp_iconst (v := 1) (by decide) q0_ok d0_786 ?_
  refine wp_iadd (la0 i) q0_ok d0_787 ?_
  refine wp_ialdK q0_ok d0_788 (Nat.le_of_ble_eq_true rfl) (Nat.le_of_ble_eq_true rfl) (ixn_nI (j := i + 1) (by omega) hl) rfl ?_
  refine wp_aload_n (j := 0) rfl q0_ok d0_789 ?_
  refine wp_iload (j := 4) rfl q0_ok d0_790 ?_
  refine wp_iconst (v := 2) (by decide) q0_ok d0_792 ?_
  refine wp_iadd (la2 i) q0_ok d0_793 ?_
  refine wp_ialdK q0_ok d0_794 (Nat.le_of_ble_eq_true rfl) (Nat.le_of_ble_eq_true rfl) (ixn_nI (j := i + 2) (by omega) hl) rfl ?_
  refine wp_cV q0_ok d0_795 ml_12_96 rfl q202_ok (u := 11) rfl (by first | assumption | exact so0 hsh rfl) rfl (Nat.le_of_ble_eq_true rfl) (Nat.le_of_ble_eq_true rfl) (j_bunch (n := n + 59) hsh hr1 hok hm hM1 _ _) (fun v795 μ795 hc => ?_)
  obtain ⟨rfl, d2, g2, rfl, hM2, f2⟩ := hc
  refine ⟨mm_le_same rfl, ?_⟩
  refine wp_icmp_eq q0_ok d0_798 (t := 1450) rfl (fun h798 => ?_) (fun h798 => ?_)
  · exact hx sh d2 g2 r1 _ u5 u6 ⟨hsh, by omega, by omega, hr1, okS_up (hok) (by omega), repC_lo (hok).1 hC1 (fun c a => f2 c (Or.inl a)), hM2⟩
  · exact absurd rfl h798
theorem lw_c16 {xs : List Int32} {n : Nat} {Q : Option Value → mm_M → Prop} {i m N C : Nat} {S : wo_S} {sh : mm_S} {d : mm_D} {g : mm_G} {r : mm_R} (hl : (mm_ca xs mm_K).length < 2 ^ 31) (hi : i + 6 ≤ (mm_ca xs mm_K).length) (hm : m < 2 ^ 22) (hI : lwI m N C S sh d g r) (u5 u6 : Option Value) (hx : ∀ (sh2 : mm_S) (d2 : mm_D) (g2 : mm_G) (r2 : mm_R) (S2 : wo_S) (v5 v6 : Option Value), lwI (m + 240) (N + 1) (C + 6) S2 sh2 d2 g2 r2 → wp xs (lwX xs) (n + 70) 0 1450 [some (.ref mm_K), some (.ref 0), some (.ref 250), some (.ref 281), some (.int (nI i)), v5, v6] [] (sh2, d2, g2, r2) Q) : wp xs (lwX xs) (n + 70) 0 803 [some (.ref mm_K), some (.ref 0), some (.ref 250), some (.ref 281), some (.int (nI i)), u5, u6] [] (sh, d, g, r) Q := by
  obtain ⟨hsh, hN, hK, hr, hok, hC, hM⟩ := hI
  refine wp_aload_n (j := 1) rfl q0_ok d0_803 ?_
  refine wp_aload_n (j := 0) rfl q0_ok d0_804 ?_
  refine wp_iload (j := 4) rfl q0_ok d0_805 ?_
  refine wp_iconst (v := 1) (by decide) q0_ok d0_807 ?_
  refine wp_iadd (la0 i) q0_ok d0_808 ?_
  refine wp_ialdK q0_ok d0_809 (Nat.le_of_ble_eq_true rfl) (Nat.le_of_ble_eq_true rfl) (ixn_nI (j := i + 1) (by omega) hl) rfl ?_
  refine wp_aload_n (j := 0) rfl q0_ok d0_810 ?_
  refine wp_iload (j := 4) rfl q0_ok d0_811 ?_
  refine wp_iconst (v := 2) (by decide) q0_ok d0_813 ?_
  refine wp_iadd (la2 i) q0_ok d0_814 ?_
  refine wp_ialdK q0_ok d0_815 (Nat.le_of_ble_eq_true rfl) (Nat.le_of_ble_eq_true rfl) (ixn_nI (j := i + 2) (by omega) hl) rfl ?_
  refine wp_cV q0_ok d0_816 ml_12_97 rfl q107_ok (u := 10) rfl (by first | assumption | exact so0 hsh rfl) rfl (Nat.le_of_ble_eq_true rfl) (Nat.le_of_ble_eq_true rfl) (k_ears (n := n + 62) hsh hr hok.1 hC _ _) (fun v816 μ816 hc => ?_)
  obtain ⟨rfl, d1, g1, r1, rfl, hr1, hC1, f1⟩ := hc
  refine ⟨mm_le_same rfl, ?_⟩
  have hM1 := repM_hi hM (fun c a b => ⟨(f1 c a).1, (f1 c a).2.1⟩)
  refine wp_aload_n (j := 2) rfl q0_ok d0_819 ?_
  refine wp_aload_n (j := 0) rfl q0_ok d0_820 ?_
  refine wp_iload (j := 4) rfl q0_ok d0_821 ?_
  refine wp_iconst (v := 1) (by decide) q0_ok d0_823 ?_
  refine wp_iadd (la0 i) q0_ok d0_824 ?_
  refine wp_ialdK q0_ok d0_825 (Nat.le_of_ble_eq_true rfl) (Nat.le_of_ble_eq_true rfl) (ixn_nI (j := i + 1) (by omega) hl) rfl ?_
  refine wp_aload_n (j := 0) rfl q0_ok d0_826 ?_
  refine wp_iload (j := 4) rfl q0_ok d0_827 ?_
  refine wp_iconst (v := 2) (by decide) q0_ok d0_829 ?_
  refine wp_iadd (la2 i) q0_ok d0_830 ?_
  refine wp_ialdK q0_ok d0_831 (Nat.le_of_ble_eq_true rfl) (Nat.le_of_ble_eq_true rfl) (ixn_nI (j := i + 2) (by omega) hl) rfl ?_
  refine wp_cV q0_ok d0_832 ml_12_100 rfl q203_ok (u := 11) rfl (by first | assumption | exact so0 hsh rfl) rfl (Nat.le_of_ble_eq_true rfl) (Nat.le_of_ble_eq_true rfl) (j_ears (n := n + 59) hsh hr1 hok hm hM1 _ _) (fun v832 μ832 hc => ?_)
  obtain ⟨rfl, d2, g2, rfl, hM2, f2⟩ := hc
  refine ⟨mm_le_same rfl, ?_⟩
  refine wp_icmp_eq q0_ok d0_835 (t := 1450) rfl (fun h835 => ?_) (fun h835 => ?_)
  · exact hx sh d2 g2 r1 _ u5 u6 ⟨hsh, by omega, by omega, hr1, okS_up (hok) (by omega), repC_lo (hok).1 hC1 (fun c a => f2 c (Or.inl a)), hM2⟩
  · exact absurd rfl h835
theorem lw_c17 {xs : List Int32} {n : Nat} {Q : Option Value → mm_M → Prop} {i m N C : Nat} {S : wo_S} {sh : mm_S} {d : mm_D} {g : mm_G} {r : mm_R} (hl : (mm_ca xs mm_K).length < 2 ^ 31) (hi : i + 6 ≤ (mm_ca xs mm_K).length) (hm : m < 2 ^ 22) (hI : lwI m N C S sh d g r) (u5 u6 : Option Value) (hx : ∀ (sh2 : mm_S) (d2 : mm_D) (g2 : mm_G) (r2 : mm_R) (S2 : wo_S) (v5 v6 : Option Value), lwI (m + 240) (N + 1) (C + 6) S2 sh2 d2 g2 r2 → wp xs (lwX xs) (n + 70) 0 1450 [some (.ref mm_K), some (.ref 0), some (.ref 250), some (.ref 281), some (.int (nI i)), v5, v6] [] (sh2, d2, g2, r2) Q) : wp xs (lwX xs) (n + 70) 0 840 [some (.ref mm_K), some (.ref 0), some (.ref 250), some (.ref 281), some (.int (nI i)), u5, u6] [] (sh, d, g, r) Q := by
  obtain ⟨hsh, hN, hK, hr, hok, hC, hM⟩ := hI
  refine wp_aload_n (j := 1) rfl q0_ok d0_840 ?_
  refine wp_aload_n (j := 0) rfl q0_ok d0_841 ?_
  refine wp_iload (j := 4) rfl q0_ok d0_842 ?_
  refine wp_iconst (v := 1) (by decide) q0_ok d0_844 ?_
  refine wp_iadd (la0 i) q0_ok d0_845 ?_
  refine wp_ialdK q0_ok d0_846 (Nat.le_of_ble_eq_true rfl) (Nat.le_of_ble_eq_true rfl) (ixn_nI (j := i + 1) (by omega) hl) rfl ?_
  refine wp_aload_n (j := 0) rfl q0_ok d0_847 ?_
  refine wp_iload (j := 4) rfl q0_ok d0_848 ?_
  refine wp_iconst (v := 2) (by decide) q0_ok d0_850 ?_
  refine wp_iadd (la2 i) q0_ok d0_851 ?_
  refine wp_ialdK q0_ok d0_852 (Nat.le_of_ble_eq_true rfl) (Nat.le_of_ble_eq_true rfl) (ixn_nI (j := i + 2) (by omega) hl) rfl ?_
  refine wp_cV q0_ok d0_853 ml_12_101 rfl q108_ok (u := 10) rfl (by first | assumption | exact so0 hsh rfl) rfl (Nat.le_of_ble_eq_true rfl) (Nat.le_of_ble_eq_true rfl) (k_seen (n := n + 62) hsh hr hok.1 hC _ _) (fun v853 μ853 hc => ?_)
  obtain ⟨rfl, d1, g1, r1, rfl, hr1, hC1, f1⟩ := hc
  refine ⟨mm_le_same rfl, ?_⟩
  have hM1 := repM_hi hM (fun c a b => ⟨(f1 c a).1, (f1 c a).2.1⟩)
  refine wp_aload_n (j := 2) rfl q0_ok d0_856 ?_
  refine wp_aload_n (j := 0) rfl q0_ok d0_857 ?_
  refine wp_iload (j := 4) rfl q0_ok d0_858 ?_
  refine wp_iconst (v := 1) (by decide) q0_ok d0_860 ?_
  refine wp_iadd (la0 i) q0_ok d0_861 ?_
  refine wp_ialdK q0_ok d0_862 (Nat.le_of_ble_eq_true rfl) (Nat.le_of_ble_eq_true rfl) (ixn_nI (j := i + 1) (by omega) hl) rfl ?_
  refine wp_aload_n (j := 0) rfl q0_ok d0_863 ?_
  refine wp_iload (j := 4) rfl q0_ok d0_864 ?_
  refine wp_iconst (v := 2) (by decide) q0_ok d0_866 ?_
  refine wp_iadd (la2 i) q0_ok d0_867 ?_
  refine wp_ialdK q0_ok d0_868 (Nat.le_of_ble_eq_true rfl) (Nat.le_of_ble_eq_true rfl) (ixn_nI (j := i + 2) (by omega) hl) rfl ?_
  refine wp_cV q0_ok d0_869 ml_12_104 rfl q204_ok (u := 11) rfl (by first | assumption | exact so0 hsh rfl) rfl (Nat.le_of_ble_eq_true rfl) (Nat.le_of_ble_eq_true rfl) (j_seen (n := n + 59) hsh hr1 hok hm hM1 _ _) (fun v869 μ869 hc => ?_)
  obtain ⟨rfl, d2, g2, rfl, hM2, f2⟩ := hc
  refine ⟨mm_le_same rfl, ?_⟩
  refine wp_icmp_eq q0_ok d0_872 (t := 1450) rfl (fun h872 => ?_) (fun h872 => ?_)
  · exact hx sh d2 g2 r1 _ u5 u6 ⟨hsh, by omega, by omega, hr1, okS_up (hok) (by omega), repC_lo (hok).1 hC1 (fun c a => f2 c (Or.inl a)), hM2⟩
  · exact absurd rfl h872
theorem lw_c18 {xs : List Int32} {n : Nat} {Q : Option Value → mm_M → Prop} {i m N C : Nat} {S : wo_S} {sh : mm_S} {d : mm_D} {g : mm_G} {r : mm_R} (hl : (mm_ca xs mm_K).length < 2 ^ 31) (hi : i + 6 ≤ (mm_ca xs mm_K).length) (hm : m < 2 ^ 22) (hI : lwI m N C S sh d g r) (u5 u6 : Option Value) (hx : ∀ (sh2 : mm_S) (d2 : mm_D) (g2 : mm_G) (r2 : mm_R) (S2 : wo_S) (v5 v6 : Option Value), lwI (m + 240) (N + 1) (C + 6) S2 sh2 d2 g2 r2 → wp xs (lwX xs) (n + 70) 0 1450 [some (.ref mm_K), some (.ref 0), some (.ref 250), some (.ref 281), some (.int (nI i)), v5, v6] [] (sh2, d2, g2, r2) Q) : wp xs (lwX xs) (n + 70) 0 877 [some (.ref mm_K), some (.ref 0), some (.ref 250), some (.ref 281), some (.int (nI i)), u5, u6] [] (sh, d, g, r) Q := by
  obtain ⟨hsh, hN, hK, hr, hok, hC, hM⟩ := hI
  refine wp_aload_n (j := 1) rfl q0_ok d0_877 ?_
  refine wp_aload_n (j := 0) rfl q0_ok d0_878 ?_
  refine wp_iload (j := 4) rfl q0_ok d0_879 ?_
  refine wp_iconst (v := 1) (by decide) q0_ok d0_881 ?_
  refine wp_iadd (la0 i) q0_ok d0_882 ?_
  refine wp_ialdK q0_ok d0_883 (Nat.le_of_ble_eq_true rfl) (Nat.le_of_ble_eq_true rfl) (ixn_nI (j := i + 1) (by omega) hl) rfl ?_
  refine wp_cV q0_ok d0_884 ml_12_105 rfl q109_ok (u := 10) rfl (by first | assumption | exact so0 hsh rfl) rfl (Nat.le_of_ble_eq_true rfl) (Nat.le_of_ble_eq_true rfl) (k_turn (n := n + 62) hsh hr hok.1 hC _) (fun v884 μ884 hc => ?_)
  obtain ⟨rfl, d1, g1, r1, rfl, hr1, hC1, f1⟩ := hc
  refine ⟨mm_le_same rfl, ?_⟩
  have hM1 := repM_hi hM (fun c a b => ⟨(f1 c a).1, (f1 c a).2.1⟩)
  refine wp_aload_n (j := 2) rfl q0_ok d0_887 ?_
  refine wp_aload_n (j := 0) rfl q0_ok d0_888 ?_
  refine wp_iload (j := 4) rfl q0_ok d0_889 ?_
  refine wp_iconst (v := 1) (by decide) q0_ok d0_891 ?_
  refine wp_iadd (la0 i) q0_ok d0_892 ?_
  refine wp_ialdK q0_ok d0_893 (Nat.le_of_ble_eq_true rfl) (Nat.le_of_ble_eq_true rfl) (ixn_nI (j := i + 1) (by omega) hl) rfl ?_
  refine wp_cV q0_ok d0_894 ml_12_108 rfl q206_ok (u := 11) rfl (by first | assumption | exact so0 hsh rfl) rfl (Nat.le_of_ble_eq_true rfl) (Nat.le_of_ble_eq_true rfl) (j_turn (n := n + 57) hsh hr1 hok hm hM1 _) (fun v894 μ894 hc => ?_)
  obtain ⟨rfl, d2, g2, rfl, hM2, f2⟩ := hc
  refine ⟨mm_le_same rfl, ?_⟩
  refine wp_icmp_eq q0_ok d0_897 (t := 1450) rfl (fun h897 => ?_) (fun h897 => ?_)
  · exact hx sh d2 g2 r1 _ u5 u6 ⟨hsh, by omega, by omega, hr1, okS_up (hok) (by omega), repC_lo (hok).1 hC1 (fun c a => f2 c (Or.inl a)), hM2⟩
  · exact absurd rfl h897
theorem lw_c19 {xs : List Int32} {n : Nat} {Q : Option Value → mm_M → Prop} {i m N C : Nat} {S : wo_S} {sh : mm_S} {d : mm_D} {g : mm_G} {r : mm_R} (hl : (mm_ca xs mm_K).length < 2 ^ 31) (hi : i + 6 ≤ (mm_ca xs mm_K).length) (hm : m < 2 ^ 22) (hI : lwI m N C S sh d g r) (u5 u6 : Option Value) (hx : ∀ (sh2 : mm_S) (d2 : mm_D) (g2 : mm_G) (r2 : mm_R) (S2 : wo_S) (v5 v6 : Option Value), lwI (m + 240) (N + 1) (C + 6) S2 sh2 d2 g2 r2 → wp xs (lwX xs) (n + 70) 0 1450 [some (.ref mm_K), some (.ref 0), some (.ref 250), some (.ref 281), some (.int (nI i)), v5, v6] [] (sh2, d2, g2, r2) Q) : wp xs (lwX xs) (n + 70) 0 902 [some (.ref mm_K), some (.ref 0), some (.ref 250), some (.ref 281), some (.int (nI i)), u5, u6] [] (sh, d, g, r) Q := by
  obtain ⟨hsh, hN, hK, hr, hok, hC, hM⟩ := hI
  refine wp_aload_n (j := 1) rfl q0_ok d0_902 ?_
  refine wp_aload_n (j := 0) rfl q0_ok d0_903 ?_
  refine wp_iload (j := 4) rfl q0_ok d0_904 ?_
  refine wp_iconst (v := 1) (by decide) q0_ok d0_906 ?_
  refine wp_iadd (la0 i) q0_ok d0_907 ?_
  refine wp_ialdK q0_ok d0_908 (Nat.le_of_ble_eq_true rfl) (Nat.le_of_ble_eq_true rfl) (ixn_nI (j := i + 1) (by omega) hl) rfl ?_
  refine wp_cV q0_ok d0_909 ml_12_109 rfl q110_ok (u := 10) rfl (by first | assumption | exact so0 hsh rfl) rfl (Nat.le_of_ble_eq_true rfl) (Nat.le_of_ble_eq_true rfl) (k_stare (n := n + 62) hsh hr hok.1 hC _) (fun v909 μ909 hc => ?_)
  obtain ⟨rfl, d1, g1, r1, rfl, hr1, hC1, f1⟩ := hc
  refine ⟨mm_le_same rfl, ?_⟩
  have hM1 := repM_hi hM (fun c a b => ⟨(f1 c a).1, (f1 c a).2.1⟩)
  refine wp_aload_n (j := 2) rfl q0_ok d0_912 ?_
  refine wp_aload_n (j := 0) rfl q0_ok d0_913 ?_
  refine wp_iload (j := 4) rfl q0_ok d0_914 ?_
  refine wp_iconst (v := 1) (by decide) q0_ok d0_916 ?_
  refine wp_iadd (la0 i) q0_ok d0_917 ?_
  refine wp_ialdK q0_ok d0_918 (Nat.le_of_ble_eq_true rfl) (Nat.le_of_ble_eq_true rfl) (ixn_nI (j := i + 1) (by omega) hl) rfl ?_
  refine wp_cV q0_ok d0_919 ml_12_112 rfl q207_ok (u := 11) rfl (by first | assumption | exact so0 hsh rfl) rfl (Nat.le_of_ble_eq_true rfl) (Nat.le_of_ble_eq_true rfl) (j_stare (n := n + 57) hsh hr1 hok hm hM1 _) (fun v919 μ919 hc => ?_)
  obtain ⟨rfl, d2, g2, rfl, hM2, f2⟩ := hc
  refine ⟨mm_le_same rfl, ?_⟩
  refine wp_icmp_eq q0_ok d0_922 (t := 1450) rfl (fun h922 => ?_) (fun h922 => ?_)
  · exact hx sh d2 g2 r1 _ u5 u6 ⟨hsh, by omega, by omega, hr1, okS_up (hok) (by omega), repC_lo (hok).1 hC1 (fun c a => f2 c (Or.inl a)), hM2⟩
  · exact absurd rfl h922
theorem lw_c20 {xs : List Int32} {n : Nat} {Q : Option Value → mm_M → Prop} {i m N C : Nat} {S : wo_S} {sh : mm_S} {d : mm_D} {g : mm_G} {r : mm_R} (hl : (mm_ca xs mm_K).length < 2 ^ 31) (hi : i + 6 ≤ (mm_ca xs mm_K).length) (hm : m < 2 ^ 22) (hI : lwI m N C S sh d g r) (u5 u6 : Option Value) (hx : ∀ (sh2 : mm_S) (d2 : mm_D) (g2 : mm_G) (r2 : mm_R) (S2 : wo_S) (v5 v6 : Option Value), lwI (m + 240) (N + 1) (C + 6) S2 sh2 d2 g2 r2 → wp xs (lwX xs) (n + 70) 0 1450 [some (.ref mm_K), some (.ref 0), some (.ref 250), some (.ref 281), some (.int (nI i)), v5, v6] [] (sh2, d2, g2, r2) Q) : wp xs (lwX xs) (n + 70) 0 927 [some (.ref mm_K), some (.ref 0), some (.ref 250), some (.ref 281), some (.int (nI i)), u5, u6] [] (sh, d, g, r) Q := by
  obtain ⟨hsh, hN, hK, hr, hok, hC, hM⟩ := hI
  refine wp_aload_n (j := 1) rfl q0_ok d0_927 ?_
  refine wp_aload_n (j := 0) rfl q0_ok d0_928 ?_
  refine wp_iload (j := 4) rfl q0_ok d0_929 ?_
  refine wp_iconst (v := 1) (by decide) q0_ok d0_931 ?_
  refine wp_iadd (la0 i) q0_ok d0_932 ?_
  refine wp_ialdK q0_ok d0_933 (Nat.le_of_ble_eq_true rfl) (Nat.le_of_ble_eq_true rfl) (ixn_nI (j := i + 1) (by omega) hl) rfl ?_
  refine wp_aload_n (j := 0) rfl q0_ok d0_934 ?_
  refine wp_iload (j := 4) rfl q0_ok d0_935 ?_
  refine wp_iconst (v := 2) (by decide) q0_ok d0_937 ?_
  refine wp_iadd (la2 i) q0_ok d0_938 ?_
  refine wp_ialdK q0_ok d0_939 (Nat.le_of_ble_eq_true rfl) (Nat.le_of_ble_eq_true rfl) (ixn_nI (j := i + 2) (by omega) hl) rfl ?_
  refine wp_aload_n (j := 0) rfl q0_ok d0_940 ?_
  refine wp_iload (j := 4) rfl q0_ok d0_941 ?_
  refine wp_iconst (v := 3) (by decide) q0_ok d0_943 ?_
  refine wp_iadd (la3 i) q0_ok d0_944 ?_
  refine wp_ialdK q0_ok d0_945 (Nat.le_of_ble_eq_true rfl) (Nat.le_of_ble_eq_true rfl) (ixn_nI (j := i + 3) (by omega) hl) rfl ?_
  refine wp_aload_n (j := 0) rfl q0_ok d0_946 ?_
  refine wp_iload (j := 4) rfl q0_ok d0_947 ?_
  refine wp_iconst (v := 4) (by decide) q0_ok d0_949 ?_
  refine wp_iadd (la4 i) q0_ok d0_950 ?_
  refine wp_ialdK q0_ok d0_951 (Nat.le_of_ble_eq_true rfl) (Nat.le_of_ble_eq_true rfl) (ixn_nI (j := i + 4) (by omega) hl) rfl ?_
  refine wp_cV q0_ok d0_952 ml_12_113 rfl q111_ok (u := 10) rfl (by first | assumption | exact so0 hsh rfl) rfl (Nat.le_of_ble_eq_true rfl) (Nat.le_of_ble_eq_true rfl) (k_lovers (n := n + 62) hsh hr hok.1 hC _ _ _ _) (fun v952 μ952 hc => ?_)
  obtain ⟨rfl, d1, g1, r1, rfl, hr1, hC1, f1⟩ := hc
  refine ⟨mm_le_same rfl, ?_⟩
  have hM1 := repM_hi hM (fun c a b => ⟨(f1 c a).1, (f1 c a).2.1⟩)
  refine wp_aload_n (j := 2) rfl q0_ok d0_955 ?_
  refine wp_aload_n (j := 0) rfl q0_ok d0_956 ?_
  refine wp_iload (j := 4) rfl q0_ok d0_957 ?_
  refine wp_iconst (v := 1) (by decide) q0_ok d0_959 ?_
  refine wp_iadd (la0 i) q0_ok d0_960 ?_
  refine wp_ialdK q0_ok d0_961 (Nat.le_of_ble_eq_true rfl) (Nat.le_of_ble_eq_true rfl) (ixn_nI (j := i + 1) (by omega) hl) rfl ?_
  refine wp_aload_n (j := 0) rfl q0_ok d0_962 ?_
  refine wp_iload (j := 4) rfl q0_ok d0_963 ?_
  refine wp_iconst (v := 2) (by decide) q0_ok d0_965 ?_
  refine wp_iadd (la2 i) q0_ok d0_966 ?_
  refine wp_ialdK q0_ok d0_967 (Nat.le_of_ble_eq_true rfl) (Nat.le_of_ble_eq_true rfl) (ixn_nI (j := i + 2) (by omega) hl) rfl ?_
  refine wp_aload_n (j := 0) rfl q0_ok d0_968 ?_
  refine wp_iload (j := 4) rfl q0_ok d0_969 ?_
  refine wp_iconst (v := 3) (by decide) q0_ok d0_971 ?_
  refine wp_iadd (la3 i) q0_ok d0_972 ?_
  refine wp_ialdK q0_ok d0_973 (Nat.le_of_ble_eq_true rfl) (Nat.le_of_ble_eq_true rfl) (ixn_nI (j := i + 3) (by omega) hl) rfl ?_
  refine wp_aload_n (j := 0) rfl q0_ok d0_974 ?_
  refine wp_iload (j := 4) rfl q0_ok d0_975 ?_
  refine wp_iconst (v := 4) (by decide) q0_ok d0_977 ?_
  refine wp_iadd (la4 i) q0_ok d0_978 ?_
  refine wp_ialdK q0_ok d0_979 (Nat.le_of_ble_eq_true rfl) (Nat.le_of_ble_eq_true rfl) (ixn_nI (j := i + 4) (by omega) hl) rfl ?_
  refine wp_cV q0_ok d0_980 ml_12_117 rfl q208_ok (u := 11) rfl (by first | assumption | exact so0 hsh rfl) rfl (Nat.le_of_ble_eq_true rfl) (Nat.le_of_ble_eq_true rfl) (j_lovers (n := n + 59) hsh hr1 hok hm hM1 _ _ _ _) (fun v980 μ980 hc => ?_)
  obtain ⟨rfl, d2, g2, rfl, hM2, f2⟩ := hc
  refine ⟨mm_le_same rfl, ?_⟩
  refine wp_icmp_eq q0_ok d0_983 (t := 1450) rfl (fun h983 => ?_) (fun h983 => ?_)
  · exact hx sh d2 g2 r1 _ u5 u6 ⟨hsh, by omega, by omega, hr1, okS_up (hok) (by omega), repC_lo (hok).1 hC1 (fun c a => f2 c (Or.inl a)), hM2⟩
  · exact absurd rfl h983
theorem lw_c21 {xs : List Int32} {n : Nat} {Q : Option Value → mm_M → Prop} {i m N C : Nat} {S : wo_S} {sh : mm_S} {d : mm_D} {g : mm_G} {r : mm_R} (hl : (mm_ca xs mm_K).length < 2 ^ 31) (hi : i + 6 ≤ (mm_ca xs mm_K).length) (hm : m < 2 ^ 22) (hI : lwI m N C S sh d g r) (u5 u6 : Option Value) (hx : ∀ (sh2 : mm_S) (d2 : mm_D) (g2 : mm_G) (r2 : mm_R) (S2 : wo_S) (v5 v6 : Option Value), lwI (m + 240) (N + 1) (C + 6) S2 sh2 d2 g2 r2 → wp xs (lwX xs) (n + 70) 0 1450 [some (.ref mm_K), some (.ref 0), some (.ref 250), some (.ref 281), some (.int (nI i)), v5, v6] [] (sh2, d2, g2, r2) Q) : wp xs (lwX xs) (n + 70) 0 988 [some (.ref mm_K), some (.ref 0), some (.ref 250), some (.ref 281), some (.int (nI i)), u5, u6] [] (sh, d, g, r) Q := by
  obtain ⟨hsh, hN, hK, hr, hok, hC, hM⟩ := hI
  refine wp_aload_n (j := 1) rfl q0_ok d0_988 ?_
  refine wp_aload_n (j := 0) rfl q0_ok d0_989 ?_
  refine wp_iload (j := 4) rfl q0_ok d0_990 ?_
  refine wp_iconst (v := 1) (by decide) q0_ok d0_992 ?_
  refine wp_iadd (la0 i) q0_ok d0_993 ?_
  refine wp_ialdK q0_ok d0_994 (Nat.le_of_ble_eq_true rfl) (Nat.le_of_ble_eq_true rfl) (ixn_nI (j := i + 1) (by omega) hl) rfl ?_
  refine wp_aload_n (j := 0) rfl q0_ok d0_995 ?_
  refine wp_iload (j := 4) rfl q0_ok d0_996 ?_
  refine wp_iconst (v := 2) (by decide) q0_ok d0_998 ?_
  refine wp_iadd (la2 i) q0_ok d0_999 ?_
  refine wp_ialdK q0_ok d0_1000 (Nat.le_of_ble_eq_true rfl) (Nat.le_of_ble_eq_true rfl) (ixn_nI (j := i + 2) (by omega) hl) rfl ?_
  refine wp_cV q0_ok d0_1001 ml_12_118 rfl q112_ok (u := 10) rfl (by first | assumption | exact so0 hsh rfl) rfl (Nat.le_of_ble_eq_true rfl) (Nat.le_of_ble_eq_true rfl) (k_spoil (n := n + 62) hsh hr hok.1 hC _ _) (fun v1001 μ1001 hc => ?_)
  obtain ⟨rfl, d1, g1, r1, rfl, hr1, hC1, f1⟩ := hc
  refine ⟨mm_le_same rfl, ?_⟩
  have hM1 := repM_hi hM (fun c a b => ⟨(f1 c a).1, (f1 c a).2.1⟩)
  refine wp_aload_n (j := 2) rfl q0_ok d0_1004 ?_
  refine wp_aload_n (j := 0) rfl q0_ok d0_1005 ?_
  refine wp_iload (j := 4) rfl q0_ok d0_1006 ?_
  refine wp_iconst (v := 1) (by decide) q0_ok d0_1008 ?_
  refine wp_iadd (la0 i) q0_ok d0_1009 ?_
  refine wp_ialdK q0_ok d0_1010 (Nat.le_of_ble_eq_true rfl) (Nat.le_of_ble_eq_true rfl) (ixn_nI (j := i + 1) (by omega) hl) rfl ?_
  refine wp_aload_n (j := 0) rfl q0_ok d0_1011 ?_
  refine wp_iload (j := 4) rfl q0_ok d0_1012 ?_
  refine wp_iconst (v := 2) (by decide) q0_ok d0_1014 ?_
  refine wp_iadd (la2 i) q0_ok d0_1015 ?_
  refine wp_ialdK q0_ok d0_1016 (Nat.le_of_ble_eq_true rfl) (Nat.le_of_ble_eq_true rfl) (ixn_nI (j := i + 2) (by omega) hl) rfl ?_
  refine wp_cV q0_ok d0_1017 ml_12_121 rfl q209_ok (u := 11) rfl (by first | assumption | exact so0 hsh rfl) rfl (Nat.le_of_ble_eq_true rfl) (Nat.le_of_ble_eq_true rfl) (j_spoil (n := n + 58) hsh hr1 hok hm hM1 _ _) (fun v1017 μ1017 hc => ?_)
  obtain ⟨rfl, d2, g2, rfl, hM2, f2⟩ := hc
  refine ⟨mm_le_same rfl, ?_⟩
  refine wp_icmp_eq q0_ok d0_1020 (t := 1450) rfl (fun h1020 => ?_) (fun h1020 => ?_)
  · exact hx sh d2 g2 r1 _ u5 u6 ⟨hsh, by omega, by omega, hr1, okS_up (hok) (by omega), repC_lo (hok).1 hC1 (fun c a => f2 c (Or.inl a)), hM2⟩
  · exact absurd rfl h1020
theorem lw_c22 {xs : List Int32} {n : Nat} {Q : Option Value → mm_M → Prop} {i m N C : Nat} {S : wo_S} {sh : mm_S} {d : mm_D} {g : mm_G} {r : mm_R} (hl : (mm_ca xs mm_K).length < 2 ^ 31) (hi : i + 6 ≤ (mm_ca xs mm_K).length) (hm : m < 2 ^ 22) (hI : lwI m N C S sh d g r) (u5 u6 : Option Value) (hx : ∀ (sh2 : mm_S) (d2 : mm_D) (g2 : mm_G) (r2 : mm_R) (S2 : wo_S) (v5 v6 : Option Value), lwI (m + 240) (N + 1) (C + 6) S2 sh2 d2 g2 r2 → wp xs (lwX xs) (n + 70) 0 1450 [some (.ref mm_K), some (.ref 0), some (.ref 250), some (.ref 281), some (.int (nI i)), v5, v6] [] (sh2, d2, g2, r2) Q) : wp xs (lwX xs) (n + 70) 0 1025 [some (.ref mm_K), some (.ref 0), some (.ref 250), some (.ref 281), some (.int (nI i)), u5, u6] [] (sh, d, g, r) Q := by
  obtain ⟨hsh, hN, hK, hr, hok, hC, hM⟩ := hI
  refine wp_aload_n (j := 1) rfl q0_ok d0_1025 ?_
  refine wp_aload_n (j := 0) rfl q0_ok d0_1026 ?_
  refine wp_iload (j := 4) rfl q0_ok d0_1027 ?_
  refine wp_iconst (v := 1) (by decide) q0_ok d0_1029 ?_
  refine wp_iadd (la0 i) q0_ok d0_1030 ?_
  refine wp_ialdK q0_ok d0_1031 (Nat.le_of_ble_eq_true rfl) (Nat.le_of_ble_eq_true rfl) (ixn_nI (j := i + 1) (by omega) hl) rfl ?_
  refine wp_aload_n (j := 0) rfl q0_ok d0_1032 ?_
  refine wp_iload (j := 4) rfl q0_ok d0_1033 ?_
  refine wp_iconst (v := 2) (by decide) q0_ok d0_1035 ?_
  refine wp_iadd (la2 i) q0_ok d0_1036 ?_
  refine wp_ialdK q0_ok d0_1037 (Nat.le_of_ble_eq_true rfl) (Nat.le_of_ble_eq_true rfl) (ixn_nI (j := i + 2) (by omega) hl) rfl ?_
  refine wp_aload_n (j := 0) rfl q0_ok d0_1038 ?_
  refine wp_iload (j := 4) rfl q0_ok d0_1039 ?_
  refine wp_iconst (v := 3) (by decide) q0_ok d0_1041 ?_
  refine wp_iadd (la3 i) q0_ok d0_1042 ?_
  refine wp_ialdK q0_ok d0_1043 (Nat.le_of_ble_eq_true rfl) (Nat.le_of_ble_eq_true rfl) (ixn_nI (j := i + 3) (by omega) hl) rfl ?_
  refine wp_cV q0_ok d0_1044 ml_12_122 rfl q113_ok (u := 10) rfl (by first | assumption | exact so0 hsh rfl) rfl (Nat.le_of_ble_eq_true rfl) (Nat.le_of_ble_eq_true rfl) (k_errand (n := n + 62) hsh hr hok.1 hC _ _ _) (fun v1044 μ1044 hc => ?_)
  obtain ⟨rfl, d1, g1, r1, rfl, hr1, hC1, f1⟩ := hc
  refine ⟨mm_le_same rfl, ?_⟩
  have hM1 := repM_hi hM (fun c a b => ⟨(f1 c a).1, (f1 c a).2.1⟩)
  refine wp_aload_n (j := 2) rfl q0_ok d0_1047 ?_
  refine wp_aload_n (j := 0) rfl q0_ok d0_1048 ?_
  refine wp_iload (j := 4) rfl q0_ok d0_1049 ?_
  refine wp_iconst (v := 1) (by decide) q0_ok d0_1051 ?_
  refine wp_iadd (la0 i) q0_ok d0_1052 ?_
  refine wp_ialdK q0_ok d0_1053 (Nat.le_of_ble_eq_true rfl) (Nat.le_of_ble_eq_true rfl) (ixn_nI (j := i + 1) (by omega) hl) rfl ?_
  refine wp_aload_n (j := 0) rfl q0_ok d0_1054 ?_
  refine wp_iload (j := 4) rfl q0_ok d0_1055 ?_
  refine wp_iconst (v := 2) (by decide) q0_ok d0_1057 ?_
  refine wp_iadd (la2 i) q0_ok d0_1058 ?_
  refine wp_ialdK q0_ok d0_1059 (Nat.le_of_ble_eq_true rfl) (Nat.le_of_ble_eq_true rfl) (ixn_nI (j := i + 2) (by omega) hl) rfl ?_
  refine wp_aload_n (j := 0) rfl q0_ok d0_1060 ?_
  refine wp_iload (j := 4) rfl q0_ok d0_1061 ?_
  refine wp_iconst (v := 3) (by decide) q0_ok d0_1063 ?_
  refine wp_iadd (la3 i) q0_ok d0_1064 ?_
  refine wp_ialdK q0_ok d0_1065 (Nat.le_of_ble_eq_true rfl) (Nat.le_of_ble_eq_true rfl) (ixn_nI (j := i + 3) (by omega) hl) rfl ?_
  refine wp_cV q0_ok d0_1066 ml_12_125 rfl q210_ok (u := 11) rfl (by first | assumption | exact so0 hsh rfl) rfl (Nat.le_of_ble_eq_true rfl) (Nat.le_of_ble_eq_true rfl) (j_errand (n := n + 58) hsh hr1 hok hm hM1 _ _ _) (fun v1066 μ1066 hc => ?_)
  obtain ⟨rfl, d2, g2, rfl, hM2, f2⟩ := hc
  refine ⟨mm_le_same rfl, ?_⟩
  refine wp_icmp_eq q0_ok d0_1069 (t := 1450) rfl (fun h1069 => ?_) (fun h1069 => ?_)
  · exact hx sh d2 g2 r1 _ u5 u6 ⟨hsh, by omega, by omega, hr1, okS_up (hok) (by omega), repC_lo (hok).1 hC1 (fun c a => f2 c (Or.inl a)), hM2⟩
  · exact absurd rfl h1069
theorem lw_c23 {xs : List Int32} {n : Nat} {Q : Option Value → mm_M → Prop} {i m N C : Nat} {S : wo_S} {sh : mm_S} {d : mm_D} {g : mm_G} {r : mm_R} (hl : (mm_ca xs mm_K).length < 2 ^ 31) (hi : i + 6 ≤ (mm_ca xs mm_K).length) (hm : m < 2 ^ 22) (hI : lwI m N C S sh d g r) (u5 u6 : Option Value) (hx : ∀ (sh2 : mm_S) (d2 : mm_D) (g2 : mm_G) (r2 : mm_R) (S2 : wo_S) (v5 v6 : Option Value), lwI (m + 240) (N + 1) (C + 6) S2 sh2 d2 g2 r2 → wp xs (lwX xs) (n + 70) 0 1450 [some (.ref mm_K), some (.ref 0), some (.ref 250), some (.ref 281), some (.int (nI i)), v5, v6] [] (sh2, d2, g2, r2) Q) : wp xs (lwX xs) (n + 70) 0 1074 [some (.ref mm_K), some (.ref 0), some (.ref 250), some (.ref 281), some (.int (nI i)), u5, u6] [] (sh, d, g, r) Q := by
  obtain ⟨hsh, hN, hK, hr, hok, hC, hM⟩ := hI
  refine wp_aload_n (j := 1) rfl q0_ok d0_1074 ?_
  refine wp_aload_n (j := 0) rfl q0_ok d0_1075 ?_
  refine wp_iload (j := 4) rfl q0_ok d0_1076 ?_
  refine wp_iconst (v := 1) (by decide) q0_ok d0_1078 ?_
  refine wp_iadd (la0 i) q0_ok d0_1079 ?_
  refine wp_ialdK q0_ok d0_1080 (Nat.le_of_ble_eq_true rfl) (Nat.le_of_ble_eq_true rfl) (ixn_nI (j := i + 1) (by omega) hl) rfl ?_
  refine wp_aload_n (j := 0) rfl q0_ok d0_1081 ?_
  refine wp_iload (j := 4) rfl q0_ok d0_1082 ?_
  refine wp_iconst (v := 2) (by decide) q0_ok d0_1084 ?_
  refine wp_iadd (la2 i) q0_ok d0_1085 ?_
  refine wp_ialdK q0_ok d0_1086 (Nat.le_of_ble_eq_true rfl) (Nat.le_of_ble_eq_true rfl) (ixn_nI (j := i + 2) (by omega) hl) rfl ?_
  refine wp_if_eq q0_ok d0_1087 (t := 1094) rfl (fun h1087 => ?_) (fun h1087 => ?_)
  · refine wp_iconst (v := 0) (by decide) q0_ok d0_1094 ?_
    refine wp_cV q0_ok d0_1095 ml_12_126 rfl q114_ok (u := 10) rfl (by first | assumption | exact so0 hsh rfl) rfl (Nat.le_of_ble_eq_true rfl) (Nat.le_of_ble_eq_true rfl) (k_note (n := n + 68) hsh hr hok.1 hC _ _ (by first | exact Or.inl rfl | exact Or.inr rfl)) (fun v1095 μ1095 hc => ?_)
    obtain ⟨rfl, d1, g1, r1, rfl, hr1, hC1, f1⟩ := hc
    refine ⟨mm_le_same rfl, ?_⟩
    have hM1 := repM_hi hM (fun c a b => ⟨(f1 c a).1, (f1 c a).2.1⟩)
    refine wp_aload_n (j := 2) rfl q0_ok d0_1098 ?_
    refine wp_aload_n (j := 0) rfl q0_ok d0_1099 ?_
    refine wp_iload (j := 4) rfl q0_ok d0_1100 ?_
    refine wp_iconst (v := 1) (by decide) q0_ok d0_1102 ?_
    refine wp_iadd (la0 i) q0_ok d0_1103 ?_
    refine wp_ialdK q0_ok d0_1104 (Nat.le_of_ble_eq_true rfl) (Nat.le_of_ble_eq_true rfl) (ixn_nI (j := i + 1) (by omega) hl) rfl ?_
    refine wp_aload_n (j := 0) rfl q0_ok d0_1105 ?_
    refine wp_iload (j := 4) rfl q0_ok d0_1106 ?_
    refine wp_iconst (v := 2) (by decide) q0_ok d0_1108 ?_
    refine wp_iadd (la2 i) q0_ok d0_1109 ?_
    refine wp_ialdK q0_ok d0_1110 (Nat.le_of_ble_eq_true rfl) (Nat.le_of_ble_eq_true rfl) (ixn_nI (j := i + 2) (by omega) hl) rfl ?_
    refine wp_if_eq q0_ok d0_1111 (t := 1118) rfl (fun h1111 => ?_) (fun h1111 => ?_)
    · refine wp_iconst (v := 0) (by decide) q0_ok d0_1118 ?_
      refine wp_cV q0_ok d0_1119 ml_12_130 rfl q216_ok (u := 11) rfl (by first | assumption | exact so0 hsh rfl) rfl (Nat.le_of_ble_eq_true rfl) (Nat.le_of_ble_eq_true rfl) (j_note (n := n + 68) hsh hr1 hok hm hM1 _ _ (by first | exact Or.inl rfl | exact Or.inr rfl)) (fun v1119 μ1119 hc => ?_)
      obtain ⟨rfl, d2, g2, rfl, hM2, f2⟩ := hc
      refine ⟨mm_le_same rfl, ?_⟩
      refine wp_icmp_eq q0_ok d0_1122 (t := 1450) rfl (fun h1122 => ?_) (fun h1122 => ?_)
      · exact hx sh d2 g2 r1 _ u5 u6 ⟨hsh, by omega, by omega, hr1, okS_up (okS_not hok _ _) (by omega), repC_lo (okS_not hok _ _).1 hC1 (fun c a => f2 c (Or.inl a)), hM2⟩
      · exact absurd rfl h1122
    · exact absurd h1087 h1111
  · refine wp_iconst (v := 1) (by decide) q0_ok d0_1090 ?_
    refine wp_goto (t := 1095) rfl q0_ok d0_1091 ?_
    refine wp_cV q0_ok d0_1095 ml_12_126 rfl q114_ok (u := 10) rfl (by first | assumption | exact so0 hsh rfl) rfl (Nat.le_of_ble_eq_true rfl) (Nat.le_of_ble_eq_true rfl) (k_note (n := n + 68) hsh hr hok.1 hC _ _ (by first | exact Or.inl rfl | exact Or.inr rfl)) (fun v1095 μ1095 hc => ?_)
    obtain ⟨rfl, d1, g1, r1, rfl, hr1, hC1, f1⟩ := hc
    refine ⟨mm_le_same rfl, ?_⟩
    have hM1 := repM_hi hM (fun c a b => ⟨(f1 c a).1, (f1 c a).2.1⟩)
    refine wp_aload_n (j := 2) rfl q0_ok d0_1098 ?_
    refine wp_aload_n (j := 0) rfl q0_ok d0_1099 ?_
    refine wp_iload (j := 4) rfl q0_ok d0_1100 ?_
    refine wp_iconst (v := 1) (by decide) q0_ok d0_1102 ?_
    refine wp_iadd (la0 i) q0_ok d0_1103 ?_
    refine wp_ialdK q0_ok d0_1104 (Nat.le_of_ble_eq_true rfl) (Nat.le_of_ble_eq_true rfl) (ixn_nI (j := i + 1) (by omega) hl) rfl ?_
    refine wp_aload_n (j := 0) rfl q0_ok d0_1105 ?_
    refine wp_iload (j := 4) rfl q0_ok d0_1106 ?_
    refine wp_iconst (v := 2) (by decide) q0_ok d0_1108 ?_
    refine wp_iadd (la2 i) q0_ok d0_1109 ?_
    refine wp_ialdK q0_ok d0_1110 (Nat.le_of_ble_eq_true rfl) (Nat.le_of_ble_eq_true rfl) (ixn_nI (j := i + 2) (by omega) hl) rfl ?_
    refine wp_if_eq q0_ok d0_1111 (t := 1118) rfl (fun h1111 => ?_) (fun h1111 => ?_)
    · exact absurd h1111 h1087
    · refine wp_iconst (v := 1) (by decide) q0_ok d0_1114 ?_
      refine wp_goto (t := 1119) rfl q0_ok d0_1115 ?_
      refine wp_cV q0_ok d0_1119 ml_12_130 rfl q216_ok (u := 11) rfl (by first | assumption | exact so0 hsh rfl) rfl (Nat.le_of_ble_eq_true rfl) (Nat.le_of_ble_eq_true rfl) (j_note (n := n + 68) hsh hr1 hok hm hM1 _ _ (by first | exact Or.inl rfl | exact Or.inr rfl)) (fun v1119 μ1119 hc => ?_)
      obtain ⟨rfl, d2, g2, rfl, hM2, f2⟩ := hc
      refine ⟨mm_le_same rfl, ?_⟩
      refine wp_icmp_eq q0_ok d0_1122 (t := 1450) rfl (fun h1122 => ?_) (fun h1122 => ?_)
      · exact hx sh d2 g2 r1 _ u5 u6 ⟨hsh, by omega, by omega, hr1, okS_up (okS_not hok _ _) (by omega), repC_lo (okS_not hok _ _).1 hC1 (fun c a => f2 c (Or.inl a)), hM2⟩
      · exact absurd rfl h1122
theorem lw_c24 {xs : List Int32} {n : Nat} {Q : Option Value → mm_M → Prop} {i m N C : Nat} {S : wo_S} {sh : mm_S} {d : mm_D} {g : mm_G} {r : mm_R} (hl : (mm_ca xs mm_K).length < 2 ^ 31) (hi : i + 6 ≤ (mm_ca xs mm_K).length) (hm : m < 2 ^ 22) (hI : lwI m N C S sh d g r) (u5 u6 : Option Value) (hx : ∀ (sh2 : mm_S) (d2 : mm_D) (g2 : mm_G) (r2 : mm_R) (S2 : wo_S) (v5 v6 : Option Value), lwI (m + 240) (N + 1) (C + 6) S2 sh2 d2 g2 r2 → wp xs (lwX xs) (n + 70) 0 1450 [some (.ref mm_K), some (.ref 0), some (.ref 250), some (.ref 281), some (.int (nI i)), v5, v6] [] (sh2, d2, g2, r2) Q) : wp xs (lwX xs) (n + 70) 0 1127 [some (.ref mm_K), some (.ref 0), some (.ref 250), some (.ref 281), some (.int (nI i)), u5, u6] [] (sh, d, g, r) Q := by
  obtain ⟨hsh, hN, hK, hr, hok, hC, hM⟩ := hI
  refine wp_aload_n (j := 1) rfl q0_ok d0_1127 ?_
  refine wp_aload_n (j := 0) rfl q0_ok d0_1128 ?_
  refine wp_iload (j := 4) rfl q0_ok d0_1129 ?_
  refine wp_iconst (v := 1) (by decide) q0_ok d0_1131 ?_
  refine wp_iadd (la0 i) q0_ok d0_1132 ?_
  refine wp_ialdK q0_ok d0_1133 (Nat.le_of_ble_eq_true rfl) (Nat.le_of_ble_eq_true rfl) (ixn_nI (j := i + 1) (by omega) hl) rfl ?_
  refine wp_cV q0_ok d0_1134 ml_12_131 rfl q115_ok (u := 10) rfl (by first | assumption | exact so0 hsh rfl) rfl (Nat.le_of_ble_eq_true rfl) (Nat.le_of_ble_eq_true rfl) (k_times (n := n + 62) hsh hr hok.1 hC _) (fun v1134 μ1134 hc => ?_)
  obtain ⟨rfl, d1, g1, r1, rfl, hr1, hC1, f1⟩ := hc
  refine ⟨mm_le_same rfl, ?_⟩
  have hM1 := repM_hi hM (fun c a b => ⟨(f1 c a).1, (f1 c a).2.1⟩)
  refine wp_aload_n (j := 2) rfl q0_ok d0_1137 ?_
  refine wp_aload_n (j := 0) rfl q0_ok d0_1138 ?_
  refine wp_iload (j := 4) rfl q0_ok d0_1139 ?_
  refine wp_iconst (v := 1) (by decide) q0_ok d0_1141 ?_
  refine wp_iadd (la0 i) q0_ok d0_1142 ?_
  refine wp_ialdK q0_ok d0_1143 (Nat.le_of_ble_eq_true rfl) (Nat.le_of_ble_eq_true rfl) (ixn_nI (j := i + 1) (by omega) hl) rfl ?_
  refine wp_cV q0_ok d0_1144 ml_12_134 rfl q218_ok (u := 11) rfl (by first | assumption | exact so0 hsh rfl) rfl (Nat.le_of_ble_eq_true rfl) (Nat.le_of_ble_eq_true rfl) (j_times (n := n + 58) hsh hr1 hok hm hM1 _) (fun v1144 μ1144 hc => ?_)
  obtain ⟨rfl, d2, g2, rfl, hM2, f2⟩ := hc
  refine ⟨mm_le_same rfl, ?_⟩
  refine wp_icmp_eq q0_ok d0_1147 (t := 1450) rfl (fun h1147 => ?_) (fun h1147 => ?_)
  · exact hx sh d2 g2 r1 _ u5 u6 ⟨hsh, by omega, by omega, hr1, okS_up (hok) (by omega), repC_lo (hok).1 hC1 (fun c a => f2 c (Or.inl a)), hM2⟩
  · exact absurd rfl h1147
theorem lw_c25 {xs : List Int32} {n : Nat} {Q : Option Value → mm_M → Prop} {i m N C : Nat} {S : wo_S} {sh : mm_S} {d : mm_D} {g : mm_G} {r : mm_R} (hl : (mm_ca xs mm_K).length < 2 ^ 31) (hi : i + 6 ≤ (mm_ca xs mm_K).length) (hm : m < 2 ^ 22) (hI : lwI m N C S sh d g r) (u5 u6 : Option Value) (hx : ∀ (sh2 : mm_S) (d2 : mm_D) (g2 : mm_G) (r2 : mm_R) (S2 : wo_S) (v5 v6 : Option Value), lwI (m + 240) (N + 1) (C + 6) S2 sh2 d2 g2 r2 → wp xs (lwX xs) (n + 70) 0 1450 [some (.ref mm_K), some (.ref 0), some (.ref 250), some (.ref 281), some (.int (nI i)), v5, v6] [] (sh2, d2, g2, r2) Q) : wp xs (lwX xs) (n + 70) 0 1152 [some (.ref mm_K), some (.ref 0), some (.ref 250), some (.ref 281), some (.int (nI i)), u5, u6] [] (sh, d, g, r) Q := by
  obtain ⟨hsh, hN, hK, hr, hok, hC, hM⟩ := hI
  refine wp_aload_n (j := 1) rfl q0_ok d0_1152 ?_
  refine wp_aload_n (j := 0) rfl q0_ok d0_1153 ?_
  refine wp_iload (j := 4) rfl q0_ok d0_1154 ?_
  refine wp_iconst (v := 1) (by decide) q0_ok d0_1156 ?_
  refine wp_iadd (la0 i) q0_ok d0_1157 ?_
  refine wp_ialdK q0_ok d0_1158 (Nat.le_of_ble_eq_true rfl) (Nat.le_of_ble_eq_true rfl) (ixn_nI (j := i + 1) (by omega) hl) rfl ?_
  refine wp_aload_n (j := 0) rfl q0_ok d0_1159 ?_
  refine wp_iload (j := 4) rfl q0_ok d0_1160 ?_
  refine wp_iconst (v := 2) (by decide) q0_ok d0_1162 ?_
  refine wp_iadd (la2 i) q0_ok d0_1163 ?_
  refine wp_ialdK q0_ok d0_1164 (Nat.le_of_ble_eq_true rfl) (Nat.le_of_ble_eq_true rfl) (ixn_nI (j := i + 2) (by omega) hl) rfl ?_
  refine wp_cV q0_ok d0_1165 ml_12_135 rfl q116_ok (u := 10) rfl (by first | assumption | exact so0 hsh rfl) rfl (Nat.le_of_ble_eq_true rfl) (Nat.le_of_ble_eq_true rfl) (k_whose (n := n + 62) hsh hr hok.1 hC _ _) (fun v1165 μ1165 hc => ?_)
  obtain ⟨rfl, d1, g1, r1, rfl, hr1, hC1, f1⟩ := hc
  refine ⟨mm_le_same rfl, ?_⟩
  have hM1 := repM_hi hM (fun c a b => ⟨(f1 c a).1, (f1 c a).2.1⟩)
  refine wp_aload_n (j := 2) rfl q0_ok d0_1168 ?_
  refine wp_aload_n (j := 0) rfl q0_ok d0_1169 ?_
  refine wp_iload (j := 4) rfl q0_ok d0_1170 ?_
  refine wp_iconst (v := 1) (by decide) q0_ok d0_1172 ?_
  refine wp_iadd (la0 i) q0_ok d0_1173 ?_
  refine wp_ialdK q0_ok d0_1174 (Nat.le_of_ble_eq_true rfl) (Nat.le_of_ble_eq_true rfl) (ixn_nI (j := i + 1) (by omega) hl) rfl ?_
  refine wp_aload_n (j := 0) rfl q0_ok d0_1175 ?_
  refine wp_iload (j := 4) rfl q0_ok d0_1176 ?_
  refine wp_iconst (v := 2) (by decide) q0_ok d0_1178 ?_
  refine wp_iadd (la2 i) q0_ok d0_1179 ?_
  refine wp_ialdK q0_ok d0_1180 (Nat.le_of_ble_eq_true rfl) (Nat.le_of_ble_eq_true rfl) (ixn_nI (j := i + 2) (by omega) hl) rfl ?_
  refine wp_cV q0_ok d0_1181 ml_12_138 rfl q219_ok (u := 11) rfl (by first | assumption | exact so0 hsh rfl) rfl (Nat.le_of_ble_eq_true rfl) (Nat.le_of_ble_eq_true rfl) (j_whose (n := n + 58) hsh hr1 hok hm hM1 _ _) (fun v1181 μ1181 hc => ?_)
  obtain ⟨rfl, d2, g2, rfl, hM2, f2⟩ := hc
  refine ⟨mm_le_same rfl, ?_⟩
  refine wp_icmp_eq q0_ok d0_1184 (t := 1450) rfl (fun h1184 => ?_) (fun h1184 => ?_)
  · exact hx sh d2 g2 r1 _ u5 u6 ⟨hsh, by omega, by omega, hr1, okS_up (hok) (by omega), repC_lo (hok).1 hC1 (fun c a => f2 c (Or.inl a)), hM2⟩
  · exact absurd rfl h1184
theorem lw_c26 {xs : List Int32} {n : Nat} {Q : Option Value → mm_M → Prop} {i m N C : Nat} {S : wo_S} {sh : mm_S} {d : mm_D} {g : mm_G} {r : mm_R} (hl : (mm_ca xs mm_K).length < 2 ^ 31) (hi : i + 6 ≤ (mm_ca xs mm_K).length) (hm : m < 2 ^ 22) (hI : lwI m N C S sh d g r) (u5 u6 : Option Value) (hx : ∀ (sh2 : mm_S) (d2 : mm_D) (g2 : mm_G) (r2 : mm_R) (S2 : wo_S) (v5 v6 : Option Value), lwI (m + 240) (N + 1) (C + 6) S2 sh2 d2 g2 r2 → wp xs (lwX xs) (n + 70) 0 1450 [some (.ref mm_K), some (.ref 0), some (.ref 250), some (.ref 281), some (.int (nI i)), v5, v6] [] (sh2, d2, g2, r2) Q) : wp xs (lwX xs) (n + 70) 0 1189 [some (.ref mm_K), some (.ref 0), some (.ref 250), some (.ref 281), some (.int (nI i)), u5, u6] [] (sh, d, g, r) Q := by
  obtain ⟨hsh, hN, hK, hr, hok, hC, hM⟩ := hI
  refine wp_aload_n (j := 1) rfl q0_ok d0_1189 ?_
  refine wp_aload_n (j := 0) rfl q0_ok d0_1190 ?_
  refine wp_iload (j := 4) rfl q0_ok d0_1191 ?_
  refine wp_iconst (v := 1) (by decide) q0_ok d0_1193 ?_
  refine wp_iadd (la0 i) q0_ok d0_1194 ?_
  refine wp_ialdK q0_ok d0_1195 (Nat.le_of_ble_eq_true rfl) (Nat.le_of_ble_eq_true rfl) (ixn_nI (j := i + 1) (by omega) hl) rfl ?_
  refine wp_cV q0_ok d0_1196 ml_12_139 rfl q117_ok (u := 10) rfl (by first | assumption | exact so0 hsh rfl) rfl (Nat.le_of_ble_eq_true rfl) (Nat.le_of_ble_eq_true rfl) (k_odds (n := n + 39) hsh hr hok.1 hC _) (fun v1196 μ1196 hc => ?_)
  obtain ⟨rfl, d1, g1, r1, rfl, hr1, hC1, f1⟩ := hc
  refine ⟨mm_le_same rfl, ?_⟩
  have hM1 := repM_hi hM (fun c a b => ⟨(f1 c a).1, (f1 c a).2.1⟩)
  refine wp_aload_n (j := 2) rfl q0_ok d0_1199 ?_
  refine wp_aload_n (j := 0) rfl q0_ok d0_1200 ?_
  refine wp_iload (j := 4) rfl q0_ok d0_1201 ?_
  refine wp_iconst (v := 1) (by decide) q0_ok d0_1203 ?_
  refine wp_iadd (la0 i) q0_ok d0_1204 ?_
  refine wp_ialdK q0_ok d0_1205 (Nat.le_of_ble_eq_true rfl) (Nat.le_of_ble_eq_true rfl) (ixn_nI (j := i + 1) (by omega) hl) rfl ?_
  refine wp_cV q0_ok d0_1206 ml_12_142 rfl q221_ok (u := 11) rfl (by first | assumption | exact so0 hsh rfl) rfl (Nat.le_of_ble_eq_true rfl) (Nat.le_of_ble_eq_true rfl) (j_odds (n := n + 47) hsh hr1 hok hm hM1 _) (fun v1206 μ1206 hc => ?_)
  obtain ⟨rfl, d2, g2, rfl, hM2, f2⟩ := hc
  refine ⟨mm_le_same rfl, ?_⟩
  refine wp_icmp_eq q0_ok d0_1209 (t := 1450) rfl (fun h1209 => ?_) (fun h1209 => ?_)
  · exact hx sh d2 g2 r1 _ u5 u6 ⟨hsh, by omega, by omega, hr1, okS_up (hok) (by omega), repC_lo (hok).1 hC1 (fun c a => f2 c (Or.inl a)), hM2⟩
  · exact absurd rfl h1209
theorem lw_c27 {xs : List Int32} {n : Nat} {Q : Option Value → mm_M → Prop} {i m N C : Nat} {S : wo_S} {sh : mm_S} {d : mm_D} {g : mm_G} {r : mm_R} (hl : (mm_ca xs mm_K).length < 2 ^ 31) (hi : i + 6 ≤ (mm_ca xs mm_K).length) (hm : m < 2 ^ 22) (hI : lwI m N C S sh d g r) (u5 u6 : Option Value) (hx : ∀ (sh2 : mm_S) (d2 : mm_D) (g2 : mm_G) (r2 : mm_R) (S2 : wo_S) (v5 v6 : Option Value), lwI (m + 240) (N + 1) (C + 6) S2 sh2 d2 g2 r2 → wp xs (lwX xs) (n + 70) 0 1450 [some (.ref mm_K), some (.ref 0), some (.ref 250), some (.ref 281), some (.int (nI i)), v5, v6] [] (sh2, d2, g2, r2) Q) : wp xs (lwX xs) (n + 70) 0 1214 [some (.ref mm_K), some (.ref 0), some (.ref 250), some (.ref 281), some (.int (nI i)), u5, u6] [] (sh, d, g, r) Q := by
  obtain ⟨hsh, hN, hK, hr, hok, hC, hM⟩ := hI
  refine wp_aload_n (j := 1) rfl q0_ok d0_1214 ?_
  refine wp_aload_n (j := 0) rfl q0_ok d0_1215 ?_
  refine wp_iload (j := 4) rfl q0_ok d0_1216 ?_
  refine wp_iconst (v := 1) (by decide) q0_ok d0_1218 ?_
  refine wp_iadd (la0 i) q0_ok d0_1219 ?_
  refine wp_ialdK q0_ok d0_1220 (Nat.le_of_ble_eq_true rfl) (Nat.le_of_ble_eq_true rfl) (ixn_nI (j := i + 1) (by omega) hl) rfl ?_
  refine wp_aload_n (j := 0) rfl q0_ok d0_1221 ?_
  refine wp_iload (j := 4) rfl q0_ok d0_1222 ?_
  refine wp_iconst (v := 2) (by decide) q0_ok d0_1224 ?_
  refine wp_iadd (la2 i) q0_ok d0_1225 ?_
  refine wp_ialdK q0_ok d0_1226 (Nat.le_of_ble_eq_true rfl) (Nat.le_of_ble_eq_true rfl) (ixn_nI (j := i + 2) (by omega) hl) rfl ?_
  refine wp_aload_n (j := 0) rfl q0_ok d0_1227 ?_
  refine wp_iload (j := 4) rfl q0_ok d0_1228 ?_
  refine wp_iconst (v := 3) (by decide) q0_ok d0_1230 ?_
  refine wp_iadd (la3 i) q0_ok d0_1231 ?_
  refine wp_ialdK q0_ok d0_1232 (Nat.le_of_ble_eq_true rfl) (Nat.le_of_ble_eq_true rfl) (ixn_nI (j := i + 3) (by omega) hl) rfl ?_
  refine wp_cV q0_ok d0_1233 ml_12_143 rfl q120_ok (u := 10) rfl (by first | assumption | exact so0 hsh rfl) rfl (Nat.le_of_ble_eq_true rfl) (Nat.le_of_ble_eq_true rfl) (k_peak (n := n + 62) hsh hr hok.1 hC _ _ _) (fun v1233 μ1233 hc => ?_)
  obtain ⟨rfl, d1, g1, r1, rfl, hr1, hC1, f1⟩ := hc
  refine ⟨mm_le_same rfl, ?_⟩
  have hM1 := repM_hi hM (fun c a b => ⟨(f1 c a).1, (f1 c a).2.1⟩)
  refine wp_aload_n (j := 2) rfl q0_ok d0_1236 ?_
  refine wp_aload_n (j := 0) rfl q0_ok d0_1237 ?_
  refine wp_iload (j := 4) rfl q0_ok d0_1238 ?_
  refine wp_iconst (v := 1) (by decide) q0_ok d0_1240 ?_
  refine wp_iadd (la0 i) q0_ok d0_1241 ?_
  refine wp_ialdK q0_ok d0_1242 (Nat.le_of_ble_eq_true rfl) (Nat.le_of_ble_eq_true rfl) (ixn_nI (j := i + 1) (by omega) hl) rfl ?_
  refine wp_aload_n (j := 0) rfl q0_ok d0_1243 ?_
  refine wp_iload (j := 4) rfl q0_ok d0_1244 ?_
  refine wp_iconst (v := 2) (by decide) q0_ok d0_1246 ?_
  refine wp_iadd (la2 i) q0_ok d0_1247 ?_
  refine wp_ialdK q0_ok d0_1248 (Nat.le_of_ble_eq_true rfl) (Nat.le_of_ble_eq_true rfl) (ixn_nI (j := i + 2) (by omega) hl) rfl ?_
  refine wp_aload_n (j := 0) rfl q0_ok d0_1249 ?_
  refine wp_iload (j := 4) rfl q0_ok d0_1250 ?_
  refine wp_iconst (v := 3) (by decide) q0_ok d0_1252 ?_
  refine wp_iadd (la3 i) q0_ok d0_1253 ?_
  refine wp_ialdK q0_ok d0_1254 (Nat.le_of_ble_eq_true rfl) (Nat.le_of_ble_eq_true rfl) (ixn_nI (j := i + 3) (by omega) hl) rfl ?_
  refine wp_cV q0_ok d0_1255 ml_12_146 rfl q211_ok (u := 11) rfl (by first | assumption | exact so0 hsh rfl) rfl (Nat.le_of_ble_eq_true rfl) (Nat.le_of_ble_eq_true rfl) (j_peak (n := n + 59) hsh hr1 hok hm hM1 _ _ _) (fun v1255 μ1255 hc => ?_)
  obtain ⟨rfl, d2, g2, rfl, hM2, f2⟩ := hc
  refine ⟨mm_le_same rfl, ?_⟩
  refine wp_icmp_eq q0_ok d0_1258 (t := 1450) rfl (fun h1258 => ?_) (fun h1258 => ?_)
  · exact hx sh d2 g2 r1 _ u5 u6 ⟨hsh, by omega, by omega, hr1, okS_up (hok) (by omega), repC_lo (hok).1 hC1 (fun c a => f2 c (Or.inl a)), hM2⟩
  · exact absurd rfl h1258
theorem lw_c28 {xs : List Int32} {n : Nat} {Q : Option Value → mm_M → Prop} {i m N C : Nat} {S : wo_S} {sh : mm_S} {d : mm_D} {g : mm_G} {r : mm_R} (hl : (mm_ca xs mm_K).length < 2 ^ 31) (hi : i + 6 ≤ (mm_ca xs mm_K).length) (hm : m < 2 ^ 22) (hI : lwI m N C S sh d g r) (u5 u6 : Option Value) (hx : ∀ (sh2 : mm_S) (d2 : mm_D) (g2 : mm_G) (r2 : mm_R) (S2 : wo_S) (v5 v6 : Option Value), lwI (m + 240) (N + 1) (C + 6) S2 sh2 d2 g2 r2 → wp xs (lwX xs) (n + 70) 0 1450 [some (.ref mm_K), some (.ref 0), some (.ref 250), some (.ref 281), some (.int (nI i)), v5, v6] [] (sh2, d2, g2, r2) Q) : wp xs (lwX xs) (n + 70) 0 1263 [some (.ref mm_K), some (.ref 0), some (.ref 250), some (.ref 281), some (.int (nI i)), u5, u6] [] (sh, d, g, r) Q := by
  obtain ⟨hsh, hN, hK, hr, hok, hC, hM⟩ := hI
  refine wp_aload_n (j := 1) rfl q0_ok d0_1263 ?_
  refine wp_aload_n (j := 0) rfl q0_ok d0_1264 ?_
  refine wp_iload (j := 4) rfl q0_ok d0_1265 ?_
  refine wp_iconst (v := 1) (by decide) q0_ok d0_1267 ?_
  refine wp_iadd (la0 i) q0_ok d0_1268 ?_
  refine wp_ialdK q0_ok d0_1269 (Nat.le_of_ble_eq_true rfl) (Nat.le_of_ble_eq_true rfl) (ixn_nI (j := i + 1) (by omega) hl) rfl ?_
  refine wp_cV q0_ok d0_1270 ml_12_147 rfl q121_ok (u := 10) rfl (by first | assumption | exact so0 hsh rfl) rfl (Nat.le_of_ble_eq_true rfl) (Nat.le_of_ble_eq_true rfl) (k_free (n := n + 62) hsh hr hok.1 hC _) (fun v1270 μ1270 hc => ?_)
  obtain ⟨rfl, d1, g1, r1, rfl, hr1, hC1, f1⟩ := hc
  refine ⟨mm_le_same rfl, ?_⟩
  have hM1 := repM_hi hM (fun c a b => ⟨(f1 c a).1, (f1 c a).2.1⟩)
  refine wp_aload_n (j := 2) rfl q0_ok d0_1273 ?_
  refine wp_aload_n (j := 0) rfl q0_ok d0_1274 ?_
  refine wp_iload (j := 4) rfl q0_ok d0_1275 ?_
  refine wp_iconst (v := 1) (by decide) q0_ok d0_1277 ?_
  refine wp_iadd (la0 i) q0_ok d0_1278 ?_
  refine wp_ialdK q0_ok d0_1279 (Nat.le_of_ble_eq_true rfl) (Nat.le_of_ble_eq_true rfl) (ixn_nI (j := i + 1) (by omega) hl) rfl ?_
  refine wp_cV q0_ok d0_1280 ml_12_150 rfl q212_ok (u := 11) rfl (by first | assumption | exact so0 hsh rfl) rfl (Nat.le_of_ble_eq_true rfl) (Nat.le_of_ble_eq_true rfl) (j_free (n := n + 59) hsh hr1 hok hm hM1 _) (fun v1280 μ1280 hc => ?_)
  obtain ⟨rfl, d2, g2, rfl, hM2, f2⟩ := hc
  refine ⟨mm_le_same rfl, ?_⟩
  refine wp_icmp_eq q0_ok d0_1283 (t := 1450) rfl (fun h1283 => ?_) (fun h1283 => ?_)
  · exact hx sh d2 g2 r1 _ u5 u6 ⟨hsh, by omega, by omega, hr1, okS_up (hok) (by omega), repC_lo (hok).1 hC1 (fun c a => f2 c (Or.inl a)), hM2⟩
  · exact absurd rfl h1283
theorem lw_c29 {xs : List Int32} {n : Nat} {Q : Option Value → mm_M → Prop} {i m N C : Nat} {S : wo_S} {sh : mm_S} {d : mm_D} {g : mm_G} {r : mm_R} (hl : (mm_ca xs mm_K).length < 2 ^ 31) (hi : i + 6 ≤ (mm_ca xs mm_K).length) (hm : m < 2 ^ 22) (hI : lwI m N C S sh d g r) (u5 u6 : Option Value) (hx : ∀ (sh2 : mm_S) (d2 : mm_D) (g2 : mm_G) (r2 : mm_R) (S2 : wo_S) (v5 v6 : Option Value), lwI (m + 240) (N + 1) (C + 6) S2 sh2 d2 g2 r2 → wp xs (lwX xs) (n + 70) 0 1450 [some (.ref mm_K), some (.ref 0), some (.ref 250), some (.ref 281), some (.int (nI i)), v5, v6] [] (sh2, d2, g2, r2) Q) : wp xs (lwX xs) (n + 70) 0 1288 [some (.ref mm_K), some (.ref 0), some (.ref 250), some (.ref 281), some (.int (nI i)), u5, u6] [] (sh, d, g, r) Q := by
  obtain ⟨hsh, hN, hK, hr, hok, hC, hM⟩ := hI
  refine wp_aload_n (j := 1) rfl q0_ok d0_1288 ?_
  refine wp_aload_n (j := 0) rfl q0_ok d0_1289 ?_
  refine wp_iload (j := 4) rfl q0_ok d0_1290 ?_
  refine wp_iconst (v := 1) (by decide) q0_ok d0_1292 ?_
  refine wp_iadd (la0 i) q0_ok d0_1293 ?_
  refine wp_ialdK q0_ok d0_1294 (Nat.le_of_ble_eq_true rfl) (Nat.le_of_ble_eq_true rfl) (ixn_nI (j := i + 1) (by omega) hl) rfl ?_
  refine wp_aload_n (j := 0) rfl q0_ok d0_1295 ?_
  refine wp_iload (j := 4) rfl q0_ok d0_1296 ?_
  refine wp_iconst (v := 2) (by decide) q0_ok d0_1298 ?_
  refine wp_iadd (la2 i) q0_ok d0_1299 ?_
  refine wp_ialdK q0_ok d0_1300 (Nat.le_of_ble_eq_true rfl) (Nat.le_of_ble_eq_true rfl) (ixn_nI (j := i + 2) (by omega) hl) rfl ?_
  refine wp_cV q0_ok d0_1301 ml_12_151 rfl q122_ok (u := 10) rfl (by first | assumption | exact so0 hsh rfl) rfl (Nat.le_of_ble_eq_true rfl) (Nat.le_of_ble_eq_true rfl) (k_alone (n := n + 62) hsh hr hok.1 hC _ _) (fun v1301 μ1301 hc => ?_)
  obtain ⟨rfl, d1, g1, r1, rfl, hr1, hC1, f1⟩ := hc
  refine ⟨mm_le_same rfl, ?_⟩
  have hM1 := repM_hi hM (fun c a b => ⟨(f1 c a).1, (f1 c a).2.1⟩)
  refine wp_aload_n (j := 2) rfl q0_ok d0_1304 ?_
  refine wp_aload_n (j := 0) rfl q0_ok d0_1305 ?_
  refine wp_iload (j := 4) rfl q0_ok d0_1306 ?_
  refine wp_iconst (v := 1) (by decide) q0_ok d0_1308 ?_
  refine wp_iadd (la0 i) q0_ok d0_1309 ?_
  refine wp_ialdK q0_ok d0_1310 (Nat.le_of_ble_eq_true rfl) (Nat.le_of_ble_eq_true rfl) (ixn_nI (j := i + 1) (by omega) hl) rfl ?_
  refine wp_aload_n (j := 0) rfl q0_ok d0_1311 ?_
  refine wp_iload (j := 4) rfl q0_ok d0_1312 ?_
  refine wp_iconst (v := 2) (by decide) q0_ok d0_1314 ?_
  refine wp_iadd (la2 i) q0_ok d0_1315 ?_
  refine wp_ialdK q0_ok d0_1316 (Nat.le_of_ble_eq_true rfl) (Nat.le_of_ble_eq_true rfl) (ixn_nI (j := i + 2) (by omega) hl) rfl ?_
  refine wp_cV q0_ok d0_1317 ml_12_154 rfl q213_ok (u := 11) rfl (by first | assumption | exact so0 hsh rfl) rfl (Nat.le_of_ble_eq_true rfl) (Nat.le_of_ble_eq_true rfl) (j_alone (n := n + 59) hsh hr1 hok hm hM1 _ _) (fun v1317 μ1317 hc => ?_)
  obtain ⟨rfl, d2, g2, rfl, hM2, f2⟩ := hc
  refine ⟨mm_le_same rfl, ?_⟩
  refine wp_icmp_eq q0_ok d0_1320 (t := 1450) rfl (fun h1320 => ?_) (fun h1320 => ?_)
  · exact hx sh d2 g2 r1 _ u5 u6 ⟨hsh, by omega, by omega, hr1, okS_up (hok) (by omega), repC_lo (hok).1 hC1 (fun c a => f2 c (Or.inl a)), hM2⟩
  · exact absurd rfl h1320
theorem lw_c30 {xs : List Int32} {n : Nat} {Q : Option Value → mm_M → Prop} {i m N C : Nat} {S : wo_S} {sh : mm_S} {d : mm_D} {g : mm_G} {r : mm_R} (hl : (mm_ca xs mm_K).length < 2 ^ 31) (hi : i + 6 ≤ (mm_ca xs mm_K).length) (hm : m < 2 ^ 22) (hI : lwI m N C S sh d g r) (u5 u6 : Option Value) (hx : ∀ (sh2 : mm_S) (d2 : mm_D) (g2 : mm_G) (r2 : mm_R) (S2 : wo_S) (v5 v6 : Option Value), lwI (m + 240) (N + 1) (C + 6) S2 sh2 d2 g2 r2 → wp xs (lwX xs) (n + 70) 0 1450 [some (.ref mm_K), some (.ref 0), some (.ref 250), some (.ref 281), some (.int (nI i)), v5, v6] [] (sh2, d2, g2, r2) Q) : wp xs (lwX xs) (n + 70) 0 1325 [some (.ref mm_K), some (.ref 0), some (.ref 250), some (.ref 281), some (.int (nI i)), u5, u6] [] (sh, d, g, r) Q := by
  obtain ⟨hsh, hN, hK, hr, hok, hC, hM⟩ := hI
  refine wp_aload_n (j := 1) rfl q0_ok d0_1325 ?_
  refine wp_aload_n (j := 0) rfl q0_ok d0_1326 ?_
  refine wp_iload (j := 4) rfl q0_ok d0_1327 ?_
  refine wp_iconst (v := 1) (by decide) q0_ok d0_1329 ?_
  refine wp_iadd (la0 i) q0_ok d0_1330 ?_
  refine wp_ialdK q0_ok d0_1331 (Nat.le_of_ble_eq_true rfl) (Nat.le_of_ble_eq_true rfl) (ixn_nI (j := i + 1) (by omega) hl) rfl ?_
  refine wp_aload_n (j := 0) rfl q0_ok d0_1332 ?_
  refine wp_iload (j := 4) rfl q0_ok d0_1333 ?_
  refine wp_iconst (v := 2) (by decide) q0_ok d0_1335 ?_
  refine wp_iadd (la2 i) q0_ok d0_1336 ?_
  refine wp_ialdK q0_ok d0_1337 (Nat.le_of_ble_eq_true rfl) (Nat.le_of_ble_eq_true rfl) (ixn_nI (j := i + 2) (by omega) hl) rfl ?_
  refine wp_cV q0_ok d0_1338 ml_12_155 rfl q123_ok (u := 10) rfl (by first | assumption | exact so0 hsh rfl) rfl (Nat.le_of_ble_eq_true rfl) (Nat.le_of_ble_eq_true rfl) (k_hour (n := n + 62) hsh hr hok.1 hC _ _) (fun v1338 μ1338 hc => ?_)
  obtain ⟨rfl, d1, g1, r1, rfl, hr1, hC1, f1⟩ := hc
  refine ⟨mm_le_same rfl, ?_⟩
  have hM1 := repM_hi hM (fun c a b => ⟨(f1 c a).1, (f1 c a).2.1⟩)
  refine wp_aload_n (j := 2) rfl q0_ok d0_1341 ?_
  refine wp_aload_n (j := 0) rfl q0_ok d0_1342 ?_
  refine wp_iload (j := 4) rfl q0_ok d0_1343 ?_
  refine wp_iconst (v := 1) (by decide) q0_ok d0_1345 ?_
  refine wp_iadd (la0 i) q0_ok d0_1346 ?_
  refine wp_ialdK q0_ok d0_1347 (Nat.le_of_ble_eq_true rfl) (Nat.le_of_ble_eq_true rfl) (ixn_nI (j := i + 1) (by omega) hl) rfl ?_
  refine wp_aload_n (j := 0) rfl q0_ok d0_1348 ?_
  refine wp_iload (j := 4) rfl q0_ok d0_1349 ?_
  refine wp_iconst (v := 2) (by decide) q0_ok d0_1351 ?_
  refine wp_iadd (la2 i) q0_ok d0_1352 ?_
  refine wp_ialdK q0_ok d0_1353 (Nat.le_of_ble_eq_true rfl) (Nat.le_of_ble_eq_true rfl) (ixn_nI (j := i + 2) (by omega) hl) rfl ?_
  refine wp_cV q0_ok d0_1354 ml_12_158 rfl q214_ok (u := 11) rfl (by first | assumption | exact so0 hsh rfl) rfl (Nat.le_of_ble_eq_true rfl) (Nat.le_of_ble_eq_true rfl) (j_hour (n := n + 59) hsh hr1 hok hm hM1 _ _) (fun v1354 μ1354 hc => ?_)
  obtain ⟨rfl, d2, g2, rfl, hM2, f2⟩ := hc
  refine ⟨mm_le_same rfl, ?_⟩
  refine wp_icmp_eq q0_ok d0_1357 (t := 1450) rfl (fun h1357 => ?_) (fun h1357 => ?_)
  · exact hx sh d2 g2 r1 _ u5 u6 ⟨hsh, by omega, by omega, hr1, okS_up (hok) (by omega), repC_lo (hok).1 hC1 (fun c a => f2 c (Or.inl a)), hM2⟩
  · exact absurd rfl h1357
theorem lw_c31 {xs : List Int32} {n : Nat} {Q : Option Value → mm_M → Prop} {i m N C : Nat} {S : wo_S} {sh : mm_S} {d : mm_D} {g : mm_G} {r : mm_R} (hl : (mm_ca xs mm_K).length < 2 ^ 31) (hi : i + 6 ≤ (mm_ca xs mm_K).length) (hm : m < 2 ^ 22) (hI : lwI m N C S sh d g r) (u5 u6 : Option Value) (hx : ∀ (sh2 : mm_S) (d2 : mm_D) (g2 : mm_G) (r2 : mm_R) (S2 : wo_S) (v5 v6 : Option Value), lwI (m + 240) (N + 1) (C + 6) S2 sh2 d2 g2 r2 → wp xs (lwX xs) (n + 70) 0 1450 [some (.ref mm_K), some (.ref 0), some (.ref 250), some (.ref 281), some (.int (nI i)), v5, v6] [] (sh2, d2, g2, r2) Q) : wp xs (lwX xs) (n + 70) 0 1362 [some (.ref mm_K), some (.ref 0), some (.ref 250), some (.ref 281), some (.int (nI i)), u5, u6] [] (sh, d, g, r) Q := by
  obtain ⟨hsh, hN, hK, hr, hok, hC, hM⟩ := hI
  refine wp_aload_n (j := 1) rfl q0_ok d0_1362 ?_
  refine wp_aload_n (j := 0) rfl q0_ok d0_1363 ?_
  refine wp_iload (j := 4) rfl q0_ok d0_1364 ?_
  refine wp_iconst (v := 1) (by decide) q0_ok d0_1366 ?_
  refine wp_iadd (la0 i) q0_ok d0_1367 ?_
  refine wp_ialdK q0_ok d0_1368 (Nat.le_of_ble_eq_true rfl) (Nat.le_of_ble_eq_true rfl) (ixn_nI (j := i + 1) (by omega) hl) rfl ?_
  refine wp_aload_n (j := 0) rfl q0_ok d0_1369 ?_
  refine wp_iload (j := 4) rfl q0_ok d0_1370 ?_
  refine wp_iconst (v := 2) (by decide) q0_ok d0_1372 ?_
  refine wp_iadd (la2 i) q0_ok d0_1373 ?_
  refine wp_ialdK q0_ok d0_1374 (Nat.le_of_ble_eq_true rfl) (Nat.le_of_ble_eq_true rfl) (ixn_nI (j := i + 2) (by omega) hl) rfl ?_
  refine wp_cV q0_ok d0_1375 ml_12_159 rfl q124_ok (u := 10) rfl (by first | assumption | exact so0 hsh rfl) rfl (Nat.le_of_ble_eq_true rfl) (Nat.le_of_ble_eq_true rfl) (k_veil (n := n + 62) hsh hr hok.1 hC _ _) (fun v1375 μ1375 hc => ?_)
  obtain ⟨rfl, d1, g1, r1, rfl, hr1, hC1, f1⟩ := hc
  refine ⟨mm_le_same rfl, ?_⟩
  have hM1 := repM_hi hM (fun c a b => ⟨(f1 c a).1, (f1 c a).2.1⟩)
  refine wp_aload_n (j := 2) rfl q0_ok d0_1378 ?_
  refine wp_aload_n (j := 0) rfl q0_ok d0_1379 ?_
  refine wp_iload (j := 4) rfl q0_ok d0_1380 ?_
  refine wp_iconst (v := 1) (by decide) q0_ok d0_1382 ?_
  refine wp_iadd (la0 i) q0_ok d0_1383 ?_
  refine wp_ialdK q0_ok d0_1384 (Nat.le_of_ble_eq_true rfl) (Nat.le_of_ble_eq_true rfl) (ixn_nI (j := i + 1) (by omega) hl) rfl ?_
  refine wp_aload_n (j := 0) rfl q0_ok d0_1385 ?_
  refine wp_iload (j := 4) rfl q0_ok d0_1386 ?_
  refine wp_iconst (v := 2) (by decide) q0_ok d0_1388 ?_
  refine wp_iadd (la2 i) q0_ok d0_1389 ?_
  refine wp_ialdK q0_ok d0_1390 (Nat.le_of_ble_eq_true rfl) (Nat.le_of_ble_eq_true rfl) (ixn_nI (j := i + 2) (by omega) hl) rfl ?_
  refine wp_cV q0_ok d0_1391 ml_12_162 rfl q215_ok (u := 11) rfl (by first | assumption | exact so0 hsh rfl) rfl (Nat.le_of_ble_eq_true rfl) (Nat.le_of_ble_eq_true rfl) (j_veil (n := n + 58) hsh hr1 hok hm hM1 _ _) (fun v1391 μ1391 hc => ?_)
  obtain ⟨rfl, d2, g2, rfl, hM2, f2⟩ := hc
  refine ⟨mm_le_same rfl, ?_⟩
  refine wp_icmp_eq q0_ok d0_1394 (t := 1450) rfl (fun h1394 => ?_) (fun h1394 => ?_)
  · exact hx sh d2 g2 r1 _ u5 u6 ⟨hsh, by omega, by omega, hr1, okS_up (hok) (by omega), repC_lo (hok).1 hC1 (fun c a => f2 c (Or.inl a)), hM2⟩
  · exact absurd rfl h1394
theorem lw_c32 {xs : List Int32} {n : Nat} {Q : Option Value → mm_M → Prop} {i m N C : Nat} {S : wo_S} {sh : mm_S} {d : mm_D} {g : mm_G} {r : mm_R} (hl : (mm_ca xs mm_K).length < 2 ^ 31) (hi : i + 6 ≤ (mm_ca xs mm_K).length) (hm : m < 2 ^ 22) (hI : lwI m N C S sh d g r) (u5 u6 : Option Value) (hx : ∀ (sh2 : mm_S) (d2 : mm_D) (g2 : mm_G) (r2 : mm_R) (S2 : wo_S) (v5 v6 : Option Value), lwI (m + 240) (N + 1) (C + 6) S2 sh2 d2 g2 r2 → wp xs (lwX xs) (n + 70) 0 1450 [some (.ref mm_K), some (.ref 0), some (.ref 250), some (.ref 281), some (.int (nI i)), v5, v6] [] (sh2, d2, g2, r2) Q) : wp xs (lwX xs) (n + 70) 0 1399 [some (.ref mm_K), some (.ref 0), some (.ref 250), some (.ref 281), some (.int (nI i)), u5, u6] [] (sh, d, g, r) Q := by
  obtain ⟨hsh, hN, hK, hr, hok, hC, hM⟩ := hI
  refine wp_aload_n (j := 1) rfl q0_ok d0_1399 ?_
  refine wp_cV q0_ok d0_1400 ml_12_163 rfl q125_ok (u := 10) rfl (by first | assumption | exact so0 hsh rfl) rfl (Nat.le_of_ble_eq_true rfl) (Nat.le_of_ble_eq_true rfl) (k_image (n := n + 67) hsh hr hok.1 hC ) (fun v1400 μ1400 hc => ?_)
  obtain ⟨rfl, d1, g1, r1, rfl, hr1, hC1, f1⟩ := hc
  refine ⟨mm_le_same rfl, ?_⟩
  have hM1 := repM_hi hM (fun c a b => ⟨(f1 c a).1, (f1 c a).2.1⟩)
  refine wp_aload_n (j := 2) rfl q0_ok d0_1403 ?_
  refine wp_cV q0_ok d0_1404 ml_12_166 rfl q222_ok (u := 11) rfl (by first | assumption | exact so0 hsh rfl) rfl (Nat.le_of_ble_eq_true rfl) (Nat.le_of_ble_eq_true rfl) (j_image (n := n + 69) hsh hr1 hok hm hM1 ) (fun v1404 μ1404 hc => ?_)
  obtain ⟨rfl, d2, g2, rfl, hM2, f2⟩ := hc
  refine ⟨mm_le_same rfl, ?_⟩
  refine wp_icmp_eq q0_ok d0_1407 (t := 1450) rfl (fun h1407 => ?_) (fun h1407 => ?_)
  · exact hx sh d2 g2 r1 _ u5 u6 ⟨hsh, by omega, by omega, hr1, okS_up (okS_img hok) (by omega), repC_lo (okS_img hok).1 hC1 (fun c a => f2 c (Or.inl a)), hM2⟩
  · exact absurd rfl h1407
theorem lw_c33 {xs : List Int32} {n : Nat} {Q : Option Value → mm_M → Prop} {i m N C : Nat} {S : wo_S} {sh : mm_S} {d : mm_D} {g : mm_G} {r : mm_R} (hl : (mm_ca xs mm_K).length < 2 ^ 31) (hi : i + 6 ≤ (mm_ca xs mm_K).length) (hm : m < 2 ^ 22) (hI : lwI m N C S sh d g r) (u5 u6 : Option Value) (hx : ∀ (sh2 : mm_S) (d2 : mm_D) (g2 : mm_G) (r2 : mm_R) (S2 : wo_S) (v5 v6 : Option Value), lwI (m + 240) (N + 1) (C + 6) S2 sh2 d2 g2 r2 → wp xs (lwX xs) (n + 70) 0 1450 [some (.ref mm_K), some (.ref 0), some (.ref 250), some (.ref 281), some (.int (nI i)), v5, v6] [] (sh2, d2, g2, r2) Q) : wp xs (lwX xs) (n + 70) 0 1412 [some (.ref mm_K), some (.ref 0), some (.ref 250), some (.ref 281), some (.int (nI i)), u5, u6] [] (sh, d, g, r) Q := by
  obtain ⟨hsh, hN, hK, hr, hok, hC, hM⟩ := hI
  refine wp_aload_n (j := 1) rfl q0_ok d0_1412 ?_
  refine wp_cV q0_ok d0_1413 ml_12_167 rfl q126_ok (u := 10) rfl (by first | assumption | exact so0 hsh rfl) rfl (Nat.le_of_ble_eq_true rfl) (Nat.le_of_ble_eq_true rfl) (k_back (n := n + 67) hsh hr hok.1 hC ) (fun v1413 μ1413 hc => ?_)
  obtain ⟨rfl, d1, g1, r1, rfl, hr1, hC1, f1⟩ := hc
  refine ⟨mm_le_same rfl, ?_⟩
  have hM1 := repM_hi hM (fun c a b => ⟨(f1 c a).1, (f1 c a).2.1⟩)
  refine wp_aload_n (j := 2) rfl q0_ok d0_1416 ?_
  refine wp_cV q0_ok d0_1417 ml_12_170 rfl q223_ok (u := 11) rfl (by first | assumption | exact so0 hsh rfl) rfl (Nat.le_of_ble_eq_true rfl) (Nat.le_of_ble_eq_true rfl) (j_back (n := n + 69) hsh hr1 hok hm hM1 ) (fun v1417 μ1417 hc => ?_)
  obtain ⟨rfl, d2, g2, rfl, hM2, f2⟩ := hc
  refine ⟨mm_le_same rfl, ?_⟩
  refine wp_icmp_eq q0_ok d0_1420 (t := 1450) rfl (fun h1420 => ?_) (fun h1420 => ?_)
  · exact hx sh d2 g2 r1 _ u5 u6 ⟨hsh, by omega, by omega, hr1, okS_up (okS_bak hok) (by omega), repC_lo (okS_bak hok).1 hC1 (fun c a => f2 c (Or.inl a)), hM2⟩
  · exact absurd rfl h1420
theorem lw_c34 {xs : List Int32} {n : Nat} {Q : Option Value → mm_M → Prop} {i m N C : Nat} {S : wo_S} {sh : mm_S} {d : mm_D} {g : mm_G} {r : mm_R} (hl : (mm_ca xs mm_K).length < 2 ^ 31) (hi : i + 6 ≤ (mm_ca xs mm_K).length) (hm : m < 2 ^ 22) (hI : lwI m N C S sh d g r) (u5 u6 : Option Value) (hx : ∀ (sh2 : mm_S) (d2 : mm_D) (g2 : mm_G) (r2 : mm_R) (S2 : wo_S) (v5 v6 : Option Value), lwI (m + 240) (N + 1) (C + 6) S2 sh2 d2 g2 r2 → wp xs (lwX xs) (n + 70) 0 1450 [some (.ref mm_K), some (.ref 0), some (.ref 250), some (.ref 281), some (.int (nI i)), v5, v6] [] (sh2, d2, g2, r2) Q) : wp xs (lwX xs) (n + 70) 0 1425 [some (.ref mm_K), some (.ref 0), some (.ref 250), some (.ref 281), some (.int (nI i)), u5, u6] [] (sh, d, g, r) Q := by
  obtain ⟨hsh, hN, hK, hr, hok, hC, hM⟩ := hI
  refine wp_aload_n (j := 1) rfl q0_ok d0_1425 ?_
  refine wp_aload_n (j := 0) rfl q0_ok d0_1426 ?_
  refine wp_iload (j := 4) rfl q0_ok d0_1427 ?_
  refine wp_iconst (v := 1) (by decide) q0_ok d0_1429 ?_
  refine wp_iadd (la0 i) q0_ok d0_1430 ?_
  refine wp_ialdK q0_ok d0_1431 (Nat.le_of_ble_eq_true rfl) (Nat.le_of_ble_eq_true rfl) (ixn_nI (j := i + 1) (by omega) hl) rfl ?_
  refine wp_cV q0_ok d0_1432 ml_12_171 rfl q127_ok (u := 10) rfl (by first | assumption | exact so0 hsh rfl) rfl (Nat.le_of_ble_eq_true rfl) (Nat.le_of_ble_eq_true rfl) (k_count (n := n + 68) hsh hr hok.1 hC _) (fun v1432 μ1432 hc => ?_)
  obtain ⟨rfl, d1, g1, r1, rfl, hr1, hC1, f1⟩ := hc
  refine ⟨mm_le_same rfl, ?_⟩
  have hM1 := repM_hi hM (fun c a b => ⟨(f1 c a).1, (f1 c a).2.1⟩)
  refine wp_aload_n (j := 2) rfl q0_ok d0_1435 ?_
  refine wp_aload_n (j := 0) rfl q0_ok d0_1436 ?_
  refine wp_iload (j := 4) rfl q0_ok d0_1437 ?_
  refine wp_iconst (v := 1) (by decide) q0_ok d0_1439 ?_
  refine wp_iadd (la0 i) q0_ok d0_1440 ?_
  refine wp_ialdK q0_ok d0_1441 (Nat.le_of_ble_eq_true rfl) (Nat.le_of_ble_eq_true rfl) (ixn_nI (j := i + 1) (by omega) hl) rfl ?_
  refine wp_cV q0_ok d0_1442 ml_12_174 rfl q224_ok (u := 11) rfl (by first | assumption | exact so0 hsh rfl) rfl (Nat.le_of_ble_eq_true rfl) (Nat.le_of_ble_eq_true rfl) (j_count (n := n + 69) hsh hr1 hok hm hM1 _) (fun v1442 μ1442 hc => ?_)
  obtain ⟨rfl, d2, g2, rfl, hM2, f2⟩ := hc
  refine ⟨mm_le_same rfl, ?_⟩
  refine wp_icmp_eq q0_ok d0_1445 (t := 1450) rfl (fun h1445 => ?_) (fun h1445 => ?_)
  · exact hx sh d2 g2 r1 _ u5 u6 ⟨hsh, by omega, by omega, hr1, okS_up (hok) (by omega), repC_lo (hok).1 hC1 (fun c a => f2 c (Or.inl a)), hM2⟩
  · exact absurd rfl h1445
