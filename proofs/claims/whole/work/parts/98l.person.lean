/-! ===== the law's person ===== -/
def bmpS (sh : mm_S) : mm_S := (sh.1, sh.2.1 + 1, sh.2.2.1 + 6, sh.2.2.2)
theorem bmp_shp {sh : mm_S} (h : shp sh) : shp (bmpS sh) := h
theorem bmp_le {sh : mm_S} {d : mm_D} {g : mm_G} {r : mm_R} : mm_le (sh, d, g, r) (lwBump (sh, d, g, r)) = true := by
  unfold mm_le lwBump
  rw [Bool.and_eq_true, Bool.and_eq_true, decide_eq_true_eq, decide_eq_true_eq, decide_eq_true_eq]
  exact ⟨Nat.le_refl _, Nat.le_succ _, Nat.le_add_right _ _⟩
theorem lg_self (x : Int64) : lg_cmp x x = 0 := by
  unfold lg_cmp
  rw [if_neg (fun h => absurd (Int64.lt_iff_toInt_lt.mp h) (Int.lt_irrefl _)), if_pos rfl]
theorem lw_c4 {xs : List Int32} {n : Nat} {Q : Option Value → mm_M → Prop} {i m N C : Nat} {S : wo_S} {sh : mm_S} {d : mm_D} {g : mm_G} {r : mm_R} (hl : (mm_ca xs mm_K).length < 2 ^ 31) (hi : i + 6 ≤ (mm_ca xs mm_K).length) (hm : m < 2 ^ 22) (hI : lwI m N C S sh d g r) (u5 u6 : Option Value) (hx : ∀ (sh2 : mm_S) (d2 : mm_D) (g2 : mm_G) (r2 : mm_R) (S2 : wo_S) (v5 v6 : Option Value), lwI (m + 240) (N + 1) (C + 6) S2 sh2 d2 g2 r2 → wp xs (lwX xs) (n + 70) 0 1450 [some (.ref mm_K), some (.ref 0), some (.ref 250), some (.ref 281), some (.int (nI i)), v5, v6] [] (sh2, d2, g2, r2) Q) : wp xs (lwX xs) (n + 70) 0 344 [some (.ref mm_K), some (.ref 0), some (.ref 250), some (.ref 281), some (.int (nI i)), u5, u6] [] (sh, d, g, r) Q := by
  obtain ⟨hsh, hN, hK, hr, hok, hC, hM⟩ := hI
  obtain ⟨p0, hp1⟩ : ∃ p, (mm_ca xs mm_K).getD (i + 1) 0 = p := ⟨_, rfl⟩
  obtain ⟨p1, hp2⟩ : ∃ p, (mm_ca xs mm_K).getD (i + 2) 0 = p := ⟨_, rfl⟩
  have hR := rpC_of hok.1 hC.1 hC.2.1
  refine wp_aload_n (j := 1) rfl q0_ok d0_344 ?_
  refine wp_aload_n (j := 0) rfl q0_ok d0_345 ?_
  refine wp_iload (j := 4) rfl q0_ok d0_346 ?_
  refine wp_iconst (v := 1) (by decide) q0_ok d0_348 ?_
  refine wp_iadd (la0 i) q0_ok d0_349 ?_
  refine wp_ialdK q0_ok d0_350 (Nat.le_of_ble_eq_true rfl) (Nat.le_of_ble_eq_true rfl) (ixn_nI (j := i + 1) (by omega) hl) hp1 ?_
  refine wp_aload_n (j := 0) rfl q0_ok d0_351 ?_
  refine wp_iload (j := 4) rfl q0_ok d0_352 ?_
  refine wp_iconst (v := 2) (by decide) q0_ok d0_354 ?_
  refine wp_iadd (la2 i) q0_ok d0_355 ?_
  refine wp_ialdK q0_ok d0_356 (Nat.le_of_ble_eq_true rfl) (Nat.le_of_ble_eq_true rfl) (ixn_nI (j := i + 2) (by omega) hl) hp2 ?_
  refine wp_aload_n (j := 3) rfl q0_ok d0_357 ?_
  by_cases hn : perT (sT S) p0 ∧ (0 ≤ p1 ∧ p1 ≤ 6)
  · have hT : ¬ lwT d p0 p1 := fun q => by
      rcases q with q | q | q
      · exact (perC_T hR p0).mp q hn.1
      · exact absurd hn.2.1 (Int32.not_le.mpr q)
      · exact absurd hn.2.2 (Int32.not_le.mpr q)
    obtain ⟨f, v, μ', hrun, rfl, d1, g1, r1, rfl, hr1, hC0, f1⟩ := k_person (xs := xs) (ext := lwX0) (n := n + 61) hsh hr hok.1 hC p0 p1 hn.1 hn.2
    refine wp_ext q0_ok d0_358 ml_12_38 rfl q1_ok rfl (lwX_of (k := n + 61) (Or.inr ⟨hT, hsh, f, _, _, hrun, mm_le_same rfl, so_is (so0 hsh rfl), shl hsh (m := 1) (Nat.le_of_ble_eq_true rfl) rfl, rfl⟩)) (mm_le_same rfl) ?_
    show wp xs (lwX xs) (n + 70) 0 361 [some (.ref mm_K), some (.ref 0), some (.ref 250), some (.ref 281), some (.int (nI i)), u5, u6] [.int 0] (sh, d1, mm_up g1 281 0 (personQ S p0 p1).toInt64, r1) Q
    have hC1 : repC d1 (mm_up g1 281 0 (personQ S p0 p1).toInt64) r1 S := repC_lo hok.1 hC0 (fun c a => ⟨rfl, mm_up_ne (by omega)⟩)
    have hM1 : repM d1 (mm_up g1 281 0 (personQ S p0 p1).toInt64) S := repM_hi hM (fun c a b => ⟨(f1 c a).1, (mm_up_ne (by omega)).trans (f1 c a).2.1⟩)
    refine wp_istore (j := 5) (Nat.le_of_ble_eq_true rfl) (rfl : _ = [_, _, _, _, _, _, _]) q0_ok d0_361 ?_
    refine wp_aload_n (j := 2) rfl q0_ok d0_363 ?_
    refine wp_aload_n (j := 0) rfl q0_ok d0_364 ?_
    refine wp_iload (j := 4) rfl q0_ok d0_365 ?_
    refine wp_iconst (v := 1) (by decide) q0_ok d0_367 ?_
    refine wp_iadd (la0 i) q0_ok d0_368 ?_
    refine wp_ialdK q0_ok d0_369 (Nat.le_of_ble_eq_true rfl) (Nat.le_of_ble_eq_true rfl) (ixn_nI (j := i + 1) (by omega) hl) hp1 ?_
    refine wp_aload_n (j := 0) rfl q0_ok d0_370 ?_
    refine wp_iload (j := 4) rfl q0_ok d0_371 ?_
    refine wp_iconst (v := 2) (by decide) q0_ok d0_373 ?_
    refine wp_iadd (la2 i) q0_ok d0_374 ?_
    refine wp_ialdK q0_ok d0_375 (Nat.le_of_ble_eq_true rfl) (Nat.le_of_ble_eq_true rfl) (ixn_nI (j := i + 2) (by omega) hl) hp2 ?_
    refine wp_cV q0_ok d0_376 ml_12_43 rfl q185_ok (u := 11) rfl (so0 hsh rfl) rfl (Nat.le_of_ble_eq_true rfl) (Nat.le_of_ble_eq_true rfl) (j_person (n := n + 62) hsh hr1 hok hm hM1 p0 p1 hn.1 hn.2) (fun v376 μ376 hc => ?_)
    obtain ⟨rfl, d2, rfl, hM2, f2, ht⟩ := hc
    refine ⟨mm_le_same rfl, ?_⟩
    refine wp_istore (j := 6) (Nat.le_of_ble_eq_true rfl) (rfl : _ = [_, _, _, _, _, _, _]) q0_ok d0_379 ?_
    refine wp_aload_n (j := 2) rfl q0_ok d0_381 ?_
    refine wp_cV q0_ok d0_382 ml_12_44 rfl q136_ok (u := 11) rfl (so0 hsh rfl) rfl (Nat.le_of_ble_eq_true rfl) (Nat.le_of_ble_eq_true rfl) (m_thrown (n := n + 69) hsh hr1 ht) (fun v382 μ382 hc => ?_)
    obtain ⟨rfl, rfl⟩ := hc
    refine ⟨mm_le_same rfl, ?_⟩
    refine wp_iload (j := 5) rfl q0_ok d0_385 ?_
    refine wp_icmp_eq q0_ok d0_387 (t := 392) rfl (fun h387 => ?_) (fun h387 => ?_)
    · refine wp_iload (j := 5) rfl q0_ok d0_392 ?_
      refine wp_if_ne q0_ok d0_394 (t := 409) rfl (fun h394 => ?_) (fun h394 => ?_)
      · exact absurd rfl h394
      · have h394 := Classical.not_not.mp h394
        refine wp_aload_n (j := 3) rfl q0_ok d0_397 ?_
        refine wp_iconst (v := 0) (by decide) q0_ok d0_398 ?_
        refine wp_lald q0_ok d0_399 (so0 hsh rfl) (shl hsh (m := 1) (Nat.le_of_ble_eq_true rfl) rfl) (ixn_nI (j := 0) (Nat.le_of_ble_eq_true rfl)) ((mm_up_at 0).trans (if_pos rfl)) ?_
        refine wp_iload (j := 6) rfl q0_ok d0_400 ?_
        refine wp_i2l rfl q0_ok d0_402 ?_
        refine wp_lcmp rfl q0_ok d0_403 ?_
        refine wp_if_eq q0_ok d0_404 (t := 409) rfl (fun h404 => ?_) (fun h404 => ?_)
        · refine wp_goto (t := 1450) rfl q0_ok d0_409 ?_
          exact hx sh d2 _ r1 S _ _ ⟨hsh, by omega, by omega, hr1, okS_up hok (by omega), repC_lo hok.1 hC1 (fun c a => ⟨(f2 c (Or.inl a)).1, rfl⟩), hM2⟩
        · exact absurd (lg_self _) h404
    · exact absurd rfl h387
  · have hT : lwT d p0 p1 := by
      by_cases a : perT (sT S) p0
      · right
        by_cases b : p1 < 0
        · exact Or.inl b
        · exact Or.inr (Int32.not_le.mp (fun c => hn ⟨a, Int32.not_lt.mp b, c⟩))
      · exact Or.inl ((perC_T hR p0).mpr a)
    refine wp_ext q0_ok d0_358 ml_12_38 rfl q1_ok rfl (lwX_of (k := n + 61) (Or.inl ⟨hT, hsh, hr, rfl⟩)) bmp_le ?_
    show wp xs (lwX xs) (n + 70) 0 361 [some (.ref mm_K), some (.ref 0), some (.ref 250), some (.ref 281), some (.int (nI i)), u5, u6] [.int 1] (bmpS sh, d, g, r) Q
    refine wp_istore (j := 5) (Nat.le_of_ble_eq_true rfl) (rfl : _ = [_, _, _, _, _, _, _]) q0_ok d0_361 ?_
    refine wp_aload_n (j := 2) rfl q0_ok d0_363 ?_
    refine wp_aload_n (j := 0) rfl q0_ok d0_364 ?_
    refine wp_iload (j := 4) rfl q0_ok d0_365 ?_
    refine wp_iconst (v := 1) (by decide) q0_ok d0_367 ?_
    refine wp_iadd (la0 i) q0_ok d0_368 ?_
    refine wp_ialdK q0_ok d0_369 (Nat.le_of_ble_eq_true rfl) (Nat.le_of_ble_eq_true rfl) (ixn_nI (j := i + 1) (by omega) hl) hp1 ?_
    refine wp_aload_n (j := 0) rfl q0_ok d0_370 ?_
    refine wp_iload (j := 4) rfl q0_ok d0_371 ?_
    refine wp_iconst (v := 2) (by decide) q0_ok d0_373 ?_
    refine wp_iadd (la2 i) q0_ok d0_374 ?_
    refine wp_ialdK q0_ok d0_375 (Nat.le_of_ble_eq_true rfl) (Nat.le_of_ble_eq_true rfl) (ixn_nI (j := i + 2) (by omega) hl) hp2 ?_
    refine wp_cV q0_ok d0_376 ml_12_43 rfl q185_ok (u := 11) rfl (so0 (bmp_shp hsh) rfl) rfl (Nat.le_of_ble_eq_true rfl) (Nat.le_of_ble_eq_true rfl) (j_person0 (n := n + 67) (bmp_shp hsh) hr hok hm hM p0 p1 hn) (fun v376 μ376 hc => ?_)
    obtain ⟨rfl, d2, rfl, hM2, f2, ht⟩ := hc
    refine ⟨mm_le_same rfl, ?_⟩
    refine wp_istore (j := 6) (Nat.le_of_ble_eq_true rfl) (rfl : _ = [_, _, _, _, _, _, _]) q0_ok d0_379 ?_
    refine wp_aload_n (j := 2) rfl q0_ok d0_381 ?_
    refine wp_cV q0_ok d0_382 ml_12_44 rfl q136_ok (u := 11) rfl (so0 (bmp_shp hsh) rfl) rfl (Nat.le_of_ble_eq_true rfl) (Nat.le_of_ble_eq_true rfl) (m_thrown (n := n + 69) (bmp_shp hsh) hr ht) (fun v382 μ382 hc => ?_)
    obtain ⟨rfl, rfl⟩ := hc
    refine ⟨mm_le_same rfl, ?_⟩
    refine wp_iload (j := 5) rfl q0_ok d0_385 ?_
    refine wp_icmp_eq q0_ok d0_387 (t := 392) rfl (fun h387 => ?_) (fun h387 => ?_)
    · refine wp_iload (j := 5) rfl q0_ok d0_392 ?_
      refine wp_if_ne q0_ok d0_394 (t := 409) rfl (fun h394 => ?_) (fun h394 => ?_)
      · refine wp_goto (t := 1450) rfl q0_ok d0_409 ?_
        exact hx (bmpS sh) d2 g r S _ _ ⟨bmp_shp hsh, (show sh.2.1 + 1 ≤ N + 1 by omega), (show sh.2.2.1 + 6 ≤ C + 6 by omega), hr, okS_up hok (by omega), repC_lo hok.1 hC (fun c a => ⟨(f2 c (Or.inl a)).1, rfl⟩), hM2⟩
      · have h394 := Classical.not_not.mp h394
        exact absurd h394 (by decide)
    · exact absurd rfl h387
