/-! ===== the law's loop ===== -/
theorem la6 (k : Nat) : nI k + Int32.ofInt 6 = nI (k + 6) := nI_pl k 6
theorem lw_lt6 {l : Nat} (h : l < 6) : nI l - 6 < 0 := by
  have : ∀ l, l < 6 → nI l - 6 < 0 := by decide
  exact this l h
theorem lw_ge6 {l : Nat} (h : 6 ≤ l) : nI l - 6 = nI (l - 6) := by
  have e : nI l = nI (l - 6) + nI 6 := by rw [nI_pl]; congr 1; omega
  rw [e]
  show nI (l - 6) + 6 - 6 = _
  grind
theorem lw_body {xs : List Int32} {n : Nat} {Q : Option Value → mm_M → Prop} {i m N C : Nat} {S : wo_S} {sh : mm_S} {d : mm_D} {g : mm_G} {r : mm_R} (hl : (mm_ca xs mm_K).length < 2 ^ 31) (hi : i + 6 ≤ (mm_ca xs mm_K).length) (hm : m < 2 ^ 22) (hI : lwI m N C S sh d g r) (u5 u6 : Option Value) (hx : ∀ (sh2 : mm_S) (d2 : mm_D) (g2 : mm_G) (r2 : mm_R) (S2 : wo_S) (v5 v6 : Option Value), lwI (m + 240) (N + 1) (C + 6) S2 sh2 d2 g2 r2 → wp xs (lwX xs) (n + 70) 0 1450 [some (.ref mm_K), some (.ref 0), some (.ref 250), some (.ref 281), some (.int (nI i)), v5, v6] [] (sh2, d2, g2, r2) Q) : wp xs (lwX xs) (n + 70) 0 33 [some (.ref mm_K), some (.ref 0), some (.ref 250), some (.ref 281), some (.int (nI i)), u5, u6] [] (sh, d, g, r) Q := by
  obtain ⟨x, hxv⟩ : ∃ x, (mm_ca xs mm_K).getD i 0 &&& 63 = x := ⟨_, rfl⟩
  refine wp_aload_n (j := 0) rfl q0_ok d0_33 ?_
  refine wp_iload (j := 4) rfl q0_ok d0_34 ?_
  refine wp_ialdK q0_ok d0_36 (Nat.le_of_ble_eq_true rfl) (Nat.le_of_ble_eq_true rfl) (ixn_nI (j := i) (by omega) hl) rfl ?_
  refine wp_bipush (v := 63) (by decide) q0_ok d0_37 ?_
  refine wp_iand hxv q0_ok d0_39 ?_
  by_cases e0 : x = 0
  · refine wp_swI q0_ok d0_40 (by rw [e0]; decide) (by rw [e0]; rfl) (t := 196) rfl ?_
    exact lw_c0 hl hi hm hI u5 u6 hx
  by_cases e1 : x = 1
  · refine wp_swI q0_ok d0_40 (by rw [e1]; decide) (by rw [e1]; rfl) (t := 269) rfl ?_
    exact lw_c1 hl hi hm hI u5 u6 hx
  by_cases e2 : x = 2
  · refine wp_swI q0_ok d0_40 (by rw [e2]; decide) (by rw [e2]; rfl) (t := 294) rfl ?_
    exact lw_c2 hl hi hm hI u5 u6 hx
  by_cases e3 : x = 3
  · refine wp_swI q0_ok d0_40 (by rw [e3]; decide) (by rw [e3]; rfl) (t := 319) rfl ?_
    exact lw_c3 hl hi hm hI u5 u6 hx
  by_cases e4 : x = 4
  · refine wp_swI q0_ok d0_40 (by rw [e4]; decide) (by rw [e4]; rfl) (t := 344) rfl ?_
    exact lw_c4 hl hi hm hI u5 u6 hx
  by_cases e5 : x = 5
  · refine wp_swI q0_ok d0_40 (by rw [e5]; decide) (by rw [e5]; rfl) (t := 412) rfl ?_
    exact lw_c5 hl hi hm hI u5 u6 hx
  by_cases e6 : x = 6
  · refine wp_swI q0_ok d0_40 (by rw [e6]; decide) (by rw [e6]; rfl) (t := 449) rfl ?_
    exact lw_c6 hl hi hm hI u5 u6 hx
  by_cases e7 : x = 7
  · refine wp_swI q0_ok d0_40 (by rw [e7]; decide) (by rw [e7]; rfl) (t := 474) rfl ?_
    exact lw_c7 hl hi hm hI u5 u6 hx
  by_cases e8 : x = 8
  · refine wp_swI q0_ok d0_40 (by rw [e8]; decide) (by rw [e8]; rfl) (t := 523) rfl ?_
    exact lw_c8 hl hi hm hI u5 u6 hx
  by_cases e9 : x = 9
  · refine wp_swI q0_ok d0_40 (by rw [e9]; decide) (by rw [e9]; rfl) (t := 548) rfl ?_
    exact lw_c9 hl hi hm hI u5 u6 hx
  by_cases e10 : x = 10
  · refine wp_swI q0_ok d0_40 (by rw [e10]; decide) (by rw [e10]; rfl) (t := 605) rfl ?_
    exact lw_c10 hl hi hm hI u5 u6 hx
  by_cases e11 : x = 11
  · refine wp_swI q0_ok d0_40 (by rw [e11]; decide) (by rw [e11]; rfl) (t := 630) rfl ?_
    exact lw_c11 hl hi hm hI u5 u6 hx
  by_cases e12 : x = 12
  · refine wp_swI q0_ok d0_40 (by rw [e12]; decide) (by rw [e12]; rfl) (t := 643) rfl ?_
    exact lw_c12 hl hi hm hI u5 u6 hx
  by_cases e13 : x = 13
  · refine wp_swI q0_ok d0_40 (by rw [e13]; decide) (by rw [e13]; rfl) (t := 692) rfl ?_
    exact lw_c13 hl hi hm hI u5 u6 hx
  by_cases e14 : x = 14
  · refine wp_swI q0_ok d0_40 (by rw [e14]; decide) (by rw [e14]; rfl) (t := 729) rfl ?_
    exact lw_c14 hl hi hm hI u5 u6 hx
  by_cases e15 : x = 15
  · refine wp_swI q0_ok d0_40 (by rw [e15]; decide) (by rw [e15]; rfl) (t := 766) rfl ?_
    exact lw_c15 hl hi hm hI u5 u6 hx
  by_cases e16 : x = 16
  · refine wp_swI q0_ok d0_40 (by rw [e16]; decide) (by rw [e16]; rfl) (t := 803) rfl ?_
    exact lw_c16 hl hi hm hI u5 u6 hx
  by_cases e17 : x = 17
  · refine wp_swI q0_ok d0_40 (by rw [e17]; decide) (by rw [e17]; rfl) (t := 840) rfl ?_
    exact lw_c17 hl hi hm hI u5 u6 hx
  by_cases e18 : x = 18
  · refine wp_swI q0_ok d0_40 (by rw [e18]; decide) (by rw [e18]; rfl) (t := 877) rfl ?_
    exact lw_c18 hl hi hm hI u5 u6 hx
  by_cases e19 : x = 19
  · refine wp_swI q0_ok d0_40 (by rw [e19]; decide) (by rw [e19]; rfl) (t := 902) rfl ?_
    exact lw_c19 hl hi hm hI u5 u6 hx
  by_cases e20 : x = 20
  · refine wp_swI q0_ok d0_40 (by rw [e20]; decide) (by rw [e20]; rfl) (t := 927) rfl ?_
    exact lw_c20 hl hi hm hI u5 u6 hx
  by_cases e21 : x = 21
  · refine wp_swI q0_ok d0_40 (by rw [e21]; decide) (by rw [e21]; rfl) (t := 988) rfl ?_
    exact lw_c21 hl hi hm hI u5 u6 hx
  by_cases e22 : x = 22
  · refine wp_swI q0_ok d0_40 (by rw [e22]; decide) (by rw [e22]; rfl) (t := 1025) rfl ?_
    exact lw_c22 hl hi hm hI u5 u6 hx
  by_cases e23 : x = 23
  · refine wp_swI q0_ok d0_40 (by rw [e23]; decide) (by rw [e23]; rfl) (t := 1074) rfl ?_
    exact lw_c23 hl hi hm hI u5 u6 hx
  by_cases e24 : x = 24
  · refine wp_swI q0_ok d0_40 (by rw [e24]; decide) (by rw [e24]; rfl) (t := 1127) rfl ?_
    exact lw_c24 hl hi hm hI u5 u6 hx
  by_cases e25 : x = 25
  · refine wp_swI q0_ok d0_40 (by rw [e25]; decide) (by rw [e25]; rfl) (t := 1152) rfl ?_
    exact lw_c25 hl hi hm hI u5 u6 hx
  by_cases e26 : x = 26
  · refine wp_swI q0_ok d0_40 (by rw [e26]; decide) (by rw [e26]; rfl) (t := 1189) rfl ?_
    exact lw_c26 hl hi hm hI u5 u6 hx
  by_cases e27 : x = 27
  · refine wp_swI q0_ok d0_40 (by rw [e27]; decide) (by rw [e27]; rfl) (t := 1214) rfl ?_
    exact lw_c27 hl hi hm hI u5 u6 hx
  by_cases e28 : x = 28
  · refine wp_swI q0_ok d0_40 (by rw [e28]; decide) (by rw [e28]; rfl) (t := 1263) rfl ?_
    exact lw_c28 hl hi hm hI u5 u6 hx
  by_cases e29 : x = 29
  · refine wp_swI q0_ok d0_40 (by rw [e29]; decide) (by rw [e29]; rfl) (t := 1288) rfl ?_
    exact lw_c29 hl hi hm hI u5 u6 hx
  by_cases e30 : x = 30
  · refine wp_swI q0_ok d0_40 (by rw [e30]; decide) (by rw [e30]; rfl) (t := 1325) rfl ?_
    exact lw_c30 hl hi hm hI u5 u6 hx
  by_cases e31 : x = 31
  · refine wp_swI q0_ok d0_40 (by rw [e31]; decide) (by rw [e31]; rfl) (t := 1362) rfl ?_
    exact lw_c31 hl hi hm hI u5 u6 hx
  by_cases e32 : x = 32
  · refine wp_swI q0_ok d0_40 (by rw [e32]; decide) (by rw [e32]; rfl) (t := 1399) rfl ?_
    exact lw_c32 hl hi hm hI u5 u6 hx
  by_cases e33 : x = 33
  · refine wp_swI q0_ok d0_40 (by rw [e33]; decide) (by rw [e33]; rfl) (t := 1412) rfl ?_
    exact lw_c33 hl hi hm hI u5 u6 hx
  by_cases e34 : x = 34
  · refine wp_swI q0_ok d0_40 (by rw [e34]; decide) (by rw [e34]; rfl) (t := 1425) rfl ?_
    exact lw_c34 hl hi hm hI u5 u6 hx
  have hout : (x).toInt < 0 ∨ 34 < (x).toInt := by
    apply Classical.byContradiction
    intro hx
    have key : ∀ z : Int32, ¬ x = z → ¬ (x).toInt = z.toInt := fun z hz e => hz (Int32.toInt_inj.mp e)
    have k0 := key 0 e0
    rw [show (0 : Int32).toInt = 0 from by decide] at k0
    have k1 := key 1 e1
    rw [show (1 : Int32).toInt = 1 from by decide] at k1
    have k2 := key 2 e2
    rw [show (2 : Int32).toInt = 2 from by decide] at k2
    have k3 := key 3 e3
    rw [show (3 : Int32).toInt = 3 from by decide] at k3
    have k4 := key 4 e4
    rw [show (4 : Int32).toInt = 4 from by decide] at k4
    have k5 := key 5 e5
    rw [show (5 : Int32).toInt = 5 from by decide] at k5
    have k6 := key 6 e6
    rw [show (6 : Int32).toInt = 6 from by decide] at k6
    have k7 := key 7 e7
    rw [show (7 : Int32).toInt = 7 from by decide] at k7
    have k8 := key 8 e8
    rw [show (8 : Int32).toInt = 8 from by decide] at k8
    have k9 := key 9 e9
    rw [show (9 : Int32).toInt = 9 from by decide] at k9
    have k10 := key 10 e10
    rw [show (10 : Int32).toInt = 10 from by decide] at k10
    have k11 := key 11 e11
    rw [show (11 : Int32).toInt = 11 from by decide] at k11
    have k12 := key 12 e12
    rw [show (12 : Int32).toInt = 12 from by decide] at k12
    have k13 := key 13 e13
    rw [show (13 : Int32).toInt = 13 from by decide] at k13
    have k14 := key 14 e14
    rw [show (14 : Int32).toInt = 14 from by decide] at k14
    have k15 := key 15 e15
    rw [show (15 : Int32).toInt = 15 from by decide] at k15
    have k16 := key 16 e16
    rw [show (16 : Int32).toInt = 16 from by decide] at k16
    have k17 := key 17 e17
    rw [show (17 : Int32).toInt = 17 from by decide] at k17
    have k18 := key 18 e18
    rw [show (18 : Int32).toInt = 18 from by decide] at k18
    have k19 := key 19 e19
    rw [show (19 : Int32).toInt = 19 from by decide] at k19
    have k20 := key 20 e20
    rw [show (20 : Int32).toInt = 20 from by decide] at k20
    have k21 := key 21 e21
    rw [show (21 : Int32).toInt = 21 from by decide] at k21
    have k22 := key 22 e22
    rw [show (22 : Int32).toInt = 22 from by decide] at k22
    have k23 := key 23 e23
    rw [show (23 : Int32).toInt = 23 from by decide] at k23
    have k24 := key 24 e24
    rw [show (24 : Int32).toInt = 24 from by decide] at k24
    have k25 := key 25 e25
    rw [show (25 : Int32).toInt = 25 from by decide] at k25
    have k26 := key 26 e26
    rw [show (26 : Int32).toInt = 26 from by decide] at k26
    have k27 := key 27 e27
    rw [show (27 : Int32).toInt = 27 from by decide] at k27
    have k28 := key 28 e28
    rw [show (28 : Int32).toInt = 28 from by decide] at k28
    have k29 := key 29 e29
    rw [show (29 : Int32).toInt = 29 from by decide] at k29
    have k30 := key 30 e30
    rw [show (30 : Int32).toInt = 30 from by decide] at k30
    have k31 := key 31 e31
    rw [show (31 : Int32).toInt = 31 from by decide] at k31
    have k32 := key 32 e32
    rw [show (32 : Int32).toInt = 32 from by decide] at k32
    have k33 := key 33 e33
    rw [show (33 : Int32).toInt = 33 from by decide] at k33
    have k34 := key 34 e34
    rw [show (34 : Int32).toInt = 34 from by decide] at k34
    omega
  refine wp_swO q0_ok d0_40 hout (t := 1450) rfl ?_
  obtain ⟨hsh, hN, hK, hr, hok, hC, hM⟩ := hI
  exact hx sh d g r S u5 u6 ⟨hsh, by omega, by omega, hr, okS_up hok (by omega), hC, hM⟩
theorem lw_loop {xs : List Int32} {n : Nat} (hl : (mm_ca xs mm_K).length < 2 ^ 31 - 8) {N0 C0 : Nat} : ∀ (z i m N C : Nat) (S : wo_S) (sh : mm_S) (d : mm_D) (g : mm_G) (r : mm_R) (u5 u6 : Option Value), (mm_ca xs mm_K).length ≤ i + 6 * z → i < 2 ^ 31 - 8 → m + 240 * z < 2 ^ 22 → N + z ≤ N0 → C + 6 * z ≤ C0 → lwI m N C S sh d g r → wp xs (lwX xs) (n + 70) 0 23 [some (.ref mm_K), some (.ref 0), some (.ref 250), some (.ref 281), some (.int (nI i)), u5, u6] [] (sh, d, g, r) (fun v μ => v = some (.int 1) ∧ μ.1.1 = 282 ∧ μ.1.2.1 ≤ N0 ∧ μ.1.2.2.1 ≤ C0) := by
  intro z
  induction z with
  | zero =>
    intro i m N C S sh d g r u5 u6 hz hi31 hm hN0 hC0 hI
    refine wp_iload (j := 4) rfl q0_ok d0_23 ?_
    refine wp_aload_n (j := 0) rfl q0_ok d0_25 ?_
    refine wp_alenK q0_ok d0_26 (Nat.le_of_ble_eq_true rfl) (Nat.le_of_ble_eq_true rfl) (rfl : _ = nI (mm_ca xs mm_K).length) ?_
    refine wp_bipush (v := 6) (by decide) q0_ok d0_27 ?_
    refine wp_isub rfl q0_ok d0_29 ?_
    refine wp_icmp_gt q0_ok d0_30 (t := 1456) rfl (fun h30 => ?_) (fun h30 => ?_)
    · refine wp_iconst (v := 1) (by decide) q0_ok d0_1456 ?_
      refine wp_zret q0_ok d0_1457 rfl (by first | assumption | exact Or.inl rfl | exact Or.inr rfl) ?_
      exact ⟨rfl, hI.1.1, Nat.le_trans hI.2.1 (by omega), Nat.le_trans hI.2.2.1 (by omega)⟩
    · have hi6 : i + 6 ≤ (mm_ca xs mm_K).length := by
        by_cases h6 : 6 ≤ (mm_ca xs mm_K).length
        · rw [lw_ge6 h6] at h30
          have := (nI_leI (by omega) (by omega)).mp (Int32.not_lt.mp h30)
          omega
        · exact absurd (Int32.lt_of_lt_of_le (lw_lt6 (by omega)) (nI_pos' (by omega))) h30
      omega
  | succ z ih =>
    intro i m N C S sh d g r u5 u6 hz hi31 hm hN0 hC0 hI
    refine wp_iload (j := 4) rfl q0_ok d0_23 ?_
    refine wp_aload_n (j := 0) rfl q0_ok d0_25 ?_
    refine wp_alenK q0_ok d0_26 (Nat.le_of_ble_eq_true rfl) (Nat.le_of_ble_eq_true rfl) (rfl : _ = nI (mm_ca xs mm_K).length) ?_
    refine wp_bipush (v := 6) (by decide) q0_ok d0_27 ?_
    refine wp_isub rfl q0_ok d0_29 ?_
    refine wp_icmp_gt q0_ok d0_30 (t := 1456) rfl (fun h30 => ?_) (fun h30 => ?_)
    · refine wp_iconst (v := 1) (by decide) q0_ok d0_1456 ?_
      refine wp_zret q0_ok d0_1457 rfl (by first | assumption | exact Or.inl rfl | exact Or.inr rfl) ?_
      exact ⟨rfl, hI.1.1, Nat.le_trans hI.2.1 (by omega), Nat.le_trans hI.2.2.1 (by omega)⟩
    · have hi6 : i + 6 ≤ (mm_ca xs mm_K).length := by
        by_cases h6 : 6 ≤ (mm_ca xs mm_K).length
        · rw [lw_ge6 h6] at h30
          have := (nI_leI (by omega) (by omega)).mp (Int32.not_lt.mp h30)
          omega
        · exact absurd (Int32.lt_of_lt_of_le (lw_lt6 (by omega)) (nI_pos' (by omega))) h30
      refine lw_body (by omega) hi6 (by omega) hI u5 u6 (fun sh2 d2 g2 r2 S2 v5 v6 hI2 => ?_)
      refine wp_iinc (j := 4) rfl (la6 i) (rfl : _ = [_, _, _, _, _, _, _]) q0_ok d0_1450 ?_
      refine wp_goto (t := 23) rfl q0_ok d0_1453 ?_
      exact ih (i + 6) (m + 240) (N + 1) (C + 6) S2 sh2 d2 g2 r2 v5 v6 (by omega) (by omega) (by omega) (by omega) (by omega) hI2
