/-! ===== undo, go, count, note ===== -/
theorem k_undo {xs : List Int32} {ext : mm_X} {n : Nat} {sh : mm_S} {d : mm_D} {g : mm_G} {r : mm_R} {S : wo_S} (hsh : shp sh) (hr : rfx r) (ok : okW (sW S) (sH S).1) (h : repC d g r S) : wp xs ext (n + 3) 102 0 [some (.ref 0)] [] (sh, d, g, r) (kpost sh d g r (undS' S) (some (.int (undQ S)))) := by
  have hT : rpC d r (sT S) := rpC_of ok h.1 h.2.1
  have hA0 := h.2.2.1.1
  have hnp : tnp (sT S) ≤ 6 := ok.1
  have hnb : tnb (sT S) ≤ 2 := ok.2.1
  obtain ⟨nx, n1, n2, n3, n4, n5⟩ := h.2.2.1.2.2
  refine wp_aload_n (j := 0) rfl q102_ok d102_0 ?_
  refine wp_getR q102_ok d102_1 fl_10_82 rfl (by first | assumption | exact so0 hsh rfl) (by first | assumption | exact hr _ _ _ rfl) ?_
  refine wp_aload_n (j := 0) rfl q102_ok d102_4 ?_
  refine wp_getR q102_ok d102_5 fl_10_69 rfl (by first | assumption | exact so0 hsh rfl) (by first | assumption | exact hr _ _ _ rfl) ?_
  refine wp_cV q102_ok d102_8 ml_10_240 rfl q32_ok (u := 3) rfl (by first | assumption | exact so0 hsh rfl) rfl (Nat.le_of_ble_eq_true rfl) (Nat.le_of_ble_eq_true rfl) (c_restore hsh hr n2 n1 n3 n4) (fun v8 μ8 hc => ?_)
  obtain ⟨c1, c2⟩ := hc
  refine ⟨(Decidable.byCases (p := (sX S).2.2.1 = 0) (fun q => by rw [(c1 q).2]; exact mm_le_same rfl) (fun q => by rw [(c2 q).2]; exact mm_le_same rfl)), ?_⟩
  by_cases q : (sX S).2.2.1 = 0
  · obtain ⟨rfl, rfl⟩ := c1 q
    refine wp_if_eq q102_ok d102_11 (t := 24) rfl (fun h11 => ?_) (fun h11 => ?_)
    · refine wp_iconst (v := -1) (by decide) q102_ok d102_24 ?_
      refine wp_iret q102_ok d102_25 rfl ?_
      unfold undQ undS'
      rw [if_pos q, if_pos q]
      exact kp_same hr h rfl
    · exact absurd rfl h11
  · obtain ⟨rfl, rfl⟩ := c2 q
    obtain ⟨p1, p2⟩ := n5 ((sX S).2.2.1 - 1) (by omega)
    have hxp : nxP nx < 60 := nxP_lt n1
    have em : (nx + 60 - (sX S).2.2.1 + ((sX S).2.2.1 - 1)) % 60 = nxP nx := by unfold nxP; split <;> omega
    rw [em] at p1 p2
    have er : ∀ c, (c < 38 ∨ 41 ≤ c) → c ≠ 47 → rsD d nx (sX S).2.2.1 c = d c := fun c h1 h2 => by unfold rsD; rw [cpT_r (by omega), mm_up_ne h2, mm_up_ne h2]
    have eA : hA (rsD d nx (sX S).2.2.1) 38 ((sX S).2.2.2 ((sX S).2.2.1 - 1)).1 := by
      unfold rsD
      exact hA_cpT (by omega) (hA_row p1 (by rw [mm_up_ne (by omega), mm_up_ne (by omega)]) (by rw [mm_up_ne (by omega), mm_up_ne (by omega)]) (by rw [mm_up_ne (by omega), mm_up_ne (by omega)]))
    refine wp_if_eq q102_ok d102_11 (t := 24) rfl (fun h11 => ?_) (fun h11 => ?_)
    · exact absurd h11 (by decide)
    · refine wp_aload_n (j := 0) rfl q102_ok d102_14 ?_
      refine wp_getR q102_ok d102_15 fl_10_69 rfl (by first | assumption | exact so0 hsh rfl) (by first | assumption | exact hr _ _ _ rfl) ?_
      refine wp_getI q102_ok d102_18 fl_10_217 rfl (by first | assumption | exact so0 hsh rfl) eA.1 ?_
      refine wp_goto (t := 25) rfl q102_ok d102_21 ?_
      refine wp_iret q102_ok d102_25 rfl ?_
      unfold undQ undS'
      rw [if_neg q, if_neg q]
      refine ⟨rfl, _, _, _, rfl, hr, repC_now ok h (fun c h1 h2 h3 => er c (by omega) (by omega)) (mm_up_ne (by decide)) ⟨eA, ((mm_up_at 3).trans (if_pos rfl)).trans p2, nxP nx, hxp, ?_, ?_, by show (sX S).2.2.1 - 1 ≤ 60; omega, fun i hi => ?_⟩, fun c hc => ⟨er c (by omega) (by omega), mm_up_ne (by omega), rfl⟩⟩
      · unfold rsD
        rw [cpT_r (by decide), mm_up_at, if_pos rfl]
      · unfold rsD
        rw [cpT_r (by decide), mm_up_at, if_neg (by decide), mm_up_at, if_pos rfl]
        exact nI_sub1 (by omega)
      · have hi' : i < (sX S).2.2.1 - 1 := hi
        show hA _ (49 + 3 * ((nxP nx + 60 - ((sX S).2.2.1 - 1) + i) % 60)) _ ∧ mm_up g 38 3 _ (49 + 3 * ((nxP nx + 60 - ((sX S).2.2.1 - 1) + i) % 60)) 3 = _
        have e2 : (nxP nx + 60 - ((sX S).2.2.1 - 1) + i) % 60 = (nx + 60 - (sX S).2.2.1 + i) % 60 := by unfold nxP; split <;> omega
        rw [e2]
        obtain ⟨u1, u2⟩ := n5 i (by omega)
        exact ⟨hA_row u1 (er _ (by omega) (by omega)) (er _ (by omega) (by omega)) (er _ (by omega) (by omega)), by rw [mm_up_ne (by omega)]; exact u2⟩
theorem k_go {xs : List Int32} {ext : mm_X} {n : Nat} {sh : mm_S} {d : mm_D} {g : mm_G} {r : mm_R} {S : wo_S} (hsh : shp sh) (hr : rfx r) (ok : okW (sW S) (sH S).1) (h : repC d g r S) (n1 : Int32) : wp xs ext (n + 7) 101 0 [some (.ref 0), some (.int n1), none, none, none, none] [] (sh, d, g, r) (kpost sh d g r (goS S n1) (some (.int (goQ S n1)))) := by
  have hT : rpC d r (sT S) := rpC_of ok h.1 h.2.1
  have hA0 := h.2.2.1.1
  have hnp : tnp (sT S) ≤ 6 := ok.1
  have hnb : tnb (sT S) ≤ 2 := ok.2.1
  refine wp_aload_n (j := 0) rfl q101_ok d101_0 ?_
  refine wp_cV q101_ok d101_1 ml_10_189 rfl q128_ok (u := 10) rfl (by first | assumption | exact so0 hsh rfl) rfl (Nat.le_of_ble_eq_true rfl) (Nat.le_of_ble_eq_true rfl) (c_hasTown hsh hr) (fun v1 μ1 hc => ?_)
  obtain ⟨rfl, rfl⟩ := hc
  refine ⟨mm_le_same rfl, ?_⟩
  refine wp_if_eq q101_ok d101_4 (t := 14) rfl (fun h4 => ?_) (fun h4 => ?_)
  · refine wp_iconst (v := -1) (by decide) q101_ok d101_14 ?_
    refine wp_iret q101_ok d101_15 rfl ?_
    have hq : ¬ goT S n1 := fun q => (has_T hT).mp h4 q.1
    unfold goQ goS
    rw [if_neg hq, if_neg hq]
    exact kp_same hr h rfl
  · refine wp_iload_n (j := 1) rfl q101_ok d101_7 ?_
    refine wp_cS q101_ok d101_8 ml_10_210 rfl q132_ok rfl rfl rfl (Nat.le_of_ble_eq_true rfl) (Nat.le_of_ble_eq_true rfl) (c_isAhead _) (fun v8 μ8 hc => ?_)
    obtain ⟨rfl, rfl⟩ := hc
    refine ⟨mm_le_same rfl, ?_⟩
    refine wp_if_ne q101_ok d101_11 (t := 16) rfl (fun h11 => ?_) (fun h11 => ?_)
    · have hq : goT S n1 := ⟨iff_nn (has_T hT) h4, iff_nn (ahd_T n1) h11⟩
      obtain ⟨N, hN1, hN, hNe⟩ := ahd_of h11
      have hNc : n1.toNatClampNeg = N := by rw [hNe]; exact nI_clamp (by omega)
      unfold goQ goS
      rw [if_pos hq, if_pos hq, hNc]
      subst hNe
      refine wp_iconst (v := 0) (by decide) q101_ok d101_16 ?_
      refine wp_istore_n (j := 2) (Nat.le_of_ble_eq_true rfl) (rfl : _ = [_, _, _, _, _, _]) q101_ok d101_17 ?_
      refine wp_post (c_go_l hsh hr hT h.2.2.2.1 hN N 0 none none none d g (sX S) (by omega) frG_refl h.2.2.1) (fun v μ hc => ?_)
      obtain ⟨rfl, d2, g2, rfl, f1, f2⟩ := hc
      exact ⟨rfl, _, _, _, rfl, hr, repC_now ok h f1.1 (f1.2 44 (by decide) (by decide)) f2, fun c hc => ⟨f1.1 c (by unfold scr; omega) (by omega) (by omega), f1.2 c (by omega) (by omega), rfl⟩⟩
    · have h11 := Classical.not_not.mp h11
      refine wp_iconst (v := -1) (by decide) q101_ok d101_14 ?_
      refine wp_iret q101_ok d101_15 rfl ?_
      have hq : ¬ goT S n1 := fun q => (ahd_T n1).mp h11 q.2
      unfold goQ goS
      rw [if_neg hq, if_neg hq]
      exact kp_same hr h rfl
theorem k_count {xs : List Int32} {ext : mm_X} {n : Nat} {sh : mm_S} {d : mm_D} {g : mm_G} {r : mm_R} {S : wo_S} (hsh : shp sh) (hr : rfx r) (ok : okW (sW S) (sH S).1) (h : repC d g r S) (w : Int32) : wp xs ext (n + 1) 127 0 [some (.ref 0), some (.int w)] [] (sh, d, g, r) (kpost sh d g r (S) (some (.int (countQ S w)))) := by
  have hT : rpC d r (sT S) := rpC_of ok h.1 h.2.1
  have hA0 := h.2.2.1.1
  have hnp : tnp (sT S) ≤ 6 := ok.1
  have hnb : tnb (sT S) ≤ 2 := ok.2.1
  obtain ⟨nx, n1, n2, pl, n4, n5⟩ := h.2.2.1.2.2
  refine wp_iload_n (j := 1) rfl q127_ok d127_0 ?_
  by_cases e0 : w = 0
  · refine wp_swI q127_ok d127_1 (by rw [e0]; decide) (by rw [e0]; rfl) (t := 48) rfl ?_
    refine wp_aload_n (j := 0) rfl q127_ok d127_48 ?_
    refine wp_getR q127_ok d127_49 fl_10_28 rfl (by first | assumption | exact so0 hsh rfl) (by first | assumption | exact hr _ _ _ rfl) ?_
    refine wp_getI q127_ok d127_52 fl_10_139 rfl (by first | assumption | exact so0 hsh rfl) h.1.1 ?_
    refine wp_iret q127_ok d127_55 rfl ?_
    exact kp_same hr h (by unfold countQ; rw [if_pos e0])
  by_cases e1 : w = 1
  · refine wp_swI q127_ok d127_1 (by rw [e1]; decide) (by rw [e1]; rfl) (t := 56) rfl ?_
    refine wp_aload_n (j := 0) rfl q127_ok d127_56 ?_
    refine wp_getR q127_ok d127_57 fl_10_28 rfl (by first | assumption | exact so0 hsh rfl) (by first | assumption | exact hr _ _ _ rfl) ?_
    refine wp_getI q127_ok d127_60 fl_10_336 rfl (by first | assumption | exact so0 hsh rfl) h.1.2.1 ?_
    refine wp_iret q127_ok d127_63 rfl ?_
    exact kp_same hr h (by unfold countQ; rw [if_neg e0, if_pos e1])
  by_cases e2 : w = 2
  · refine wp_swI q127_ok d127_1 (by rw [e2]; decide) (by rw [e2]; rfl) (t := 64) rfl ?_
    refine wp_aload_n (j := 0) rfl q127_ok d127_64 ?_
    refine wp_getI q127_ok d127_65 fl_10_142 rfl (by first | assumption | exact so0 hsh rfl) h.2.1.1 ?_
    refine wp_iret q127_ok d127_68 rfl ?_
    exact kp_same hr h (by unfold countQ; rw [if_neg e0, if_neg e1, if_pos e2])
  by_cases e3 : w = 3
  · refine wp_swI q127_ok d127_1 (by rw [e3]; decide) (by rw [e3]; rfl) (t := 69) rfl ?_
    refine wp_aload_n (j := 0) rfl q127_ok d127_69 ?_
    refine wp_getR q127_ok d127_70 fl_10_12 rfl (by first | assumption | exact so0 hsh rfl) (by first | assumption | exact hr _ _ _ rfl) ?_
    refine wp_getI q127_ok d127_73 fl_10_106 rfl (by first | assumption | exact so0 hsh rfl) h.2.2.2.2.1.1 ?_
    refine wp_iret q127_ok d127_76 rfl ?_
    exact kp_same hr h (by unfold countQ; rw [if_neg e0, if_neg e1, if_neg e2, if_pos e3])
  by_cases e4 : w = 4
  · refine wp_swI q127_ok d127_1 (by rw [e4]; decide) (by rw [e4]; rfl) (t := 77) rfl ?_
    refine wp_aload_n (j := 0) rfl q127_ok d127_77 ?_
    refine wp_getR q127_ok d127_78 fl_10_69 rfl (by first | assumption | exact so0 hsh rfl) (by first | assumption | exact hr _ _ _ rfl) ?_
    refine wp_getI q127_ok d127_81 fl_10_217 rfl (by first | assumption | exact so0 hsh rfl) hA0.1 ?_
    refine wp_iret q127_ok d127_84 rfl ?_
    exact kp_same hr h (by unfold countQ; rw [if_neg e0, if_neg e1, if_neg e2, if_neg e3, if_pos e4])
  by_cases e5 : w = 5
  · refine wp_swI q127_ok d127_1 (by rw [e5]; decide) (by rw [e5]; rfl) (t := 85) rfl ?_
    refine wp_aload_n (j := 0) rfl q127_ok d127_85 ?_
    refine wp_cV q127_ok d127_86 ml_10_189 rfl q128_ok (u := 10) rfl (by first | assumption | exact so0 hsh rfl) rfl (Nat.le_of_ble_eq_true rfl) (Nat.le_of_ble_eq_true rfl) (c_hasTown hsh hr) (fun v86 μ86 hc => ?_)
    obtain ⟨rfl, rfl⟩ := hc
    refine ⟨mm_le_same rfl, ?_⟩
    refine wp_if_eq q127_ok d127_89 (t := 102) rfl (fun h89 => ?_) (fun h89 => ?_)
    · refine wp_iconst (v := 0) (by decide) q127_ok d127_102 ?_
      refine wp_iret q127_ok d127_103 rfl ?_
      exact kp_same hr h (by unfold countQ; rw [if_neg e0, if_neg e1, if_neg e2, if_neg e3, if_neg e4, if_pos e5, if_neg ((has_T hT).mp h89)])
    · refine wp_aload_n (j := 0) rfl q127_ok d127_92 ?_
      refine wp_getR q127_ok d127_93 fl_10_28 rfl (by first | assumption | exact so0 hsh rfl) (by first | assumption | exact hr _ _ _ rfl) ?_
      refine wp_cV q127_ok d127_96 ml_10_224 rfl q58_ok (u := 7) rfl (by first | assumption | exact so0 hsh rfl) rfl (Nat.le_of_ble_eq_true rfl) (Nat.le_of_ble_eq_true rfl) (c_view hsh hr) (fun v96 μ96 hc => ?_)
      obtain ⟨rfl, rfl⟩ := hc
      refine ⟨mm_le_same rfl, ?_⟩
      rw [hT.2.2.2.2.2.2]
      refine wp_goto (t := 103) rfl q127_ok d127_99 ?_
      refine wp_iret q127_ok d127_103 rfl ?_
      exact kp_same hr h (by unfold countQ; rw [if_neg e0, if_neg e1, if_neg e2, if_neg e3, if_neg e4, if_pos e5, if_pos (iff_nn (has_T hT) h89)])
  by_cases e6 : w = 6
  · refine wp_swI q127_ok d127_1 (by rw [e6]; decide) (by rw [e6]; rfl) (t := 104) rfl ?_
    refine wp_aload_n (j := 0) rfl q127_ok d127_104 ?_
    refine wp_getR q127_ok d127_105 fl_10_89 rfl (by first | assumption | exact so0 hsh rfl) (by first | assumption | exact hr _ _ _ rfl) ?_
    refine wp_getI q127_ok d127_108 fl_10_294 rfl (by first | assumption | exact so0 hsh rfl) h.2.2.2.2.2.2.1.1 ?_
    refine wp_iret q127_ok d127_111 rfl ?_
    exact kp_same hr h (by unfold countQ; rw [if_neg e0, if_neg e1, if_neg e2, if_neg e3, if_neg e4, if_neg e5, if_pos e6])
  by_cases e7 : w = 7
  · refine wp_swI q127_ok d127_1 (by rw [e7]; decide) (by rw [e7]; rfl) (t := 112) rfl ?_
    refine wp_aload_n (j := 0) rfl q127_ok d127_112 ?_
    refine wp_getR q127_ok d127_113 fl_10_82 rfl (by first | assumption | exact so0 hsh rfl) (by first | assumption | exact hr _ _ _ rfl) ?_
    refine wp_getI q127_ok d127_116 fl_10_339 rfl (by first | assumption | exact so0 hsh rfl) pl ?_
    refine wp_iret q127_ok d127_119 rfl ?_
    exact kp_same hr h (by unfold countQ; rw [if_neg e0, if_neg e1, if_neg e2, if_neg e3, if_neg e4, if_neg e5, if_neg e6, if_pos e7])
  have hout : (w).toInt < 0 ∨ 7 < (w).toInt := by
    apply Classical.byContradiction
    intro hx
    have key : ∀ z : Int32, ¬ w = z → ¬ (w).toInt = z.toInt := fun z hz e => hz (Int32.toInt_inj.mp e)
    have k0 := key 0 e0
    rw [show (0 : Int32).toInt = 0 from by decide] at k0
    have k1 := key 1 e1
    rw [show (1 : Int32).toInt = 1 from by decide] at k1
    have k2 := key 2 e2
    rw [show (2 : Int32).toInt = 2 from by decide] at k2
    have k3 := key 3 e3
    rw [show (3 : Int32).toInt = 3 from by decide] at k3
    have k4 := key 4 e4
    rw [show (4 : Int32).toInt = 4 from by decide] at k4
    have k5 := key 5 e5
    rw [show (5 : Int32).toInt = 5 from by decide] at k5
    have k6 := key 6 e6
    rw [show (6 : Int32).toInt = 6 from by decide] at k6
    have k7 := key 7 e7
    rw [show (7 : Int32).toInt = 7 from by decide] at k7
    omega
  refine wp_swO q127_ok d127_1 hout (t := 120) rfl ?_
  refine wp_ldc_w kc_10_277 q127_ok d127_120 ?_
  refine wp_iret q127_ok d127_123 rfl ?_
  exact kp_same hr h (by unfold countQ; rw [if_neg e0, if_neg e1, if_neg e2, if_neg e3, if_neg e4, if_neg e5, if_neg e6, if_neg e7])
theorem k_note {xs : List Int32} {ext : mm_X} {n : Nat} {sh : mm_S} {d : mm_D} {g : mm_G} {r : mm_R} {S : wo_S} (hsh : shp sh) (hr : rfx r) (ok : okW (sW S) (sH S).1) (h : repC d g r S) (t b : Int32) (hb : b = 0 ∨ b = 1) : wp xs ext (n + 1) 114 0 [some (.ref 0), some (.int t), some (.int b)] [] (sh, d, g, r) (kpost sh d g r (notS S t b) (some (.int (notQ S t)))) := by
  have hT : rpC d r (sT S) := rpC_of ok h.1 h.2.1
  have hA0 := h.2.2.1.1
  have hnp : tnp (sT S) ≤ 6 := ok.1
  have hnb : tnb (sT S) ≤ 2 := ok.2.1
  obtain ⟨m1, m2, m3⟩ := h.2.2.2.2.2.2.1
  refine wp_aload_n (j := 0) rfl q114_ok d114_0 ?_
  refine wp_cV q114_ok d114_1 ml_10_189 rfl q128_ok (u := 10) rfl (by first | assumption | exact so0 hsh rfl) rfl (Nat.le_of_ble_eq_true rfl) (Nat.le_of_ble_eq_true rfl) (c_hasTown hsh hr) (fun v1 μ1 hc => ?_)
  obtain ⟨rfl, rfl⟩ := hc
  refine ⟨mm_le_same rfl, ?_⟩
  refine wp_if_eq q114_ok d114_4 (t := 29) rfl (fun h4 => ?_) (fun h4 => ?_)
  · refine wp_iconst (v := -1) (by decide) q114_ok d114_29 ?_
    refine wp_iret q114_ok d114_30 rfl ?_
    have hq : ¬ notT S t := fun q => (has_T hT).mp h4 q.1
    unfold notQ notS
    rw [if_neg hq, if_neg hq]
    exact kp_same hr h rfl
  · refine wp_iload_n (j := 1) rfl q114_ok d114_7 ?_
    refine wp_if_lt q114_ok d114_8 (t := 29) rfl (fun h8 => ?_) (fun h8 => ?_)
    · refine wp_iconst (v := -1) (by decide) q114_ok d114_29 ?_
      refine wp_iret q114_ok d114_30 rfl ?_
      have hq : ¬ notT S t := fun q => absurd q.2.1.1 (Int32.not_le.mpr h8)
      unfold notQ notS
      rw [if_neg hq, if_neg hq]
      exact kp_same hr h rfl
    · refine wp_iload_n (j := 1) rfl q114_ok d114_11 ?_
      refine wp_bipush (v := 60) (by decide) q114_ok d114_12 ?_
      refine wp_icmp_gt q114_ok d114_14 (t := 29) rfl (fun h14 => ?_) (fun h14 => ?_)
      · refine wp_iconst (v := -1) (by decide) q114_ok d114_29 ?_
        refine wp_iret q114_ok d114_30 rfl ?_
        have hq : ¬ notT S t := fun q => absurd q.2.1.2 (Int32.not_le.mpr h14)
        unfold notQ notS
        rw [if_neg hq, if_neg hq]
        exact kp_same hr h rfl
      · refine wp_aload_n (j := 0) rfl q114_ok d114_17 ?_
        refine wp_getR q114_ok d114_18 fl_10_89 rfl (by first | assumption | exact so0 hsh rfl) (by first | assumption | exact hr _ _ _ rfl) ?_
        refine wp_getI q114_ok d114_21 fl_10_294 rfl (by first | assumption | exact so0 hsh rfl) m1 ?_
        refine wp_bipush (v := 20) (by decide) q114_ok d114_24 ?_
        refine wp_icmp_lt q114_ok d114_26 (t := 31) rfl (fun h26 => ?_) (fun h26 => ?_)
        · have hq : notT S t := ⟨iff_nn (has_T hT) h4, ⟨Int32.not_lt.mp h8, Int32.not_lt.mp h14⟩, (nI_ltI (by omega) (by decide)).mp (show nI (sN S).1 < nI 20 from h26)⟩
          unfold notQ notS
          rw [if_pos hq, if_pos hq]
          have ht : t = nI t.toNatClampNeg := nI_ofn hq.2.1.1
          have ht60 : t.toNatClampNeg ≤ 60 := by
            have a := hq.2.1.2
            rw [ht] at a
            refine (nI_leI ?_ (by decide)).mp (show nI t.toNatClampNeg ≤ nI 60 from a)
            have b := Int32.toInt_lt t
            have c : t.toNatClampNeg = t.toInt.toNat := rfl
            omega
          refine wp_aload_n (j := 0) rfl q114_ok d114_31 ?_
          refine wp_getR q114_ok d114_32 fl_10_89 rfl (by first | assumption | exact so0 hsh rfl) (by first | assumption | exact hr _ _ _ rfl) ?_
          refine wp_iload_n (j := 1) rfl q114_ok d114_35 ?_
          refine wp_iload_n (j := 2) rfl q114_ok d114_36 ?_
          refine wp_cV q114_ok d114_37 ml_10_295 rfl q26_ok (u := 2) rfl (by first | assumption | exact so0 hsh rfl) rfl (Nat.le_of_ble_eq_true rfl) (Nat.le_of_ble_eq_true rfl) (c_nadd hsh hr m1 hq.2.2 t b hb) (fun v37 μ37 hc => ?_)
          obtain ⟨rfl, rfl⟩ := hc
          refine ⟨mm_le_same rfl, ?_⟩
          refine wp_aload_n (j := 0) rfl q114_ok d114_40 ?_
          refine wp_getR q114_ok d114_41 fl_10_89 rfl (by first | assumption | exact so0 hsh rfl) (by first | assumption | exact hr _ _ _ rfl) ?_
          refine wp_getI q114_ok d114_44 fl_10_294 rfl (by first | assumption | exact so0 hsh rfl) ((mm_up_at 2).trans (if_pos rfl)) ?_
          refine wp_iret q114_ok d114_47 rfl ?_
          obtain ⟨a1, a2, a3, a4, a5, a6, a7, a8⟩ := h
          have e : ∀ c, c ≠ 229 → c ≠ 230 → c ≠ 231 → mm_up (mm_up (mm_up d 230 (sN S).1 t) 231 (sN S).1 b) 229 2 (nI ((sN S).1 + 1)) c = d c := fun c h1 h2 h3 => by rw [mm_up_ne h1, mm_up_ne h3, mm_up_ne h2]
          refine ⟨rfl, _, _, _, rfl, hr, ⟨rpW_row ⟨ok.1, ok.2.1⟩ a1 (fun c h1 h2 => e c (by omega) (by omega) (by omega)) rfl, rpH_row a2 (fun c h1 h2 => e c (by omega) (by omega) (by omega)), hX_row a3 (fun c hc => e c (by omega) (by omega) (by omega)) (fun _ _ => rfl), ?_, ?_, ⟨?_, hA_row a6.2.1 (e _ (by decide) (by decide) (by decide)) (e _ (by decide) (by decide) (by decide)) (e _ (by decide) (by decide) (by decide)), a6.2.2⟩, ⟨(mm_up_at 2).trans (if_pos rfl), by show (sN S).1 + 1 ≤ 20; omega, fun i hi => ?_⟩, hA_row a8 (e _ (by decide) (by decide) (by decide)) (e _ (by decide) (by decide) (by decide)) (e _ (by decide) (by decide) (by decide))⟩, fun c hc => ⟨e c (by omega) (by omega) (by omega), rfl, rfl⟩⟩
          · rw [e 0 (by decide) (by decide) (by decide)]; exact a4
          · rw [e 1 (by decide) (by decide) (by decide), e 2 (by decide) (by decide) (by decide)]; exact a5
          · rw [e 0 (by decide) (by decide) (by decide)]; exact a6.1
          · have hi' : i < (sN S).1 + 1 := hi
            show (if i = (sN S).1 then t.toNatClampNeg else (sN S).2.1 i) ≤ 60 ∧ _ = nI (if i = (sN S).1 then t.toNatClampNeg else (sN S).2.1 i) ∧ _ = (if i = (sN S).1 then b else (sN S).2.2 i)
            rw [mm_up_ne (show 230 ≠ 229 by decide), mm_up_ne (show 230 ≠ 231 by decide), mm_up_at, mm_up_ne (show 231 ≠ 229 by decide), mm_up_at]
            by_cases q : i = (sN S).1
            · rw [if_pos q, if_pos q, if_pos q, if_pos q]
              exact ⟨ht60, ht, rfl⟩
            · rw [if_neg q, if_neg q, if_neg q, if_neg q, mm_up_ne (show 231 ≠ 230 by decide)]
              exact m3 i (by omega)
        · refine wp_iconst (v := -1) (by decide) q114_ok d114_29 ?_
          refine wp_iret q114_ok d114_30 rfl ?_
          have hq : ¬ notT S t := fun q => h26 ((nI_ltI (by omega) (by decide)).mpr (show (sN S).1 < 20 from q.2.2))
          unfold notQ notS
          rw [if_neg hq, if_neg hq]
          exact kp_same hr h rfl
