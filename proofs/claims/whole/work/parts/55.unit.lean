/-! ===== units, clauses, habits ===== -/
theorem c_unit {xs : List Int32} {ext : mm_X} {sh : mm_S} {g : mm_G} {r : mm_R} {L : wo_P} (hsh : shp sh) (hr : rfx r) {n k : Nat} (hk : k ≤ 6) (hs : RDsum xs ext sh g r L (n + 1) k) (hc : RDcmp xs ext sh g r L (n + 1) k) (hd : ∀ k2, k = k2 + 1 → RDden xs ext sh g r L (n + 1) k2) (hn : ∀ k2, k = k2 + 1 → RDcon xs ext sh g r L (n + 1) k2) : RDunit xs ext sh g r L (n + 2) k := by
  intro d p s cs hs1 hS
  have hg := hS.1
  have hwl := wsp_le L hg.2.2
  have hwg := wsp_ge L p
  have hcp := hS.2.2.1
  have h160 := hg.1.2.1
  have hb3 := hb33 hsh hr
  refine wp_aload_n (j := 0) rfl q17_ok d17_0 ?_
  refine wp_getR q17_ok d17_1 fl_1_9 rfl (by first | assumption | exact so0 hsh rfl) (by first | assumption | exact hr _ _ _ rfl) ?_
  refine wp_cV q17_ok d17_4 ml_1_45 rfl q35_ok (u := 4) rfl (by first | assumption | exact so0 hsh rfl) rfl (Nat.le_of_ble_eq_true rfl) (Nat.le_of_ble_eq_true rfl) (c_peek hsh hr hg) (fun v4 μ4 hc => ?_)
  obtain ⟨rfl, d1, rfl, f1, a1, w1⟩ := hc
  refine ⟨mm_le_same rfl, ?_⟩
  have hS1 := HS_sf (s2 := s) hS f1 a1 hwl (show cs.length + s ≤ wsp L p by omega)
  refine wp_istore_n (j := 2) (Nat.le_of_ble_eq_true rfl) (rfl : _ = [_, _, _]) q17_ok d17_7 ?_
  refine wp_iload_n (j := 2) rfl q17_ok d17_8 ?_
  refine wp_bipush (v := 33) (by decide) q17_ok d17_9 ?_
  refine wp_icmp_eq q17_ok d17_11 (t := 42) rfl (fun h11 => ?_) (fun h11 => ?_)
  · refine wp_iload_n (j := 1) rfl q17_ok d17_42 ?_
    refine wp_bipush (v := 6) (by decide) q17_ok d17_43 ?_
    refine wp_icmp_lt q17_ok d17_45 (t := 63) rfl (fun h45 => ?_) (fun h45 => ?_)
    · have hk1 : ¬ k = 0 := fun e => by rw [e] at h45; exact absurd h45 (by decide)
      have hc0 : bAt L (wsp L p) = 33 := h11
      have hql := bAt_lt hc0 (by decide)
      obtain ⟨k2, rfl⟩ : ∃ k2, k = k2 + 1 := ⟨k - 1, by omega⟩
      have er : unitK L (k2 + 1) p = thc (unitK L k2 (wsp L p + 1)) (-14) := by unfold unitK unitS; rw [if_pos hc0]; rfl
      refine wp_aload_n (j := 0) rfl q17_ok d17_63 ?_
      refine wp_getR q17_ok d17_64 fl_1_9 rfl (by first | assumption | exact so0 hsh rfl) (by first | assumption | exact hr _ _ _ rfl) ?_
      refine wp_cV q17_ok d17_67 ml_1_83 rfl q36_ok (u := 4) rfl (by first | assumption | exact so0 hsh rfl) rfl (Nat.le_of_ble_eq_true rfl) (Nat.le_of_ble_eq_true rfl) (c_skip hsh hr a1) (fun v67 μ67 hc => ?_)
      obtain ⟨rfl, rfl⟩ := hc
      refine ⟨mm_le_same rfl, ?_⟩
      have hS2 := HS_sf (s2 := s + 1) hS1 (sf_up d1 1 (nI (wsp L p + 1))) ((mm_up_at 1).trans (if_pos rfl)) hql (show cs.length + (s + 1) ≤ wsp L p + 1 by omega)
      refine wp_iload_n (j := 2) rfl q17_ok d17_70 ?_
      refine wp_bipush (v := 33) (by decide) q17_ok d17_71 ?_
      refine wp_icmp_ne q17_ok d17_73 (t := 86) rfl (fun h73 => ?_) (fun h73 => ?_)
      · exact absurd hc0 h73
      · have h73 := Classical.not_not.mp h73
        refine wp_aload_n (j := 0) rfl q17_ok d17_76 ?_
        refine wp_iload_n (j := 1) rfl q17_ok d17_77 ?_
        refine wp_iconst (v := 1) (by decide) q17_ok d17_78 ?_
        refine wp_iadd (show nI (6 - (k2 + 1)) + 1 = nI (6 - k2) from (nI_1 _).trans (by rw [show 6 - (k2 + 1) + 1 = 6 - k2 by omega])) q17_ok d17_79 ?_
        refine wp_cV q17_ok d17_80 ml_1_86 rfl q18_ok (u := 1) rfl (by first | assumption | exact so0 hsh rfl) rfl (Nat.le_of_ble_eq_true rfl) (Nat.le_of_ble_eq_true rfl) (hd k2 rfl _ _ _ _ hs1 hS2) (fun v80 μ80 hc => ?_)
        obtain ⟨d3, rfl, f3, m3⟩ := hc
        refine ⟨mm_le_same rfl, ?_⟩
        cases e3 : thc (unitK L k2 (wsp L p + 1)) (-14) with
        | inl w =>
          rw [e3] at m3
          obtain ⟨rfl, m3⟩ := m3
          refine wp_goto (t := 113) rfl q17_ok d17_83 ?_
          refine wp_zret q17_ok d17_113 rfl (by first | assumption | exact Or.inl rfl | exact Or.inr rfl) ?_
          exact hp_fail (hf_trans (hf_sf (sf_trans f1 (sf_up d1 _ _))) f3) (er.trans e3) m3
        | inr x =>
          rw [e3] at m3
          obtain ⟨rfl, m3⟩ := m3
          refine wp_goto (t := 113) rfl q17_ok d17_83 ?_
          refine wp_zret q17_ok d17_113 rfl (by first | assumption | exact Or.inl rfl | exact Or.inr rfl) ?_
          exact hp_ok (hf_trans (hf_sf (sf_trans f1 (sf_up d1 _ _))) f3) (er.trans e3) m3
    · have hk0 : k = 0 := Classical.byContradiction (fun q => h45 ((nI_ltI (by omega) (by decide)).mpr (show 6 - k < 6 by omega)))
      refine wp_aload_n (j := 0) rfl q17_ok d17_48 ?_
      refine wp_getR q17_ok d17_49 fl_1_9 rfl (by first | assumption | exact so0 hsh rfl) (by first | assumption | exact hr _ _ _ rfl) ?_
      refine wp_aload_n (j := 0) rfl q17_ok d17_52 ?_
      refine wp_getR q17_ok d17_53 fl_1_9 rfl (by first | assumption | exact so0 hsh rfl) (by first | assumption | exact hr _ _ _ rfl) ?_
      refine wp_getI q17_ok d17_56 fl_1_49 rfl (by first | assumption | exact so0 hsh rfl) a1 ?_
      refine wp_cV q17_ok d17_59 ml_1_80 rfl q39_ok (u := 4) rfl (by first | assumption | exact so0 hsh rfl) rfl (Nat.le_of_ble_eq_true rfl) (Nat.le_of_ble_eq_true rfl) (c_refuse hsh hr _) (fun v59 μ59 hc => ?_)
      obtain ⟨rfl, rfl⟩ := hc
      refine ⟨mm_le_same rfl, ?_⟩
      refine wp_zret q17_ok d17_62 rfl (by first | assumption | exact Or.inl rfl | exact Or.inr rfl) ?_
      exact hp_fail (hf_sf (sf_trans f1 (sf_up d1 _ _))) (show unitK L k p = .inl (wsp L p) from by subst hk0; unfold unitK unitS; rw [if_pos (show bAt L (wsp L p) = 33 from h11)]; rfl) ((mm_up_at 2).trans (if_pos rfl))
  · refine wp_iload_n (j := 2) rfl q17_ok d17_14 ?_
    refine wp_bipush (v := 40) (by decide) q17_ok d17_15 ?_
    refine wp_icmp_eq q17_ok d17_17 (t := 42) rfl (fun h17 => ?_) (fun h17 => ?_)
    · refine wp_iload_n (j := 1) rfl q17_ok d17_42 ?_
      refine wp_bipush (v := 6) (by decide) q17_ok d17_43 ?_
      refine wp_icmp_lt q17_ok d17_45 (t := 63) rfl (fun h45 => ?_) (fun h45 => ?_)
      · have hk1 : ¬ k = 0 := fun e => by rw [e] at h45; exact absurd h45 (by decide)
        have hc0 : bAt L (wsp L p) = 40 := h17
        have hql := bAt_lt hc0 (by decide)
        obtain ⟨k2, rfl⟩ : ∃ k2, k = k2 + 1 := ⟨k - 1, by omega⟩
        have er : unitK L (k2 + 1) p = cls L (conS L (unitK L k2) (wsp L p + 1)) 41 := by unfold unitK unitS; rw [if_neg (show ¬ bAt L (wsp L p) = 33 from h11), if_pos hc0]; rfl
        refine wp_aload_n (j := 0) rfl q17_ok d17_63 ?_
        refine wp_getR q17_ok d17_64 fl_1_9 rfl (by first | assumption | exact so0 hsh rfl) (by first | assumption | exact hr _ _ _ rfl) ?_
        refine wp_cV q17_ok d17_67 ml_1_83 rfl q36_ok (u := 4) rfl (by first | assumption | exact so0 hsh rfl) rfl (Nat.le_of_ble_eq_true rfl) (Nat.le_of_ble_eq_true rfl) (c_skip hsh hr a1) (fun v67 μ67 hc => ?_)
        obtain ⟨rfl, rfl⟩ := hc
        refine ⟨mm_le_same rfl, ?_⟩
        have hS2 := HS_sf (s2 := s) hS1 (sf_up d1 1 (nI (wsp L p + 1))) ((mm_up_at 1).trans (if_pos rfl)) hql (show cs.length + s ≤ wsp L p + 1 by omega)
        refine wp_iload_n (j := 2) rfl q17_ok d17_70 ?_
        refine wp_bipush (v := 33) (by decide) q17_ok d17_71 ?_
        refine wp_icmp_ne q17_ok d17_73 (t := 86) rfl (fun h73 => ?_) (fun h73 => ?_)
        · refine wp_aload_n (j := 0) rfl q17_ok d17_86 ?_
          refine wp_iload_n (j := 1) rfl q17_ok d17_87 ?_
          refine wp_iconst (v := 1) (by decide) q17_ok d17_88 ?_
          refine wp_iadd (show nI (6 - (k2 + 1)) + 1 = nI (6 - k2) from (nI_1 _).trans (by rw [show 6 - (k2 + 1) + 1 = 6 - k2 by omega])) q17_ok d17_89 ?_
          refine wp_cV q17_ok d17_90 ml_1_55 rfl q13_ok (u := 1) rfl (by first | assumption | exact so0 hsh rfl) rfl (Nat.le_of_ble_eq_true rfl) (Nat.le_of_ble_eq_true rfl) (hn k2 rfl _ _ _ _ hs1 hS2) (fun v90 μ90 hc => ?_)
          obtain ⟨d3, rfl, f3, m3⟩ := hc
          refine ⟨mm_le_same rfl, ?_⟩
          cases e3 : conS L (unitK L k2) (wsp L p + 1) with
          | inl w =>
            rw [e3] at m3
            obtain ⟨rfl, m3⟩ := m3
            refine wp_if_eq q17_ok d17_93 (t := 112) rfl (fun h93 => ?_) (fun h93 => ?_)
            · refine wp_iconst (v := 0) (by decide) q17_ok d17_112 ?_
              refine wp_zret q17_ok d17_113 rfl (by first | assumption | exact Or.inl rfl | exact Or.inr rfl) ?_
              exact hp_fail (hf_trans (hf_sf (sf_trans f1 (sf_up d1 _ _))) f3) (er.trans (cls_inl e3)) m3
            · exact absurd rfl h93
          | inr x =>
            rw [e3] at m3
            obtain ⟨rfl, m3⟩ := m3
            refine wp_if_eq q17_ok d17_93 (t := 112) rfl (fun h93 => ?_) (fun h93 => ?_)
            · exact absurd h93 (by decide)
            · refine wp_aload_n (j := 0) rfl q17_ok d17_96 ?_
              refine wp_getR q17_ok d17_97 fl_1_9 rfl (by first | assumption | exact so0 hsh rfl) (by first | assumption | exact hr _ _ _ rfl) ?_
              refine wp_bipush (v := 41) (by decide) q17_ok d17_100 ?_
              refine wp_cV q17_ok d17_102 ml_1_52 rfl q38_ok (u := 4) rfl (by first | assumption | exact so0 hsh rfl) rfl (Nat.le_of_ble_eq_true rfl) (Nat.le_of_ble_eq_true rfl) (c_takes hsh hr m3.1 41) (fun v102 μ102 hc => ?_)
              obtain ⟨t1, t2⟩ := hc
              refine ⟨(Decidable.byCases (p := bAt L (wsp L x.1) = 41) (fun q => by obtain ⟨_, d5, e5, _⟩ := t1 q; rw [e5]; exact mm_le_same rfl) (fun q => by obtain ⟨_, d5, e5, _⟩ := t2 q; rw [e5]; exact mm_le_same rfl)), ?_⟩
              have hcl : cls L (conS L (unitK L k2) (wsp L p + 1)) 41 = if bAt L (wsp L x.1) = 41 then .inr (wsp L x.1 + 1, x.2) else .inl (wsp L x.1) := by rw [e3]; rfl
              by_cases q : bAt L (wsp L x.1) = 41
              · obtain ⟨rfl, d5, rfl, f5, a5⟩ := t1 q
                refine wp_if_eq q17_ok d17_105 (t := 112) rfl (fun h105 => ?_) (fun h105 => ?_)
                · exact absurd h105 (by decide)
                · refine wp_iconst (v := 1) (by decide) q17_ok d17_108 ?_
                  refine wp_goto (t := 113) rfl q17_ok d17_109 ?_
                  refine wp_zret q17_ok d17_113 rfl (by first | assumption | exact Or.inl rfl | exact Or.inr rfl) ?_
                  exact hp_ok (hf_trans (hf_trans (hf_sf (sf_trans f1 (sf_up d1 _ _))) f3) (hf_sf f5)) (er.trans (hcl.trans (if_pos q))) (HS_sf m3 f5 a5 (bAt_lt q (by decide)) (show (cs ++ x.2).length + s ≤ wsp L x.1 + 1 by have := m3.2.2.1; have := wsp_ge L x.1; omega))
              · obtain ⟨rfl, d5, rfl, f5, a5⟩ := t2 q
                refine wp_if_eq q17_ok d17_105 (t := 112) rfl (fun h105 => ?_) (fun h105 => ?_)
                · refine wp_iconst (v := 0) (by decide) q17_ok d17_112 ?_
                  refine wp_zret q17_ok d17_113 rfl (by first | assumption | exact Or.inl rfl | exact Or.inr rfl) ?_
                  exact hp_fail (hf_trans (hf_trans (hf_sf (sf_trans f1 (sf_up d1 _ _))) f3) (hf_sf f5)) (er.trans (hcl.trans (if_neg q))) a5
                · exact absurd rfl h105
        · have h73 := Classical.not_not.mp h73
          exact absurd h73 h11
      · have hk0 : k = 0 := Classical.byContradiction (fun q => h45 ((nI_ltI (by omega) (by decide)).mpr (show 6 - k < 6 by omega)))
        refine wp_aload_n (j := 0) rfl q17_ok d17_48 ?_
        refine wp_getR q17_ok d17_49 fl_1_9 rfl (by first | assumption | exact so0 hsh rfl) (by first | assumption | exact hr _ _ _ rfl) ?_
        refine wp_aload_n (j := 0) rfl q17_ok d17_52 ?_
        refine wp_getR q17_ok d17_53 fl_1_9 rfl (by first | assumption | exact so0 hsh rfl) (by first | assumption | exact hr _ _ _ rfl) ?_
        refine wp_getI q17_ok d17_56 fl_1_49 rfl (by first | assumption | exact so0 hsh rfl) a1 ?_
        refine wp_cV q17_ok d17_59 ml_1_80 rfl q39_ok (u := 4) rfl (by first | assumption | exact so0 hsh rfl) rfl (Nat.le_of_ble_eq_true rfl) (Nat.le_of_ble_eq_true rfl) (c_refuse hsh hr _) (fun v59 μ59 hc => ?_)
        obtain ⟨rfl, rfl⟩ := hc
        refine ⟨mm_le_same rfl, ?_⟩
        refine wp_zret q17_ok d17_62 rfl (by first | assumption | exact Or.inl rfl | exact Or.inr rfl) ?_
        exact hp_fail (hf_sf (sf_trans f1 (sf_up d1 _ _))) (show unitK L k p = .inl (wsp L p) from by subst hk0; unfold unitK unitS; rw [if_neg (show ¬ bAt L (wsp L p) = 33 from h11), if_pos (show bAt L (wsp L p) = 40 from h17)]; rfl) ((mm_up_at 2).trans (if_pos rfl))
    · have er : unitK L k p = thn (sumK L k (wsp L p)) (cmpS L k) := by unfold unitK unitS; rw [if_neg (show ¬ bAt L (wsp L p) = 33 from h11), if_neg (show ¬ bAt L (wsp L p) = 40 from h17)]
      refine wp_aload_n (j := 0) rfl q17_ok d17_20 ?_
      refine wp_iload_n (j := 1) rfl q17_ok d17_21 ?_
      refine wp_cV q17_ok d17_22 ml_1_58 rfl q21_ok (u := 1) rfl (by first | assumption | exact so0 hsh rfl) rfl (Nat.le_of_ble_eq_true rfl) (Nat.le_of_ble_eq_true rfl) (hs _ _ _ _ hs1 hS1) (fun v22 μ22 hc => ?_)
      obtain ⟨d3, rfl, f3, m3⟩ := hc
      refine ⟨mm_le_same rfl, ?_⟩
      cases e3 : sumK L k (wsp L p) with
      | inl w =>
        rw [e3] at m3
        obtain ⟨rfl, m3⟩ := m3
        refine wp_if_eq q17_ok d17_25 (t := 40) rfl (fun h25 => ?_) (fun h25 => ?_)
        · refine wp_iconst (v := 0) (by decide) q17_ok d17_40 ?_
          refine wp_zret q17_ok d17_41 rfl (by first | assumption | exact Or.inl rfl | exact Or.inr rfl) ?_
          exact hp_fail (hf_trans (hf_sf f1) f3) (er.trans (thn_inl e3)) m3
        · exact absurd rfl h25
      | inr x =>
        rw [e3] at m3
        obtain ⟨rfl, m3⟩ := m3
        refine wp_if_eq q17_ok d17_25 (t := 40) rfl (fun h25 => ?_) (fun h25 => ?_)
        · exact absurd h25 (by decide)
        · refine wp_aload_n (j := 0) rfl q17_ok d17_28 ?_
          refine wp_iload_n (j := 1) rfl q17_ok d17_29 ?_
          refine wp_cV q17_ok d17_30 ml_1_65 rfl q19_ok (u := 1) rfl (by first | assumption | exact so0 hsh rfl) rfl (Nat.le_of_ble_eq_true rfl) (Nat.le_of_ble_eq_true rfl) (hc _ _ _ _ hs1 m3) (fun v30 μ30 hc => ?_)
          obtain ⟨d4, rfl, f4, m4⟩ := hc
          refine ⟨mm_le_same rfl, ?_⟩
          cases e4 : cmpS L k x.1 with
          | inl w =>
            rw [e4] at m4
            obtain ⟨rfl, m4⟩ := m4
            refine wp_if_eq q17_ok d17_33 (t := 40) rfl (fun h33 => ?_) (fun h33 => ?_)
            · refine wp_iconst (v := 0) (by decide) q17_ok d17_40 ?_
              refine wp_zret q17_ok d17_41 rfl (by first | assumption | exact Or.inl rfl | exact Or.inr rfl) ?_
              exact hp_thn (hf_trans (hf_sf f1) f3) e3 er (hp_fail f4 e4 m4)
            · exact absurd rfl h33
          | inr y =>
            rw [e4] at m4
            obtain ⟨rfl, m4⟩ := m4
            refine wp_if_eq q17_ok d17_33 (t := 40) rfl (fun h33 => ?_) (fun h33 => ?_)
            · exact absurd h33 (by decide)
            · refine wp_iconst (v := 1) (by decide) q17_ok d17_36 ?_
              refine wp_goto (t := 41) rfl q17_ok d17_37 ?_
              refine wp_zret q17_ok d17_41 rfl (by first | assumption | exact Or.inl rfl | exact Or.inr rfl) ?_
              exact hp_thn (hf_trans (hf_sf f1) f3) e3 er (hp_ok f4 e4 m4)
theorem c_units {xs : List Int32} {ext : mm_X} {sh : mm_S} {g : mm_G} {r : mm_R} {L : wo_P} (hsh : shp sh) (hr : rfx r) : ∀ (k n : Nat), k ≤ 6 → RDunit xs ext sh g r L (n + (5 * k + 12)) k
  | 0, n, _ => c_unit (n := n + 10) hsh hr (by decide) (c_sums hsh hr 0 (n + 6) (by decide)) (c_cmpR hsh hr (c_sums hsh hr 0 (n + 5) (by decide))) (fun k2 e => absurd e (by omega)) (fun k2 e => absurd e (by omega))
  | k + 1, n, hk => by
    have hu : ∀ m, 5 * k + 12 ≤ m → RDunit xs ext sh g r L m k := fun m hm => by
      have := c_units (xs := xs) (ext := ext) (g := g) (L := L) hsh hr k (m - (5 * k + 12)) (by omega)
      rw [show m - (5 * k + 12) + (5 * k + 12) = m by omega] at this
      exact this
    have hS : ∀ m, 3 * (k + 1) + 5 ≤ m → RDsum xs ext sh g r L m (k + 1) := fun m hm => by
      have := c_sums (xs := xs) (ext := ext) (g := g) (L := L) hsh hr (k + 1) (m - (3 * (k + 1) + 5)) hk
      rw [show m - (3 * (k + 1) + 5) + (3 * (k + 1) + 5) = m by omega] at this
      exact this
    rw [show n + (5 * (k + 1) + 12) = n + 5 * k + 15 + 2 by omega]
    refine c_unit hsh hr hk (hS _ (by omega)) (c_cmpR hsh hr (hS _ (by omega))) (fun k2 e => ?_) (fun k2 e => ?_)
    · have e2 : k2 = k := by omega
      subst e2
      exact c_den hsh hr (hu _ (by omega))
    · have e2 : k2 = k := by omega
      subst e2
      exact c_con (n := n + 5 * k2 + 15) hsh hr (c_tru (n := n + 5 * k2 + 14) hsh hr (hu _ (by omega)) (c_mu (n := n + 5 * k2 + 12) hsh hr (hu _ (by omega)))) (c_mt (n := n + 5 * k2 + 13) hsh hr (c_tru (n := n + 5 * k2 + 13) hsh hr (hu _ (by omega)) (c_mu (n := n + 5 * k2 + 11) hsh hr (hu _ (by omega)))))
