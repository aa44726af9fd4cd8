/-! ===== the reading of conditions ===== -/
def RDcmp (xs : List Int32) (ext : mm_X) (sh : mm_S) (g : mm_G) (r : mm_R) (L : wo_P) (n k : Nat) : Prop := ∀ (d : mm_D) (p s : Nat) (cs : List Int32), 1 ≤ s → HS d L p s cs → wp xs ext n 19 0 [some (.ref 36), some (.int (nI (6 - k))), none] [] (sh, d, g, r) (hpost sh g r L d s cs (cmpS L k p))
def RDunit (xs : List Int32) (ext : mm_X) (sh : mm_S) (g : mm_G) (r : mm_R) (L : wo_P) (n k : Nat) : Prop := ∀ (d : mm_D) (p s : Nat) (cs : List Int32), 1 ≤ s → HS d L p s cs → wp xs ext n 17 0 [some (.ref 36), some (.int (nI (6 - k))), none] [] (sh, d, g, r) (hpost sh g r L d s cs (unitK L k p))
def RDden (xs : List Int32) (ext : mm_X) (sh : mm_S) (g : mm_G) (r : mm_R) (L : wo_P) (n k : Nat) : Prop := ∀ (d : mm_D) (p s : Nat) (cs : List Int32), 1 ≤ s → HS d L p (s + 1) cs → wp xs ext n 18 0 [some (.ref 36), some (.int (nI (6 - k)))] [] (sh, d, g, r) (hpost sh g r L d s cs (thc (unitK L k p) (-14)))
def RDmu (xs : List Int32) (ext : mm_X) (sh : mm_S) (g : mm_G) (r : mm_R) (L : wo_P) (n k : Nat) : Prop := ∀ (d : mm_D) (p s : Nat) (cs : List Int32), 1 ≤ s → HS d L p s cs → wp xs ext n 16 0 [some (.ref 36), some (.int (nI (6 - k))), none] [] (sh, d, g, r) (hpost sh g r L d s cs (mulS L (unitK L k) 38 (-13) 160 p))
def RDtru (xs : List Int32) (ext : mm_X) (sh : mm_S) (g : mm_G) (r : mm_R) (L : wo_P) (n k : Nat) : Prop := ∀ (d : mm_D) (p s : Nat) (cs : List Int32), 1 ≤ s → HS d L p s cs → wp xs ext n 15 0 [some (.ref 36), some (.int (nI (6 - k)))] [] (sh, d, g, r) (hpost sh g r L d s cs (truS L (unitK L k) p))
def RDmt (xs : List Int32) (ext : mm_X) (sh : mm_S) (g : mm_G) (r : mm_R) (L : wo_P) (n k : Nat) : Prop := ∀ (d : mm_D) (p s : Nat) (cs : List Int32), 1 ≤ s → HS d L p s cs → wp xs ext n 14 0 [some (.ref 36), some (.int (nI (6 - k))), none] [] (sh, d, g, r) (hpost sh g r L d s cs (mulS L (truS L (unitK L k)) 124 (-12) 160 p))
def RDcon (xs : List Int32) (ext : mm_X) (sh : mm_S) (g : mm_G) (r : mm_R) (L : wo_P) (n k : Nat) : Prop := ∀ (d : mm_D) (p s : Nat) (cs : List Int32), 1 ≤ s → HS d L p s cs → wp xs ext n 13 0 [some (.ref 36), some (.int (nI (6 - k)))] [] (sh, d, g, r) (hpost sh g r L d s cs (conS L (unitK L k) p))
theorem c_cmpR {xs : List Int32} {ext : mm_X} {sh : mm_S} {g : mm_G} {r : mm_R} {L : wo_P} (hsh : shp sh) (hr : rfx r) {n k : Nat} (hi : RDsum xs ext sh g r L n k) : RDcmp xs ext sh g r L (n + 1) k := by
  intro d p s cs hs1 hS
  have hg := hS.1
  have hwl := wsp_le L hg.2.2
  have hwg := wsp_ge L p
  have hcp := hS.2.2.1
  have h160 := hg.1.2.1
  have hb3 := hb33 hsh hr
  refine wp_aload_n (j := 0) rfl q19_ok d19_0 ?_
  refine wp_getR q19_ok d19_1 fl_1_9 rfl (by first | assumption | exact so0 hsh rfl) (by first | assumption | exact hr _ _ _ rfl) ?_
  refine wp_cV q19_ok d19_4 ml_1_45 rfl q35_ok (u := 4) rfl (by first | assumption | exact so0 hsh rfl) rfl (Nat.le_of_ble_eq_true rfl) (Nat.le_of_ble_eq_true rfl) (c_peek hsh hr hg) (fun v4 μ4 hc => ?_)
  obtain ⟨rfl, d1, rfl, f1, a1, w1⟩ := hc
  refine ⟨mm_le_same rfl, ?_⟩
  have hS1 := HS_sf (s2 := s) hS f1 a1 hwl (show cs.length + s ≤ wsp L p by omega)
  refine wp_cS q19_ok d19_7 ml_1_61 rfl q20_ok rfl rfl rfl (Nat.le_of_ble_eq_true rfl) (Nat.le_of_ble_eq_true rfl) (c_cmp _) (fun v7 μ7 hc => ?_)
  obtain ⟨rfl, rfl⟩ := hc
  refine ⟨mm_le_same rfl, ?_⟩
  refine wp_istore_n (j := 2) (Nat.le_of_ble_eq_true rfl) (rfl : _ = [_, _, _]) q19_ok d19_10 ?_
  refine wp_iload_n (j := 2) rfl q19_ok d19_11 ?_
  refine wp_iconst (v := -1) (by decide) q19_ok d19_12 ?_
  refine wp_icmp_ne q19_ok d19_13 (t := 31) rfl (fun h13 => ?_) (fun h13 => ?_)
  · have hne : ¬ cmp (bAt L (wsp L p)) = -1 := h13
    have hql : wsp L p < L.1 := by
      refine Classical.byContradiction (fun q => hne ?_)
      unfold bAt
      rw [if_neg q]
      decide
    have er : cmpS L k p = thc (sumK L k (wsp L p + 1)) (cmp (bAt L (wsp L p))) := if_neg hne
    refine wp_aload_n (j := 0) rfl q19_ok d19_31 ?_
    refine wp_getR q19_ok d19_32 fl_1_9 rfl (by first | assumption | exact so0 hsh rfl) (by first | assumption | exact hr _ _ _ rfl) ?_
    refine wp_cV q19_ok d19_35 ml_1_83 rfl q36_ok (u := 4) rfl (by first | assumption | exact so0 hsh rfl) rfl (Nat.le_of_ble_eq_true rfl) (Nat.le_of_ble_eq_true rfl) (c_skip hsh hr a1) (fun v35 μ35 hc => ?_)
    obtain ⟨rfl, rfl⟩ := hc
    refine ⟨mm_le_same rfl, ?_⟩
    have hS2 := HS_sf (s2 := s + 1) hS1 (sf_up d1 1 (nI (wsp L p + 1))) ((mm_up_at 1).trans (if_pos rfl)) hql (show cs.length + (s + 1) ≤ wsp L p + 1 by omega)
    refine wp_aload_n (j := 0) rfl q19_ok d19_38 ?_
    refine wp_iload_n (j := 1) rfl q19_ok d19_39 ?_
    refine wp_cV q19_ok d19_40 ml_1_58 rfl q21_ok (u := 1) rfl (by first | assumption | exact so0 hsh rfl) rfl (Nat.le_of_ble_eq_true rfl) (Nat.le_of_ble_eq_true rfl) (hi _ _ _ _ (Nat.le_add_left 1 s) hS2) (fun v40 μ40 hc => ?_)
    obtain ⟨d3, rfl, f3, m3⟩ := hc
    refine ⟨mm_le_same rfl, ?_⟩
    cases e3 : sumK L k (wsp L p + 1) with
    | inl w =>
      rw [e3] at m3
      obtain ⟨rfl, m3⟩ := m3
      refine wp_if_ne q19_ok d19_43 (t := 48) rfl (fun h43 => ?_) (fun h43 => ?_)
      · exact absurd rfl h43
      · have h43 := Classical.not_not.mp h43
        refine wp_iconst (v := 0) (by decide) q19_ok d19_46 ?_
        refine wp_zret q19_ok d19_47 rfl (by first | assumption | exact Or.inl rfl | exact Or.inr rfl) ?_
        exact hp_fail (hf_trans (hf_sf (sf_trans f1 (sf_up d1 _ _))) f3) (er.trans (thc_inl e3)) m3
    | inr x =>
      rw [e3] at m3
      obtain ⟨rfl, m3⟩ := m3
      refine wp_if_ne q19_ok d19_43 (t := 48) rfl (fun h43 => ?_) (fun h43 => ?_)
      · refine wp_aload_n (j := 0) rfl q19_ok d19_48 ?_
        refine wp_getR q19_ok d19_49 fl_1_15 rfl (by first | assumption | exact so0 hsh rfl) (by first | assumption | exact hr _ _ _ rfl) ?_
        refine wp_iload_n (j := 2) rfl q19_ok d19_52 ?_
        refine wp_cV q19_ok d19_53 ml_1_37 rfl q5_ok (u := 0) rfl (by first | assumption | exact so0 hsh rfl) rfl (Nat.le_of_ble_eq_true rfl) (Nat.le_of_ble_eq_true rfl) (c_put hsh hr hb3 m3.2.1 (by have := m3.2.2.1; have := m3.1.2.2; omega) _) (fun v53 μ53 hc => ?_)
        obtain ⟨rfl, rfl⟩ := hc
        refine ⟨mm_le_same rfl, ?_⟩
        refine wp_iconst (v := 1) (by decide) q19_ok d19_56 ?_
        refine wp_zret q19_ok d19_57 rfl (by first | assumption | exact Or.inl rfl | exact Or.inr rfl) ?_
        exact hp_ok (hf_trans (hf_trans (hf_sf (sf_trans f1 (sf_up d1 _ _))) f3) (hf_put _ _ _ _)) (er.trans (thc_inr e3)) (by rw [← List.append_assoc]; exact HS_put m3 _)
      · have h43 := Classical.not_not.mp h43
        exact absurd h43 (by decide)
  · have h13 := Classical.not_not.mp h13
    refine wp_aload_n (j := 0) rfl q19_ok d19_16 ?_
    refine wp_getR q19_ok d19_17 fl_1_9 rfl (by first | assumption | exact so0 hsh rfl) (by first | assumption | exact hr _ _ _ rfl) ?_
    refine wp_aload_n (j := 0) rfl q19_ok d19_20 ?_
    refine wp_getR q19_ok d19_21 fl_1_9 rfl (by first | assumption | exact so0 hsh rfl) (by first | assumption | exact hr _ _ _ rfl) ?_
    refine wp_getI q19_ok d19_24 fl_1_49 rfl (by first | assumption | exact so0 hsh rfl) a1 ?_
    refine wp_cV q19_ok d19_27 ml_1_80 rfl q39_ok (u := 4) rfl (by first | assumption | exact so0 hsh rfl) rfl (Nat.le_of_ble_eq_true rfl) (Nat.le_of_ble_eq_true rfl) (c_refuse hsh hr _) (fun v27 μ27 hc => ?_)
    obtain ⟨rfl, rfl⟩ := hc
    refine ⟨mm_le_same rfl, ?_⟩
    refine wp_zret q19_ok d19_30 rfl (by first | assumption | exact Or.inl rfl | exact Or.inr rfl) ?_
    exact hp_fail (hf_sf (sf_trans f1 (sf_up d1 _ _))) (show cmpS L k p = .inl (wsp L p) from if_pos h13) ((mm_up_at 2).trans (if_pos rfl))
theorem c_den {xs : List Int32} {ext : mm_X} {sh : mm_S} {g : mm_G} {r : mm_R} {L : wo_P} (hsh : shp sh) (hr : rfx r) {n k : Nat} (hi : RDunit xs ext sh g r L n k) : RDden xs ext sh g r L (n + 1) k := by
  intro d p s cs hs1 hS
  have hg := hS.1
  have hwl := wsp_le L hg.2.2
  have hwg := wsp_ge L p
  have hcp := hS.2.2.1
  have h160 := hg.1.2.1
  have hb3 := hb33 hsh hr
  refine wp_aload_n (j := 0) rfl q18_ok d18_0 ?_
  refine wp_iload_n (j := 1) rfl q18_ok d18_1 ?_
  refine wp_cV q18_ok d18_2 ml_1_77 rfl q17_ok (u := 1) rfl (by first | assumption | exact so0 hsh rfl) rfl (Nat.le_of_ble_eq_true rfl) (Nat.le_of_ble_eq_true rfl) (hi _ _ _ _ (Nat.le_add_left 1 s) hS) (fun v2 μ2 hc => ?_)
  obtain ⟨d3, rfl, f3, m3⟩ := hc
  refine ⟨mm_le_same rfl, ?_⟩
  cases e3 : unitK L k p with
  | inl w =>
    rw [e3] at m3
    obtain ⟨rfl, m3⟩ := m3
    refine wp_if_ne q18_ok d18_5 (t := 10) rfl (fun h5 => ?_) (fun h5 => ?_)
    · exact absurd rfl h5
    · have h5 := Classical.not_not.mp h5
      refine wp_iconst (v := 0) (by decide) q18_ok d18_8 ?_
      refine wp_zret q18_ok d18_9 rfl (by first | assumption | exact Or.inl rfl | exact Or.inr rfl) ?_
      exact hp_fail f3 rfl m3
  | inr x =>
    rw [e3] at m3
    obtain ⟨rfl, m3⟩ := m3
    refine wp_if_ne q18_ok d18_5 (t := 10) rfl (fun h5 => ?_) (fun h5 => ?_)
    · refine wp_aload_n (j := 0) rfl q18_ok d18_10 ?_
      refine wp_getR q18_ok d18_11 fl_1_15 rfl (by first | assumption | exact so0 hsh rfl) (by first | assumption | exact hr _ _ _ rfl) ?_
      refine wp_bipush (v := -14) (by decide) q18_ok d18_14 ?_
      refine wp_cV q18_ok d18_16 ml_1_37 rfl q5_ok (u := 0) rfl (by first | assumption | exact so0 hsh rfl) rfl (Nat.le_of_ble_eq_true rfl) (Nat.le_of_ble_eq_true rfl) (c_put hsh hr hb3 m3.2.1 (by have := m3.2.2.1; have := m3.1.2.2; omega) _) (fun v16 μ16 hc => ?_)
      obtain ⟨rfl, rfl⟩ := hc
      refine ⟨mm_le_same rfl, ?_⟩
      refine wp_iconst (v := 1) (by decide) q18_ok d18_19 ?_
      refine wp_zret q18_ok d18_20 rfl (by first | assumption | exact Or.inl rfl | exact Or.inr rfl) ?_
      exact hp_ok (hf_trans f3 (hf_put _ _ _ _)) rfl (by rw [← List.append_assoc]; exact HS_put m3 _)
    · have h5 := Classical.not_not.mp h5
      exact absurd h5 (by decide)
theorem c_mu_l {xs : List Int32} {ext : mm_X} {sh : mm_S} {g : mm_G} {r : mm_R} {L : wo_P} (hsh : shp sh) (hr : rfx r) {n k : Nat} (hi : RDunit xs ext sh g r L (n + 1) k) : ∀ (z i : Nat) (d : mm_D) (p s : Nat) (cs : List Int32), z + i = 160 → 1 ≤ s → HS d L p s cs → wp xs ext (n + 2) 16 2 [some (.ref 36), some (.int (nI (6 - k))), some (.int (nI i))] [] (sh, d, g, r) (hpost sh g r L d s cs (mulS L (unitK L k) 38 (-13) z p)) := by
  have hb3 := hb33 hsh hr
  intro z
  induction z with
  | zero =>
    intro i d p s cs hm hs1 hS
    have hvb : i = 160 := by omega
    subst hvb
    refine wp_iload_n (j := 2) rfl q16_ok d16_2 ?_
    refine wp_sipush (v := 160) (by decide) q16_ok d16_3 ?_
    refine wp_icmp_ge q16_ok d16_6 (t := 46) rfl (fun h6 => ?_) (fun h6 => ?_)
    · refine wp_iconst (v := 1) (by decide) q16_ok d16_46 ?_
      refine wp_zret q16_ok d16_47 rfl (by first | assumption | exact Or.inl rfl | exact Or.inr rfl) ?_
      exact hp_ok (hf_refl d) rfl (by rw [app_nil]; exact hS)
    · exact absurd (nI_le (Nat.le_refl _) (by decide)) h6
  | succ z ih =>
    intro i d p s cs hm hs1 hS
    have hlt : i < 160 := by omega
    have hg := hS.1
    have hwl := wsp_le L hg.2.2
    have hwg := wsp_ge L p
    have hcp := hS.2.2.1
    have h160 := hg.1.2.1
    refine wp_iload_n (j := 2) rfl q16_ok d16_2 ?_
    refine wp_sipush (v := 160) (by decide) q16_ok d16_3 ?_
    refine wp_icmp_ge q16_ok d16_6 (t := 46) rfl (fun h6 => ?_) (fun h6 => ?_)
    · exact absurd h6 (nI_ge hlt (by decide))
    · refine wp_aload_n (j := 0) rfl q16_ok d16_9 ?_
      refine wp_getR q16_ok d16_10 fl_1_9 rfl (by first | assumption | exact so0 hsh rfl) (by first | assumption | exact hr _ _ _ rfl) ?_
      refine wp_bipush (v := 38) (by decide) q16_ok d16_13 ?_
      refine wp_cV q16_ok d16_15 ml_1_41 rfl q37_ok (u := 4) rfl (by first | assumption | exact so0 hsh rfl) rfl (Nat.le_of_ble_eq_true rfl) (Nat.le_of_ble_eq_true rfl) (c_passes hsh hr hg _) (fun v15 μ15 hc => ?_)
      obtain ⟨rfl, d1, rfl, f1, a1, w1⟩ := hc
      refine ⟨mm_le_same rfl, ?_⟩
      by_cases hc : bAt L (wsp L p) = 38
      · have hql := bAt_lt hc (by decide)
        rw [if_pos hc] at a1
        rw [if_pos hc]
        have hS2 := HS_sf (s2 := s + 1) hS f1 a1 hql (show cs.length + (s + 1) ≤ wsp L p + 1 by omega)
        have er : mulS L (unitK L k) 38 (-13) (z + 1) p = thn (thc ((unitK L k) (wsp L p + 1)) (-13)) (mulS L (unitK L k) 38 (-13) z) := by rw [mulS, if_pos hc]
        refine wp_if_eq q16_ok d16_18 (t := 46) rfl (fun h18 => ?_) (fun h18 => ?_)
        · exact absurd h18 (by decide)
        · refine wp_aload_n (j := 0) rfl q16_ok d16_21 ?_
          refine wp_iload_n (j := 1) rfl q16_ok d16_22 ?_
          refine wp_cV q16_ok d16_23 ml_1_77 rfl q17_ok (u := 1) rfl (by first | assumption | exact so0 hsh rfl) rfl (Nat.le_of_ble_eq_true rfl) (Nat.le_of_ble_eq_true rfl) (hi _ _ _ _ (Nat.le_add_left 1 s) hS2) (fun v23 μ23 hc => ?_)
          obtain ⟨d3, rfl, f3, m3⟩ := hc
          refine ⟨mm_le_same rfl, ?_⟩
          cases e3 : (unitK L k) (wsp L p + 1) with
          | inl w =>
            rw [e3] at m3
            obtain ⟨rfl, m3⟩ := m3
            refine wp_if_ne q16_ok d16_26 (t := 31) rfl (fun h26 => ?_) (fun h26 => ?_)
            · exact absurd rfl h26
            · have h26 := Classical.not_not.mp h26
              refine wp_iconst (v := 0) (by decide) q16_ok d16_29 ?_
              refine wp_zret q16_ok d16_30 rfl (by first | assumption | exact Or.inl rfl | exact Or.inr rfl) ?_
              exact hp_fail (hf_trans (hf_sf f1) f3) (er.trans (thn_inl (thc_inl e3))) m3
          | inr x =>
            rw [e3] at m3
            obtain ⟨rfl, m3⟩ := m3
            refine wp_if_ne q16_ok d16_26 (t := 31) rfl (fun h26 => ?_) (fun h26 => ?_)
            · refine wp_aload_n (j := 0) rfl q16_ok d16_31 ?_
              refine wp_getR q16_ok d16_32 fl_1_15 rfl (by first | assumption | exact so0 hsh rfl) (by first | assumption | exact hr _ _ _ rfl) ?_
              refine wp_bipush (v := -13) (by decide) q16_ok d16_35 ?_
              refine wp_cV q16_ok d16_37 ml_1_37 rfl q5_ok (u := 0) rfl (by first | assumption | exact so0 hsh rfl) rfl (Nat.le_of_ble_eq_true rfl) (Nat.le_of_ble_eq_true rfl) (c_put hsh hr hb3 m3.2.1 (by have := m3.2.2.1; have := m3.1.2.2; omega) _) (fun v37 μ37 hc => ?_)
              obtain ⟨rfl, rfl⟩ := hc
              refine ⟨mm_le_same rfl, ?_⟩
              refine wp_iinc (j := 2) rfl (by first | exact inc1 | rfl) (rfl : _ = [_, _, _]) q16_ok d16_40 ?_
              refine wp_goto (t := 2) rfl q16_ok d16_43 ?_
              have hS4 := HS_put m3 (-13)
              rw [List.append_assoc] at hS4
              refine wp_post (ih (i + 1) _ x.1 s (cs ++ (x.2 ++ [-13])) (by omega) hs1 hS4) (fun v μ hc => ?_)
              exact hp_thn (hf_trans (hf_trans (hf_sf f1) f3) (hf_put _ _ _ _)) (thc_inr e3) er hc
            · have h26 := Classical.not_not.mp h26
              exact absurd h26 (by decide)
      · rw [if_neg hc] at a1
        rw [if_neg hc]
        have hS1 := HS_sf (s2 := s) hS f1 a1 hwl (show cs.length + s ≤ wsp L p by omega)
        refine wp_if_eq q16_ok d16_18 (t := 46) rfl (fun h18 => ?_) (fun h18 => ?_)
        · refine wp_iconst (v := 1) (by decide) q16_ok d16_46 ?_
          refine wp_zret q16_ok d16_47 rfl (by first | assumption | exact Or.inl rfl | exact Or.inr rfl) ?_
          exact hp_ok (hf_sf f1) (show mulS L (unitK L k) 38 (-13) (z + 1) p = .inr (wsp L p, []) from by rw [mulS, if_neg hc]) (by rw [app_nil]; exact hS1)
        · exact absurd rfl h18
theorem c_mu {xs : List Int32} {ext : mm_X} {sh : mm_S} {g : mm_G} {r : mm_R} {L : wo_P} (hsh : shp sh) (hr : rfx r) {n k : Nat} (hi : RDunit xs ext sh g r L (n + 1) k) : RDmu xs ext sh g r L (n + 2) k := by
  intro d p s cs hs1 hS
  refine wp_iconst (v := 0) (by decide) q16_ok d16_0 ?_
  refine wp_istore_n (j := 2) (Nat.le_of_ble_eq_true rfl) (rfl : _ = [_, _, _]) q16_ok d16_1 ?_
  exact c_mu_l hsh hr hi 160 0 d p s cs (by omega) hs1 hS
theorem c_tru {xs : List Int32} {ext : mm_X} {sh : mm_S} {g : mm_G} {r : mm_R} {L : wo_P} (hsh : shp sh) (hr : rfx r) {n k : Nat} (ha : RDunit xs ext sh g r L n k) (hb : RDmu xs ext sh g r L n k) : RDtru xs ext sh g r L (n + 1) k := by
  intro d p s cs hs1 hS
  refine wp_aload_n (j := 0) rfl q15_ok d15_0 ?_
  refine wp_iload_n (j := 1) rfl q15_ok d15_1 ?_
  refine wp_cV q15_ok d15_2 ml_1_77 rfl q17_ok (u := 1) rfl (by first | assumption | exact so0 hsh rfl) rfl (Nat.le_of_ble_eq_true rfl) (Nat.le_of_ble_eq_true rfl) (ha _ _ _ _ hs1 hS) (fun v2 μ2 hc => ?_)
  obtain ⟨d3, rfl, f3, m3⟩ := hc
  refine ⟨mm_le_same rfl, ?_⟩
  cases e3 : unitK L k p with
  | inl w =>
    rw [e3] at m3
    obtain ⟨rfl, m3⟩ := m3
    refine wp_if_eq q15_ok d15_5 (t := 20) rfl (fun h5 => ?_) (fun h5 => ?_)
    · refine wp_iconst (v := 0) (by decide) q15_ok d15_20 ?_
      refine wp_zret q15_ok d15_21 rfl (by first | assumption | exact Or.inl rfl | exact Or.inr rfl) ?_
      exact hp_fail f3 (thn_inl e3) m3
    · exact absurd rfl h5
  | inr x =>
    rw [e3] at m3
    obtain ⟨rfl, m3⟩ := m3
    refine wp_if_eq q15_ok d15_5 (t := 20) rfl (fun h5 => ?_) (fun h5 => ?_)
    · exact absurd h5 (by decide)
    · refine wp_aload_n (j := 0) rfl q15_ok d15_8 ?_
      refine wp_iload_n (j := 1) rfl q15_ok d15_9 ?_
      refine wp_cV q15_ok d15_10 ml_1_68 rfl q16_ok (u := 1) rfl (by first | assumption | exact so0 hsh rfl) rfl (Nat.le_of_ble_eq_true rfl) (Nat.le_of_ble_eq_true rfl) (hb _ _ _ _ hs1 m3) (fun v10 μ10 hc => ?_)
      obtain ⟨d4, rfl, f4, m4⟩ := hc
      refine ⟨mm_le_same rfl, ?_⟩
      cases e4 : mulS L (unitK L k) 38 (-13) 160 x.1 with
      | inl w =>
        rw [e4] at m4
        obtain ⟨rfl, m4⟩ := m4
        refine wp_if_eq q15_ok d15_13 (t := 20) rfl (fun h13 => ?_) (fun h13 => ?_)
        · refine wp_iconst (v := 0) (by decide) q15_ok d15_20 ?_
          refine wp_zret q15_ok d15_21 rfl (by first | assumption | exact Or.inl rfl | exact Or.inr rfl) ?_
          exact hp_thn f3 e3 rfl (hp_fail f4 e4 m4)
        · exact absurd rfl h13
      | inr y =>
        rw [e4] at m4
        obtain ⟨rfl, m4⟩ := m4
        refine wp_if_eq q15_ok d15_13 (t := 20) rfl (fun h13 => ?_) (fun h13 => ?_)
        · exact absurd h13 (by decide)
        · refine wp_iconst (v := 1) (by decide) q15_ok d15_16 ?_
          refine wp_goto (t := 21) rfl q15_ok d15_17 ?_
          refine wp_zret q15_ok d15_21 rfl (by first | assumption | exact Or.inl rfl | exact Or.inr rfl) ?_
          exact hp_thn f3 e3 rfl (hp_ok f4 e4 m4)
theorem c_mt_l {xs : List Int32} {ext : mm_X} {sh : mm_S} {g : mm_G} {r : mm_R} {L : wo_P} (hsh : shp sh) (hr : rfx r) {n k : Nat} (hi : RDtru xs ext sh g r L (n + 1) k) : ∀ (z i : Nat) (d : mm_D) (p s : Nat) (cs : List Int32), z + i = 160 → 1 ≤ s → HS d L p s cs → wp xs ext (n + 2) 14 2 [some (.ref 36), some (.int (nI (6 - k))), some (.int (nI i))] [] (sh, d, g, r) (hpost sh g r L d s cs (mulS L (truS L (unitK L k)) 124 (-12) z p)) := by
  have hb3 := hb33 hsh hr
  intro z
  induction z with
  | zero =>
    intro i d p s cs hm hs1 hS
    have hvb : i = 160 := by omega
    subst hvb
    refine wp_iload_n (j := 2) rfl q14_ok d14_2 ?_
    refine wp_sipush (v := 160) (by decide) q14_ok d14_3 ?_
    refine wp_icmp_ge q14_ok d14_6 (t := 46) rfl (fun h6 => ?_) (fun h6 => ?_)
    · refine wp_iconst (v := 1) (by decide) q14_ok d14_46 ?_
      refine wp_zret q14_ok d14_47 rfl (by first | assumption | exact Or.inl rfl | exact Or.inr rfl) ?_
      exact hp_ok (hf_refl d) rfl (by rw [app_nil]; exact hS)
    · exact absurd (nI_le (Nat.le_refl _) (by decide)) h6
  | succ z ih =>
    intro i d p s cs hm hs1 hS
    have hlt : i < 160 := by omega
    have hg := hS.1
    have hwl := wsp_le L hg.2.2
    have hwg := wsp_ge L p
    have hcp := hS.2.2.1
    have h160 := hg.1.2.1
    refine wp_iload_n (j := 2) rfl q14_ok d14_2 ?_
    refine wp_sipush (v := 160) (by decide) q14_ok d14_3 ?_
    refine wp_icmp_ge q14_ok d14_6 (t := 46) rfl (fun h6 => ?_) (fun h6 => ?_)
    · exact absurd h6 (nI_ge hlt (by decide))
    · refine wp_aload_n (j := 0) rfl q14_ok d14_9 ?_
      refine wp_getR q14_ok d14_10 fl_1_9 rfl (by first | assumption | exact so0 hsh rfl) (by first | assumption | exact hr _ _ _ rfl) ?_
      refine wp_bipush (v := 124) (by decide) q14_ok d14_13 ?_
      refine wp_cV q14_ok d14_15 ml_1_41 rfl q37_ok (u := 4) rfl (by first | assumption | exact so0 hsh rfl) rfl (Nat.le_of_ble_eq_true rfl) (Nat.le_of_ble_eq_true rfl) (c_passes hsh hr hg _) (fun v15 μ15 hc => ?_)
      obtain ⟨rfl, d1, rfl, f1, a1, w1⟩ := hc
      refine ⟨mm_le_same rfl, ?_⟩
      by_cases hc : bAt L (wsp L p) = 124
      · have hql := bAt_lt hc (by decide)
        rw [if_pos hc] at a1
        rw [if_pos hc]
        have hS2 := HS_sf (s2 := s + 1) hS f1 a1 hql (show cs.length + (s + 1) ≤ wsp L p + 1 by omega)
        have er : mulS L (truS L (unitK L k)) 124 (-12) (z + 1) p = thn (thc ((truS L (unitK L k)) (wsp L p + 1)) (-12)) (mulS L (truS L (unitK L k)) 124 (-12) z) := by rw [mulS, if_pos hc]
        refine wp_if_eq q14_ok d14_18 (t := 46) rfl (fun h18 => ?_) (fun h18 => ?_)
        · exact absurd h18 (by decide)
        · refine wp_aload_n (j := 0) rfl q14_ok d14_21 ?_
          refine wp_iload_n (j := 1) rfl q14_ok d14_22 ?_
          refine wp_cV q14_ok d14_23 ml_1_74 rfl q15_ok (u := 1) rfl (by first | assumption | exact so0 hsh rfl) rfl (Nat.le_of_ble_eq_true rfl) (Nat.le_of_ble_eq_true rfl) (hi _ _ _ _ (Nat.le_add_left 1 s) hS2) (fun v23 μ23 hc => ?_)
          obtain ⟨d3, rfl, f3, m3⟩ := hc
          refine ⟨mm_le_same rfl, ?_⟩
          cases e3 : (truS L (unitK L k)) (wsp L p + 1) with
          | inl w =>
            rw [e3] at m3
            obtain ⟨rfl, m3⟩ := m3
            refine wp_if_ne q14_ok d14_26 (t := 31) rfl (fun h26 => ?_) (fun h26 => ?_)
            · exact absurd rfl h26
            · have h26 := Classical.not_not.mp h26
              refine wp_iconst (v := 0) (by decide) q14_ok d14_29 ?_
              refine wp_zret q14_ok d14_30 rfl (by first | assumption | exact Or.inl rfl | exact Or.inr rfl) ?_
              exact hp_fail (hf_trans (hf_sf f1) f3) (er.trans (thn_inl (thc_inl e3))) m3
          | inr x =>
            rw [e3] at m3
            obtain ⟨rfl, m3⟩ := m3
            refine wp_if_ne q14_ok d14_26 (t := 31) rfl (fun h26 => ?_) (fun h26 => ?_)
            · refine wp_aload_n (j := 0) rfl q14_ok d14_31 ?_
              refine wp_getR q14_ok d14_32 fl_1_15 rfl (by first | assumption | exact so0 hsh rfl) (by first | assumption | exact hr _ _ _ rfl) ?_
              refine wp_bipush (v := -12) (by decide) q14_ok d14_35 ?_
              refine wp_cV q14_ok d14_37 ml_1_37 rfl q5_ok (u := 0) rfl (by first | assumption | exact so0 hsh rfl) rfl (Nat.le_of_ble_eq_true rfl) (Nat.le_of_ble_eq_true rfl) (c_put hsh hr hb3 m3.2.1 (by have := m3.2.2.1; have := m3.1.2.2; omega) _) (fun v37 μ37 hc => ?_)
              obtain ⟨rfl, rfl⟩ := hc
              refine ⟨mm_le_same rfl, ?_⟩
              refine wp_iinc (j := 2) rfl (by first | exact inc1 | rfl) (rfl : _ = [_, _, _]) q14_ok d14_40 ?_
              refine wp_goto (t := 2) rfl q14_ok d14_43 ?_
              have hS4 := HS_put m3 (-12)
              rw [List.append_assoc] at hS4
              refine wp_post (ih (i + 1) _ x.1 s (cs ++ (x.2 ++ [-12])) (by omega) hs1 hS4) (fun v μ hc => ?_)
              exact hp_thn (hf_trans (hf_trans (hf_sf f1) f3) (hf_put _ _ _ _)) (thc_inr e3) er hc
            · have h26 := Classical.not_not.mp h26
              exact absurd h26 (by decide)
      · rw [if_neg hc] at a1
        rw [if_neg hc]
        have hS1 := HS_sf (s2 := s) hS f1 a1 hwl (show cs.length + s ≤ wsp L p by omega)
        refine wp_if_eq q14_ok d14_18 (t := 46) rfl (fun h18 => ?_) (fun h18 => ?_)
        · refine wp_iconst (v := 1) (by decide) q14_ok d14_46 ?_
          refine wp_zret q14_ok d14_47 rfl (by first | assumption | exact Or.inl rfl | exact Or.inr rfl) ?_
          exact hp_ok (hf_sf f1) (show mulS L (truS L (unitK L k)) 124 (-12) (z + 1) p = .inr (wsp L p, []) from by rw [mulS, if_neg hc]) (by rw [app_nil]; exact hS1)
        · exact absurd rfl h18
theorem c_mt {xs : List Int32} {ext : mm_X} {sh : mm_S} {g : mm_G} {r : mm_R} {L : wo_P} (hsh : shp sh) (hr : rfx r) {n k : Nat} (hi : RDtru xs ext sh g r L (n + 1) k) : RDmt xs ext sh g r L (n + 2) k := by
  intro d p s cs hs1 hS
  refine wp_iconst (v := 0) (by decide) q14_ok d14_0 ?_
  refine wp_istore_n (j := 2) (Nat.le_of_ble_eq_true rfl) (rfl : _ = [_, _, _]) q14_ok d14_1 ?_
  exact c_mt_l hsh hr hi 160 0 d p s cs (by omega) hs1 hS
theorem c_con {xs : List Int32} {ext : mm_X} {sh : mm_S} {g : mm_G} {r : mm_R} {L : wo_P} (hsh : shp sh) (hr : rfx r) {n k : Nat} (ha : RDtru xs ext sh g r L n k) (hb : RDmt xs ext sh g r L n k) : RDcon xs ext sh g r L (n + 1) k := by
  intro d p s cs hs1 hS
  refine wp_aload_n (j := 0) rfl q13_ok d13_0 ?_
  refine wp_iload_n (j := 1) rfl q13_ok d13_1 ?_
  refine wp_cV q13_ok d13_2 ml_1_74 rfl q15_ok (u := 1) rfl (by first | assumption | exact so0 hsh rfl) rfl (Nat.le_of_ble_eq_true rfl) (Nat.le_of_ble_eq_true rfl) (ha _ _ _ _ hs1 hS) (fun v2 μ2 hc => ?_)
  obtain ⟨d3, rfl, f3, m3⟩ := hc
  refine ⟨mm_le_same rfl, ?_⟩
  cases e3 : truS L (unitK L k) p with
  | inl w =>
    rw [e3] at m3
    obtain ⟨rfl, m3⟩ := m3
    refine wp_if_eq q13_ok d13_5 (t := 20) rfl (fun h5 => ?_) (fun h5 => ?_)
    · refine wp_iconst (v := 0) (by decide) q13_ok d13_20 ?_
      refine wp_zret q13_ok d13_21 rfl (by first | assumption | exact Or.inl rfl | exact Or.inr rfl) ?_
      exact hp_fail f3 (thn_inl e3) m3
    · exact absurd rfl h5
  | inr x =>
    rw [e3] at m3
    obtain ⟨rfl, m3⟩ := m3
    refine wp_if_eq q13_ok d13_5 (t := 20) rfl (fun h5 => ?_) (fun h5 => ?_)
    · exact absurd h5 (by decide)
    · refine wp_aload_n (j := 0) rfl q13_ok d13_8 ?_
      refine wp_iload_n (j := 1) rfl q13_ok d13_9 ?_
      refine wp_cV q13_ok d13_10 ml_1_71 rfl q14_ok (u := 1) rfl (by first | assumption | exact so0 hsh rfl) rfl (Nat.le_of_ble_eq_true rfl) (Nat.le_of_ble_eq_true rfl) (hb _ _ _ _ hs1 m3) (fun v10 μ10 hc => ?_)
      obtain ⟨d4, rfl, f4, m4⟩ := hc
      refine ⟨mm_le_same rfl, ?_⟩
      cases e4 : mulS L (truS L (unitK L k)) 124 (-12) 160 x.1 with
      | inl w =>
        rw [e4] at m4
        obtain ⟨rfl, m4⟩ := m4
        refine wp_if_eq q13_ok d13_13 (t := 20) rfl (fun h13 => ?_) (fun h13 => ?_)
        · refine wp_iconst (v := 0) (by decide) q13_ok d13_20 ?_
          refine wp_zret q13_ok d13_21 rfl (by first | assumption | exact Or.inl rfl | exact Or.inr rfl) ?_
          exact hp_thn f3 e3 rfl (hp_fail f4 e4 m4)
        · exact absurd rfl h13
      | inr y =>
        rw [e4] at m4
        obtain ⟨rfl, m4⟩ := m4
        refine wp_if_eq q13_ok d13_13 (t := 20) rfl (fun h13 => ?_) (fun h13 => ?_)
        · exact absurd h13 (by decide)
        · refine wp_iconst (v := 1) (by decide) q13_ok d13_16 ?_
          refine wp_goto (t := 21) rfl q13_ok d13_17 ?_
          refine wp_zret q13_ok d13_21 rfl (by first | assumption | exact Or.inl rfl | exact Or.inr rfl) ?_
          exact hp_thn f3 e3 rfl (hp_ok f4 e4 m4)
