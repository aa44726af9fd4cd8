/-! ===== the reading of sums: the loops ===== -/
theorem app_nil (cs : List Int32) : cs ++ [] = cs := List.append_nil cs
theorem hp_fail {sh : mm_S} {g : mm_G} {r : mm_R} {L : wo_P} {d d2 : mm_D} {s : Nat} {cs : List Int32} {res : wo_R} {w : Nat} (hf' : hf d d2) (e : res = .inl w) (hw : d2 3 2 = nI w) : hpost sh g r L d s cs res (some (.int 0)) (sh, d2, g, r) := ⟨d2, rfl, hf', by rw [e]; exact ⟨rfl, hw⟩⟩
theorem hp_ok {sh : mm_S} {g : mm_G} {r : mm_R} {L : wo_P} {d d2 : mm_D} {s q : Nat} {cs ds : List Int32} {res : wo_R} (hf' : hf d d2) (e : res = .inr (q, ds)) (hS : HS d2 L q s (cs ++ ds)) : hpost sh g r L d s cs res (some (.int 1)) (sh, d2, g, r) := ⟨d2, rfl, hf', by rw [e]; exact ⟨rfl, hS⟩⟩
/-- what was read before goes before -/
theorem hp_thn {sh : mm_S} {g : mm_G} {r : mm_R} {L : wo_P} {d d2 : mm_D} {s : Nat} {cs ds : List Int32} {a res : wo_R} {f : Nat → wo_R} {q : Nat} {v : Option Value} {μ : mm_M} (hf' : hf d d2) (e : a = .inr (q, ds)) (er : res = thn a f) (h : hpost sh g r L d2 s (cs ++ ds) (f q) v μ) : hpost sh g r L d s cs res v μ := by
  obtain ⟨d3, rfl, h1, h2⟩ := h
  refine ⟨d3, rfl, hf_trans hf' h1, ?_⟩
  rw [er, e]
  show match (match f q with | .inl w => (.inl w : wo_R) | .inr z => .inr (z.1, ds ++ z.2)) with | .inl w => _ | .inr x => _
  cases hq : f q with
  | inl w =>
    rw [hq] at h2
    exact h2
  | inr z =>
    rw [hq] at h2
    show v = _ ∧ HS d3 L z.1 s (cs ++ (ds ++ z.2))
    rw [← List.append_assoc]
    exact h2
theorem thn_inl {a : wo_R} {f : Nat → wo_R} {w : Nat} (e : a = .inl w) : thn a f = .inl w := by rw [e]; rfl
theorem thc_inl {a : wo_R} {c : Int32} {w : Nat} (e : a = .inl w) : thc a c = .inl w := by rw [e]; rfl
theorem thc_inr {a : wo_R} {c : Int32} {x : Nat × List Int32} (e : a = .inr x) : thc a c = .inr (x.1, x.2 ++ [c]) := by rw [e]; rfl
theorem c_term_l {xs : List Int32} {ext : mm_X} {sh : mm_S} {g : mm_G} {r : mm_R} {L : wo_P} (hsh : shp sh) (hr : rfx r) {n k : Nat} (hi : RDatom xs ext sh g r L n k) : ∀ (z i : Nat) (u : Option Value) (d : mm_D) (p s : Nat) (cs : List Int32), z + i = 160 → 1 ≤ s → HS d L p s cs → wp xs ext (n + 1) 22 12 [some (.ref 36), some (.int (nI (6 - k))), some (.int (nI i)), u] [] (sh, d, g, r) (hpost sh g r L d s cs (lopS L (atomS L (sumO L k)) 42 47 (-20) (-21) z p)) := by
  have hb3 := hb33 hsh hr
  intro z
  induction z with
  | zero =>
    intro i u d p s cs hm hs1 hS
    have hvb : i = 160 := by omega
    subst hvb
    refine wp_iload_n (j := 2) rfl q22_ok d22_12 ?_
    refine wp_sipush (v := 160) (by decide) q22_ok d22_13 ?_
    refine wp_icmp_ge q22_ok d22_16 (t := 84) rfl (fun h16 => ?_) (fun h16 => ?_)
    · refine wp_iconst (v := 1) (by decide) q22_ok d22_84 ?_
      refine wp_zret q22_ok d22_85 rfl (by first | assumption | exact Or.inl rfl | exact Or.inr rfl) ?_
      exact hp_ok (hf_refl d) rfl (by rw [app_nil]; exact hS)
    · exact absurd (nI_le (Nat.le_refl _) (by decide)) h16
  | succ z ih =>
    intro i u d p s cs hm hs1 hS
    have hlt : i < 160 := by omega
    have hg := hS.1
    have hwl := wsp_le L hg.2.2
    have hwg := wsp_ge L p
    have hcp := hS.2.2.1
    have h160 := hg.1.2.1
    refine wp_iload_n (j := 2) rfl q22_ok d22_12 ?_
    refine wp_sipush (v := 160) (by decide) q22_ok d22_13 ?_
    refine wp_icmp_ge q22_ok d22_16 (t := 84) rfl (fun h16 => ?_) (fun h16 => ?_)
    · exact absurd h16 (nI_ge hlt (by decide))
    · refine wp_aload_n (j := 0) rfl q22_ok d22_19 ?_
      refine wp_getR q22_ok d22_20 fl_1_9 rfl (by first | assumption | exact so0 hsh rfl) (by first | assumption | exact hr _ _ _ rfl) ?_
      refine wp_cV q22_ok d22_23 ml_1_45 rfl q35_ok (u := 4) rfl (by first | assumption | exact so0 hsh rfl) rfl (Nat.le_of_ble_eq_true rfl) (Nat.le_of_ble_eq_true rfl) (c_peek hsh hr hg) (fun v23 μ23 hc => ?_)
      obtain ⟨rfl, d1, rfl, f1, a1, w1⟩ := hc
      refine ⟨mm_le_same rfl, ?_⟩
      have hS1 := HS_sf (s2 := s) hS f1 a1 hwl (show cs.length + s ≤ wsp L p by omega)
      refine wp_istore_n (j := 3) (Nat.le_of_ble_eq_true rfl) (rfl : _ = [_, _, _, _]) q22_ok d22_26 ?_
      refine wp_iload_n (j := 3) rfl q22_ok d22_27 ?_
      refine wp_bipush (v := 42) (by decide) q22_ok d22_28 ?_
      refine wp_icmp_eq q22_ok d22_30 (t := 41) rfl (fun h30 => ?_) (fun h30 => ?_)
      · have hc : bAt L (wsp L p) = 42 := h30
        have hql := bAt_lt hc (by decide)
        have er : lopS L (atomS L (sumO L k)) 42 47 (-20) (-21) (z + 1) p = thn (thc ((atomS L (sumO L k)) (wsp L p + 1)) (-20)) (lopS L (atomS L (sumO L k)) 42 47 (-20) (-21) z) := by rw [lopS, if_pos (show bAt L (wsp L p) = 42 from h30)]
        refine wp_aload_n (j := 0) rfl q22_ok d22_41 ?_
        refine wp_getR q22_ok d22_42 fl_1_9 rfl (by first | assumption | exact so0 hsh rfl) (by first | assumption | exact hr _ _ _ rfl) ?_
        refine wp_cV q22_ok d22_45 ml_1_83 rfl q36_ok (u := 4) rfl (by first | assumption | exact so0 hsh rfl) rfl (Nat.le_of_ble_eq_true rfl) (Nat.le_of_ble_eq_true rfl) (c_skip hsh hr a1) (fun v45 μ45 hc => ?_)
        obtain ⟨rfl, rfl⟩ := hc
        refine ⟨mm_le_same rfl, ?_⟩
        have hS2 := HS_sf (s2 := s + 1) hS1 (sf_up d1 1 (nI (wsp L p + 1))) ((mm_up_at 1).trans (if_pos rfl)) hql (show cs.length + (s + 1) ≤ wsp L p + 1 by omega)
        refine wp_aload_n (j := 0) rfl q22_ok d22_48 ?_
        refine wp_iload_n (j := 1) rfl q22_ok d22_49 ?_
        refine wp_cV q22_ok d22_50 ml_1_92 rfl q23_ok (u := 1) rfl (by first | assumption | exact so0 hsh rfl) rfl (Nat.le_of_ble_eq_true rfl) (Nat.le_of_ble_eq_true rfl) (hi _ _ _ _ (Nat.le_add_left 1 s) hS2) (fun v50 μ50 hc => ?_)
        obtain ⟨d3, rfl, f3, m3⟩ := hc
        refine ⟨mm_le_same rfl, ?_⟩
        cases e3 : (atomS L (sumO L k)) (wsp L p + 1) with
        | inl w =>
          rw [e3] at m3
          obtain ⟨rfl, m3⟩ := m3
          refine wp_if_ne q22_ok d22_53 (t := 58) rfl (fun h53 => ?_) (fun h53 => ?_)
          · exact absurd rfl h53
          · have h53 := Classical.not_not.mp h53
            refine wp_iconst (v := 0) (by decide) q22_ok d22_56 ?_
            refine wp_zret q22_ok d22_57 rfl (by first | assumption | exact Or.inl rfl | exact Or.inr rfl) ?_
            exact hp_fail (hf_trans (hf_sf (sf_trans f1 (sf_up d1 _ _))) f3) (er.trans (thn_inl (thc_inl e3))) m3
        | inr x =>
          rw [e3] at m3
          obtain ⟨rfl, m3⟩ := m3
          refine wp_if_ne q22_ok d22_53 (t := 58) rfl (fun h53 => ?_) (fun h53 => ?_)
          · refine wp_aload_n (j := 0) rfl q22_ok d22_58 ?_
            refine wp_getR q22_ok d22_59 fl_1_15 rfl (by first | assumption | exact so0 hsh rfl) (by first | assumption | exact hr _ _ _ rfl) ?_
            refine wp_iload_n (j := 3) rfl q22_ok d22_62 ?_
            refine wp_bipush (v := 42) (by decide) q22_ok d22_63 ?_
            refine wp_icmp_ne q22_ok d22_65 (t := 73) rfl (fun h65 => ?_) (fun h65 => ?_)
            · exact absurd hc h65
            · have h65 := Classical.not_not.mp h65
              refine wp_bipush (v := -20) (by decide) q22_ok d22_68 ?_
              refine wp_goto (t := 75) rfl q22_ok d22_70 ?_
              refine wp_cV q22_ok d22_75 ml_1_37 rfl q5_ok (u := 0) rfl (by first | assumption | exact so0 hsh rfl) rfl (Nat.le_of_ble_eq_true rfl) (Nat.le_of_ble_eq_true rfl) (c_put hsh hr hb3 m3.2.1 (by have := m3.2.2.1; have := m3.1.2.2; omega) _) (fun v75 μ75 hc => ?_)
              obtain ⟨rfl, rfl⟩ := hc
              refine ⟨mm_le_same rfl, ?_⟩
              refine wp_iinc (j := 2) rfl (by first | exact inc1 | rfl) (rfl : _ = [_, _, _, _]) q22_ok d22_78 ?_
              refine wp_goto (t := 12) rfl q22_ok d22_81 ?_
              have hS4 := HS_put m3 (-20)
              rw [List.append_assoc] at hS4
              refine wp_post (ih (i + 1) (some (.int (bAt L (wsp L p)))) _ x.1 s (cs ++ (x.2 ++ [-20])) (by omega) hs1 hS4) (fun v μ hc => ?_)
              exact hp_thn (hf_trans (hf_trans (hf_sf (sf_trans f1 (sf_up d1 _ _))) f3) (hf_put _ _ _ _)) (thc_inr e3) er hc
          · have h53 := Classical.not_not.mp h53
            exact absurd h53 (by decide)
      · refine wp_iload_n (j := 3) rfl q22_ok d22_33 ?_
        refine wp_bipush (v := 47) (by decide) q22_ok d22_34 ?_
        refine wp_icmp_eq q22_ok d22_36 (t := 41) rfl (fun h36 => ?_) (fun h36 => ?_)
        · have hc : bAt L (wsp L p) = 47 := h36
          have hql := bAt_lt hc (by decide)
          have er : lopS L (atomS L (sumO L k)) 42 47 (-20) (-21) (z + 1) p = thn (thc ((atomS L (sumO L k)) (wsp L p + 1)) (-21)) (lopS L (atomS L (sumO L k)) 42 47 (-20) (-21) z) := by rw [lopS, if_neg (show ¬ bAt L (wsp L p) = 42 from h30), if_pos (show bAt L (wsp L p) = 47 from h36)]
          refine wp_aload_n (j := 0) rfl q22_ok d22_41 ?_
          refine wp_getR q22_ok d22_42 fl_1_9 rfl (by first | assumption | exact so0 hsh rfl) (by first | assumption | exact hr _ _ _ rfl) ?_
          refine wp_cV q22_ok d22_45 ml_1_83 rfl q36_ok (u := 4) rfl (by first | assumption | exact so0 hsh rfl) rfl (Nat.le_of_ble_eq_true rfl) (Nat.le_of_ble_eq_true rfl) (c_skip hsh hr a1) (fun v45 μ45 hc => ?_)
          obtain ⟨rfl, rfl⟩ := hc
          refine ⟨mm_le_same rfl, ?_⟩
          have hS2 := HS_sf (s2 := s + 1) hS1 (sf_up d1 1 (nI (wsp L p + 1))) ((mm_up_at 1).trans (if_pos rfl)) hql (show cs.length + (s + 1) ≤ wsp L p + 1 by omega)
          refine wp_aload_n (j := 0) rfl q22_ok d22_48 ?_
          refine wp_iload_n (j := 1) rfl q22_ok d22_49 ?_
          refine wp_cV q22_ok d22_50 ml_1_92 rfl q23_ok (u := 1) rfl (by first | assumption | exact so0 hsh rfl) rfl (Nat.le_of_ble_eq_true rfl) (Nat.le_of_ble_eq_true rfl) (hi _ _ _ _ (Nat.le_add_left 1 s) hS2) (fun v50 μ50 hc => ?_)
          obtain ⟨d3, rfl, f3, m3⟩ := hc
          refine ⟨mm_le_same rfl, ?_⟩
          cases e3 : (atomS L (sumO L k)) (wsp L p + 1) with
          | inl w =>
            rw [e3] at m3
            obtain ⟨rfl, m3⟩ := m3
            refine wp_if_ne q22_ok d22_53 (t := 58) rfl (fun h53 => ?_) (fun h53 => ?_)
            · exact absurd rfl h53
            · have h53 := Classical.not_not.mp h53
              refine wp_iconst (v := 0) (by decide) q22_ok d22_56 ?_
              refine wp_zret q22_ok d22_57 rfl (by first | assumption | exact Or.inl rfl | exact Or.inr rfl) ?_
              exact hp_fail (hf_trans (hf_sf (sf_trans f1 (sf_up d1 _ _))) f3) (er.trans (thn_inl (thc_inl e3))) m3
          | inr x =>
            rw [e3] at m3
            obtain ⟨rfl, m3⟩ := m3
            refine wp_if_ne q22_ok d22_53 (t := 58) rfl (fun h53 => ?_) (fun h53 => ?_)
            · refine wp_aload_n (j := 0) rfl q22_ok d22_58 ?_
              refine wp_getR q22_ok d22_59 fl_1_15 rfl (by first | assumption | exact so0 hsh rfl) (by first | assumption | exact hr _ _ _ rfl) ?_
              refine wp_iload_n (j := 3) rfl q22_ok d22_62 ?_
              refine wp_bipush (v := 42) (by decide) q22_ok d22_63 ?_
              refine wp_icmp_ne q22_ok d22_65 (t := 73) rfl (fun h65 => ?_) (fun h65 => ?_)
              · refine wp_bipush (v := -21) (by decide) q22_ok d22_73 ?_
                refine wp_cV q22_ok d22_75 ml_1_37 rfl q5_ok (u := 0) rfl (by first | assumption | exact so0 hsh rfl) rfl (Nat.le_of_ble_eq_true rfl) (Nat.le_of_ble_eq_true rfl) (c_put hsh hr hb3 m3.2.1 (by have := m3.2.2.1; have := m3.1.2.2; omega) _) (fun v75 μ75 hc => ?_)
                obtain ⟨rfl, rfl⟩ := hc
                refine ⟨mm_le_same rfl, ?_⟩
                refine wp_iinc (j := 2) rfl (by first | exact inc1 | rfl) (rfl : _ = [_, _, _, _]) q22_ok d22_78 ?_
                refine wp_goto (t := 12) rfl q22_ok d22_81 ?_
                have hS4 := HS_put m3 (-21)
                rw [List.append_assoc] at hS4
                refine wp_post (ih (i + 1) (some (.int (bAt L (wsp L p)))) _ x.1 s (cs ++ (x.2 ++ [-21])) (by omega) hs1 hS4) (fun v μ hc => ?_)
                exact hp_thn (hf_trans (hf_trans (hf_sf (sf_trans f1 (sf_up d1 _ _))) f3) (hf_put _ _ _ _)) (thc_inr e3) er hc
              · have h65 := Classical.not_not.mp h65
                exact absurd h65 h30
            · have h53 := Classical.not_not.mp h53
              exact absurd h53 (by decide)
        · refine wp_iconst (v := 1) (by decide) q22_ok d22_39 ?_
          refine wp_zret q22_ok d22_40 rfl (by first | assumption | exact Or.inl rfl | exact Or.inr rfl) ?_
          exact hp_ok (hf_sf f1) (show lopS L (atomS L (sumO L k)) 42 47 (-20) (-21) (z + 1) p = .inr (wsp L p, []) from by rw [lopS, if_neg (show ¬ bAt L (wsp L p) = 42 from h30), if_neg (show ¬ bAt L (wsp L p) = 47 from h36)]) (by rw [app_nil]; exact hS1)
theorem c_term {xs : List Int32} {ext : mm_X} {sh : mm_S} {g : mm_G} {r : mm_R} {L : wo_P} (hsh : shp sh) (hr : rfx r) {n k : Nat} (hi : RDatom xs ext sh g r L n k) : RDterm xs ext sh g r L (n + 1) k := by
  intro d p s cs hs1 hS
  refine wp_aload_n (j := 0) rfl q22_ok d22_0 ?_
  refine wp_iload_n (j := 1) rfl q22_ok d22_1 ?_
  refine wp_cV q22_ok d22_2 ml_1_92 rfl q23_ok (u := 1) rfl (by first | assumption | exact so0 hsh rfl) rfl (Nat.le_of_ble_eq_true rfl) (Nat.le_of_ble_eq_true rfl) (hi _ _ _ _ hs1 hS) (fun v2 μ2 hc => ?_)
  obtain ⟨d3, rfl, f3, m3⟩ := hc
  refine ⟨mm_le_same rfl, ?_⟩
  cases e3 : (atomS L (sumO L k)) p with
  | inl w =>
    rw [e3] at m3
    obtain ⟨rfl, m3⟩ := m3
    refine wp_if_ne q22_ok d22_5 (t := 10) rfl (fun h5 => ?_) (fun h5 => ?_)
    · exact absurd rfl h5
    · have h5 := Classical.not_not.mp h5
      refine wp_iconst (v := 0) (by decide) q22_ok d22_8 ?_
      refine wp_zret q22_ok d22_9 rfl (by first | assumption | exact Or.inl rfl | exact Or.inr rfl) ?_
      exact hp_fail f3 (thn_inl e3) m3
  | inr x =>
    rw [e3] at m3
    obtain ⟨rfl, m3⟩ := m3
    refine wp_if_ne q22_ok d22_5 (t := 10) rfl (fun h5 => ?_) (fun h5 => ?_)
    · refine wp_iconst (v := 0) (by decide) q22_ok d22_10 ?_
      refine wp_istore_n (j := 2) (Nat.le_of_ble_eq_true rfl) (rfl : _ = [_, _, _, _]) q22_ok d22_11 ?_
      refine wp_post (c_term_l hsh hr hi 160 0 none d3 x.1 s (cs ++ x.2) (by omega) hs1 m3) (fun v μ hc => ?_)
      exact hp_thn f3 e3 rfl hc
    · have h5 := Classical.not_not.mp h5
      exact absurd h5 (by decide)
theorem c_sum_l {xs : List Int32} {ext : mm_X} {sh : mm_S} {g : mm_G} {r : mm_R} {L : wo_P} (hsh : shp sh) (hr : rfx r) {n k : Nat} (hi : RDterm xs ext sh g r L n k) : ∀ (z i : Nat) (u : Option Value) (d : mm_D) (p s : Nat) (cs : List Int32), z + i = 160 → 1 ≤ s → HS d L p s cs → wp xs ext (n + 1) 21 12 [some (.ref 36), some (.int (nI (6 - k))), some (.int (nI i)), u] [] (sh, d, g, r) (hpost sh g r L d s cs (lopS L (termS L (sumO L k)) 43 45 (-18) (-19) z p)) := by
  have hb3 := hb33 hsh hr
  intro z
  induction z with
  | zero =>
    intro i u d p s cs hm hs1 hS
    have hvb : i = 160 := by omega
    subst hvb
    refine wp_iload_n (j := 2) rfl q21_ok d21_12 ?_
    refine wp_sipush (v := 160) (by decide) q21_ok d21_13 ?_
    refine wp_icmp_ge q21_ok d21_16 (t := 84) rfl (fun h16 => ?_) (fun h16 => ?_)
    · refine wp_iconst (v := 1) (by decide) q21_ok d21_84 ?_
      refine wp_zret q21_ok d21_85 rfl (by first | assumption | exact Or.inl rfl | exact Or.inr rfl) ?_
      exact hp_ok (hf_refl d) rfl (by rw [app_nil]; exact hS)
    · exact absurd (nI_le (Nat.le_refl _) (by decide)) h16
  | succ z ih =>
    intro i u d p s cs hm hs1 hS
    have hlt : i < 160 := by omega
    have hg := hS.1
    have hwl := wsp_le L hg.2.2
    have hwg := wsp_ge L p
    have hcp := hS.2.2.1
    have h160 := hg.1.2.1
    refine wp_iload_n (j := 2) rfl q21_ok d21_12 ?_
    refine wp_sipush (v := 160) (by decide) q21_ok d21_13 ?_
    refine wp_icmp_ge q21_ok d21_16 (t := 84) rfl (fun h16 => ?_) (fun h16 => ?_)
    · exact absurd h16 (nI_ge hlt (by decide))
    · refine wp_aload_n (j := 0) rfl q21_ok d21_19 ?_
      refine wp_getR q21_ok d21_20 fl_1_9 rfl (by first | assumption | exact so0 hsh rfl) (by first | assumption | exact hr _ _ _ rfl) ?_
      refine wp_cV q21_ok d21_23 ml_1_45 rfl q35_ok (u := 4) rfl (by first | assumption | exact so0 hsh rfl) rfl (Nat.le_of_ble_eq_true rfl) (Nat.le_of_ble_eq_true rfl) (c_peek hsh hr hg) (fun v23 μ23 hc => ?_)
      obtain ⟨rfl, d1, rfl, f1, a1, w1⟩ := hc
      refine ⟨mm_le_same rfl, ?_⟩
      have hS1 := HS_sf (s2 := s) hS f1 a1 hwl (show cs.length + s ≤ wsp L p by omega)
      refine wp_istore_n (j := 3) (Nat.le_of_ble_eq_true rfl) (rfl : _ = [_, _, _, _]) q21_ok d21_26 ?_
      refine wp_iload_n (j := 3) rfl q21_ok d21_27 ?_
      refine wp_bipush (v := 43) (by decide) q21_ok d21_28 ?_
      refine wp_icmp_eq q21_ok d21_30 (t := 41) rfl (fun h30 => ?_) (fun h30 => ?_)
      · have hc : bAt L (wsp L p) = 43 := h30
        have hql := bAt_lt hc (by decide)
        have er : lopS L (termS L (sumO L k)) 43 45 (-18) (-19) (z + 1) p = thn (thc ((termS L (sumO L k)) (wsp L p + 1)) (-18)) (lopS L (termS L (sumO L k)) 43 45 (-18) (-19) z) := by rw [lopS, if_pos (show bAt L (wsp L p) = 43 from h30)]
        refine wp_aload_n (j := 0) rfl q21_ok d21_41 ?_
        refine wp_getR q21_ok d21_42 fl_1_9 rfl (by first | assumption | exact so0 hsh rfl) (by first | assumption | exact hr _ _ _ rfl) ?_
        refine wp_cV q21_ok d21_45 ml_1_83 rfl q36_ok (u := 4) rfl (by first | assumption | exact so0 hsh rfl) rfl (Nat.le_of_ble_eq_true rfl) (Nat.le_of_ble_eq_true rfl) (c_skip hsh hr a1) (fun v45 μ45 hc => ?_)
        obtain ⟨rfl, rfl⟩ := hc
        refine ⟨mm_le_same rfl, ?_⟩
        have hS2 := HS_sf (s2 := s + 1) hS1 (sf_up d1 1 (nI (wsp L p + 1))) ((mm_up_at 1).trans (if_pos rfl)) hql (show cs.length + (s + 1) ≤ wsp L p + 1 by omega)
        refine wp_aload_n (j := 0) rfl q21_ok d21_48 ?_
        refine wp_iload_n (j := 1) rfl q21_ok d21_49 ?_
        refine wp_cV q21_ok d21_50 ml_1_89 rfl q22_ok (u := 1) rfl (by first | assumption | exact so0 hsh rfl) rfl (Nat.le_of_ble_eq_true rfl) (Nat.le_of_ble_eq_true rfl) (hi _ _ _ _ (Nat.le_add_left 1 s) hS2) (fun v50 μ50 hc => ?_)
        obtain ⟨d3, rfl, f3, m3⟩ := hc
        refine ⟨mm_le_same rfl, ?_⟩
        cases e3 : (termS L (sumO L k)) (wsp L p + 1) with
        | inl w =>
          rw [e3] at m3
          obtain ⟨rfl, m3⟩ := m3
          refine wp_if_ne q21_ok d21_53 (t := 58) rfl (fun h53 => ?_) (fun h53 => ?_)
          · exact absurd rfl h53
          · have h53 := Classical.not_not.mp h53
            refine wp_iconst (v := 0) (by decide) q21_ok d21_56 ?_
            refine wp_zret q21_ok d21_57 rfl (by first | assumption | exact Or.inl rfl | exact Or.inr rfl) ?_
            exact hp_fail (hf_trans (hf_sf (sf_trans f1 (sf_up d1 _ _))) f3) (er.trans (thn_inl (thc_inl e3))) m3
        | inr x =>
          rw [e3] at m3
          obtain ⟨rfl, m3⟩ := m3
          refine wp_if_ne q21_ok d21_53 (t := 58) rfl (fun h53 => ?_) (fun h53 => ?_)
          · refine wp_aload_n (j := 0) rfl q21_ok d21_58 ?_
            refine wp_getR q21_ok d21_59 fl_1_15 rfl (by first | assumption | exact so0 hsh rfl) (by first | assumption | exact hr _ _ _ rfl) ?_
            refine wp_iload_n (j := 3) rfl q21_ok d21_62 ?_
            refine wp_bipush (v := 43) (by decide) q21_ok d21_63 ?_
            refine wp_icmp_ne q21_ok d21_65 (t := 73) rfl (fun h65 => ?_) (fun h65 => ?_)
            · exact absurd hc h65
            · have h65 := Classical.not_not.mp h65
              refine wp_bipush (v := -18) (by decide) q21_ok d21_68 ?_
              refine wp_goto (t := 75) rfl q21_ok d21_70 ?_
              refine wp_cV q21_ok d21_75 ml_1_37 rfl q5_ok (u := 0) rfl (by first | assumption | exact so0 hsh rfl) rfl (Nat.le_of_ble_eq_true rfl) (Nat.le_of_ble_eq_true rfl) (c_put hsh hr hb3 m3.2.1 (by have := m3.2.2.1; have := m3.1.2.2; omega) _) (fun v75 μ75 hc => ?_)
              obtain ⟨rfl, rfl⟩ := hc
              refine ⟨mm_le_same rfl, ?_⟩
              refine wp_iinc (j := 2) rfl (by first | exact inc1 | rfl) (rfl : _ = [_, _, _, _]) q21_ok d21_78 ?_
              refine wp_goto (t := 12) rfl q21_ok d21_81 ?_
              have hS4 := HS_put m3 (-18)
              rw [List.append_assoc] at hS4
              refine wp_post (ih (i + 1) (some (.int (bAt L (wsp L p)))) _ x.1 s (cs ++ (x.2 ++ [-18])) (by omega) hs1 hS4) (fun v μ hc => ?_)
              exact hp_thn (hf_trans (hf_trans (hf_sf (sf_trans f1 (sf_up d1 _ _))) f3) (hf_put _ _ _ _)) (thc_inr e3) er hc
          · have h53 := Classical.not_not.mp h53
            exact absurd h53 (by decide)
      · refine wp_iload_n (j := 3) rfl q21_ok d21_33 ?_
        refine wp_bipush (v := 45) (by decide) q21_ok d21_34 ?_
        refine wp_icmp_eq q21_ok d21_36 (t := 41) rfl (fun h36 => ?_) (fun h36 => ?_)
        · have hc : bAt L (wsp L p) = 45 := h36
          have hql := bAt_lt hc (by decide)
          have er : lopS L (termS L (sumO L k)) 43 45 (-18) (-19) (z + 1) p = thn (thc ((termS L (sumO L k)) (wsp L p + 1)) (-19)) (lopS L (termS L (sumO L k)) 43 45 (-18) (-19) z) := by rw [lopS, if_neg (show ¬ bAt L (wsp L p) = 43 from h30), if_pos (show bAt L (wsp L p) = 45 from h36)]
          refine wp_aload_n (j := 0) rfl q21_ok d21_41 ?_
          refine wp_getR q21_ok d21_42 fl_1_9 rfl (by first | assumption | exact so0 hsh rfl) (by first | assumption | exact hr _ _ _ rfl) ?_
          refine wp_cV q21_ok d21_45 ml_1_83 rfl q36_ok (u := 4) rfl (by first | assumption | exact so0 hsh rfl) rfl (Nat.le_of_ble_eq_true rfl) (Nat.le_of_ble_eq_true rfl) (c_skip hsh hr a1) (fun v45 μ45 hc => ?_)
          obtain ⟨rfl, rfl⟩ := hc
          refine ⟨mm_le_same rfl, ?_⟩
          have hS2 := HS_sf (s2 := s + 1) hS1 (sf_up d1 1 (nI (wsp L p + 1))) ((mm_up_at 1).trans (if_pos rfl)) hql (show cs.length + (s + 1) ≤ wsp L p + 1 by omega)
          refine wp_aload_n (j := 0) rfl q21_ok d21_48 ?_
          refine wp_iload_n (j := 1) rfl q21_ok d21_49 ?_
          refine wp_cV q21_ok d21_50 ml_1_89 rfl q22_ok (u := 1) rfl (by first | assumption | exact so0 hsh rfl) rfl (Nat.le_of_ble_eq_true rfl) (Nat.le_of_ble_eq_true rfl) (hi _ _ _ _ (Nat.le_add_left 1 s) hS2) (fun v50 μ50 hc => ?_)
          obtain ⟨d3, rfl, f3, m3⟩ := hc
          refine ⟨mm_le_same rfl, ?_⟩
          cases e3 : (termS L (sumO L k)) (wsp L p + 1) with
          | inl w =>
            rw [e3] at m3
            obtain ⟨rfl, m3⟩ := m3
            refine wp_if_ne q21_ok d21_53 (t := 58) rfl (fun h53 => ?_) (fun h53 => ?_)
            · exact absurd rfl h53
            · have h53 := Classical.not_not.mp h53
              refine wp_iconst (v := 0) (by decide) q21_ok d21_56 ?_
              refine wp_zret q21_ok d21_57 rfl (by first | assumption | exact Or.inl rfl | exact Or.inr rfl) ?_
              exact hp_fail (hf_trans (hf_sf (sf_trans f1 (sf_up d1 _ _))) f3) (er.trans (thn_inl (thc_inl e3))) m3
          | inr x =>
            rw [e3] at m3
            obtain ⟨rfl, m3⟩ := m3
            refine wp_if_ne q21_ok d21_53 (t := 58) rfl (fun h53 => ?_) (fun h53 => ?_)
            · refine wp_aload_n (j := 0) rfl q21_ok d21_58 ?_
              refine wp_getR q21_ok d21_59 fl_1_15 rfl (by first | assumption | exact so0 hsh rfl) (by first | assumption | exact hr _ _ _ rfl) ?_
              refine wp_iload_n (j := 3) rfl q21_ok d21_62 ?_
              refine wp_bipush (v := 43) (by decide) q21_ok d21_63 ?_
              refine wp_icmp_ne q21_ok d21_65 (t := 73) rfl (fun h65 => ?_) (fun h65 => ?_)
              · refine wp_bipush (v := -19) (by decide) q21_ok d21_73 ?_
                refine wp_cV q21_ok d21_75 ml_1_37 rfl q5_ok (u := 0) rfl (by first | assumption | exact so0 hsh rfl) rfl (Nat.le_of_ble_eq_true rfl) (Nat.le_of_ble_eq_true rfl) (c_put hsh hr hb3 m3.2.1 (by have := m3.2.2.1; have := m3.1.2.2; omega) _) (fun v75 μ75 hc => ?_)
                obtain ⟨rfl, rfl⟩ := hc
                refine ⟨mm_le_same rfl, ?_⟩
                refine wp_iinc (j := 2) rfl (by first | exact inc1 | rfl) (rfl : _ = [_, _, _, _]) q21_ok d21_78 ?_
                refine wp_goto (t := 12) rfl q21_ok d21_81 ?_
                have hS4 := HS_put m3 (-19)
                rw [List.append_assoc] at hS4
                refine wp_post (ih (i + 1) (some (.int (bAt L (wsp L p)))) _ x.1 s (cs ++ (x.2 ++ [-19])) (by omega) hs1 hS4) (fun v μ hc => ?_)
                exact hp_thn (hf_trans (hf_trans (hf_sf (sf_trans f1 (sf_up d1 _ _))) f3) (hf_put _ _ _ _)) (thc_inr e3) er hc
              · have h65 := Classical.not_not.mp h65
                exact absurd h65 h30
            · have h53 := Classical.not_not.mp h53
              exact absurd h53 (by decide)
        · refine wp_iconst (v := 1) (by decide) q21_ok d21_39 ?_
          refine wp_zret q21_ok d21_40 rfl (by first | assumption | exact Or.inl rfl | exact Or.inr rfl) ?_
          exact hp_ok (hf_sf f1) (show lopS L (termS L (sumO L k)) 43 45 (-18) (-19) (z + 1) p = .inr (wsp L p, []) from by rw [lopS, if_neg (show ¬ bAt L (wsp L p) = 43 from h30), if_neg (show ¬ bAt L (wsp L p) = 45 from h36)]) (by rw [app_nil]; exact hS1)
theorem c_sum {xs : List Int32} {ext : mm_X} {sh : mm_S} {g : mm_G} {r : mm_R} {L : wo_P} (hsh : shp sh) (hr : rfx r) {n k : Nat} (hi : RDterm xs ext sh g r L n k) : RDsum xs ext sh g r L (n + 1) k := by
  intro d p s cs hs1 hS
  refine wp_aload_n (j := 0) rfl q21_ok d21_0 ?_
  refine wp_iload_n (j := 1) rfl q21_ok d21_1 ?_
  refine wp_cV q21_ok d21_2 ml_1_89 rfl q22_ok (u := 1) rfl (by first | assumption | exact so0 hsh rfl) rfl (Nat.le_of_ble_eq_true rfl) (Nat.le_of_ble_eq_true rfl) (hi _ _ _ _ hs1 hS) (fun v2 μ2 hc => ?_)
  obtain ⟨d3, rfl, f3, m3⟩ := hc
  refine ⟨mm_le_same rfl, ?_⟩
  cases e3 : (termS L (sumO L k)) p with
  | inl w =>
    rw [e3] at m3
    obtain ⟨rfl, m3⟩ := m3
    refine wp_if_ne q21_ok d21_5 (t := 10) rfl (fun h5 => ?_) (fun h5 => ?_)
    · exact absurd rfl h5
    · have h5 := Classical.not_not.mp h5
      refine wp_iconst (v := 0) (by decide) q21_ok d21_8 ?_
      refine wp_zret q21_ok d21_9 rfl (by first | assumption | exact Or.inl rfl | exact Or.inr rfl) ?_
      exact hp_fail f3 (thn_inl e3) m3
  | inr x =>
    rw [e3] at m3
    obtain ⟨rfl, m3⟩ := m3
    refine wp_if_ne q21_ok d21_5 (t := 10) rfl (fun h5 => ?_) (fun h5 => ?_)
    · refine wp_iconst (v := 0) (by decide) q21_ok d21_10 ?_
      refine wp_istore_n (j := 2) (Nat.le_of_ble_eq_true rfl) (rfl : _ = [_, _, _, _]) q21_ok d21_11 ?_
      refine wp_post (c_sum_l hsh hr hi 160 0 none d3 x.1 s (cs ++ x.2) (by omega) hs1 m3) (fun v μ hc => ?_)
      exact hp_thn f3 e3 rfl hc
    · have h5 := Classical.not_not.mp h5
      exact absurd h5 (by decide)
theorem c_sums {xs : List Int32} {ext : mm_X} {sh : mm_S} {g : mm_G} {r : mm_R} {L : wo_P} (hsh : shp sh) (hr : rfx r) : ∀ (k n : Nat), k ≤ 6 → RDsum xs ext sh g r L (n + (3 * k + 5)) k
  | 0, n, _ => c_sum hsh hr (c_term hsh hr (c_atom hsh hr (by decide) (fun k2 e => absurd e (by omega))))
  | k + 1, n, hk => by
    have h : RDsum xs ext sh g r L (n + (3 * k + 3) + 3 + 1 + 1) (k + 1) := c_sum hsh hr (c_term hsh hr (c_atom (n := n + (3 * k + 3)) hsh hr hk (fun k2 e => by
      have e2 : k2 = k := by omega
      subst e2
      exact c_sums hsh hr k2 n (by omega))))
    rw [show n + (3 * (k + 1) + 5) = n + (3 * k + 3) + 3 + 1 + 1 by omega]
    exact h
