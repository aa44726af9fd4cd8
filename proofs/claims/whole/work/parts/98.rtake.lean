/-! ===== the model reads and takes a town ===== -/
def finT (L : wo_P) (res : Nat ⊕ (Nat × wo_W)) : Nat ⊕ wo_W := match res with
  | .inl e => .inl e
  | .inr x => if bAt L (wsp L x.1) = -1 ∧ 0 < wnp x.2 ∧ 0 < wnb x.2 then .inr x.2 else .inl (wsp L x.1)
theorem fin_townS (L : wo_P) : finT L (townL L (159 + 1) 0 W0) = townS L := by
  show finT L (townL L 160 0 W0) = townS L
  unfold townS finT
  cases townL L 160 0 W0 with
  | inl e => rfl
  | inr x => rfl
def uM (sh : mm_S) (g : mm_G) (r : mm_R) (d : mm_D) (res : Nat ⊕ wo_W) (v : Option Value) (μ : mm_M) : Prop := (match res with | .inl w => v = some (.int (nI w)) | .inr _ => v = some (.int (-1))) ∧ ∃ d2, μ = (sh, d2, g, r) ∧ gfm d d2 ∧ (match res with
  | .inl _ => True
  | .inr W => rpTM d2 W)
theorem uM_trans {sh : mm_S} {g : mm_G} {r : mm_R} {d d1 : mm_D} {res : Nat ⊕ wo_W} {v : Option Value} {μ : mm_M} (hg : gfm d d1) (h : uM sh g r d1 res v μ) : uM sh g r d res v μ := by
  obtain ⟨h1, d2, h2, h3, h4⟩ := h
  exact ⟨h1, d2, h2, gfm_trans hg h3, h4⟩
theorem townL_no {L : wo_P} {z p e : Nat} {W : wo_W} (h : townC L p W = .inl e) : finT L (townL L (z + 1) p W) = .inl e := by rw [townL, h]; rfl
theorem townL_go {L : wo_P} {z p : Nat} {W : wo_W} {x : Nat × wo_W} (h : townC L p W = .inr x) (c : bAt L (wsp L x.1) = 59) : townL L (z + 1) p W = townL L z (wsp L x.1 + 1) x.2 := by
  rw [townL, h]
  show (if bAt L (wsp L x.1) = 59 then _ else _) = _
  rw [if_pos c]
theorem townL_end {L : wo_P} {z p : Nat} {W : wo_W} {x : Nat × wo_W} (h : townC L p W = .inr x) (c : ¬ bAt L (wsp L x.1) = 59) : finT L (townL L (z + 1) p W) = if bAt L (wsp L (wsp L x.1)) = -1 ∧ 0 < wnp x.2 ∧ 0 < wnb x.2 then .inr x.2 else .inl (wsp L (wsp L x.1)) := by
  rw [townL, h]
  show finT L (if bAt L (wsp L x.1) = 59 then _ else _) = _
  rw [if_neg c]
  rfl
theorem r_rt_l {xs : List Int32} {ext : mm_X} {n : Nat} {sh : mm_S} {g : mm_G} {r : mm_R} {L : wo_P} (hsh : shp sh) (hr : rfx r) : ∀ (z : Nat) (d : mm_D) (p : Nat) (W : wo_W), L.1 ≤ 2 * z + p → tapM d L → d 250 3 = nI p → p ≤ L.1 → d 250 4 = -1 → rpTM d W → wp xs ext (n + 5) 173 27 [some (.ref 250), some (.int 1)] [] (sh, d, g, r) (uM sh g r d (finT L (townL L (z + 1) p W))) := by
  intro z
  induction z with
  | zero =>
    intro d p W hz hL ha hp hw hT
    have h160 := hL.2.1
    have hb := townC_bd (W := W) hp
    refine wp_iload_n (j := 1) rfl q173_ok d173_27 ?_
    refine wp_if_eq q173_ok d173_28 (t := 87) rfl (fun h28 => ?_) (fun h28 => ?_)
    · exact absurd h28 (by decide)
    · refine wp_aload_n (j := 0) rfl q173_ok d173_31 ?_
      refine wp_getI q173_ok d173_32 fl_11_120 rfl (by first | assumption | exact so0 hsh rfl) hw ?_
      refine wp_iconst (v := -1) (by decide) q173_ok d173_35 ?_
      refine wp_icmp_ne q173_ok d173_36 (t := 87) rfl (fun h36 => ?_) (fun h36 => ?_)
      · exact absurd rfl h36
      · have h36 := Classical.not_not.mp h36
        refine wp_aload_n (j := 0) rfl q173_ok d173_39 ?_
        refine wp_cV q173_ok d173_40 ml_11_256 rfl q172_ok (u := 11) rfl (by first | assumption | exact so0 hsh rfl) rfl (Nat.le_of_ble_eq_true rfl) (Nat.le_of_ble_eq_true rfl) (r_ctext (n := n) hsh hr hL ha hp hw hT) (fun v40 μ40 hc => ?_)
        obtain ⟨rfl, d3, rfl, g3, m3⟩ := hc
        refine ⟨mm_le_same rfl, ?_⟩
        cases e3 : townC L p W with
        | inl e =>
          rw [e3] at m3
          have hb3 : badT L d3 e := m3
          obtain ⟨he, hb3⟩ := hb3
          rw [townL_no e3]
          have hL3 := tapM_gf hL g3
          rcases hb3 with hw3 | ⟨hw3, ha3, hid, h59, h1n⟩
          · have hne : ¬ nI e = -1 := nI_nm1 (by omega)
            refine wp_aload_n (j := 0) rfl q173_ok d173_43 ?_
            refine wp_getI q173_ok d173_44 fl_11_120 rfl (by first | assumption | exact so0 hsh rfl) hw3 ?_
            refine wp_iconst (v := -1) (by decide) q173_ok d173_47 ?_
            refine wp_icmp_ne q173_ok d173_48 (t := 64) rfl (fun h48 => ?_) (fun h48 => ?_)
            · refine wp_iconst (v := 0) (by decide) q173_ok d173_64 ?_
              refine wp_istore_n (j := 1) (Nat.le_of_ble_eq_true rfl) (rfl : _ = [_, _]) q173_ok d173_65 ?_
              refine wp_aload_n (j := 0) rfl q173_ok d173_66 ?_
              refine wp_dup rfl q173_ok d173_67 ?_
              refine wp_getI q173_ok d173_68 fl_11_113 rfl (by first | assumption | exact so0 hsh rfl) rfl ?_
              refine wp_iload_n (j := 1) rfl q173_ok d173_71 ?_
              refine wp_if_eq q173_ok d173_72 (t := 79) rfl (fun h72 => ?_) (fun h72 => ?_)
              · refine wp_iconst (v := 0) (by decide) q173_ok d173_79 ?_
                refine wp_iadd rfl q173_ok d173_80 ?_
                refine wp_putI q173_ok d173_81 fl_11_113 rfl (by first | assumption | exact so0 hsh rfl) (Or.inl rfl) ?_
                refine wp_goto (t := 27) rfl q173_ok d173_84 ?_
                refine wp_iload_n (j := 1) rfl q173_ok d173_27 ?_
                refine wp_if_eq q173_ok d173_28 (t := 87) rfl (fun h28 => ?_) (fun h28 => ?_)
                · refine wp_aload_n (j := 0) rfl q173_ok d173_87 ?_
                  refine wp_getI q173_ok d173_88 fl_11_120 rfl (by first | assumption | exact so0 hsh rfl) (((mm_up_at 4).trans (if_neg (by decide))).trans hw3) ?_
                  refine wp_iconst (v := -1) (by decide) q173_ok d173_91 ?_
                  refine wp_icmp_ne q173_ok d173_92 (t := 121) rfl (fun h92 => ?_) (fun h92 => ?_)
                  · refine wp_aload_n (j := 0) rfl q173_ok d173_121 ?_
                    refine wp_getI q173_ok d173_122 fl_11_120 rfl (by first | assumption | exact so0 hsh rfl) (((mm_up_at 4).trans (if_neg (by decide))).trans hw3) ?_
                    refine wp_iret q173_ok d173_125 rfl ?_
                    exact ⟨rfl, _, rfl, gfm_trans g3 (gfm_af af_3), trivial⟩
                  · have h92 := Classical.not_not.mp h92
                    exact absurd h92 hne
                · exact absurd rfl h28
              · exact absurd rfl h72
            · have h48 := Classical.not_not.mp h48
              exact absurd h48 hne
          · have hw4 : mm_up d3 250 3 (nI (wsp L e)) 250 4 = -1 := ((mm_up_at 4).trans (if_neg (by decide))).trans hw3
            have hL4 := tapM_250 (v := nI (wsp L e)) hL3 (show 2 ≠ 3 by decide)
            have ha4 : mm_up d3 250 3 (nI (wsp L e)) 250 3 = nI (wsp L e) := (mm_up_at 3).trans (if_pos rfl)
            have h59' : ¬ bAt L (wsp L e) = 59 := by rw [hid]; exact h59
            have hwe : wsp L e ≤ L.1 := by rw [hid]; exact he
            have hww : wsp L (wsp L e) = e := by rw [hid, hid]
            have h1n' : ¬ bAt L (wsp L (wsp L e)) = -1 := by rw [hww]; exact h1n
            have hL5 := tapM_250 (v := nI (wsp L e)) hL4 (show 2 ≠ 3 by decide)
            have ha5 : mm_up (mm_up d3 250 3 (nI (wsp L e))) 250 3 (nI (wsp L e)) 250 3 = nI (wsp L e) := (mm_up_at 3).trans (if_pos rfl)
            have hw5 : mm_up (mm_up d3 250 3 (nI (wsp L e))) 250 3 (nI (wsp L e)) 250 4 = -1 := ((mm_up_at 4).trans (if_neg (by decide))).trans hw4
            refine wp_aload_n (j := 0) rfl q173_ok d173_43 ?_
            refine wp_getI q173_ok d173_44 fl_11_120 rfl (by first | assumption | exact so0 hsh rfl) hw3 ?_
            refine wp_iconst (v := -1) (by decide) q173_ok d173_47 ?_
            refine wp_icmp_ne q173_ok d173_48 (t := 64) rfl (fun h48 => ?_) (fun h48 => ?_)
            · exact absurd rfl h48
            · have h48 := Classical.not_not.mp h48
              refine wp_aload_n (j := 0) rfl q173_ok d173_51 ?_
              refine wp_cV q173_ok d173_52 ml_11_132 rfl q141_ok (u := 11) rfl (by first | assumption | exact so0 hsh rfl) rfl (Nat.le_of_ble_eq_true rfl) (Nat.le_of_ble_eq_true rfl) (m_look hsh hr hL3 ha3 he) (fun v52 μ52 hc => ?_)
              obtain ⟨rfl, rfl⟩ := hc
              refine ⟨mm_le_same rfl, ?_⟩
              refine wp_bipush (v := 59) (by decide) q173_ok d173_55 ?_
              refine wp_icmp_ne q173_ok d173_57 (t := 64) rfl (fun h57 => ?_) (fun h57 => ?_)
              · refine wp_iconst (v := 0) (by decide) q173_ok d173_64 ?_
                refine wp_istore_n (j := 1) (Nat.le_of_ble_eq_true rfl) (rfl : _ = [_, _]) q173_ok d173_65 ?_
                refine wp_aload_n (j := 0) rfl q173_ok d173_66 ?_
                refine wp_dup rfl q173_ok d173_67 ?_
                refine wp_getI q173_ok d173_68 fl_11_113 rfl (by first | assumption | exact so0 hsh rfl) ha4 ?_
                refine wp_iload_n (j := 1) rfl q173_ok d173_71 ?_
                refine wp_if_eq q173_ok d173_72 (t := 79) rfl (fun h72 => ?_) (fun h72 => ?_)
                · refine wp_iconst (v := 0) (by decide) q173_ok d173_79 ?_
                  refine wp_iadd (show nI (wsp L e) + 0 = nI (wsp L e) from Int32.add_zero _) q173_ok d173_80 ?_
                  refine wp_putI q173_ok d173_81 fl_11_113 rfl (by first | assumption | exact so0 hsh rfl) (Or.inl rfl) ?_
                  refine wp_goto (t := 27) rfl q173_ok d173_84 ?_
                  refine wp_iload_n (j := 1) rfl q173_ok d173_27 ?_
                  refine wp_if_eq q173_ok d173_28 (t := 87) rfl (fun h28 => ?_) (fun h28 => ?_)
                  · refine wp_aload_n (j := 0) rfl q173_ok d173_87 ?_
                    refine wp_getI q173_ok d173_88 fl_11_120 rfl (by first | assumption | exact so0 hsh rfl) hw5 ?_
                    refine wp_iconst (v := -1) (by decide) q173_ok d173_91 ?_
                    refine wp_icmp_ne q173_ok d173_92 (t := 121) rfl (fun h92 => ?_) (fun h92 => ?_)
                    · exact absurd rfl h92
                    · have h92 := Classical.not_not.mp h92
                      refine wp_aload_n (j := 0) rfl q173_ok d173_95 ?_
                      refine wp_cV q173_ok d173_96 ml_11_132 rfl q141_ok (u := 11) rfl (by first | assumption | exact so0 hsh rfl) rfl (Nat.le_of_ble_eq_true rfl) (Nat.le_of_ble_eq_true rfl) (m_look hsh hr hL5 ha5 hwe) (fun v96 μ96 hc => ?_)
                      obtain ⟨rfl, rfl⟩ := hc
                      refine ⟨mm_le_same rfl, ?_⟩
                      refine wp_iconst (v := -1) (by decide) q173_ok d173_99 ?_
                      refine wp_icmp_ne q173_ok d173_100 (t := 117) rfl (fun h100 => ?_) (fun h100 => ?_)
                      · refine wp_aload_n (j := 0) rfl q173_ok d173_117 ?_
                        refine wp_cV q173_ok d173_118 ml_11_129 rfl q142_ok (u := 11) rfl (by first | assumption | exact so0 hsh rfl) rfl (Nat.le_of_ble_eq_true rfl) (Nat.le_of_ble_eq_true rfl) (m_bad0 hsh hr (((mm_up_at 4).trans (if_neg (by decide))).trans hw5) ((mm_up_at 3).trans (if_pos rfl))) (fun v118 μ118 hc => ?_)
                        obtain ⟨rfl, rfl⟩ := hc
                        refine ⟨mm_le_same rfl, ?_⟩
                        refine wp_aload_n (j := 0) rfl q173_ok d173_121 ?_
                        refine wp_getI q173_ok d173_122 fl_11_120 rfl (by first | assumption | exact so0 hsh rfl) ((mm_up_at 4).trans (if_pos rfl)) ?_
                        refine wp_iret q173_ok d173_125 rfl ?_
                        rw [hww]
                        exact ⟨rfl, _, rfl, gfm_trans (gfm_trans (gfm_trans (gfm_trans g3 (gfm_af af_3)) (gfm_af af_3)) (gfm_af af_3)) (gfm_af af_4), trivial⟩
                      · have h100 := Classical.not_not.mp h100
                        exact absurd h100 h1n'
                  · exact absurd rfl h28
                · exact absurd rfl h72
              · have h57 := Classical.not_not.mp h57
                exact absurd h57 h59'
        | inr x =>
          rw [e3] at m3 hb
          have hb : p < x.1 ∧ x.1 ≤ L.1 := hb
          obtain ⟨hw3, ha3, hx1, hT3⟩ := m3
          have hL3 := tapM_gf hL g3
          have hwl3 := wsp_le L hx1
          have hwg3 := wsp_ge L x.1
          have hL4 := tapM_250 (v := nI (wsp L x.1)) hL3 (show 2 ≠ 3 by decide)
          have ha4 : mm_up d3 250 3 (nI (wsp L x.1)) 250 3 = nI (wsp L x.1) := (mm_up_at 3).trans (if_pos rfl)
          have hw4 : mm_up d3 250 3 (nI (wsp L x.1)) 250 4 = -1 := ((mm_up_at 4).trans (if_neg (by decide))).trans hw3
          omega
  | succ z ih =>
    intro d p W hz hL ha hp hw hT
    have h160 := hL.2.1
    have hb := townC_bd (W := W) hp
    refine wp_iload_n (j := 1) rfl q173_ok d173_27 ?_
    refine wp_if_eq q173_ok d173_28 (t := 87) rfl (fun h28 => ?_) (fun h28 => ?_)
    · exact absurd h28 (by decide)
    · refine wp_aload_n (j := 0) rfl q173_ok d173_31 ?_
      refine wp_getI q173_ok d173_32 fl_11_120 rfl (by first | assumption | exact so0 hsh rfl) hw ?_
      refine wp_iconst (v := -1) (by decide) q173_ok d173_35 ?_
      refine wp_icmp_ne q173_ok d173_36 (t := 87) rfl (fun h36 => ?_) (fun h36 => ?_)
      · exact absurd rfl h36
      · have h36 := Classical.not_not.mp h36
        refine wp_aload_n (j := 0) rfl q173_ok d173_39 ?_
        refine wp_cV q173_ok d173_40 ml_11_256 rfl q172_ok (u := 11) rfl (by first | assumption | exact so0 hsh rfl) rfl (Nat.le_of_ble_eq_true rfl) (Nat.le_of_ble_eq_true rfl) (r_ctext (n := n) hsh hr hL ha hp hw hT) (fun v40 μ40 hc => ?_)
        obtain ⟨rfl, d3, rfl, g3, m3⟩ := hc
        refine ⟨mm_le_same rfl, ?_⟩
        cases e3 : townC L p W with
        | inl e =>
          rw [e3] at m3
          have hb3 : badT L d3 e := m3
          obtain ⟨he, hb3⟩ := hb3
          rw [townL_no e3]
          have hL3 := tapM_gf hL g3
          rcases hb3 with hw3 | ⟨hw3, ha3, hid, h59, h1n⟩
          · have hne : ¬ nI e = -1 := nI_nm1 (by omega)
            refine wp_aload_n (j := 0) rfl q173_ok d173_43 ?_
            refine wp_getI q173_ok d173_44 fl_11_120 rfl (by first | assumption | exact so0 hsh rfl) hw3 ?_
            refine wp_iconst (v := -1) (by decide) q173_ok d173_47 ?_
            refine wp_icmp_ne q173_ok d173_48 (t := 64) rfl (fun h48 => ?_) (fun h48 => ?_)
            · refine wp_iconst (v := 0) (by decide) q173_ok d173_64 ?_
              refine wp_istore_n (j := 1) (Nat.le_of_ble_eq_true rfl) (rfl : _ = [_, _]) q173_ok d173_65 ?_
              refine wp_aload_n (j := 0) rfl q173_ok d173_66 ?_
              refine wp_dup rfl q173_ok d173_67 ?_
              refine wp_getI q173_ok d173_68 fl_11_113 rfl (by first | assumption | exact so0 hsh rfl) rfl ?_
              refine wp_iload_n (j := 1) rfl q173_ok d173_71 ?_
              refine wp_if_eq q173_ok d173_72 (t := 79) rfl (fun h72 => ?_) (fun h72 => ?_)
              · refine wp_iconst (v := 0) (by decide) q173_ok d173_79 ?_
                refine wp_iadd rfl q173_ok d173_80 ?_
                refine wp_putI q173_ok d173_81 fl_11_113 rfl (by first | assumption | exact so0 hsh rfl) (Or.inl rfl) ?_
                refine wp_goto (t := 27) rfl q173_ok d173_84 ?_
                refine wp_iload_n (j := 1) rfl q173_ok d173_27 ?_
                refine wp_if_eq q173_ok d173_28 (t := 87) rfl (fun h28 => ?_) (fun h28 => ?_)
                · refine wp_aload_n (j := 0) rfl q173_ok d173_87 ?_
                  refine wp_getI q173_ok d173_88 fl_11_120 rfl (by first | assumption | exact so0 hsh rfl) (((mm_up_at 4).trans (if_neg (by decide))).trans hw3) ?_
                  refine wp_iconst (v := -1) (by decide) q173_ok d173_91 ?_
                  refine wp_icmp_ne q173_ok d173_92 (t := 121) rfl (fun h92 => ?_) (fun h92 => ?_)
                  · refine wp_aload_n (j := 0) rfl q173_ok d173_121 ?_
                    refine wp_getI q173_ok d173_122 fl_11_120 rfl (by first | assumption | exact so0 hsh rfl) (((mm_up_at 4).trans (if_neg (by decide))).trans hw3) ?_
                    refine wp_iret q173_ok d173_125 rfl ?_
                    exact ⟨rfl, _, rfl, gfm_trans g3 (gfm_af af_3), trivial⟩
                  · have h92 := Classical.not_not.mp h92
                    exact absurd h92 hne
                · exact absurd rfl h28
              · exact absurd rfl h72
            · have h48 := Classical.not_not.mp h48
              exact absurd h48 hne
          · have hw4 : mm_up d3 250 3 (nI (wsp L e)) 250 4 = -1 := ((mm_up_at 4).trans (if_neg (by decide))).trans hw3
            have hL4 := tapM_250 (v := nI (wsp L e)) hL3 (show 2 ≠ 3 by decide)
            have ha4 : mm_up d3 250 3 (nI (wsp L e)) 250 3 = nI (wsp L e) := (mm_up_at 3).trans (if_pos rfl)
            have h59' : ¬ bAt L (wsp L e) = 59 := by rw [hid]; exact h59
            have hwe : wsp L e ≤ L.1 := by rw [hid]; exact he
            have hww : wsp L (wsp L e) = e := by rw [hid, hid]
            have h1n' : ¬ bAt L (wsp L (wsp L e)) = -1 := by rw [hww]; exact h1n
            have hL5 := tapM_250 (v := nI (wsp L e)) hL4 (show 2 ≠ 3 by decide)
            have ha5 : mm_up (mm_up d3 250 3 (nI (wsp L e))) 250 3 (nI (wsp L e)) 250 3 = nI (wsp L e) := (mm_up_at 3).trans (if_pos rfl)
            have hw5 : mm_up (mm_up d3 250 3 (nI (wsp L e))) 250 3 (nI (wsp L e)) 250 4 = -1 := ((mm_up_at 4).trans (if_neg (by decide))).trans hw4
            refine wp_aload_n (j := 0) rfl q173_ok d173_43 ?_
            refine wp_getI q173_ok d173_44 fl_11_120 rfl (by first | assumption | exact so0 hsh rfl) hw3 ?_
            refine wp_iconst (v := -1) (by decide) q173_ok d173_47 ?_
            refine wp_icmp_ne q173_ok d173_48 (t := 64) rfl (fun h48 => ?_) (fun h48 => ?_)
            · exact absurd rfl h48
            · have h48 := Classical.not_not.mp h48
              refine wp_aload_n (j := 0) rfl q173_ok d173_51 ?_
              refine wp_cV q173_ok d173_52 ml_11_132 rfl q141_ok (u := 11) rfl (by first | assumption | exact so0 hsh rfl) rfl (Nat.le_of_ble_eq_true rfl) (Nat.le_of_ble_eq_true rfl) (m_look hsh hr hL3 ha3 he) (fun v52 μ52 hc => ?_)
              obtain ⟨rfl, rfl⟩ := hc
              refine ⟨mm_le_same rfl, ?_⟩
              refine wp_bipush (v := 59) (by decide) q173_ok d173_55 ?_
              refine wp_icmp_ne q173_ok d173_57 (t := 64) rfl (fun h57 => ?_) (fun h57 => ?_)
              · refine wp_iconst (v := 0) (by decide) q173_ok d173_64 ?_
                refine wp_istore_n (j := 1) (Nat.le_of_ble_eq_true rfl) (rfl : _ = [_, _]) q173_ok d173_65 ?_
                refine wp_aload_n (j := 0) rfl q173_ok d173_66 ?_
                refine wp_dup rfl q173_ok d173_67 ?_
                refine wp_getI q173_ok d173_68 fl_11_113 rfl (by first | assumption | exact so0 hsh rfl) ha4 ?_
                refine wp_iload_n (j := 1) rfl q173_ok d173_71 ?_
                refine wp_if_eq q173_ok d173_72 (t := 79) rfl (fun h72 => ?_) (fun h72 => ?_)
                · refine wp_iconst (v := 0) (by decide) q173_ok d173_79 ?_
                  refine wp_iadd (show nI (wsp L e) + 0 = nI (wsp L e) from Int32.add_zero _) q173_ok d173_80 ?_
                  refine wp_putI q173_ok d173_81 fl_11_113 rfl (by first | assumption | exact so0 hsh rfl) (Or.inl rfl) ?_
                  refine wp_goto (t := 27) rfl q173_ok d173_84 ?_
                  refine wp_iload_n (j := 1) rfl q173_ok d173_27 ?_
                  refine wp_if_eq q173_ok d173_28 (t := 87) rfl (fun h28 => ?_) (fun h28 => ?_)
                  · refine wp_aload_n (j := 0) rfl q173_ok d173_87 ?_
                    refine wp_getI q173_ok d173_88 fl_11_120 rfl (by first | assumption | exact so0 hsh rfl) hw5 ?_
                    refine wp_iconst (v := -1) (by decide) q173_ok d173_91 ?_
                    refine wp_icmp_ne q173_ok d173_92 (t := 121) rfl (fun h92 => ?_) (fun h92 => ?_)
                    · exact absurd rfl h92
                    · have h92 := Classical.not_not.mp h92
                      refine wp_aload_n (j := 0) rfl q173_ok d173_95 ?_
                      refine wp_cV q173_ok d173_96 ml_11_132 rfl q141_ok (u := 11) rfl (by first | assumption | exact so0 hsh rfl) rfl (Nat.le_of_ble_eq_true rfl) (Nat.le_of_ble_eq_true rfl) (m_look hsh hr hL5 ha5 hwe) (fun v96 μ96 hc => ?_)
                      obtain ⟨rfl, rfl⟩ := hc
                      refine ⟨mm_le_same rfl, ?_⟩
                      refine wp_iconst (v := -1) (by decide) q173_ok d173_99 ?_
                      refine wp_icmp_ne q173_ok d173_100 (t := 117) rfl (fun h100 => ?_) (fun h100 => ?_)
                      · refine wp_aload_n (j := 0) rfl q173_ok d173_117 ?_
                        refine wp_cV q173_ok d173_118 ml_11_129 rfl q142_ok (u := 11) rfl (by first | assumption | exact so0 hsh rfl) rfl (Nat.le_of_ble_eq_true rfl) (Nat.le_of_ble_eq_true rfl) (m_bad0 hsh hr (((mm_up_at 4).trans (if_neg (by decide))).trans hw5) ((mm_up_at 3).trans (if_pos rfl))) (fun v118 μ118 hc => ?_)
                        obtain ⟨rfl, rfl⟩ := hc
                        refine ⟨mm_le_same rfl, ?_⟩
                        refine wp_aload_n (j := 0) rfl q173_ok d173_121 ?_
                        refine wp_getI q173_ok d173_122 fl_11_120 rfl (by first | assumption | exact so0 hsh rfl) ((mm_up_at 4).trans (if_pos rfl)) ?_
                        refine wp_iret q173_ok d173_125 rfl ?_
                        rw [hww]
                        exact ⟨rfl, _, rfl, gfm_trans (gfm_trans (gfm_trans (gfm_trans g3 (gfm_af af_3)) (gfm_af af_3)) (gfm_af af_3)) (gfm_af af_4), trivial⟩
                      · have h100 := Classical.not_not.mp h100
                        exact absurd h100 h1n'
                  · exact absurd rfl h28
                · exact absurd rfl h72
              · have h57 := Classical.not_not.mp h57
                exact absurd h57 h59'
        | inr x =>
          rw [e3] at m3 hb
          have hb : p < x.1 ∧ x.1 ≤ L.1 := hb
          obtain ⟨hw3, ha3, hx1, hT3⟩ := m3
          have hL3 := tapM_gf hL g3
          have hwl3 := wsp_le L hx1
          have hwg3 := wsp_ge L x.1
          have hL4 := tapM_250 (v := nI (wsp L x.1)) hL3 (show 2 ≠ 3 by decide)
          have ha4 : mm_up d3 250 3 (nI (wsp L x.1)) 250 3 = nI (wsp L x.1) := (mm_up_at 3).trans (if_pos rfl)
          have hw4 : mm_up d3 250 3 (nI (wsp L x.1)) 250 4 = -1 := ((mm_up_at 4).trans (if_neg (by decide))).trans hw3
          refine wp_aload_n (j := 0) rfl q173_ok d173_43 ?_
          refine wp_getI q173_ok d173_44 fl_11_120 rfl (by first | assumption | exact so0 hsh rfl) hw3 ?_
          refine wp_iconst (v := -1) (by decide) q173_ok d173_47 ?_
          refine wp_icmp_ne q173_ok d173_48 (t := 64) rfl (fun h48 => ?_) (fun h48 => ?_)
          · exact absurd rfl h48
          · have h48 := Classical.not_not.mp h48
            refine wp_aload_n (j := 0) rfl q173_ok d173_51 ?_
            refine wp_cV q173_ok d173_52 ml_11_132 rfl q141_ok (u := 11) rfl (by first | assumption | exact so0 hsh rfl) rfl (Nat.le_of_ble_eq_true rfl) (Nat.le_of_ble_eq_true rfl) (m_look hsh hr hL3 ha3 hx1) (fun v52 μ52 hc => ?_)
            obtain ⟨rfl, rfl⟩ := hc
            refine ⟨mm_le_same rfl, ?_⟩
            refine wp_bipush (v := 59) (by decide) q173_ok d173_55 ?_
            refine wp_icmp_ne q173_ok d173_57 (t := 64) rfl (fun h57 => ?_) (fun h57 => ?_)
            · have hL5 := tapM_250 (v := nI (wsp L x.1)) hL4 (show 2 ≠ 3 by decide)
              have ha5 : mm_up (mm_up d3 250 3 (nI (wsp L x.1))) 250 3 (nI (wsp L x.1)) 250 3 = nI (wsp L x.1) := (mm_up_at 3).trans (if_pos rfl)
              have hw5 : mm_up (mm_up d3 250 3 (nI (wsp L x.1))) 250 3 (nI (wsp L x.1)) 250 4 = -1 := ((mm_up_at 4).trans (if_neg (by decide))).trans hw4
              have hw6 : mm_up (mm_up (mm_up d3 250 3 (nI (wsp L x.1))) 250 3 (nI (wsp L x.1))) 250 3 (nI (wsp L (wsp L x.1))) 250 4 = -1 := ((mm_up_at 4).trans (if_neg (by decide))).trans hw5
              have ha6 : mm_up (mm_up (mm_up d3 250 3 (nI (wsp L x.1))) 250 3 (nI (wsp L x.1))) 250 3 (nI (wsp L (wsp L x.1))) 250 3 = nI (wsp L (wsp L x.1)) := (mm_up_at 3).trans (if_pos rfl)
              have hT6 : rpTM (mm_up (mm_up (mm_up d3 250 3 (nI (wsp L x.1))) 250 3 (nI (wsp L x.1))) 250 3 (nI (wsp L (wsp L x.1)))) x.2 := rpTM_x hT3 (fun c a b => by rw [mm_up_ne (by omega), mm_up_ne (by omega), mm_up_ne (by omega)]) (fun j a b => by rw [mm_up_at, if_neg (by omega), mm_up_at, if_neg (by omega), mm_up_at, if_neg (by omega)])
              have hn6 := hT3.2.1
              have hn2 := hT3.2.2.2.1
              refine wp_iconst (v := 0) (by decide) q173_ok d173_64 ?_
              refine wp_istore_n (j := 1) (Nat.le_of_ble_eq_true rfl) (rfl : _ = [_, _]) q173_ok d173_65 ?_
              refine wp_aload_n (j := 0) rfl q173_ok d173_66 ?_
              refine wp_dup rfl q173_ok d173_67 ?_
              refine wp_getI q173_ok d173_68 fl_11_113 rfl (by first | assumption | exact so0 hsh rfl) ha4 ?_
              refine wp_iload_n (j := 1) rfl q173_ok d173_71 ?_
              refine wp_if_eq q173_ok d173_72 (t := 79) rfl (fun h72 => ?_) (fun h72 => ?_)
              · refine wp_iconst (v := 0) (by decide) q173_ok d173_79 ?_
                refine wp_iadd (show nI (wsp L x.1) + 0 = nI (wsp L x.1) from Int32.add_zero _) q173_ok d173_80 ?_
                refine wp_putI q173_ok d173_81 fl_11_113 rfl (by first | assumption | exact so0 hsh rfl) (Or.inl rfl) ?_
                refine wp_goto (t := 27) rfl q173_ok d173_84 ?_
                refine wp_iload_n (j := 1) rfl q173_ok d173_27 ?_
                refine wp_if_eq q173_ok d173_28 (t := 87) rfl (fun h28 => ?_) (fun h28 => ?_)
                · refine wp_aload_n (j := 0) rfl q173_ok d173_87 ?_
                  refine wp_getI q173_ok d173_88 fl_11_120 rfl (by first | assumption | exact so0 hsh rfl) hw5 ?_
                  refine wp_iconst (v := -1) (by decide) q173_ok d173_91 ?_
                  refine wp_icmp_ne q173_ok d173_92 (t := 121) rfl (fun h92 => ?_) (fun h92 => ?_)
                  · exact absurd rfl h92
                  · have h92 := Classical.not_not.mp h92
                    refine wp_aload_n (j := 0) rfl q173_ok d173_95 ?_
                    refine wp_cV q173_ok d173_96 ml_11_132 rfl q141_ok (u := 11) rfl (by first | assumption | exact so0 hsh rfl) rfl (Nat.le_of_ble_eq_true rfl) (Nat.le_of_ble_eq_true rfl) (m_look hsh hr hL5 ha5 hwl3) (fun v96 μ96 hc => ?_)
                    obtain ⟨rfl, rfl⟩ := hc
                    refine ⟨mm_le_same rfl, ?_⟩
                    refine wp_iconst (v := -1) (by decide) q173_ok d173_99 ?_
                    refine wp_icmp_ne q173_ok d173_100 (t := 117) rfl (fun h100 => ?_) (fun h100 => ?_)
                    · refine wp_aload_n (j := 0) rfl q173_ok d173_117 ?_
                      refine wp_cV q173_ok d173_118 ml_11_129 rfl q142_ok (u := 11) rfl (by first | assumption | exact so0 hsh rfl) rfl (Nat.le_of_ble_eq_true rfl) (Nat.le_of_ble_eq_true rfl) (m_bad0 hsh hr hw6 ha6) (fun v118 μ118 hc => ?_)
                      obtain ⟨rfl, rfl⟩ := hc
                      refine ⟨mm_le_same rfl, ?_⟩
                      refine wp_aload_n (j := 0) rfl q173_ok d173_121 ?_
                      refine wp_getI q173_ok d173_122 fl_11_120 rfl (by first | assumption | exact so0 hsh rfl) ((mm_up_at 4).trans (if_pos rfl)) ?_
                      refine wp_iret q173_ok d173_125 rfl ?_
                      rw [townL_end e3 h57, if_neg (show ¬ (bAt L (wsp L (wsp L x.1)) = -1 ∧ 0 < wnp x.2 ∧ 0 < wnb x.2) from fun q => h100 q.1)]
                      exact ⟨rfl, _, rfl, gfm_trans (gfm_trans (gfm_trans (gfm_trans g3 (gfm_af af_3)) (gfm_af af_3)) (gfm_af af_3)) (gfm_af af_4), trivial⟩
                    · have h100 := Classical.not_not.mp h100
                      refine wp_aload_n (j := 0) rfl q173_ok d173_103 ?_
                      refine wp_getI q173_ok d173_104 fl_11_242 rfl (by first | assumption | exact so0 hsh rfl) hT6.1 ?_
                      refine wp_if_eq q173_ok d173_107 (t := 117) rfl (fun h107 => ?_) (fun h107 => ?_)
                      · refine wp_aload_n (j := 0) rfl q173_ok d173_117 ?_
                        refine wp_cV q173_ok d173_118 ml_11_129 rfl q142_ok (u := 11) rfl (by first | assumption | exact so0 hsh rfl) rfl (Nat.le_of_ble_eq_true rfl) (Nat.le_of_ble_eq_true rfl) (m_bad0 hsh hr hw6 ha6) (fun v118 μ118 hc => ?_)
                        obtain ⟨rfl, rfl⟩ := hc
                        refine ⟨mm_le_same rfl, ?_⟩
                        refine wp_aload_n (j := 0) rfl q173_ok d173_121 ?_
                        refine wp_getI q173_ok d173_122 fl_11_120 rfl (by first | assumption | exact so0 hsh rfl) ((mm_up_at 4).trans (if_pos rfl)) ?_
                        refine wp_iret q173_ok d173_125 rfl ?_
                        rw [townL_end e3 h57, if_neg (show ¬ (bAt L (wsp L (wsp L x.1)) = -1 ∧ 0 < wnp x.2 ∧ 0 < wnb x.2) from fun q => absurd (show wnp x.2 = 0 from nI0 hn6 h107) (by omega))]
                        exact ⟨rfl, _, rfl, gfm_trans (gfm_trans (gfm_trans (gfm_trans g3 (gfm_af af_3)) (gfm_af af_3)) (gfm_af af_3)) (gfm_af af_4), trivial⟩
                      · refine wp_aload_n (j := 0) rfl q173_ok d173_110 ?_
                        refine wp_getI q173_ok d173_111 fl_11_253 rfl (by first | assumption | exact so0 hsh rfl) hT6.2.2.1 ?_
                        refine wp_if_ne q173_ok d173_114 (t := 121) rfl (fun h114 => ?_) (fun h114 => ?_)
                        · refine wp_aload_n (j := 0) rfl q173_ok d173_121 ?_
                          refine wp_getI q173_ok d173_122 fl_11_120 rfl (by first | assumption | exact so0 hsh rfl) hw6 ?_
                          refine wp_iret q173_ok d173_125 rfl ?_
                          have hp0 : 0 < wnp x.2 := Nat.pos_of_ne_zero (fun q => h107 (by rw [q]; rfl))
                          have hb0 : 0 < wnb x.2 := Nat.pos_of_ne_zero (fun q => h114 (by rw [q]; rfl))
                          rw [townL_end e3 h57, if_pos ⟨h100, hp0, hb0⟩]
                          exact ⟨rfl, _, rfl, (gfm_trans (gfm_trans (gfm_trans g3 (gfm_af af_3)) (gfm_af af_3)) (gfm_af af_3)), hT6⟩
                        · have h114 := Classical.not_not.mp h114
                          refine wp_aload_n (j := 0) rfl q173_ok d173_117 ?_
                          refine wp_cV q173_ok d173_118 ml_11_129 rfl q142_ok (u := 11) rfl (by first | assumption | exact so0 hsh rfl) rfl (Nat.le_of_ble_eq_true rfl) (Nat.le_of_ble_eq_true rfl) (m_bad0 hsh hr hw6 ha6) (fun v118 μ118 hc => ?_)
                          obtain ⟨rfl, rfl⟩ := hc
                          refine ⟨mm_le_same rfl, ?_⟩
                          refine wp_aload_n (j := 0) rfl q173_ok d173_121 ?_
                          refine wp_getI q173_ok d173_122 fl_11_120 rfl (by first | assumption | exact so0 hsh rfl) ((mm_up_at 4).trans (if_pos rfl)) ?_
                          refine wp_iret q173_ok d173_125 rfl ?_
                          rw [townL_end e3 h57, if_neg (show ¬ (bAt L (wsp L (wsp L x.1)) = -1 ∧ 0 < wnp x.2 ∧ 0 < wnb x.2) from fun q => absurd (show wnb x.2 = 0 from nI0 (by omega) h114) (by omega))]
                          exact ⟨rfl, _, rfl, gfm_trans (gfm_trans (gfm_trans (gfm_trans g3 (gfm_af af_3)) (gfm_af af_3)) (gfm_af af_3)) (gfm_af af_4), trivial⟩
                · exact absurd rfl h28
              · exact absurd rfl h72
            · have h57 := Classical.not_not.mp h57
              have hc : bAt L (wsp L x.1) = 59 := h57
              have hql := bAt_lt hc (by decide)
              rw [townL_go e3 hc]
              refine wp_iconst (v := 1) (by decide) q173_ok d173_60 ?_
              refine wp_goto (t := 65) rfl q173_ok d173_61 ?_
              refine wp_istore_n (j := 1) (Nat.le_of_ble_eq_true rfl) (rfl : _ = [_, _]) q173_ok d173_65 ?_
              refine wp_aload_n (j := 0) rfl q173_ok d173_66 ?_
              refine wp_dup rfl q173_ok d173_67 ?_
              refine wp_getI q173_ok d173_68 fl_11_113 rfl (by first | assumption | exact so0 hsh rfl) ha4 ?_
              refine wp_iload_n (j := 1) rfl q173_ok d173_71 ?_
              refine wp_if_eq q173_ok d173_72 (t := 79) rfl (fun h72 => ?_) (fun h72 => ?_)
              · exact absurd h72 (by decide)
              · refine wp_iconst (v := 1) (by decide) q173_ok d173_75 ?_
                refine wp_goto (t := 80) rfl q173_ok d173_76 ?_
                refine wp_iadd (nI_1 _) q173_ok d173_80 ?_
                refine wp_putI q173_ok d173_81 fl_11_113 rfl (by first | assumption | exact so0 hsh rfl) (Or.inl rfl) ?_
                refine wp_goto (t := 27) rfl q173_ok d173_84 ?_
                exact wp_post (ih _ (wsp L x.1 + 1) x.2 (by omega) (tapM_250 hL4 (by decide)) ((mm_up_at 3).trans (if_pos rfl)) hql (((mm_up_at 4).trans (if_neg (by decide))).trans hw4) (rpTM_x hT3 (fun c a b => by rw [mm_up_ne (by omega), mm_up_ne (by omega)]) (fun j a b => by rw [mm_up_at, if_neg (by omega), mm_up_at, if_neg (by omega)]))) (fun v μ hc2 => uM_trans (gfm_trans (gfm_trans g3 (gfm_af af_3)) (gfm_af af_3)) hc2)
theorem r_rt {xs : List Int32} {ext : mm_X} {n : Nat} {sh : mm_S} {d : mm_D} {g : mm_G} {r : mm_R} {L : wo_P} (hsh : shp sh) (hr : rfx r) (hL : tapM d L) : wp xs ext (n + 5) 173 0 [some (.ref 250), none] [] (sh, d, g, r) (uM sh g r d (townS L)) := by
  refine wp_aload_n (j := 0) rfl q173_ok d173_0 ?_
  refine wp_iconst (v := 0) (by decide) q173_ok d173_1 ?_
  refine wp_putI q173_ok d173_2 fl_11_113 rfl (by first | assumption | exact so0 hsh rfl) (Or.inl rfl) ?_
  refine wp_aload_n (j := 0) rfl q173_ok d173_5 ?_
  refine wp_iconst (v := -1) (by decide) q173_ok d173_6 ?_
  refine wp_putI q173_ok d173_7 fl_11_120 rfl (by first | assumption | exact so0 hsh rfl) (Or.inl rfl) ?_
  refine wp_aload_n (j := 0) rfl q173_ok d173_10 ?_
  refine wp_iconst (v := 0) (by decide) q173_ok d173_11 ?_
  refine wp_putI q173_ok d173_12 fl_11_242 rfl (by first | assumption | exact so0 hsh rfl) (Or.inl rfl) ?_
  refine wp_aload_n (j := 0) rfl q173_ok d173_15 ?_
  refine wp_iconst (v := 0) (by decide) q173_ok d173_16 ?_
  refine wp_putI q173_ok d173_17 fl_11_253 rfl (by first | assumption | exact so0 hsh rfl) (Or.inl rfl) ?_
  refine wp_aload_n (j := 0) rfl q173_ok d173_20 ?_
  refine wp_iconst (v := 0) (by decide) q173_ok d173_21 ?_
  refine wp_putZ q173_ok d173_22 fl_11_249 rfl (by first | assumption | exact so0 hsh rfl) (Or.inl rfl) (by first | assumption | exact Or.inl rfl | exact Or.inr rfl) ?_
  refine wp_iconst (v := 1) (by decide) q173_ok d173_25 ?_
  refine wp_istore_n (j := 1) (Nat.le_of_ble_eq_true rfl) (rfl : _ = [_, _]) q173_ok d173_26 ?_
  rw [← fin_townS]
  have h160 := hL.2.1
  generalize hD : mm_up (mm_up (mm_up (mm_up (mm_up d 250 3 0) 250 4 (-1)) 250 20 0) 250 21 0) 250 22 0 = D
  have e : ∀ c, c ≠ 250 → D c = d c := fun c hc => by rw [← hD, mm_up_ne hc, mm_up_ne hc, mm_up_ne hc, mm_up_ne hc, mm_up_ne hc]
  have ej : ∀ j, j ≠ 3 → j ≠ 4 → j ≠ 20 → j ≠ 21 → j ≠ 22 → D 250 j = d 250 j := fun j h1 h2 h3 h4 h5 => by rw [← hD, mm_up_at, if_neg h5, mm_up_at, if_neg h4, mm_up_at, if_neg h3, mm_up_at, if_neg h2, mm_up_at, if_neg h1]
  have G : gfm d D := ⟨fun a b _ _ _ => e a b, ej⟩
  refine wp_post (r_rt_l hsh hr 159 D 0 W0 (by omega) (tapM_gf hL G) (by rw [← hD]; rfl) (Nat.zero_le _) (by rw [← hD]; rfl) ⟨by rw [← hD]; rfl, Nat.zero_le _, by rw [← hD]; rfl, Nat.zero_le _, fun p hp => absurd hp (Nat.not_lt_zero _), fun p hp => absurd hp (Nat.not_lt_zero _), by rw [← hD]; rfl, fun q => by cases q⟩) (fun v μ hc => uM_trans G hc)
theorem t_cp1 {xs : List Int32} {ext : mm_X} {n : Nat} {sh : mm_S} {g : mm_G} {r : mm_R} (hsh : shp sh) (hr : rfx r) {Q : Option Value → mm_M → Prop} (D : mm_D) (hx : ∀ d2, ((∀ a, a ≠ 264 → d2 a = D a) ∧ ∀ j, j < 24 → d2 264 j = D 261 j) → wp xs ext n 175 50 [some (.ref 250), some (.int (nI 24))] [] (sh, d2, g, r) Q) : ∀ (z i : Nat) (d1 : mm_D), z + i = 24 → ((∀ a, a ≠ 264 → d1 a = D a) ∧ ∀ j, j < i → d1 264 j = D 261 j) → wp xs ext n 175 26 [some (.ref 250), some (.int (nI i))] [] (sh, d1, g, r) Q := by
  intro z
  induction z with
  | zero =>
    intro i d1 hz h
    have hvb : i = 24 := by omega
    subst hvb
    refine wp_iload_n (j := 1) rfl q175_ok d175_26 ?_
    refine wp_bipush (v := 24) (by decide) q175_ok d175_27 ?_
    refine wp_icmp_ge q175_ok d175_29 (t := 50) rfl (fun h29 => ?_) (fun h29 => ?_)
    · exact hx d1 h
    · exact absurd (nI_le (Nat.le_refl _) (by decide)) h29
  | succ z ih =>
    intro i d1 hz h
    have hlt : i < 24 := by omega
    refine wp_iload_n (j := 1) rfl q175_ok d175_26 ?_
    refine wp_bipush (v := 24) (by decide) q175_ok d175_27 ?_
    refine wp_icmp_ge q175_ok d175_29 (t := 50) rfl (fun h29 => ?_) (fun h29 => ?_)
    · exact absurd h29 (nI_ge hlt (by decide))
    · refine wp_aload_n (j := 0) rfl q175_ok d175_32 ?_
      refine wp_getR q175_ok d175_33 fl_11_49 rfl (by first | assumption | exact so0 hsh rfl) (by first | assumption | exact hr _ _ _ rfl) ?_
      refine wp_iload_n (j := 1) rfl q175_ok d175_36 ?_
      refine wp_aload_n (j := 0) rfl q175_ok d175_37 ?_
      refine wp_getR q175_ok d175_38 fl_11_40 rfl (by first | assumption | exact so0 hsh rfl) (by first | assumption | exact hr _ _ _ rfl) ?_
      refine wp_iload_n (j := 1) rfl q175_ok d175_41 ?_
      refine wp_iald (m := 24) q175_ok d175_42 (by first | assumption | exact so0 hsh rfl) (shl hsh (m := 24) (Nat.le_of_ble_eq_true rfl) rfl) (ixn_nI (show i < 24 by omega)) (by first | assumption | rfl) ?_ (shK hsh)
      refine wp_iast (m := 24) q175_ok d175_43 (by first | assumption | exact so0 hsh rfl) (shl hsh (m := 24) (Nat.le_of_ble_eq_true rfl) rfl) (ixn_nI (show i < 24 by omega)) ?_
      refine wp_iinc (j := 1) rfl (by first | exact inc1 | rfl) (rfl : _ = [_, _]) q175_ok d175_44 ?_
      refine wp_goto (t := 26) rfl q175_ok d175_47 ?_
      refine ih (i + 1) _ (by omega) ?_
      refine ⟨fun a ha => (mm_up_ne ha).trans (h.1 a ha), fun j hj => ?_⟩
      rw [mm_up_at]
      by_cases q : j = i
      · rw [if_pos q, q, h.1 261 (by decide)]
      · rw [if_neg q]; exact h.2 j (by omega)
theorem t_cp2 {xs : List Int32} {ext : mm_X} {n : Nat} {sh : mm_S} {g : mm_G} {r : mm_R} (hsh : shp sh) (hr : rfx r) {Q : Option Value → mm_M → Prop} (D : mm_D) (hx : ∀ d2, ((∀ a, a ≠ 265 → d2 a = D a) ∧ ∀ j, j < 4 → d2 265 j = D 262 j) → wp xs ext n 175 75 [some (.ref 250), some (.int (nI 4))] [] (sh, d2, g, r) Q) : ∀ (z i : Nat) (d1 : mm_D), z + i = 4 → ((∀ a, a ≠ 265 → d1 a = D a) ∧ ∀ j, j < i → d1 265 j = D 262 j) → wp xs ext n 175 52 [some (.ref 250), some (.int (nI i))] [] (sh, d1, g, r) Q := by
  intro z
  induction z with
  | zero =>
    intro i d1 hz h
    have hvb : i = 4 := by omega
    subst hvb
    refine wp_iload_n (j := 1) rfl q175_ok d175_52 ?_
    refine wp_iconst (v := 4) (by decide) q175_ok d175_53 ?_
    refine wp_icmp_ge q175_ok d175_54 (t := 75) rfl (fun h54 => ?_) (fun h54 => ?_)
    · exact hx d1 h
    · exact absurd (nI_le (Nat.le_refl _) (by decide)) h54
  | succ z ih =>
    intro i d1 hz h
    have hlt : i < 4 := by omega
    refine wp_iload_n (j := 1) rfl q175_ok d175_52 ?_
    refine wp_iconst (v := 4) (by decide) q175_ok d175_53 ?_
    refine wp_icmp_ge q175_ok d175_54 (t := 75) rfl (fun h54 => ?_) (fun h54 => ?_)
    · exact absurd h54 (nI_ge hlt (by decide))
    · refine wp_aload_n (j := 0) rfl q175_ok d175_57 ?_
      refine wp_getR q175_ok d175_58 fl_11_52 rfl (by first | assumption | exact so0 hsh rfl) (by first | assumption | exact hr _ _ _ rfl) ?_
      refine wp_iload_n (j := 1) rfl q175_ok d175_61 ?_
      refine wp_aload_n (j := 0) rfl q175_ok d175_62 ?_
      refine wp_getR q175_ok d175_63 fl_11_43 rfl (by first | assumption | exact so0 hsh rfl) (by first | assumption | exact hr _ _ _ rfl) ?_
      refine wp_iload_n (j := 1) rfl q175_ok d175_66 ?_
      refine wp_iald (m := 4) q175_ok d175_67 (by first | assumption | exact so0 hsh rfl) (shl hsh (m := 4) (Nat.le_of_ble_eq_true rfl) rfl) (ixn_nI (show i < 4 by omega)) (by first | assumption | rfl) ?_ (shK hsh)
      refine wp_iast (m := 4) q175_ok d175_68 (by first | assumption | exact so0 hsh rfl) (shl hsh (m := 4) (Nat.le_of_ble_eq_true rfl) rfl) (ixn_nI (show i < 4 by omega)) ?_
      refine wp_iinc (j := 1) rfl (by first | exact inc1 | rfl) (rfl : _ = [_, _]) q175_ok d175_69 ?_
      refine wp_goto (t := 52) rfl q175_ok d175_72 ?_
      refine ih (i + 1) _ (by omega) ?_
      refine ⟨fun a ha => (mm_up_ne ha).trans (h.1 a ha), fun j hj => ?_⟩
      rw [mm_up_at]
      by_cases q : j = i
      · rw [if_pos q, q, h.1 262 (by decide)]
      · rw [if_neg q]; exact h.2 j (by omega)
theorem t_cp3 {xs : List Int32} {ext : mm_X} {n : Nat} {sh : mm_S} {g : mm_G} {r : mm_R} (hsh : shp sh) (hr : rfx r) {Q : Option Value → mm_M → Prop} (D : mm_D) (hx : ∀ d2, ((∀ a, a ≠ 266 → d2 a = D a) ∧ ∀ j, j < 6 → d2 266 j = D 263 j) → wp xs ext n 175 101 [some (.ref 250), some (.int (nI 6))] [] (sh, d2, g, r) Q) : ∀ (z i : Nat) (d1 : mm_D), z + i = 6 → ((∀ a, a ≠ 266 → d1 a = D a) ∧ ∀ j, j < i → d1 266 j = D 263 j) → wp xs ext n 175 77 [some (.ref 250), some (.int (nI i))] [] (sh, d1, g, r) Q := by
  intro z
  induction z with
  | zero =>
    intro i d1 hz h
    have hvb : i = 6 := by omega
    subst hvb
    refine wp_iload_n (j := 1) rfl q175_ok d175_77 ?_
    refine wp_bipush (v := 6) (by decide) q175_ok d175_78 ?_
    refine wp_icmp_ge q175_ok d175_80 (t := 101) rfl (fun h80 => ?_) (fun h80 => ?_)
    · exact hx d1 h
    · exact absurd (nI_le (Nat.le_refl _) (by decide)) h80
  | succ z ih =>
    intro i d1 hz h
    have hlt : i < 6 := by omega
    refine wp_iload_n (j := 1) rfl q175_ok d175_77 ?_
    refine wp_bipush (v := 6) (by decide) q175_ok d175_78 ?_
    refine wp_icmp_ge q175_ok d175_80 (t := 101) rfl (fun h80 => ?_) (fun h80 => ?_)
    · exact absurd h80 (nI_ge hlt (by decide))
    · refine wp_aload_n (j := 0) rfl q175_ok d175_83 ?_
      refine wp_getR q175_ok d175_84 fl_11_55 rfl (by first | assumption | exact so0 hsh rfl) (by first | assumption | exact hr _ _ _ rfl) ?_
      refine wp_iload_n (j := 1) rfl q175_ok d175_87 ?_
      refine wp_aload_n (j := 0) rfl q175_ok d175_88 ?_
      refine wp_getR q175_ok d175_89 fl_11_46 rfl (by first | assumption | exact so0 hsh rfl) (by first | assumption | exact hr _ _ _ rfl) ?_
      refine wp_iload_n (j := 1) rfl q175_ok d175_92 ?_
      refine wp_iald (m := 6) q175_ok d175_93 (by first | assumption | exact so0 hsh rfl) (shl hsh (m := 6) (Nat.le_of_ble_eq_true rfl) rfl) (ixn_nI (show i < 6 by omega)) (by first | assumption | rfl) ?_ (shK hsh)
      refine wp_iast (m := 6) q175_ok d175_94 (by first | assumption | exact so0 hsh rfl) (shl hsh (m := 6) (Nat.le_of_ble_eq_true rfl) rfl) (ixn_nI (show i < 6 by omega)) ?_
      refine wp_iinc (j := 1) rfl (by first | exact inc1 | rfl) (rfl : _ = [_, _]) q175_ok d175_95 ?_
      refine wp_goto (t := 77) rfl q175_ok d175_98 ?_
      refine ih (i + 1) _ (by omega) ?_
      refine ⟨fun a ha => (mm_up_ne ha).trans (h.1 a ha), fun j hj => ?_⟩
      rw [mm_up_at]
      by_cases q : j = i
      · rw [if_pos q, q, h.1 263 (by decide)]
      · rw [if_neg q]; exact h.2 j (by omega)
theorem t_cp4 {xs : List Int32} {ext : mm_X} {n : Nat} {sh : mm_S} {g : mm_G} {r : mm_R} (hsh : shp sh) (hr : rfx r) {Q : Option Value → mm_M → Prop} (D : mm_D) (hx : ∀ d2, ((∀ a, a ≠ 267 → d2 a = D a) ∧ ∀ j, j < 6 → d2 267 j = -1) → wp xs ext n 175 122 [some (.ref 250), some (.int (nI 6))] [] (sh, d2, g, r) Q) : ∀ (z i : Nat) (d1 : mm_D), z + i = 6 → ((∀ a, a ≠ 267 → d1 a = D a) ∧ ∀ j, j < i → d1 267 j = -1) → wp xs ext n 175 103 [some (.ref 250), some (.int (nI i))] [] (sh, d1, g, r) Q := by
  intro z
  induction z with
  | zero =>
    intro i d1 hz h
    have hvb : i = 6 := by omega
    subst hvb
    refine wp_iload_n (j := 1) rfl q175_ok d175_103 ?_
    refine wp_bipush (v := 6) (by decide) q175_ok d175_104 ?_
    refine wp_icmp_ge q175_ok d175_106 (t := 122) rfl (fun h106 => ?_) (fun h106 => ?_)
    · exact hx d1 h
    · exact absurd (nI_le (Nat.le_refl _) (by decide)) h106
  | succ z ih =>
    intro i d1 hz h
    have hlt : i < 6 := by omega
    refine wp_iload_n (j := 1) rfl q175_ok d175_103 ?_
    refine wp_bipush (v := 6) (by decide) q175_ok d175_104 ?_
    refine wp_icmp_ge q175_ok d175_106 (t := 122) rfl (fun h106 => ?_) (fun h106 => ?_)
    · exact absurd h106 (nI_ge hlt (by decide))
    · refine wp_aload_n (j := 0) rfl q175_ok d175_109 ?_
      refine wp_getR q175_ok d175_110 fl_11_58 rfl (by first | assumption | exact so0 hsh rfl) (by first | assumption | exact hr _ _ _ rfl) ?_
      refine wp_iload_n (j := 1) rfl q175_ok d175_113 ?_
      refine wp_iconst (v := -1) (by decide) q175_ok d175_114 ?_
      refine wp_iast (m := 6) q175_ok d175_115 (by first | assumption | exact so0 hsh rfl) (shl hsh (m := 6) (Nat.le_of_ble_eq_true rfl) rfl) (ixn_nI (show i < 6 by omega)) ?_
      refine wp_iinc (j := 1) rfl (by first | exact inc1 | rfl) (rfl : _ = [_, _]) q175_ok d175_116 ?_
      refine wp_goto (t := 103) rfl q175_ok d175_119 ?_
      refine ih (i + 1) _ (by omega) ?_
      refine ⟨fun a ha => (mm_up_ne ha).trans (h.1 a ha), fun j hj => ?_⟩
      rw [mm_up_at]
      by_cases q : j = i
      · rw [if_pos q]
      · rw [if_neg q]; exact h.2 j (by omega)
theorem t_cp5 {xs : List Int32} {ext : mm_X} {n : Nat} {sh : mm_S} {g : mm_G} {r : mm_R} (hsh : shp sh) (hr : rfx r) {Q : Option Value → mm_M → Prop} (D : mm_D) (hx : ∀ d2, ((∀ a, a ≠ 268 → a ≠ 269 → d2 a = D a) ∧ ∀ j, j < 2 → d2 268 j = 0 ∧ d2 269 j = 0) → wp xs ext n 175 149 [some (.ref 250), some (.int (nI 2))] [] (sh, d2, g, r) Q) : ∀ (z i : Nat) (d1 : mm_D), z + i = 2 → ((∀ a, a ≠ 268 → a ≠ 269 → d1 a = D a) ∧ ∀ j, j < i → d1 268 j = 0 ∧ d1 269 j = 0) → wp xs ext n 175 124 [some (.ref 250), some (.int (nI i))] [] (sh, d1, g, r) Q := by
  intro z
  induction z with
  | zero =>
    intro i d1 hz h
    have hvb : i = 2 := by omega
    subst hvb
    refine wp_iload_n (j := 1) rfl q175_ok d175_124 ?_
    refine wp_iconst (v := 2) (by decide) q175_ok d175_125 ?_
    refine wp_icmp_ge q175_ok d175_126 (t := 149) rfl (fun h126 => ?_) (fun h126 => ?_)
    · exact hx d1 h
    · exact absurd (nI_le (Nat.le_refl _) (by decide)) h126
  | succ z ih =>
    intro i d1 hz h
    have hlt : i < 2 := by omega
    refine wp_iload_n (j := 1) rfl q175_ok d175_124 ?_
    refine wp_iconst (v := 2) (by decide) q175_ok d175_125 ?_
    refine wp_icmp_ge q175_ok d175_126 (t := 149) rfl (fun h126 => ?_) (fun h126 => ?_)
    · exact absurd h126 (nI_ge hlt (by decide))
    · refine wp_aload_n (j := 0) rfl q175_ok d175_129 ?_
      refine wp_getR q175_ok d175_130 fl_11_61 rfl (by first | assumption | exact so0 hsh rfl) (by first | assumption | exact hr _ _ _ rfl) ?_
      refine wp_iload_n (j := 1) rfl q175_ok d175_133 ?_
      refine wp_iconst (v := 0) (by decide) q175_ok d175_134 ?_
      refine wp_iast (m := 2) q175_ok d175_135 (by first | assumption | exact so0 hsh rfl) (shl hsh (m := 2) (Nat.le_of_ble_eq_true rfl) rfl) (ixn_nI (show i < 2 by omega)) ?_
      refine wp_aload_n (j := 0) rfl q175_ok d175_136 ?_
      refine wp_getR q175_ok d175_137 fl_11_64 rfl (by first | assumption | exact so0 hsh rfl) (by first | assumption | exact hr _ _ _ rfl) ?_
      refine wp_iload_n (j := 1) rfl q175_ok d175_140 ?_
      refine wp_iconst (v := 0) (by decide) q175_ok d175_141 ?_
      refine wp_iast (m := 2) q175_ok d175_142 (by first | assumption | exact so0 hsh rfl) (shl hsh (m := 2) (Nat.le_of_ble_eq_true rfl) rfl) (ixn_nI (show i < 2 by omega)) ?_
      refine wp_iinc (j := 1) rfl (by first | exact inc1 | rfl) (rfl : _ = [_, _]) q175_ok d175_143 ?_
      refine wp_goto (t := 124) rfl q175_ok d175_146 ?_
      refine ih (i + 1) _ (by omega) ?_
      refine ⟨fun a ha hb => by rw [mm_up_ne hb, mm_up_ne ha]; exact h.1 a ha hb, fun j hj => ?_⟩
      rw [mm_up_ne (show 268 ≠ 269 by decide), mm_up_at, mm_up_at, mm_up_ne (show 269 ≠ 268 by decide)]
      by_cases q : j = i
      · rw [if_pos q, if_pos q]; exact ⟨rfl, rfl⟩
      · rw [if_neg q, if_neg q]; exact h.2 j (by omega)
def ttM (d d2 : mm_D) : Prop := (∀ a, a ≠ 250 → ¬ (264 ≤ a ∧ a < 270) → d2 a = d a) ∧ (∀ j, ¬ (26 ≤ j ∧ j < 29) → j ≠ 32 → j ≠ 42 → j ≠ 48 → j ≠ 54 → d2 250 j = d 250 j) ∧ (d2 250 26 = d 250 20 ∧ d2 250 27 = d 250 21 ∧ d2 250 28 = d 250 22) ∧ (d2 250 32 = 0 ∧ d2 250 42 = 0 ∧ d2 250 48 = 0 ∧ d2 250 54 = 0) ∧ (∀ j, j < 24 → d2 264 j = d 261 j) ∧ (∀ j, j < 4 → d2 265 j = d 262 j) ∧ (∀ j, j < 6 → d2 266 j = d 263 j) ∧ (∀ j, j < 6 → d2 267 j = -1) ∧ ∀ j, j < 2 → d2 268 j = 0 ∧ d2 269 j = 0
theorem r_take {xs : List Int32} {ext : mm_X} {n : Nat} {sh : mm_S} {d : mm_D} {g : mm_G} {r : mm_R} (hsh : shp sh) (hr : rfx r) (h01 : d 250 22 = 0 ∨ d 250 22 = 1) : wp xs ext (n + 0) 175 0 [some (.ref 250), none] [] (sh, d, g, r) (fun v μ => v = some (.int (d 250 20)) ∧ ∃ d2, μ = (sh, d2, g, r) ∧ ttM d d2) := by
  refine wp_aload_n (j := 0) rfl q175_ok d175_0 ?_
  refine wp_aload_n (j := 0) rfl q175_ok d175_1 ?_
  refine wp_getI q175_ok d175_2 fl_11_242 rfl (by first | assumption | exact so0 hsh rfl) (show _ = d 250 20 from rfl) ?_
  refine wp_putI q175_ok d175_5 fl_11_265 rfl (by first | assumption | exact so0 hsh rfl) (Or.inl rfl) ?_
  refine wp_aload_n (j := 0) rfl q175_ok d175_8 ?_
  refine wp_aload_n (j := 0) rfl q175_ok d175_9 ?_
  refine wp_getI q175_ok d175_10 fl_11_253 rfl (by first | assumption | exact so0 hsh rfl) (show _ = d 250 21 from rfl) ?_
  refine wp_putI q175_ok d175_13 fl_11_268 rfl (by first | assumption | exact so0 hsh rfl) (Or.inl rfl) ?_
  refine wp_aload_n (j := 0) rfl q175_ok d175_16 ?_
  refine wp_aload_n (j := 0) rfl q175_ok d175_17 ?_
  refine wp_getZ q175_ok d175_18 fl_11_249 rfl (by first | assumption | exact so0 hsh rfl) (show _ = d 250 22 from rfl) ?_
  refine wp_putZ q175_ok d175_21 fl_11_271 rfl (by first | assumption | exact so0 hsh rfl) (Or.inl rfl) h01 ?_
  refine wp_iconst (v := 0) (by decide) q175_ok d175_24 ?_
  refine wp_istore_n (j := 1) (Nat.le_of_ble_eq_true rfl) (rfl : _ = [_, _]) q175_ok d175_25 ?_
  generalize hD : mm_up (mm_up (mm_up d 250 26 (d 250 20)) 250 27 (d 250 21)) 250 28 (d 250 22) = D
  have hD1 : ∀ a, a ≠ 250 → D a = d a := fun a ha => by rw [← hD, mm_up_ne ha, mm_up_ne ha, mm_up_ne ha]
  have hD2 : ∀ j, ¬ (26 ≤ j ∧ j < 29) → D 250 j = d 250 j := fun j hj => by rw [← hD, mm_up_at, if_neg (by omega), mm_up_at, if_neg (by omega), mm_up_at, if_neg (by omega)]
  have hD3 : D 250 26 = d 250 20 ∧ D 250 27 = d 250 21 ∧ D 250 28 = d 250 22 := by rw [← hD]; exact ⟨rfl, rfl, rfl⟩
  refine t_cp1 hsh hr D (fun d1 b1 => ?_) 24 0 D rfl ⟨fun _ _ => rfl, fun j hj => absurd hj (Nat.not_lt_zero _)⟩
  refine wp_iconst (v := 0) (by decide) q175_ok d175_50 ?_
  refine wp_istore_n (j := 1) (Nat.le_of_ble_eq_true rfl) (rfl : _ = [_, _]) q175_ok d175_51 ?_
  refine t_cp2 hsh hr d1 (fun d2 b2 => ?_) 4 0 d1 rfl ⟨fun _ _ => rfl, fun j hj => absurd hj (Nat.not_lt_zero _)⟩
  refine wp_iconst (v := 0) (by decide) q175_ok d175_75 ?_
  refine wp_istore_n (j := 1) (Nat.le_of_ble_eq_true rfl) (rfl : _ = [_, _]) q175_ok d175_76 ?_
  refine t_cp3 hsh hr d2 (fun d3 b3 => ?_) 6 0 d2 rfl ⟨fun _ _ => rfl, fun j hj => absurd hj (Nat.not_lt_zero _)⟩
  refine wp_iconst (v := 0) (by decide) q175_ok d175_101 ?_
  refine wp_istore_n (j := 1) (Nat.le_of_ble_eq_true rfl) (rfl : _ = [_, _]) q175_ok d175_102 ?_
  refine t_cp4 hsh hr d3 (fun d4 b4 => ?_) 6 0 d3 rfl ⟨fun _ _ => rfl, fun j hj => absurd hj (Nat.not_lt_zero _)⟩
  refine wp_iconst (v := 0) (by decide) q175_ok d175_122 ?_
  refine wp_istore_n (j := 1) (Nat.le_of_ble_eq_true rfl) (rfl : _ = [_, _]) q175_ok d175_123 ?_
  refine t_cp5 hsh hr d4 (fun d5 b5 => ?_) 2 0 d4 rfl ⟨fun _ _ _ => rfl, fun j hj => absurd hj (Nat.not_lt_zero _)⟩
  have e250 : d5 250 = D 250 := (b5.1 250 (by decide) (by decide)).trans ((b4.1 250 (by decide)).trans ((b3.1 250 (by decide)).trans ((b2.1 250 (by decide)).trans (b1.1 250 (by decide)))))
  have eA : ∀ a, a ≠ 250 → ¬ (264 ≤ a ∧ a < 270) → d5 a = d a := fun a h1 h2 => (b5.1 a (by omega) (by omega)).trans ((b4.1 a (by omega)).trans ((b3.1 a (by omega)).trans ((b2.1 a (by omega)).trans ((b1.1 a (by omega)).trans (hD1 a h1)))))
  refine wp_aload_n (j := 0) rfl q175_ok d175_149 ?_
  refine wp_iconst (v := 0) (by decide) q175_ok d175_150 ?_
  refine wp_putI q175_ok d175_151 fl_11_274 rfl (by first | assumption | exact so0 hsh rfl) (Or.inl rfl) ?_
  refine wp_aload_n (j := 0) rfl q175_ok d175_154 ?_
  refine wp_iconst (v := 0) (by decide) q175_ok d175_155 ?_
  refine wp_putI q175_ok d175_156 fl_11_277 rfl (by first | assumption | exact so0 hsh rfl) (Or.inl rfl) ?_
  refine wp_aload_n (j := 0) rfl q175_ok d175_159 ?_
  refine wp_iconst (v := 0) (by decide) q175_ok d175_160 ?_
  refine wp_putI q175_ok d175_161 fl_11_280 rfl (by first | assumption | exact so0 hsh rfl) (Or.inl rfl) ?_
  refine wp_aload_n (j := 0) rfl q175_ok d175_164 ?_
  refine wp_iconst (v := 0) (by decide) q175_ok d175_165 ?_
  refine wp_putZ q175_ok d175_166 fl_11_283 rfl (by first | assumption | exact so0 hsh rfl) (Or.inl rfl) (by first | assumption | exact Or.inl rfl | exact Or.inr rfl) ?_
  refine wp_aload_n (j := 0) rfl q175_ok d175_169 ?_
  refine wp_getI q175_ok d175_170 fl_11_265 rfl (by first | assumption | exact so0 hsh rfl) ((congrFun e250 26).trans hD3.1) ?_
  refine wp_iret q175_ok d175_173 rfl ?_
  refine ⟨rfl, _, rfl, fun a h1 h2 => by rw [mm_up_ne h1, mm_up_ne h1, mm_up_ne h1, mm_up_ne h1]; exact eA a h1 h2, fun j h1 h2 h3 h4 h5 => by rw [mm_up_at, if_neg h5, mm_up_at, if_neg h4, mm_up_at, if_neg h3, mm_up_at, if_neg h2, e250]; exact hD2 j h1, ⟨(congrFun e250 26).trans hD3.1, (congrFun e250 27).trans hD3.2.1, (congrFun e250 28).trans hD3.2.2⟩, ⟨rfl, rfl, rfl, rfl⟩, fun j hj => ?_, fun j hj => ?_, fun j hj => ?_, fun j hj => ?_, fun j hj => b5.2 j hj⟩
  · show d5 264 j = _
    rw [b5.1 264 (by decide) (by decide), b4.1 264 (by decide), b3.1 264 (by decide), b2.1 264 (by decide), b1.2 j hj, hD1 261 (by decide)]
  · show d5 265 j = _
    rw [b5.1 265 (by decide) (by decide), b4.1 265 (by decide), b3.1 265 (by decide), b2.2 j hj, b1.1 262 (by decide), hD1 262 (by decide)]
  · show d5 266 j = _
    rw [b5.1 266 (by decide) (by decide), b4.1 266 (by decide), b3.2 j hj, b2.1 263 (by decide), b1.1 263 (by decide), hD1 263 (by decide)]
  · show d5 267 j = _
    rw [b5.1 267 (by decide) (by decide), b4.2 j hj]
