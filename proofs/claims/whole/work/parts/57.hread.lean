/-! ===== a habit read and copied ===== -/
def habL (L : wo_P) : Nat → Nat → Nat ⊕ (Nat × List wo_C)
  | 0, p => .inr (p, [])
  | z + 1, p => match clauS L p with
    | .inl w => .inl w
    | .inr x => if bAt L (wsp L x.1) = 59 then (match habL L z (wsp L x.1 + 1) with
        | .inl w => .inl w
        | .inr y => .inr (y.1, x.2 :: y.2))
      else .inr (wsp L x.1, [x.2])
def habS (L : wo_P) : Nat ⊕ List wo_C := match habL L 160 0 with
  | .inl w => .inl w
  | .inr x => if bAt L (wsp L x.1) = -1 then .inr x.2 else .inl (wsp L x.1)
def linA : List wo_C → List Int32
  | [] => []
  | c :: cl => (linC c ++ [-10]) ++ linA cl
def gpost (sh : mm_S) (g : mm_G) (r : mm_R) (L : wo_P) (d : mm_D) (cs : List Int32) (res : Nat ⊕ (Nat × List wo_C)) (v : Option Value) (μ : mm_M) : Prop := ∃ d2, μ = (sh, d2, g, r) ∧ hf d d2 ∧ (match res with
  | .inl w => v = some (.int (nI w))
  | .inr x => (bAt L (wsp L x.1) = -1 → v = some (.int (-1)) ∧ HS d2 L (wsp L x.1) 0 (cs ++ linA x.2)) ∧ (¬ bAt L (wsp L x.1) = -1 → v = some (.int (nI (wsp L x.1)))))
theorem gp_trans {sh : mm_S} {g : mm_G} {r : mm_R} {L : wo_P} {d d1 : mm_D} {cs : List Int32} {res : Nat ⊕ (Nat × List wo_C)} {v : Option Value} {μ : mm_M} (hf' : hf d d1) (h : gpost sh g r L d1 cs res v μ) : gpost sh g r L d cs res v μ := by
  obtain ⟨d2, rfl, h1, h2⟩ := h
  exact ⟨d2, rfl, hf_trans hf' h1, h2⟩
theorem c_hfin {xs : List Int32} {ext : mm_X} {n : Nat} {sh : mm_S} {g : mm_G} {r : mm_R} {L : wo_P} (hsh : shp sh) (hr : rfx r) (d : mm_D) (p : Nat) (cs : List Int32) (u w : Option Value) (hS : HS d L p 0 cs) : wp xs ext (n + 61) 11 69 [some (.ref 36), u, w] [] (sh, d, g, r) (gpost sh g r L d cs (.inr (p, []))) := by
  have hg := hS.1
  have hwl := wsp_le L hg.2.2
  have hwg := wsp_ge L p
  have hcp := hS.2.2.1
  refine wp_aload_n (j := 0) rfl q11_ok d11_69 ?_
  refine wp_getR q11_ok d11_70 fl_1_9 rfl (by first | assumption | exact so0 hsh rfl) (by first | assumption | exact hr _ _ _ rfl) ?_
  refine wp_cV q11_ok d11_73 ml_1_45 rfl q35_ok (u := 4) rfl (by first | assumption | exact so0 hsh rfl) rfl (Nat.le_of_ble_eq_true rfl) (Nat.le_of_ble_eq_true rfl) (c_peek hsh hr hg) (fun v73 μ73 hc => ?_)
  obtain ⟨rfl, d1, rfl, f1, a1, w1⟩ := hc
  refine ⟨mm_le_same rfl, ?_⟩
  have hS1 := HS_sf (s2 := 0) hS f1 a1 hwl (show cs.length + 0 ≤ wsp L p by omega)
  refine wp_iconst (v := -1) (by decide) q11_ok d11_76 ?_
  refine wp_icmp_ne q11_ok d11_77 (t := 84) rfl (fun h77 => ?_) (fun h77 => ?_)
  · refine wp_aload_n (j := 0) rfl q11_ok d11_84 ?_
    refine wp_getR q11_ok d11_85 fl_1_9 rfl (by first | assumption | exact so0 hsh rfl) (by first | assumption | exact hr _ _ _ rfl) ?_
    refine wp_getI q11_ok d11_88 fl_1_49 rfl (by first | assumption | exact so0 hsh rfl) a1 ?_
    refine wp_iret q11_ok d11_91 rfl ?_
    exact ⟨d1, rfl, hf_sf f1, fun q => absurd q h77, fun _ => rfl⟩
  · have h77 := Classical.not_not.mp h77
    refine wp_iconst (v := -1) (by decide) q11_ok d11_80 ?_
    refine wp_goto (t := 91) rfl q11_ok d11_81 ?_
    refine wp_iret q11_ok d11_91 rfl ?_
    exact ⟨d1, rfl, hf_sf f1, fun _ => ⟨rfl, by show HS d1 L (wsp L p) 0 (cs ++ []); rw [List.append_nil]; exact hS1⟩, fun q => absurd h77 q⟩
theorem c_hread_l {xs : List Int32} {ext : mm_X} {n : Nat} {sh : mm_S} {g : mm_G} {r : mm_R} {L : wo_P} (hsh : shp sh) (hr : rfx r) : ∀ (z i : Nat) (d : mm_D) (p : Nat) (cs : List Int32), z + i = 160 → HS d L p 0 cs → wp xs ext (n + 61) 11 18 [some (.ref 36), some (.int 1), some (.int (nI i))] [] (sh, d, g, r) (gpost sh g r L d cs (habL L z p)) := by
  have hb3 := hb33 hsh hr
  intro z
  induction z with
  | zero =>
    intro i d p cs hm hS
    have hvb : i = 160 := by omega
    subst hvb
    refine wp_iload_n (j := 1) rfl q11_ok d11_18 ?_
    refine wp_if_eq q11_ok d11_19 (t := 69) rfl (fun h19 => ?_) (fun h19 => ?_)
    · exact absurd h19 (by decide)
    · refine wp_iload_n (j := 2) rfl q11_ok d11_22 ?_
      refine wp_sipush (v := 160) (by decide) q11_ok d11_23 ?_
      refine wp_icmp_ge q11_ok d11_26 (t := 69) rfl (fun h26 => ?_) (fun h26 => ?_)
      · exact c_hfin hsh hr d p cs _ _ hS
      · exact absurd (nI_le (Nat.le_refl _) (by decide)) h26
  | succ z ih =>
    intro i d p cs hm hS
    have hlt : i < 160 := by omega
    refine wp_iload_n (j := 1) rfl q11_ok d11_18 ?_
    refine wp_if_eq q11_ok d11_19 (t := 69) rfl (fun h19 => ?_) (fun h19 => ?_)
    · exact absurd h19 (by decide)
    · refine wp_iload_n (j := 2) rfl q11_ok d11_22 ?_
      refine wp_sipush (v := 160) (by decide) q11_ok d11_23 ?_
      refine wp_icmp_ge q11_ok d11_26 (t := 69) rfl (fun h26 => ?_) (fun h26 => ?_)
      · exact absurd h26 (nI_ge hlt (by decide))
      · refine wp_aload_n (j := 0) rfl q11_ok d11_29 ?_
        refine wp_cV q11_ok d11_30 ml_1_29 rfl q12_ok (u := 1) rfl (by first | assumption | exact so0 hsh rfl) rfl (Nat.le_of_ble_eq_true rfl) (Nat.le_of_ble_eq_true rfl) (c_clause hsh hr d p cs hS) (fun v30 μ30 hc => ?_)
        obtain ⟨d3, rfl, f3, m3⟩ := hc
        refine ⟨mm_le_same rfl, ?_⟩
        cases e3 : clauS L p with
        | inl w =>
          rw [e3] at m3
          obtain ⟨rfl, m3⟩ := m3
          refine wp_if_ne q11_ok d11_33 (t := 44) rfl (fun h33 => ?_) (fun h33 => ?_)
          · exact absurd rfl h33
          · have h33 := Classical.not_not.mp h33
            refine wp_aload_n (j := 0) rfl q11_ok d11_36 ?_
            refine wp_getR q11_ok d11_37 fl_1_9 rfl (by first | assumption | exact so0 hsh rfl) (by first | assumption | exact hr _ _ _ rfl) ?_
            refine wp_getI q11_ok d11_40 fl_1_33 rfl (by first | assumption | exact so0 hsh rfl) m3 ?_
            refine wp_iret q11_ok d11_43 rfl ?_
            exact ⟨d3, rfl, f3, by rw [habL, e3]⟩
        | inr x =>
          rw [e3] at m3
          obtain ⟨rfl, m3⟩ := m3
          have hx1 := m3.1.2.2
          have hl160 := m3.1.1.2.1
          have hxl := wsp_le L hx1
          have hxg := wsp_ge L x.1
          have hxc := m3.2.2.1
          refine wp_if_ne q11_ok d11_33 (t := 44) rfl (fun h33 => ?_) (fun h33 => ?_)
          · refine wp_aload_n (j := 0) rfl q11_ok d11_44 ?_
            refine wp_getR q11_ok d11_45 fl_1_15 rfl (by first | assumption | exact so0 hsh rfl) (by first | assumption | exact hr _ _ _ rfl) ?_
            refine wp_bipush (v := -10) (by decide) q11_ok d11_48 ?_
            refine wp_cV q11_ok d11_50 ml_1_37 rfl q5_ok (u := 0) rfl (by first | assumption | exact so0 hsh rfl) rfl (Nat.le_of_ble_eq_true rfl) (Nat.le_of_ble_eq_true rfl) (c_put hsh hr hb3 m3.2.1 (by omega) _) (fun v50 μ50 hc => ?_)
            obtain ⟨rfl, rfl⟩ := hc
            refine ⟨mm_le_same rfl, ?_⟩
            have hS4 := HS_put m3 (-10)
            refine wp_aload_n (j := 0) rfl q11_ok d11_53 ?_
            refine wp_getR q11_ok d11_54 fl_1_9 rfl (by first | assumption | exact so0 hsh rfl) (by first | assumption | exact hr _ _ _ rfl) ?_
            refine wp_bipush (v := 59) (by decide) q11_ok d11_57 ?_
            refine wp_cV q11_ok d11_59 ml_1_41 rfl q37_ok (u := 4) rfl (by first | assumption | exact so0 hsh rfl) rfl (Nat.le_of_ble_eq_true rfl) (Nat.le_of_ble_eq_true rfl) (c_passes hsh hr hS4.1 _) (fun v59 μ59 hc => ?_)
            obtain ⟨rfl, d5, rfl, f5, a5, w5⟩ := hc
            refine ⟨mm_le_same rfl, ?_⟩
            have hfx := hf_trans f3 (hf_trans (hf_put d3 (cs ++ linC x.2).length (-10) (nI ((cs ++ linC x.2).length + 1))) (hf_sf f5))
            have hln : (cs ++ linC x.2 ++ [-10]).length + 0 ≤ x.1 := hS4.2.2.1
            by_cases hc : bAt L (wsp L x.1) = 59
            · rw [if_pos hc] at a5
              rw [if_pos hc]
              have hS5 := HS_sf (s2 := 0) hS4 f5 a5 (bAt_lt hc (by decide)) (show (cs ++ linC x.2 ++ [-10]).length + 0 ≤ wsp L x.1 + 1 by omega)
              refine wp_istore_n (j := 1) (Nat.le_of_ble_eq_true rfl) (rfl : _ = [_, _, _]) q11_ok d11_62 ?_
              refine wp_iinc (j := 2) rfl (by first | exact inc1 | rfl) (rfl : _ = [_, _, _]) q11_ok d11_63 ?_
              refine wp_goto (t := 18) rfl q11_ok d11_66 ?_
              have e5 : cs ++ linC x.2 ++ [-10] = cs ++ (linC x.2 ++ [-10]) := List.append_assoc _ _ _
              rw [e5] at hS5
              refine wp_post (ih (i + 1) d5 _ _ (by omega) hS5) (fun v μ hc2 => ?_)
              obtain ⟨d6, rfl, f6, m6⟩ := hc2
              refine ⟨d6, rfl, hf_trans hfx f6, ?_⟩
              rw [habL, e3]
              dsimp only
              rw [if_pos hc]
              cases e6 : habL L z (wsp L x.1 + 1) with
              | inl w =>
                rw [e6] at m6
                exact m6
              | inr y =>
                rw [e6] at m6
                dsimp only at m6 ⊢
                rw [linA, ← List.append_assoc cs]
                exact m6
            · rw [if_neg hc] at a5
              rw [if_neg hc]
              have hS5 := HS_sf (s2 := 0) hS4 f5 a5 hxl (show (cs ++ linC x.2 ++ [-10]).length + 0 ≤ wsp L x.1 by omega)
              refine wp_istore_n (j := 1) (Nat.le_of_ble_eq_true rfl) (rfl : _ = [_, _, _]) q11_ok d11_62 ?_
              refine wp_iinc (j := 2) rfl (by first | exact inc1 | rfl) (rfl : _ = [_, _, _]) q11_ok d11_63 ?_
              refine wp_goto (t := 18) rfl q11_ok d11_66 ?_
              refine wp_iload_n (j := 1) rfl q11_ok d11_18 ?_
              refine wp_if_eq q11_ok d11_19 (t := 69) rfl (fun h19 => ?_) (fun h19 => ?_)
              · have e5 : cs ++ linC x.2 ++ [-10] = cs ++ (linC x.2 ++ [-10]) := List.append_assoc _ _ _
                rw [e5] at hS5
                refine wp_post (c_hfin hsh hr d5 _ _ _ _ hS5) (fun v μ hc2 => ?_)
                obtain ⟨d6, rfl, f6, m6⟩ := hc2
                refine ⟨d6, rfl, hf_trans hfx f6, ?_⟩
                rw [habL, e3]
                dsimp only
                rw [if_neg hc]
                dsimp only at m6 ⊢
                rw [show linA [x.2] = linC x.2 ++ [-10] from List.append_nil _]
                rw [show linA [] = [] from rfl, List.append_nil] at m6
                exact m6
              · exact absurd rfl h19
          · have h33 := Classical.not_not.mp h33
            exact absurd h33 (by decide)
def tolD (d : mm_D) (cs : List Int32) : Prop := d 33 2 = nI cs.length ∧ cs.length ≤ 160 ∧ ∀ i, i < cs.length → d 34 i = cs.getD i 0
theorem c_hread {xs : List Int32} {ext : mm_X} {n : Nat} {sh : mm_S} {g : mm_G} {r : mm_R} {L : wo_P} (hsh : shp sh) (hr : rfx r) (d : mm_D) (hL : tpR d L) : wp xs ext (n + 61) 11 0 [some (.ref 36), none, none] [] (sh, d, g, r) (fun v μ => ∃ d2, μ = (sh, d2, g, r) ∧ hf d d2 ∧ (match habS L with | .inl w => v = some (.int (nI w)) | .inr cl => v = some (.int (-1)) ∧ tolD d2 (linA cl))) := by
  refine wp_aload_n (j := 0) rfl q11_ok d11_0 ?_
  refine wp_getR q11_ok d11_1 fl_1_9 rfl (by first | assumption | exact so0 hsh rfl) (by first | assumption | exact hr _ _ _ rfl) ?_
  refine wp_cV q11_ok d11_4 ml_1_19 rfl q34_ok (u := 4) rfl (by first | assumption | exact so0 hsh rfl) rfl (Nat.le_of_ble_eq_true rfl) (Nat.le_of_ble_eq_true rfl) (c_srestart hsh hr) (fun v4 μ4 hc => ?_)
  obtain ⟨rfl, rfl⟩ := hc
  refine ⟨mm_le_same rfl, ?_⟩
  refine wp_aload_n (j := 0) rfl q11_ok d11_7 ?_
  refine wp_getR q11_ok d11_8 fl_1_15 rfl (by first | assumption | exact so0 hsh rfl) (by first | assumption | exact hr _ _ _ rfl) ?_
  refine wp_cV q11_ok d11_11 ml_1_24 rfl q4_ok (u := 0) rfl (by first | assumption | exact so0 hsh rfl) rfl (Nat.le_of_ble_eq_true rfl) (Nat.le_of_ble_eq_true rfl) (c_hclear hsh hr (hb33 hsh hr)) (fun v11 μ11 hc => ?_)
  obtain ⟨rfl, rfl⟩ := hc
  refine ⟨mm_le_same rfl, ?_⟩
  refine wp_iconst (v := 1) (by decide) q11_ok d11_14 ?_
  refine wp_istore_n (j := 1) (Nat.le_of_ble_eq_true rfl) (rfl : _ = [_, _, _]) q11_ok d11_15 ?_
  refine wp_iconst (v := 0) (by decide) q11_ok d11_16 ?_
  refine wp_istore_n (j := 2) (Nat.le_of_ble_eq_true rfl) (rfl : _ = [_, _, _]) q11_ok d11_17 ?_
  have hS : HS (mm_up (mm_up (mm_up d 3 1 0) 3 2 (-1)) 33 2 0) L 0 0 [] := by
    refine ⟨⟨?_, ?_, Nat.zero_le _⟩, (mm_up_at 2).trans (if_pos rfl), Nat.le_refl _, fun i hi => absurd hi (Nat.not_lt_zero _)⟩
    · unfold tpR
      rw [mm_up_ne (by decide), mm_up_ne (by decide), mm_up_ne (by decide), mm_up_ne (by decide), mm_up_ne (by decide), mm_up_ne (by decide)]
      exact hL
    · rw [mm_up_ne (by decide), mm_up_at, if_neg (by decide), mm_up_at, if_pos rfl]
      rfl
  refine wp_post (c_hread_l hsh hr 160 0 _ 0 [] (by omega) hS) (fun v μ hc => ?_)
  obtain ⟨d2, rfl, f2, m2⟩ := hc
  refine ⟨d2, rfl, fun c h1 h2 h3 => by rw [f2 c h1 h2 h3, mm_up_ne h2, mm_up_ne h1, mm_up_ne h1], ?_⟩
  unfold habS
  cases e : habL L 160 0 with
  | inl w =>
    rw [e] at m2
    exact m2
  | inr x =>
    rw [e] at m2
    dsimp only at m2 ⊢
    by_cases q : bAt L (wsp L x.1) = -1
    · rw [if_pos q]
      obtain ⟨rfl, h1, h2, h3, h4⟩ := m2.1 q
      rw [List.nil_append] at h2 h3 h4
      have h160 := h1.1.2.1
      have := h1.2.2
      exact ⟨rfl, h2, by omega, h4⟩
    · rw [if_neg q]
      exact m2.2 q
theorem c_hcopy_l {xs : List Int32} {ext : mm_X} {n : Nat} {sh : mm_S} {d : mm_D} {g : mm_G} {r : mm_R} (hsh : shp sh) (hr : rfx r) {h : Nat} (hh : hb sh r h) (h35 : 35 < h) {cs : List Int32} (ht : tolD d cs) : ∀ (z k : Nat) (d1 : mm_D), z + k = cs.length → (∀ c, c ≠ h → c ≠ h + 1 → d1 c = d c) → d1 h 0 = d h 0 → d1 h 2 = nI k → (∀ i, i < k → d1 (h + 1) i = cs.getD i 0) → wp xs ext (n + 1) 6 6 [some (.ref h), some (.ref 33), some (.int (nI k))] [] (sh, d1, g, r) (fun v μ => v = none ∧ ∃ d2, μ = (sh, d2, g, r) ∧ (∀ c, c ≠ h → c ≠ h + 1 → d2 c = d c) ∧ d2 h 0 = d h 0 ∧ d2 h 2 = nI cs.length ∧ ∀ i, i < cs.length → d2 (h + 1) i = cs.getD i 0) := by
  obtain ⟨t1, t2, t3⟩ := ht
  intro z
  induction z with
  | zero =>
    intro k d1 hm hf h0 h2 hc
    have hvb : k = cs.length := by omega
    subst hvb
    have e33 : d1 33 = d 33 := hf _ (by omega) (by omega)
    have e2 : d1 33 2 = nI cs.length := by rw [e33]; exact t1
    refine wp_iload_n (j := 2) rfl q6_ok d6_6 ?_
    refine wp_aload_n (j := 1) rfl q6_ok d6_7 ?_
    refine wp_getI q6_ok d6_8 fl_0_22 rfl (by first | assumption | exact so0 hsh rfl) e2 ?_
    refine wp_icmp_ge q6_ok d6_11 (t := 39) rfl (fun h11 => ?_) (fun h11 => ?_)
    · refine wp_vret q6_ok d6_39 rfl ?_
      exact ⟨rfl, d1, rfl, hf, h0, h2, hc⟩
    · exact absurd (nI_le (Nat.le_refl _) (by omega)) h11
  | succ z ih =>
    intro k d1 hm hf h0 h2 hc
    have hlt : k < cs.length := by omega
    have e33 : d1 33 = d 33 := hf _ (by omega) (by omega)
    have e2 : d1 33 2 = nI cs.length := by rw [e33]; exact t1
    have e34 : d1 34 k = cs.getD k 0 := by rw [hf 34 (by omega) (by omega)]; exact t3 k hlt
    refine wp_iload_n (j := 2) rfl q6_ok d6_6 ?_
    refine wp_aload_n (j := 1) rfl q6_ok d6_7 ?_
    refine wp_getI q6_ok d6_8 fl_0_22 rfl (by first | assumption | exact so0 hsh rfl) e2 ?_
    refine wp_icmp_ge q6_ok d6_11 (t := 39) rfl (fun h11 => ?_) (fun h11 => ?_)
    · exact absurd h11 (nI_ge hlt (by omega))
    · refine wp_iload_n (j := 2) rfl q6_ok d6_14 ?_
      refine wp_aload_n (j := 1) rfl q6_ok d6_15 ?_
      refine wp_getR q6_ok d6_16 fl_0_9 rfl (by first | assumption | exact so0 hsh rfl) (by first | assumption | exact hr _ _ _ rfl) ?_
      refine wp_alen (m := 160) q6_ok d6_19 (shlt hsh (Nat.le_of_ble_eq_true rfl)) (sht hsh (Nat.le_of_ble_eq_true rfl) (Nat.le_of_ble_eq_true rfl)) (by first | assumption | exact shl hsh (Nat.le_of_ble_eq_true rfl) rfl) rfl ?_ (shK hsh)
      refine wp_icmp_ge q6_ok d6_20 (t := 39) rfl (fun h20 => ?_) (fun h20 => ?_)
      · exact absurd h20 (nI_ge (show k < 160 by omega) (by decide))
      · refine wp_aload_n (j := 0) rfl q6_ok d6_23 ?_
        refine wp_aload_n (j := 1) rfl q6_ok d6_24 ?_
        refine wp_getR q6_ok d6_25 fl_0_9 rfl (by first | assumption | exact so0 hsh rfl) (by first | assumption | exact hr _ _ _ rfl) ?_
        refine wp_iload_n (j := 2) rfl q6_ok d6_28 ?_
        refine wp_iald (m := 160) q6_ok d6_29 (by first | assumption | exact so0 hsh rfl) (shl hsh (m := 160) (Nat.le_of_ble_eq_true rfl) rfl) (ixn_nI (show k < 160 by omega)) e34 ?_ (shK hsh)
        refine wp_cV q6_ok d6_30 ml_0_28 rfl q5_ok (u := 0) rfl (by exact hh.1) rfl (Nat.le_of_ble_eq_true rfl) (Nat.le_of_ble_eq_true rfl) (c_put hsh hr hh h2 (show k < 160 by omega) _) (fun v30 μ30 hc => ?_)
        obtain ⟨rfl, rfl⟩ := hc
        refine ⟨mm_le_same rfl, ?_⟩
        refine wp_iinc (j := 2) rfl (by first | exact inc1 | rfl) (rfl : _ = [_, _, _]) q6_ok d6_33 ?_
        refine wp_goto (t := 6) rfl q6_ok d6_36 ?_
        refine ih (k + 1) _ (by omega) (fun c h3 h4 => by rw [mm_up_ne h3, mm_up_ne h4]; exact hf c h3 h4) (by rw [mm_up_at, if_neg (by decide), mm_up_ne (by omega)]; exact h0) ((mm_up_at 2).trans (if_pos rfl)) (fun i hi => ?_)
        rw [mm_up_ne (by omega), mm_up_at]
        by_cases q : i = k
        · rw [if_pos q, q]
        · rw [if_neg q]
          exact hc i (by omega)
theorem c_hcopy {xs : List Int32} {ext : mm_X} {n : Nat} {sh : mm_S} {d : mm_D} {g : mm_G} {r : mm_R} (hsh : shp sh) (hr : rfx r) {h : Nat} (hh : hb sh r h) (h35 : 35 < h) {cs : List Int32} (ht : tolD d cs) : wp xs ext (n + 1) 6 0 [some (.ref h), some (.ref 33), none] [] (sh, d, g, r) (fun v μ => v = none ∧ ∃ d2, μ = (sh, d2, g, r) ∧ (∀ c, c ≠ h → c ≠ h + 1 → d2 c = d c) ∧ d2 h 0 = d h 0 ∧ d2 h 2 = nI cs.length ∧ ∀ i, i < cs.length → d2 (h + 1) i = cs.getD i 0) := by
  refine wp_aload_n (j := 0) rfl q6_ok d6_0 ?_
  refine wp_cV q6_ok d6_1 ml_0_25 rfl q4_ok (u := 0) rfl (by exact hh.1) rfl (Nat.le_of_ble_eq_true rfl) (Nat.le_of_ble_eq_true rfl) (c_hclear hsh hr hh) (fun v1 μ1 hc => ?_)
  obtain ⟨rfl, rfl⟩ := hc
  refine ⟨mm_le_same rfl, ?_⟩
  refine wp_iconst (v := 0) (by decide) q6_ok d6_4 ?_
  refine wp_istore_n (j := 2) (Nat.le_of_ble_eq_true rfl) (rfl : _ = [_, _, _]) q6_ok d6_5 ?_
  exact c_hcopy_l hsh hr hh h35 ht cs.length 0 _ (by omega) (fun c h3 h4 => mm_up_ne h3) ((mm_up_at 0).trans (if_neg (by decide))) ((mm_up_at 2).trans (if_pos rfl)) (fun i hi => absurd hi (Nat.not_lt_zero _))
