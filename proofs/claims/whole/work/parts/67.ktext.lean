/-! ===== text ===== -/
theorem rep_town {d d0 d2 : mm_D} {g : mm_G} {r r2 r3 : mm_R} {S : wo_S} {W : wo_W} (ok : okW (sW S) (sH S).1) (h : repC d0 g r S) (hf : tf d0 d) (hr2 : ∀ c, c ≠ 26 → r2 c = r c) (hw : whb W = fun _ => -1) (hnp : wnp W ≤ 6) (hnb : wnb W ≤ 2)
  (n12 : ∀ i, i < 6 → r3 12 i = none) (hF : (d2 4 5 = nI (wnp W) ∧ d2 4 6 = nI (wnb W) ∧ d2 4 7 = (if wfg W = true then 1 else 0) ∧ (∀ p, p < wnp W → ∀ j, j < 4 → d2 (6 + p) j = wper W p j) ∧ (∀ b, b < wnb W → ∀ j, j < 3 → d2 (14 + b) j = wbel W b j) ∧ (wfg W = true → ∀ j, j < 4 → d2 16 j = wvl W j)))
  (hc : ∀ c, c ≠ 0 → c ≠ 1 → ¬ (4 ≤ c ∧ c < 17) → ¬ (38 ≤ c ∧ c < 41) → c ≠ 47 → c ≠ 229 → d2 c = d c) (h0 : ∀ j, d2 0 j = if j = 12 then 0 else d 0 j) (h1 : d2 1 1 = 0) (hA38 : hA d2 38 dwn) (h47 : ∀ j, d2 47 j = if j = 2 then 0 else d 47 j) (h229 : d2 229 2 = 0) : repC d2 g r3 (twnS S W) := by
  obtain ⟨a1, a2, a3, a4, a5, a6, a7, a8⟩ := h
  have e : ∀ c, c ≠ 0 → c ≠ 1 → c ≠ 3 → (c = 2 ∨ (41 ≤ c ∧ c < 47) ∨ 48 ≤ c) → c ≠ 229 → d2 c = d0 c := fun c h0 h1 h3 h2 h4 => by rw [hc c h0 h1 (by omega) (by omega) (by omega) h4, hf c h3 (by omega)]
  have e0 : ∀ j, j ≠ 12 → d2 0 j = d0 0 j := fun j hj => by rw [h0, if_neg hj, hf 0 (by decide) (by decide)]
  obtain ⟨f1, f2, f3, f4, f5, f6⟩ := hF
  refine ⟨⟨f1, f2, f4, f5, f3, f6, fun p hp => ⟨fun _ _ => n12 p hp, fun hpw k hk hq => ?_, fun _ => n12 p hp⟩⟩, ?_, ⟨hA38, a3.2.1, ?_⟩, ?_, ⟨h1, Nat.zero_le _, fun i hi => absurd hi (Nat.not_lt_zero _)⟩, ⟨?_, hA_row a6.2.1 (e _ (by decide) (by decide) (by decide) (by decide) (by decide)) (e _ (by decide) (by decide) (by decide) (by decide) (by decide)) (e _ (by decide) (by decide) (by decide) (by decide) (by decide)), a6.2.2⟩, ⟨h229, Nat.zero_le _, fun i hi => absurd hi (Nat.not_lt_zero _)⟩, hA_row a8 (e _ (by decide) (by decide) (by decide) (by decide) (by decide)) (e _ (by decide) (by decide) (by decide) (by decide) (by decide)) (e _ (by decide) (by decide) (by decide) (by decide) (by decide))⟩
  · have hq' : whb W p = nI k := hq
    rw [hw] at hq'
    have hk' : k < (sH S).1 := hk
    have := a2.2.1
    exact absurd hq'.symm (nI_nm1 (by omega))
  · obtain ⟨b1, b2, b3, b4⟩ := a2
    refine ⟨by rw [e0 8 (by decide)]; exact b1, b2, fun k hk => by rw [e _ (by omega) (by omega) (by omega) (by omega) (by omega)]; exact b3 k hk, fun k hk => ?_⟩
    have e1 := e (238 + 3 * k) (by omega) (by omega) (by omega) (by omega) (by omega)
    have e2 := e (238 + 3 * k + 1) (by omega) (by omega) (by omega) (by omega) (by omega)
    obtain ⟨⟨len, a, b, c⟩, w⟩ := b4 k hk
    refine ⟨⟨len, by rw [e1]; exact a, b, by rw [e2]; exact c⟩, fun L => ?_⟩
    refine Eq.trans ?_ (w L)
    unfold worthC lenC
    rw [e1, e2]
  · obtain ⟨nx, n1, n2, n3, n4, n5⟩ := a3.2.2
    refine ⟨nx, n1, ?_, ?_, Nat.zero_le _, fun i hi => absurd hi (Nat.not_lt_zero _)⟩
    · rw [h47, if_neg (by decide), hf 47 (by decide) (by decide)]; exact n2
    · rw [h47, if_pos rfl]; rfl
  · rw [e0 16 (by decide)]; exact a4
  · rw [h0, if_pos rfl]; rfl
theorem rep_hab {d d0 d2 : mm_D} {g : mm_G} {r : mm_R} {S : wo_S} {cl : List wo_C} (ok : okW (sW S) (sH S).1) (h : repC d0 g r S) (hf' : hf d0 d) (ho : ∀ x, x ∈ cl → okC x) (h160 : (linA cl).length ≤ 160) (h4 : (sH S).1 < 4) (hc : ∀ c, c ≠ 0 → c ≠ 1 → c ≠ 238 + 3 * (sH S).1 → c ≠ 238 + 3 * (sH S).1 + 1 → d2 c = d c) (h1 : d2 1 1 = 0) (h0 : ∀ j, d2 0 j = if j = 8 then nI ((sH S).1 + 1) else d 0 j) (z0 : d2 (238 + 3 * (sH S).1) 0 = d (238 + 3 * (sH S).1) 0) (z2 : d2 (238 + 3 * (sH S).1) 2 = nI (linA cl).length) (zc : ∀ i, i < (linA cl).length → d2 (238 + 3 * (sH S).1 + 1) i = (linA cl).getD i 0) : repC d2 g r (habN S cl) := by
  obtain ⟨a1, a2, a3, a4, a5, a6, a7, a8⟩ := h
  have e : ∀ c, c ≠ 0 → c ≠ 1 → c ≠ 3 → c ≠ 33 → c ≠ 34 → c ≠ 238 + 3 * (sH S).1 → c ≠ 238 + 3 * (sH S).1 + 1 → d2 c = d0 c := fun c h0 h1 h3 h4 h5 h6 h7 => by rw [hc c h0 h1 h6 h7, hf' c h3 h4 h5]
  have e0 : ∀ j, j ≠ 8 → d2 0 j = d0 0 j := fun j hj => by rw [h0, if_neg hj, hf' 0 (by decide) (by decide) (by decide)]
  obtain ⟨w1, w2, w3, w4, w5, w6, w7⟩ := a1
  refine ⟨⟨?_, ?_, fun p hp => ?_, fun b hb => ?_, ?_, fun hf => ?_, fun p hp => ⟨(w7 p hp).1, fun hpw k hk hq => ?_, (w7 p hp).2.2⟩⟩, ?_, hX_row a3 (fun c hc => e c (by omega) (by omega) (by omega) (by omega) (by omega) (by omega) (by omega)) (fun _ _ => rfl), ?_, ⟨h1, Nat.zero_le _, fun i hi => absurd hi (Nat.not_lt_zero _)⟩, ⟨?_, hA_row a6.2.1 (e _ (by decide) (by decide) (by decide) (by decide) (by decide) (by omega) (by omega)) (e _ (by decide) (by decide) (by decide) (by decide) (by decide) (by omega) (by omega)) (e _ (by decide) (by decide) (by decide) (by decide) (by decide) (by omega) (by omega)), a6.2.2⟩, ntR_eq a7 (e _ (by decide) (by decide) (by decide) (by decide) (by decide) (by omega) (by omega)) (e _ (by decide) (by decide) (by decide) (by decide) (by decide) (by omega) (by omega)) (e _ (by decide) (by decide) (by decide) (by decide) (by decide) (by omega) (by omega)), hA_row a8 (e _ (by decide) (by decide) (by decide) (by decide) (by decide) (by omega) (by omega)) (e _ (by decide) (by decide) (by decide) (by decide) (by decide) (by omega) (by omega)) (e _ (by decide) (by decide) (by decide) (by decide) (by decide) (by omega) (by omega))⟩
  · rw [e 4 (by decide) (by decide) (by decide) (by decide) (by decide) (by omega) (by omega)]; exact w1
  · rw [e 4 (by decide) (by decide) (by decide) (by decide) (by decide) (by omega) (by omega)]; exact w2
  · have := ok.1
    have hp' : p < wnp (sW S) := hp
    rw [e (6 + p) (by omega) (by omega) (by omega) (by omega) (by omega) (by omega) (by omega)]; exact w3 p hp
  · have := ok.2.1
    have hb' : b < wnb (sW S) := hb
    rw [e (14 + b) (by omega) (by omega) (by omega) (by omega) (by omega) (by omega) (by omega)]; exact w4 b hb
  · rw [e 4 (by decide) (by decide) (by decide) (by decide) (by decide) (by omega) (by omega)]; exact w5
  · rw [e 16 (by decide) (by decide) (by decide) (by decide) (by decide) (by omega) (by omega)]; exact w6 hf
  · have hpw' : p < wnp (sW S) := hpw
    rcases (ok.2.2.2.1 p hpw').2.2.2.2 with q | ⟨k2, hk2, q⟩
    · have hq' : whb (sW S) p = nI k := hq
      have hk' : k < (sH S).1 + 1 := hk
      rw [q] at hq'
      exact absurd hq'.symm (nI_nm1 (by omega))
    · have hq' : whb (sW S) p = nI k := hq
      have hk' : k < (sH S).1 + 1 := hk
      rw [q] at hq'
      have := nI_inj (by omega) (by omega) hq'
      subst this
      exact (w7 p hp).2.1 hpw k2 hk2 q
  · obtain ⟨b1, b2, b3, b4⟩ := a2
    refine ⟨by rw [h0, if_pos rfl]; rfl, by show (sH S).1 + 1 ≤ 4; omega, fun k hk => ?_, fun k hk => ?_⟩
    · by_cases q : k = (sH S).1
      · rw [q, z0, hf' _ (by omega) (by omega) (by omega)]; exact b3 _ h4
      · rw [e _ (by omega) (by omega) (by omega) (by omega) (by omega) (by omega) (by omega)]; exact b3 k hk
    · have hk' : k < (sH S).1 + 1 := hk
      show okH d2 (238 + 3 * k) ∧ ∀ L, worthC d2 (238 + 3 * k) L = (if k = (sH S).1 then hwV cl else (sH S).2 k) L
      by_cases q : k = (sH S).1
      · rw [if_pos q, q]
        exact hab_okH ho z2 h160 zc
      · rw [if_neg q]
        have e1 := e (238 + 3 * k) (by omega) (by omega) (by omega) (by omega) (by omega) (by omega) (by omega)
        have e2 := e (238 + 3 * k + 1) (by omega) (by omega) (by omega) (by omega) (by omega) (by omega) (by omega)
        obtain ⟨⟨len, a, b, c⟩, w⟩ := b4 k (by omega)
        refine ⟨⟨len, by rw [e1]; exact a, b, by rw [e2]; exact c⟩, fun L => ?_⟩
        refine Eq.trans ?_ (w L)
        unfold worthC lenC
        rw [e1, e2]
  · rw [e0 16 (by decide)]; exact a4
  · rw [e0 12 (by decide)]; exact a6.1
theorem k_text {xs : List Int32} {ext : mm_X} {n : Nat} {sh : mm_S} {d : mm_D} {g : mm_G} {r : mm_R} {S : wo_S} (hsh : shp sh) (hr : rfx r) (ok : okW (sW S) (sH S).1) (h : repC d g r S) (w : Int32) : wp xs ext (n + 62) 91 0 [some (.ref 0), some (.int w)] [] (sh, d, g, r) (kpost sh d g r (textS S w) (some (.int (textQ S w)))) := by
  have hL : tpR d (sP S) := h.2.2.2.2.1
  refine wp_iload_n (j := 1) rfl q91_ok d91_0 ?_
  refine wp_if_ne q91_ok d91_1 (t := 20) rfl (fun h1 => ?_) (fun h1 => ?_)
  · refine wp_iload_n (j := 1) rfl q91_ok d91_20 ?_
    refine wp_iconst (v := 1) (by decide) q91_ok d91_21 ?_
    refine wp_icmp_ne q91_ok d91_22 (t := 43) rfl (fun h22 => ?_) (fun h22 => ?_)
    · have hw0 : ¬ w = 0 := h1
      have hw1 : ¬ w = 1 := h22
      have eQ : textQ S w = -1 := by unfold textQ; rw [if_neg hw0, if_neg hw1]
      have eS : textS S w = S := by unfold textS; rw [if_neg hw0, if_neg hw1]
      rw [eQ, eS]
      refine wp_iconst (v := -1) (by decide) q91_ok d91_43 ?_
      refine wp_iret q91_ok d91_44 rfl ?_
      exact kp_same hr h rfl
    · have h22 := Classical.not_not.mp h22
      refine wp_aload_n (j := 0) rfl q91_ok d91_25 ?_
      refine wp_getR q91_ok d91_26 fl_10_58 rfl (by first | assumption | exact so0 hsh rfl) (by first | assumption | exact hr _ _ _ rfl) ?_
      refine wp_cV q91_ok d91_29 ml_10_117 rfl q11_ok (u := 1) rfl (by first | assumption | exact so0 hsh rfl) rfl (Nat.le_of_ble_eq_true rfl) (Nat.le_of_ble_eq_true rfl) (c_hread (n := n) hsh hr d hL) (fun v29 μ29 hc => ?_)
      obtain ⟨d2, rfl, f2, m2⟩ := hc
      refine ⟨mm_le_same rfl, ?_⟩
      have hw : w = 1 := h22
      have h0w : ¬ w = 0 := h1
      cases e : habS (sP S) with
      | inl z =>
        rw [e] at m2
        obtain rfl := m2
        have hz := habS_bd e
        have eQ : textQ S w = -1 := by unfold textQ; rw [if_neg h0w, if_pos hw, e]
        have eS : textS S w = S := by unfold textS; rw [if_neg h0w, if_pos hw, e]
        have hrep := repC_par ok h (fun c h1 h2 => f2 c h1 (by omega) (by omega)) rfl
        rw [eQ, eS]
        refine wp_iconst (v := -1) (by decide) q91_ok d91_32 ?_
        refine wp_icmp_ne q91_ok d91_33 (t := 43) rfl (fun h33 => ?_) (fun h33 => ?_)
        · refine wp_iconst (v := -1) (by decide) q91_ok d91_43 ?_
          refine wp_iret q91_ok d91_44 rfl ?_
          exact ⟨rfl, d2, g, r, rfl, hr, hrep, fun c hc => ⟨f2 c (by omega) (by omega) (by omega), rfl, rfl⟩⟩
        · have h33 := Classical.not_not.mp h33
          exact absurd h33 (fit_nm (show z < 2 ^ 31 by have := hL.2.1; omega))
      | inr cl =>
        rw [e] at m2
        obtain ⟨rfl, hT⟩ := m2
        have ho := habS_ok e
        have eQ : textQ S w = if (sH S).1 < 4 then nI (sH S).1 else -1 := by unfold textQ; rw [if_neg h0w, if_pos hw, e]
        have eS : textS S w = if (sH S).1 < 4 then habN S cl else S := by unfold textS; rw [if_neg h0w, if_pos hw, e]
        have e8 : d2 0 8 = nI (sH S).1 := by rw [f2 0 (by decide) (by decide) (by decide)]; exact h.2.1.1
        rw [eQ, eS]
        refine wp_iconst (v := -1) (by decide) q91_ok d91_32 ?_
        refine wp_icmp_ne q91_ok d91_33 (t := 43) rfl (fun h33 => ?_) (fun h33 => ?_)
        · exact absurd rfl h33
        · have h33 := Classical.not_not.mp h33
          refine wp_aload_n (j := 0) rfl q91_ok d91_36 ?_
          refine wp_cV q91_ok d91_37 ml_10_121 rfl q93_ok (u := 10) rfl (by first | assumption | exact so0 hsh rfl) rfl (Nat.le_of_ble_eq_true rfl) (Nat.le_of_ble_eq_true rfl) (c_takeHabit (n := n + 58) hsh hr e8 h.2.1.2.1 hT) (fun v37 μ37 hc => ?_)
          obtain ⟨t1, t2⟩ := hc
          refine ⟨(Decidable.byCases (p := (sH S).1 < 4) (fun q => by obtain ⟨_, d3, e3, _⟩ := t2 q; rw [e3]; exact mm_le_same rfl) (fun q => by rw [(t1 q).2]; exact mm_le_same rfl)), ?_⟩
          by_cases q : (sH S).1 < 4
          · obtain ⟨rfl, d3, rfl, hc, hl1, h0, z0, z2, zc⟩ := t2 q
            rw [if_pos q, if_pos q]
            refine wp_goto (t := 44) rfl q91_ok d91_40 ?_
            refine wp_iret q91_ok d91_44 rfl ?_
            exact ⟨rfl, d3, g, r, rfl, hr, rep_hab ok h f2 ho hT.2.1 q hc hl1 h0 z0 z2 zc, fun c hc2 => ⟨(hc c (by omega) (by omega) (by omega) (by omega)).trans (f2 c (by omega) (by omega) (by omega)), rfl, rfl⟩⟩
          · obtain ⟨rfl, rfl⟩ := t1 q
            rw [if_neg q, if_neg q]
            refine wp_goto (t := 44) rfl q91_ok d91_40 ?_
            refine wp_iret q91_ok d91_44 rfl ?_
            exact ⟨rfl, d2, g, r, rfl, hr, repC_par ok h (fun c h1 h2 => f2 c h1 (by omega) (by omega)) rfl, fun c hc => ⟨f2 c (by omega) (by omega) (by omega), rfl, rfl⟩⟩
  · have h1 := Classical.not_not.mp h1
    refine wp_aload_n (j := 0) rfl q91_ok d91_4 ?_
    refine wp_getR q91_ok d91_5 fl_10_40 rfl (by first | assumption | exact so0 hsh rfl) (by first | assumption | exact hr _ _ _ rfl) ?_
    refine wp_cV q91_ok d91_8 ml_10_113 rfl q73_ok (u := 8) rfl (by first | assumption | exact so0 hsh rfl) rfl (Nat.le_of_ble_eq_true rfl) (Nat.le_of_ble_eq_true rfl) (c_tread (n := n + 56) hsh hr d hL) (fun v8 μ8 hc => ?_)
    obtain ⟨d2, r2, rfl, hr2, e26, f2, m2⟩ := hc
    refine ⟨mm_le_same rfl, ?_⟩
    have hw : w = 0 := h1
    have hrep := repC_par ok h (fun c h1 h2 => f2 c h1 (by omega)) (e26 12 (by decide))
    cases e : townS (sP S) with
    | inl z =>
      rw [e] at m2
      obtain rfl := m2
      have hz := townS_bd e
      have eQ : textQ S w = -1 := by unfold textQ; rw [if_pos hw, e]
      have eS : textS S w = S := by unfold textS; rw [if_pos hw, e]
      rw [eQ, eS]
      refine wp_iconst (v := -1) (by decide) q91_ok d91_11 ?_
      refine wp_icmp_ne q91_ok d91_12 (t := 20) rfl (fun h12 => ?_) (fun h12 => ?_)
      · refine wp_iload_n (j := 1) rfl q91_ok d91_20 ?_
        refine wp_iconst (v := 1) (by decide) q91_ok d91_21 ?_
        refine wp_icmp_ne q91_ok d91_22 (t := 43) rfl (fun h22 => ?_) (fun h22 => ?_)
        · refine wp_iconst (v := -1) (by decide) q91_ok d91_43 ?_
          refine wp_iret q91_ok d91_44 rfl ?_
          exact ⟨rfl, d2, g, r2, rfl, hr2, hrep, fun c hc => ⟨f2 c (by omega) (by omega), rfl, e26 c (by omega)⟩⟩
        · have h22 := Classical.not_not.mp h22
          exact absurd (hw.symm.trans h22) (by decide)
      · have h12 := Classical.not_not.mp h12
        exact absurd h12 (fit_nm (show z < 2 ^ 31 by have := hL.2.1; omega))
    | inr W =>
      rw [e] at m2
      obtain ⟨rfl, hT⟩ := m2
      obtain ⟨t1, t2, t3, t4⟩ := townS_ok e (sH S).1
      have eQ : textQ S w = nI (wnp W) := by unfold textQ; rw [if_pos hw, e]
      have eS : textS S w = twnS S W := by unfold textS; rw [if_pos hw, e]
      rw [eQ, eS]
      refine wp_iconst (v := -1) (by decide) q91_ok d91_11 ?_
      refine wp_icmp_ne q91_ok d91_12 (t := 20) rfl (fun h12 => ?_) (fun h12 => ?_)
      · exact absurd rfl h12
      · have h12 := Classical.not_not.mp h12
        refine wp_aload_n (j := 0) rfl q91_ok d91_15 ?_
        refine wp_cV q91_ok d91_16 ml_10_118 rfl q92_ok (u := 10) rfl (by first | assumption | exact so0 hsh rfl) rfl (Nat.le_of_ble_eq_true rfl) (Nat.le_of_ble_eq_true rfl) (c_takeTown (n := n + 57) hsh hr2 hT) (fun v16 μ16 hc => ?_)
        obtain ⟨rfl, d3, r3, rfl, hr3, e12, n12, hF, hc, h0, hl1, hA38, h47, h229⟩ := hc
        refine ⟨mm_le_same rfl, ?_⟩
        refine wp_iret q91_ok d91_19 rfl ?_
        exact ⟨rfl, d3, g, r3, rfl, hr3, rep_town ok h f2 e26 t2 t1.1 t1.2.1 n12 hF hc h0 hl1 hA38 h47 h229, fun c hc2 => ⟨(hc c (by omega) (by omega) (by omega) (by omega) (by omega) (by omega)).trans (f2 c (by omega) (by omega)), rfl, (e12 c (by omega)).trans (e26 c (by omega))⟩⟩
