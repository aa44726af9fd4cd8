/-! ===== a minute of the model ===== -/
theorem MR_eq {d d2 : mm_D} {T : wo_T} {o : wo_O} (hR : MR d T o) (h : ∀ c, 252 ≤ c → c < 268 → c ≠ 259 → c ≠ 260 → d2 c = d c) (h250 : ∀ j, (j = 26 ∨ j = 27 ∨ j = 28 ∨ j = 35 ∨ j = 36) → d2 250 j = d 250 j) : MR d2 T o := by
  obtain ⟨n6, n2, nb0, e26, e27, e35, e36, hdis, hlk, hfar, hbel, hfog⟩ := hR
  have r264 := h 264 (by decide) (by decide) (by decide) (by decide)
  have r265 := h 265 (by decide) (by decide) (by decide) (by decide)
  have r266 := h 266 (by decide) (by decide) (by decide) (by decide)
  have r267 := h 267 (by decide) (by decide) (by decide) (by decide)
  have r255 := h 255 (by decide) (by decide) (by decide) (by decide)
  have sg : ∀ {cs : List Int32} {a : Nat}, segM d a cs → segM d2 a cs := by
    intro cs
    induction cs with
    | nil => intro _ _; trivial
    | cons c cs ih =>
      intro a hs
      refine ⟨?_, ih hs.2⟩
      have h1 := hs.1
      unfold tokR at h1 ⊢
      rw [h 252 (by decide) (by decide) (by decide) (by decide), h 253 (by decide) (by decide) (by decide) (by decide)]
      exact h1
  have lw : ∀ {w : Nat} {cl : List wo_C} {i : Nat}, lawM d w i cl → lawM d2 w i cl := by
    intro w cl
    induction cl with
    | nil => intro _ _; trivial
    | cons c cl ih =>
      intro i hl
      obtain ⟨⟨tf, sf, a1, a2, a3, a4, a5, a6, a7⟩, hl⟩ := hl
      exact ⟨⟨tf, sf, by rw [h 256 (by decide) (by decide) (by decide) (by decide)]; exact a1, by rw [h 257 (by decide) (by decide) (by decide) (by decide)]; exact a2, by rw [h 258 (by decide) (by decide) (by decide) (by decide)]; exact a3, a4, a5, sg a6, sg a7⟩, ih hl⟩
  refine ⟨n6, n2, nb0, by rw [h250 26 (by omega)]; exact e26, by rw [h250 27 (by omega)]; exact e27, by rw [h250 35 (by omega)]; exact e35, by rw [h250 36 (by omega)]; exact e36, hdis, fun p hp => ?_, by rw [r264]; exact hfar, by rw [r266]; exact hbel, by rw [h250 28 (by omega), r265]; exact hfog⟩
  rcases hlk p hp with ⟨c1, c2, c3⟩ | ⟨w, cl, c0, c1, c2, c3, c4, c5, c6⟩
  · exact Or.inl ⟨by rw [r267]; exact c1, by rw [r264]; exact c2, by rw [r264]; exact c3⟩
  · refine Or.inr ⟨w, cl, c0, by rw [r267]; exact c1, by rw [r255]; exact c2, c3, c4, lw c5, fun m ow => ?_⟩
    have e : ltM d2 p m ow = ltM d p m ow := by unfold ltM; rw [r264, r266]
    rw [e]
    exact c6 m ow
theorem MR_lf {d d2 : mm_D} {T : wo_T} {o : wo_O} (hR : MR d T o) (h : lf d d2) : MR d2 T o := MR_eq hR (fun c _ _ h1 h2 => h c h1 h2) (fun j _ => by rw [h 250 (by decide) (by decide)])
theorem hM_lf {d d2 : mm_D} {B : wo_A} (hB : hM d B) (h : lf d d2) : hM d2 B := by
  unfold hM
  rw [h 250 (by decide) (by decide), h 268 (by decide) (by decide), h 269 (by decide) (by decide)]
  exact hB
theorem m_foggy {xs : List Int32} {ext : mm_X} {n : Nat} {sh : mm_S} {d : mm_D} {g : mm_G} {r : mm_R} (hsh : shp sh) (hr : rfx r) {T : wo_T} {o : wo_O} (hR : MR d T o) (t : Int32) : wp xs ext (n + 2) 181 0 [some (.ref 250), some (.int t)] [] (sh, d, g, r) (fun v μ => v = some (.int (tfg T t)) ∧ μ = (sh, d, g, r)) := by
  obtain ⟨n6, n2, nb0, e26, e27, e35, e36, hdis, hlk, hfar, hbel, hfog⟩ := hR
  rcases hfog with ⟨f0, f1⟩ | ⟨f0, f1, f2, f3⟩
  · skip
    refine wp_aload_n (j := 0) rfl q181_ok d181_0 ?_
    refine wp_getZ q181_ok d181_1 fl_11_271 rfl (by first | assumption | exact so0 hsh rfl) f0 ?_
    refine wp_if_eq q181_ok d181_4 (t := 23) rfl (fun h4 => ?_) (fun h4 => ?_)
    · refine wp_iconst (v := 0) (by decide) q181_ok d181_23 ?_
      refine wp_zret q181_ok d181_24 rfl (by first | assumption | exact Or.inl rfl | exact Or.inr rfl) ?_
      exact ⟨by rw [f1], rfl⟩
    · exact absurd rfl h4
  · skip
    refine wp_aload_n (j := 0) rfl q181_ok d181_0 ?_
    refine wp_getZ q181_ok d181_1 fl_11_271 rfl (by first | assumption | exact so0 hsh rfl) f0 ?_
    refine wp_if_eq q181_ok d181_4 (t := 23) rfl (fun h4 => ?_) (fun h4 => ?_)
    · exact absurd h4 (by decide)
    · refine wp_aload_n (j := 0) rfl q181_ok d181_7 ?_
      refine wp_getR q181_ok d181_8 fl_11_52 rfl (by first | assumption | exact so0 hsh rfl) (by first | assumption | exact hr _ _ _ rfl) ?_
      refine wp_iconst (v := 0) (by decide) q181_ok d181_11 ?_
      refine wp_iload_n (j := 1) rfl q181_ok d181_12 ?_
      refine wp_cS q181_ok d181_13 ml_11_301 rfl q179_ok rfl rfl rfl (Nat.le_of_ble_eq_true rfl) (Nat.le_of_ble_eq_true rfl) (m_isOn (c := 265) (k := 0) hsh hr (so0 hsh rfl) (by rw [shl hsh (m := 4) (Nat.le_of_ble_eq_true rfl) rfl]; decide) (by rw [shl hsh (m := 4) (Nat.le_of_ble_eq_true rfl) rfl]; decide) rfl rfl rfl f1) (fun v13 μ13 hc => ?_)
      obtain ⟨rfl, rfl⟩ := hc
      refine ⟨mm_le_same rfl, ?_⟩
      rw [show onC t (d 265 0) (d 265 (0 + 1)) (d 265 (0 + 2)) = tfg T t from f2 t]
      have h01 : tfg T t = 0 ∨ tfg T t = 1 := by rw [← f2 t]; exact onC01 _ _ _ _
      refine wp_if_eq q181_ok d181_16 (t := 23) rfl (fun h16 => ?_) (fun h16 => ?_)
      · refine wp_iconst (v := 0) (by decide) q181_ok d181_23 ?_
        refine wp_zret q181_ok d181_24 rfl (by first | assumption | exact Or.inl rfl | exact Or.inr rfl) ?_
        exact ⟨by rw [h16], rfl⟩
      · refine wp_iconst (v := 1) (by decide) q181_ok d181_19 ?_
        refine wp_goto (t := 24) rfl q181_ok d181_20 ?_
        refine wp_zret q181_ok d181_24 rfl (by first | assumption | exact Or.inl rfl | exact Or.inr rfl) ?_
        exact ⟨by rw [h01.resolve_left h16], rfl⟩
theorem m_sees {xs : List Int32} {ext : mm_X} {n : Nat} {sh : mm_S} {d : mm_D} {g : mm_G} {r : mm_R} (hsh : shp sh) (hr : rfx r) {T : wo_T} {o : wo_O} {B : wo_A} {p : Nat} (hR : MR d T o) (hB : hM d B) (hp : p < tnp T) : wp xs ext (n + 6) 182 0 [some (.ref 250), some (.int (nI p))] [] (sh, d, g, r) (fun v μ => v = some (.int (seO T o p B.1 (B.2.1 0))) ∧ ∃ d2, μ = (sh, d2, g, r) ∧ lf d d2) := by
  have n6 := hR.1
  refine wp_aload_n (j := 0) rfl q182_ok d182_0 ?_
  refine wp_iload_n (j := 1) rfl q182_ok d182_1 ?_
  refine wp_cV q182_ok d182_2 ml_11_308 rfl q180_ok (u := 11) rfl (by first | assumption | exact so0 hsh rfl) rfl (Nat.le_of_ble_eq_true rfl) (Nat.le_of_ble_eq_true rfl) (m_looks (n := n) hsh hr hR hB hp) (fun v2 μ2 hc => ?_)
  obtain ⟨rfl, d2, rfl, f2⟩ := hc
  refine ⟨mm_le_same rfl, ?_⟩
  refine wp_if_eq q182_ok d182_5 (t := 42) rfl (fun h5 => ?_) (fun h5 => ?_)
  · refine wp_iconst (v := 0) (by decide) q182_ok d182_42 ?_
    refine wp_zret q182_ok d182_43 rfl (by first | assumption | exact Or.inl rfl | exact Or.inr rfl) ?_
    exact ⟨by unfold seO; rw [if_pos h5], d2, rfl, f2⟩
  · have hR2 := MR_lf hR f2
    have hB2 := hM_lf hB f2
    refine wp_aload_n (j := 0) rfl q182_ok d182_8 ?_
    refine wp_aload_n (j := 0) rfl q182_ok d182_9 ?_
    refine wp_getI q182_ok d182_10 fl_11_274 rfl (by first | assumption | exact so0 hsh rfl) hB2.1 ?_
    refine wp_cV q182_ok d182_13 ml_11_311 rfl q181_ok (u := 11) rfl (by first | assumption | exact so0 hsh rfl) rfl (Nat.le_of_ble_eq_true rfl) (Nat.le_of_ble_eq_true rfl) (m_foggy (n := n + 3) hsh hr hR2 _) (fun v13 μ13 hc => ?_)
    obtain ⟨rfl, rfl⟩ := hc
    refine ⟨mm_le_same rfl, ?_⟩
    refine wp_if_eq q182_ok d182_16 (t := 38) rfl (fun h16 => ?_) (fun h16 => ?_)
    · refine wp_iconst (v := 1) (by decide) q182_ok d182_38 ?_
      refine wp_goto (t := 43) rfl q182_ok d182_39 ?_
      refine wp_zret q182_ok d182_43 rfl (by first | assumption | exact Or.inl rfl | exact Or.inr rfl) ?_
      exact ⟨by unfold seO; rw [if_neg h5, if_pos h16], d2, rfl, f2⟩
    · have hfar := hR2.2.2.2.2.2.2.2.2.2.1 p hp
      have hfog : d2 265 3 = o.2.2.2 := by
        rcases hR2.2.2.2.2.2.2.2.2.2.2.2 with ⟨_, q⟩ | ⟨_, _, _, q⟩
        · exact absurd (q _) h16
        · exact q
      refine wp_aload_n (j := 0) rfl q182_ok d182_19 ?_
      refine wp_getR q182_ok d182_20 fl_11_49 rfl (by first | assumption | exact so0 hsh rfl) (by first | assumption | exact hr _ _ _ rfl) ?_
      refine wp_iconst (v := 4) (by decide) q182_ok d182_23 ?_
      refine wp_iload_n (j := 1) rfl q182_ok d182_24 ?_
      refine wp_imul rfl q182_ok d182_25 ?_
      refine wp_iconst (v := 3) (by decide) q182_ok d182_26 ?_
      refine wp_iadd rfl q182_ok d182_27 ?_
      refine wp_iald (m := 24) q182_ok d182_28 (by first | assumption | exact so0 hsh rfl) (shl hsh (m := 24) (Nat.le_of_ble_eq_true rfl) rfl) (show ixn (4 * nI p + 3) (4 * p + 3) 24 from by rw [show (4 : Int32) * nI p + 3 = nI (4 * p + 3) from nI_4 p 3]; exact ixn_nI (by omega)) hfar ?_ (shK hsh)
      refine wp_aload_n (j := 0) rfl q182_ok d182_29 ?_
      refine wp_getR q182_ok d182_30 fl_11_52 rfl (by first | assumption | exact so0 hsh rfl) (by first | assumption | exact hr _ _ _ rfl) ?_
      refine wp_iconst (v := 3) (by decide) q182_ok d182_33 ?_
      refine wp_iald (m := 4) q182_ok d182_34 (by first | assumption | exact so0 hsh rfl) (shl hsh (m := 4) (Nat.le_of_ble_eq_true rfl) rfl) (ixn_nI (j := 3) (by decide)) hfog ?_ (shK hsh)
      refine wp_icmp_gt q182_ok d182_35 (t := 42) rfl (fun h35 => ?_) (fun h35 => ?_)
      · refine wp_iconst (v := 0) (by decide) q182_ok d182_42 ?_
        refine wp_zret q182_ok d182_43 rfl (by first | assumption | exact Or.inl rfl | exact Or.inr rfl) ?_
        exact ⟨by unfold seO; rw [if_neg h5, if_neg h16, if_neg (Int32.not_le.mpr h35)], d2, rfl, f2⟩
      · refine wp_iconst (v := 1) (by decide) q182_ok d182_38 ?_
        refine wp_goto (t := 43) rfl q182_ok d182_39 ?_
        refine wp_zret q182_ok d182_43 rfl (by first | assumption | exact Or.inl rfl | exact Or.inr rfl) ?_
        exact ⟨by unfold seO; rw [if_neg h5, if_neg h16, if_pos (Int32.not_lt.mp h35)], d2, rfl, f2⟩
theorem bts_0 {f : Nat → Int32} : ∀ k, (∀ i, i < k → f i = 0) → bts f k = 0
  | 0, _ => rfl
  | k + 1, h => by rw [bts, if_pos (h k (Nat.lt_succ_self k)), bts_0 k (fun i hi => h i (by omega))]
theorem bts_n0 {f : Nat → Int32} {n i : Nat} (h6 : n ≤ 6) (hi : i < n) (hf : ¬ f i = 0) : ¬ bts f n = 0 := fun e => by
  have := gb_bts f i n h6
  rw [e, gb_0] at this
  simp [hi, hf] at this
theorem m_isSeen_l {xs : List Int32} {ext : mm_X} {n : Nat} {sh : mm_S} {d : mm_D} {g : mm_G} {r : mm_R} (hsh : shp sh) (hr : rfx r) {T : wo_T} {o : wo_O} {B : wo_A} (hR : MR d T o) (hB : hM d B) : ∀ (z k : Nat) (d1 : mm_D), z + k = tnp T → lf d d1 → (∀ i, i < k → seO T o i B.1 (B.2.1 0) = 0) → wp xs ext (n + 7) 183 2 [some (.ref 250), some (.int (nI k))] [] (sh, d1, g, r) (fun v μ => v = some (.int (snA T o B)) ∧ ∃ d2, μ = (sh, d2, g, r) ∧ lf d d2) := by
  have n6 := hR.1
  intro z
  induction z with
  | zero =>
    intro k d1 hz hf h0
    have hvb : k = tnp T := by omega
    subst hvb
    have hR1 := MR_lf hR hf
    refine wp_iload_n (j := 1) rfl q183_ok d183_2 ?_
    refine wp_aload_n (j := 0) rfl q183_ok d183_3 ?_
    refine wp_getI q183_ok d183_4 fl_11_265 rfl (by first | assumption | exact so0 hsh rfl) hR1.2.2.2.1 ?_
    refine wp_icmp_ge q183_ok d183_7 (t := 26) rfl (fun h7 => ?_) (fun h7 => ?_)
    · refine wp_iconst (v := 0) (by decide) q183_ok d183_26 ?_
      refine wp_zret q183_ok d183_27 rfl (by first | assumption | exact Or.inl rfl | exact Or.inr rfl) ?_
      exact ⟨by unfold snA seB; rw [bts_0 _ h0]; rfl, d1, rfl, hf⟩
    · exact absurd (nI_le (Nat.le_refl _) (by omega)) h7
  | succ z ih =>
    intro k d1 hz hf h0
    have hlt : k < tnp T := by omega
    have hR1 := MR_lf hR hf
    have hB1 := hM_lf hB hf
    refine wp_iload_n (j := 1) rfl q183_ok d183_2 ?_
    refine wp_aload_n (j := 0) rfl q183_ok d183_3 ?_
    refine wp_getI q183_ok d183_4 fl_11_265 rfl (by first | assumption | exact so0 hsh rfl) hR1.2.2.2.1 ?_
    refine wp_icmp_ge q183_ok d183_7 (t := 26) rfl (fun h7 => ?_) (fun h7 => ?_)
    · exact absurd h7 (nI_ge hlt (by omega))
    · refine wp_aload_n (j := 0) rfl q183_ok d183_10 ?_
      refine wp_iload_n (j := 1) rfl q183_ok d183_11 ?_
      refine wp_cV q183_ok d183_12 ml_11_314 rfl q182_ok (u := 11) rfl (by first | assumption | exact so0 hsh rfl) rfl (Nat.le_of_ble_eq_true rfl) (Nat.le_of_ble_eq_true rfl) (m_sees (n := n) hsh hr hR1 hB1 hlt) (fun v12 μ12 hc => ?_)
      obtain ⟨rfl, d2, rfl, f2⟩ := hc
      refine ⟨mm_le_same rfl, ?_⟩
      refine wp_if_eq q183_ok d183_15 (t := 20) rfl (fun h15 => ?_) (fun h15 => ?_)
      · refine wp_iinc (j := 1) rfl (by first | exact inc1 | rfl) (rfl : _ = [_, _]) q183_ok d183_20 ?_
        refine wp_goto (t := 2) rfl q183_ok d183_23 ?_
        exact ih (k + 1) d2 (by omega) (lf_trans hf f2) (fun i hi => by by_cases q : i = k; rw [q]; exact h15; exact h0 i (by omega))
      · refine wp_iconst (v := 1) (by decide) q183_ok d183_18 ?_
        refine wp_zret q183_ok d183_19 rfl (by first | assumption | exact Or.inl rfl | exact Or.inr rfl) ?_
        exact ⟨by unfold snA b01 seB; rw [if_neg (bts_n0 n6 hlt h15)], d2, rfl, lf_trans hf f2⟩
theorem m_isSeen {xs : List Int32} {ext : mm_X} {n : Nat} {sh : mm_S} {d : mm_D} {g : mm_G} {r : mm_R} (hsh : shp sh) (hr : rfx r) {T : wo_T} {o : wo_O} {B : wo_A} (hR : MR d T o) (hB : hM d B) : wp xs ext (n + 7) 183 0 [some (.ref 250), none] [] (sh, d, g, r) (fun v μ => v = some (.int (snA T o B)) ∧ ∃ d2, μ = (sh, d2, g, r) ∧ lf d d2) := by
  refine wp_iconst (v := 0) (by decide) q183_ok d183_0 ?_
  refine wp_istore_n (j := 1) (Nat.le_of_ble_eq_true rfl) (rfl : _ = [_, _]) q183_ok d183_1 ?_
  exact m_isSeen_l hsh hr hR hB (tnp T) 0 d (by omega) (lf_refl d) (fun i hi => absurd hi (Nat.not_lt_zero _))
