/-! ===== fault, text of the model ===== -/
theorem r_law36 {xs : List Int32} {ext : mm_X} {sh : mm_S} {g : mm_G} {r : mm_R} {L : wo_P} {t : Nat} (hsh : shp sh) (hr : rfx r) {n : Nat} {d : mm_D} (hL : tapM d L) (ht : t ≤ 4) : wp xs ext (n + 36) 161 0 [some (.ref 250), some (.int (nI t))] [] (sh, d, g, r) (lpost sh g r t d (habS L)) := by
  have u : ∀ j, RMunit xs ext sh g r L t (n + 31 + j) 6 := fun j => by
    have := r_units (xs := xs) (ext := ext) (g := g) (L := L) (t := t) hsh hr 6 (n + j) (by decide)
    rw [show n + j + (4 * 6 + 7) = n + 31 + j by omega] at this
    exact this
  have s : ∀ j, RMsum xs ext sh g r L t (n + 31 + j) 6 := fun j => by
    have := r_sums (xs := xs) (ext := ext) (g := g) (L := L) (t := t) hsh hr 6 (n + 8 + j) (by decide)
    rw [show n + 8 + j + (3 * 6 + 5) = n + 31 + j by omega] at this
    exact this
  have a1 : RMand xs ext sh g r L t (n + 31 + 1) 6 := r_and (n := n + 29) hsh hr (by decide) (u 0)
  have a2 : RMand xs ext sh g r L t (n + 31 + 2) 6 := r_and (n := n + 30) hsh hr (by decide) (u 1)
  have a3 : RMand xs ext sh g r L t (n + 31 + 3) 6 := r_and (n := n + 31) hsh hr (by decide) (u 2)
  have o2 : RMor xs ext sh g r L t (n + 31 + 2) 6 := r_or (n := n + 30) hsh hr (by decide) (u 1) a1
  have o3 : RMor xs ext sh g r L t (n + 31 + 3) 6 := r_or (n := n + 31) hsh hr (by decide) (u 2) a2
  have c3 : RMcon xs ext sh g r L t (n + 31 + 3) 6 := r_con (n := n + 31 + 2) hsh hr (u 2) a2 o2
  exact r_law (n := n + 31) hsh hr (s 3) (r_cmp (n := n + 32) hsh hr (by decide) (s 2)) a3 o3 c3 hL ht
theorem lawM_vf {d d2 : mm_D} {t k : Nat} (h : vf t d d2) (hk : k < t) : ∀ {cl : List wo_C} {i : Nat}, i + cl.length ≤ 90 → lawM d k i cl → lawM d2 k i cl
  | [], _, _, _ => trivial
  | c :: cl, i, hl, ⟨⟨tf, sf, a1, a2, a3, a4, a5, a6, a7⟩, hr⟩ => by
    have hl : i + (cl.length + 1) ≤ 90 := hl
    obtain ⟨b1, b2, b3⟩ := h.2.2.2.1 (90 * k + i) (by omega)
    exact ⟨⟨tf, sf, b1.trans a1, b2.trans a2, b3.trans a3, a4, a5, seg_eq (d := d) (fun j h1 h2 => h.2.2.1 j (by omega)) a6, seg_eq (d := d) (fun j h1 h2 => h.2.2.1 j (by omega)) a7⟩, lawM_vf h hk (by omega) hr⟩
theorem habM_vf {d d2 : mm_D} {t k : Nat} {F : (Nat → Int32) → Int32} (h : vf t d d2) (hk : k < t) (hh : habM d k F) : habM d2 k F := by
  obtain ⟨cl, c1, c2, c3, c4, c5⟩ := hh
  exact ⟨cl, c1, ((h.2.2.2.2 k (by omega)).2).trans c2, c3, lawM_vf h hk (by omega) c4, c5⟩
theorem repM_vf {d d2 : mm_D} {g : mm_G} {S : wo_S} {t : Nat} (h : repM d g S) (hv : vf t d d2) (ht : (sH S).1 ≤ t) : repM d2 g S := by
  obtain ⟨a1, a2, a3, a4, a5, a6, a7, a8, a9⟩ := h
  have e : ∀ c, 259 ≤ c → d2 c = d c := fun c hc => hv.1 c (by omega) (by omega)
  have ej : ∀ j, j ≠ 3 → j ≠ 4 → j ≠ 5 → j ≠ 14 → d2 250 j = d 250 j := hv.2.1
  exact ⟨rpWM_x a1 (fun c _ _ => e c (by omega)) (fun j _ _ => ej j (by omega) (by omega) (by omega) (by omega)), ⟨(ej 13 (by decide) (by decide) (by decide) (by decide)).trans a2.1, a2.2.1, fun k hk => habM_vf hv (by omega) (a2.2.2 k hk)⟩, nowM_x a3 (fun c _ _ => e c (by omega)) rfl rfl (ej 42 (by decide) (by decide) (by decide) (by decide)) (ej 32 (by decide) (by decide) (by decide) (by decide)), (ej 33 (by decide) (by decide) (by decide) (by decide)).trans a4, tapM_x a5 (hv.1 251 (by decide) (by decide)) (ej 2 (by decide) (by decide) (by decide) (by decide)), imgM_x a6 (e 280 (by decide)) rfl (ej 52 (by decide) (by decide) (by decide) (by decide)) (ej 54 (by decide) (by decide) (by decide) (by decide)), ntM_x a7 (e 276 (by decide)) (e 277 (by decide)) (ej 48 (by decide) (by decide) (by decide) (by decide)), (ej 35 (by decide) (by decide) (by decide) (by decide)).trans a8, (ej 36 (by decide) (by decide) (by decide) (by decide)).trans a9⟩
theorem repM_gf {d d2 : mm_D} {g : mm_G} {S : wo_S} (h : repM d g S) (hv : gfm d d2) : repM d2 g S := by
  obtain ⟨a1, a2, a3, a4, a5, a6, a7, a8, a9⟩ := h
  have e : ∀ c, c ≠ 250 → c ≠ 261 → c ≠ 262 → c ≠ 263 → d2 c = d c := hv.1
  have ej : ∀ j, j ≠ 3 → j ≠ 4 → j ≠ 20 → j ≠ 21 → j ≠ 22 → d2 250 j = d 250 j := hv.2
  exact ⟨rpWM_x a1 (fun c _ _ => e c (by omega) (by omega) (by omega) (by omega)) (fun j _ _ => ej j (by omega) (by omega) (by omega) (by omega) (by omega)), rpHM_x a2 (fun c _ _ => e c (by omega) (by omega) (by omega) (by omega)) (ej 13 (by decide) (by decide) (by decide) (by decide) (by decide)), nowM_x a3 (fun c _ _ => e c (by omega) (by omega) (by omega) (by omega)) rfl rfl (ej 42 (by decide) (by decide) (by decide) (by decide) (by decide)) (ej 32 (by decide) (by decide) (by decide) (by decide) (by decide)), (ej 33 (by decide) (by decide) (by decide) (by decide) (by decide)).trans a4, tapM_x a5 (e 251 (by decide) (by decide) (by decide) (by decide)) (ej 2 (by decide) (by decide) (by decide) (by decide) (by decide)), imgM_x a6 (e 280 (by decide) (by decide) (by decide) (by decide)) rfl (ej 52 (by decide) (by decide) (by decide) (by decide) (by decide)) (ej 54 (by decide) (by decide) (by decide) (by decide) (by decide)), ntM_x a7 (e 276 (by decide) (by decide) (by decide) (by decide)) (e 277 (by decide) (by decide) (by decide) (by decide)) (ej 48 (by decide) (by decide) (by decide) (by decide) (by decide)), (ej 35 (by decide) (by decide) (by decide) (by decide) (by decide)).trans a8, (ej 36 (by decide) (by decide) (by decide) (by decide) (by decide)).trans a9⟩
theorem frK_vf {d d2 : mm_D} {g : mm_G} {t : Nat} (h : vf t d d2) : frK d g d2 g := fun c hc => ⟨h.1 c (by omega) (by omega), rfl⟩
theorem frK_gf {d d2 : mm_D} {g : mm_G} (h : gfm d d2) : frK d g d2 g := fun c hc => ⟨h.1 c (by omega) (by omega) (by omega) (by omega), rfl⟩
/-- a habit more -/
theorem repM_hab {d d2 : mm_D} {g : mm_G} {S : wo_S} {cl : List wo_C} (h : repM d g S) (hv : vf (sH S).1 d d2) (h4 : (sH S).1 < 4) (hl : cl.length ≤ 90) (h255 : d2 255 (sH S).1 = nI cl.length) (hw : lawM d2 (sH S).1 0 cl) (hok : ∀ c, c ∈ cl → okC c) : repM (mm_up (mm_up d2 250 2 0) 250 13 (nI ((sH S).1 + 1))) g (habN S cl) := by
  have h2 := repM_vf h hv (Nat.le_refl _)
  obtain ⟨a1, a2, a3, a4, a5, a6, a7, a8, a9⟩ := h2
  have e : ∀ c, c ≠ 250 → mm_up (mm_up d2 250 2 0) 250 13 (nI ((sH S).1 + 1)) c = d2 c := fun c hc => by rw [mm_up_ne hc, mm_up_ne hc]
  have ej : ∀ j, j ≠ 2 → j ≠ 13 → mm_up (mm_up d2 250 2 0) 250 13 (nI ((sH S).1 + 1)) 250 j = d2 250 j := fun j h1 h3 => by rw [mm_up_at, if_neg h3, mm_up_at, if_neg h1]
  refine ⟨rpWM_x a1 (fun c _ _ => e c (by omega)) (fun j _ _ => ej j (by omega) (by omega)), ⟨(mm_up_at 13).trans (if_pos rfl), h4, fun k hk => ?_⟩, nowM_x a3 (fun c _ _ => e c (by omega)) rfl rfl (ej 42 (by decide) (by decide)) (ej 32 (by decide) (by decide)), (ej 33 (by decide) (by decide)).trans a4, ⟨rfl, Nat.zero_le _, fun i hi => absurd hi (Nat.not_lt_zero _)⟩, imgM_x a6 (e 280 (by decide)) rfl (ej 52 (by decide) (by decide)) (ej 54 (by decide) (by decide)), ntM_x a7 (e 276 (by decide)) (e 277 (by decide)) (ej 48 (by decide) (by decide)), (ej 35 (by decide) (by decide)).trans a8, (ej 36 (by decide) (by decide)).trans a9⟩
  have hk : k < (sH S).1 + 1 := hk
  show habM _ k (if k = (sH S).1 then hwV cl else (sH S).2 k)
  by_cases q : k = (sH S).1
  · rw [if_pos q, q]
    exact ⟨cl, hl, h255, hok, law_x (fun c _ _ => e c (by omega)) hw, fun _ => rfl⟩
  · rw [if_neg q]
    exact hab_x (fun c _ _ => e c (by omega)) (a2.2.2 k (by omega))
/-- a town taken -/
theorem repM_twn {d d2 d3 : mm_D} {g : mm_G} {S : wo_S} {W : wo_W} (h : repM d g S) (hv : gfm d d2) (hT : rpTM d2 W) (hh : whb W = fun _ => -1) (ht : ttM (mm_up d2 250 2 0) d3) : repM d3 g (twnS S W) := by
  have h2 := repM_gf h hv
  obtain ⟨a1, a2, a3, a4, a5, a6, a7, a8, a9⟩ := h2
  obtain ⟨t1, t2, ⟨t26, t27, t28⟩, ⟨t32, t42, t48, t54⟩, t264, t265, t266, t267, t268⟩ := ht
  obtain ⟨b1, b2, b3, b4, b5, b6, b7, b8⟩ := hT
  have e : ∀ c, c ≠ 250 → ¬ (264 ≤ c ∧ c < 270) → d3 c = d2 c := fun c h1 h3 => (t1 c h1 h3).trans (mm_up_ne h1)
  have ej : ∀ j, ¬ (26 ≤ j ∧ j < 29) → j ≠ 32 → j ≠ 42 → j ≠ 48 → j ≠ 54 → j ≠ 2 → d3 250 j = d2 250 j := fun j h1 h3 h4 h5 h6 h7 => (t2 j h1 h3 h4 h5 h6).trans ((mm_up_at j).trans (if_neg h7))
  refine ⟨⟨t26.trans b1, t27.trans b3, fun p hp j hj => ?_, fun b hb j hj => ?_, t28.trans b7, fun hf j hj => ?_, fun p hp => ?_⟩, rpHM_x a2 (fun c _ _ => e c (by omega) (by omega)) (ej 13 (by decide) (by decide) (by decide) (by decide) (by decide) (by decide)), ⟨⟨t32, fun b hb => t268 b hb⟩, a3.2.1, t42, Nat.zero_le _, fun i hi => absurd hi (Nat.not_lt_zero _)⟩, (ej 33 (by decide) (by decide) (by decide) (by decide) (by decide) (by decide)).trans a4, ⟨(t2 2 (by decide) (by decide) (by decide) (by decide) (by decide)).trans rfl, Nat.zero_le _, fun i hi => absurd hi (Nat.not_lt_zero _)⟩, ⟨t54, fun q => by cases q⟩, ⟨t48, Nat.zero_le _, fun i hi => absurd hi (Nat.not_lt_zero _)⟩, (ej 35 (by decide) (by decide) (by decide) (by decide) (by decide) (by decide)).trans a8, (ej 36 (by decide) (by decide) (by decide) (by decide) (by decide) (by decide)).trans a9⟩
  · have hp : p < wnp W := hp
    rw [t264 (4 * p + j) (by omega)]; exact b5 p hp j hj
  · have hb : b < wnb W := hb
    rw [t266 (3 * b + j) (by omega)]; exact b6 b hb j hj
  · rw [t265 j hj]; exact b8 hf j hj
  · have hp : p < wnp W := hp
    rw [t267 p (by omega)]
    show -1 = whb W p
    rw [hh]
theorem j_fault {xs : List Int32} {ext : mm_X} {n : Nat} {sh : mm_S} {d : mm_D} {g : mm_G} {r : mm_R} {S : wo_S} {m : Nat} (hsh : shp sh) (hr : rfx r) (ok : okS m S) (hm : m < 2 ^ 22) (h : repM d g S) (w : Int32) : wp xs ext (n + 37) 174 0 [some (.ref 250), some (.int w)] [] (sh, d, g, r) (mpost sh d g r (S) (some (.int (faultQ S w)))) := by
  have hL := h.2.2.2.2.1
  have h160 := hL.2.1
  have h4 := h.2.1.2.1
  refine wp_iload_n (j := 1) rfl q174_ok d174_0 ?_
  refine wp_if_ne q174_ok d174_1 (t := 11) rfl (fun h1 => ?_) (fun h1 => ?_)
  · refine wp_iload_n (j := 1) rfl q174_ok d174_11 ?_
    refine wp_iconst (v := 1) (by decide) q174_ok d174_12 ?_
    refine wp_icmp_ne q174_ok d174_13 (t := 24) rfl (fun h13 => ?_) (fun h13 => ?_)
    · refine wp_bipush (v := -2) (by decide) q174_ok d174_24 ?_
      refine wp_iret q174_ok d174_26 rfl ?_
      exact mp_same h (by unfold faultQ; rw [if_neg (show ¬ w = 0 from h1), if_neg (show ¬ w = 1 from h13)])
    · have h13 := Classical.not_not.mp h13
      refine wp_aload_n (j := 0) rfl q174_ok d174_16 ?_
      refine wp_iconst (v := 4) (by decide) q174_ok d174_17 ?_
      refine wp_cV q174_ok d174_18 ml_11_262 rfl q161_ok (u := 11) rfl (by first | assumption | exact so0 hsh rfl) rfl (Nat.le_of_ble_eq_true rfl) (Nat.le_of_ble_eq_true rfl) (r_law36 (n := n) (t := 4) hsh hr hL (by decide)) (fun v18 μ18 hc => ?_)
      obtain ⟨hv, d2, rfl, g2, m2⟩ := hc
      refine ⟨mm_le_same rfl, ?_⟩
      cases e : habS (sP S) with
      | inl z =>
        rw [e] at hv m2
        have hz := habS_bd e
        obtain rfl := hv
        refine wp_goto (t := 26) rfl q174_ok d174_21 ?_
        refine wp_iret q174_ok d174_26 rfl ?_
        exact ⟨by unfold faultQ fauH; rw [if_neg (show ¬ w = 0 from h1), if_pos (show w = 1 from h13), e], d2, g, rfl, repM_vf h g2 h4, frK_vf g2⟩
      | inr cl =>
        rw [e] at hv m2
        obtain rfl := hv
        refine wp_goto (t := 26) rfl q174_ok d174_21 ?_
        refine wp_iret q174_ok d174_26 rfl ?_
        exact ⟨by unfold faultQ fauH; rw [if_neg (show ¬ w = 0 from h1), if_pos (show w = 1 from h13), e], d2, g, rfl, repM_vf h g2 h4, frK_vf g2⟩
  · have h1 := Classical.not_not.mp h1
    refine wp_aload_n (j := 0) rfl q174_ok d174_4 ?_
    refine wp_cV q174_ok d174_5 ml_11_259 rfl q173_ok (u := 11) rfl (by first | assumption | exact so0 hsh rfl) rfl (Nat.le_of_ble_eq_true rfl) (Nat.le_of_ble_eq_true rfl) (r_rt (n := n + 31) hsh hr hL) (fun v5 μ5 hc => ?_)
    obtain ⟨hv, d2, rfl, g2, m2⟩ := hc
    refine ⟨mm_le_same rfl, ?_⟩
    cases e : townS (sP S) with
    | inl z =>
      rw [e] at hv m2
      have hz := townS_bd e
      obtain rfl := hv
      refine wp_goto (t := 26) rfl q174_ok d174_8 ?_
      refine wp_iret q174_ok d174_26 rfl ?_
      exact ⟨by unfold faultQ fauT; rw [if_pos (show w = 0 from h1), e], d2, g, rfl, repM_gf h g2, frK_gf g2⟩
    | inr W =>
      rw [e] at hv m2
      obtain rfl := hv
      refine wp_goto (t := 26) rfl q174_ok d174_8 ?_
      refine wp_iret q174_ok d174_26 rfl ?_
      exact ⟨by unfold faultQ fauT; rw [if_pos (show w = 0 from h1), e], d2, g, rfl, repM_gf h g2, frK_gf g2⟩
theorem mp_same' {sh : mm_S} {d : mm_D} {g : mm_G} {r : mm_R} {S S2 : wo_S} {v1 : Option Value} {v0 : Option Value} (h : repM d g S) (e0 : S2 = S) (e : v1 = v0) : mpost sh d g r S2 v0 v1 (sh, d, g, r) := by rw [e0]; exact mp_same h e
theorem townS_hb {L : wo_P} {W : wo_W} (h : townS L = .inr W) : whb W = fun _ => -1 := by
  exact (townS_ok h 0).2.1
theorem j_text {xs : List Int32} {ext : mm_X} {n : Nat} {sh : mm_S} {d : mm_D} {g : mm_G} {r : mm_R} {S : wo_S} {m : Nat} (hsh : shp sh) (hr : rfx r) (ok : okS m S) (hm : m < 2 ^ 22) (h : repM d g S) (w : Int32) : wp xs ext (n + 37) 176 0 [some (.ref 250), some (.int w)] [] (sh, d, g, r) (mpost sh d g r (textS S w) (some (.int (textQ S w)))) := by
  have hL := h.2.2.2.2.1
  have h160 := hL.2.1
  have h4 := h.2.1.2.1
  refine wp_iload_n (j := 1) rfl q176_ok d176_0 ?_
  refine wp_if_ne q176_ok d176_1 (t := 22) rfl (fun h1 => ?_) (fun h1 => ?_)
  · refine wp_iload_n (j := 1) rfl q176_ok d176_22 ?_
    refine wp_iconst (v := 1) (by decide) q176_ok d176_23 ?_
    refine wp_icmp_ne q176_ok d176_24 (t := 69) rfl (fun h24 => ?_) (fun h24 => ?_)
    · refine wp_iconst (v := -1) (by decide) q176_ok d176_69 ?_
      refine wp_iret q176_ok d176_70 rfl ?_
      refine mp_same' h ?_ ?_
      · unfold textS
        rw [if_neg (show ¬ w = 0 from h1), if_neg (show ¬ w = 1 from h24)]
      · unfold textQ
        rw [if_neg (show ¬ w = 0 from h1), if_neg (show ¬ w = 1 from h24)]
    · have h24 := Classical.not_not.mp h24
      refine wp_aload_n (j := 0) rfl q176_ok d176_27 ?_
      refine wp_getI q176_ok d176_28 fl_11_289 rfl (by first | assumption | exact so0 hsh rfl) h.2.1.1 ?_
      refine wp_iconst (v := 4) (by decide) q176_ok d176_31 ?_
      refine wp_icmp_ge q176_ok d176_32 (t := 69) rfl (fun h32 => ?_) (fun h32 => ?_)
      · refine wp_iconst (v := -1) (by decide) q176_ok d176_69 ?_
        refine wp_iret q176_ok d176_70 rfl ?_
        have h4' : ¬ (sH S).1 < 4 := fun q => absurd ((nI_ltI (by omega) (by decide)).mpr q) (Int32.not_lt.mpr (show nI 4 ≤ nI (sH S).1 from h32))
        refine mp_same' h ?_ ?_
        · unfold textS
          rw [if_neg (show ¬ w = 0 from h1), if_pos (show w = 1 from h24)]
          cases habS (sP S) with
          | inl z => rfl
          | inr cl => exact if_neg h4'
        · unfold textQ
          rw [if_neg (show ¬ w = 0 from h1), if_pos (show w = 1 from h24)]
          cases habS (sP S) with
          | inl z => rfl
          | inr cl => exact (congrArg (fun z => some (Value.int z)) (if_neg h4')).symm
      · have h4' : (sH S).1 < 4 := (nI_ltI (by omega) (by decide)).mp (show nI (sH S).1 < nI 4 from Int32.not_le.mp h32)
        refine wp_aload_n (j := 0) rfl q176_ok d176_35 ?_
        refine wp_aload_n (j := 0) rfl q176_ok d176_36 ?_
        refine wp_getI q176_ok d176_37 fl_11_289 rfl (by first | assumption | exact so0 hsh rfl) h.2.1.1 ?_
        refine wp_cV q176_ok d176_40 ml_11_262 rfl q161_ok (u := 11) rfl (by first | assumption | exact so0 hsh rfl) rfl (Nat.le_of_ble_eq_true rfl) (Nat.le_of_ble_eq_true rfl) (r_law36 (n := n) (t := (sH S).1) hsh hr hL (by omega)) (fun v40 μ40 hc => ?_)
        obtain ⟨hv, d2, rfl, g2, m2⟩ := hc
        refine ⟨mm_le_same rfl, ?_⟩
        cases e : habS (sP S) with
        | inl z =>
          rw [e] at hv m2
          have hz := habS_bd e
          obtain rfl := hv
          have e0 : textS S w = S := by unfold textS; rw [if_neg (show ¬ w = 0 from h1), if_pos (show w = 1 from h24), e]
          have e1 : textQ S w = -1 := by unfold textQ; rw [if_neg (show ¬ w = 0 from h1), if_pos (show w = 1 from h24), e]
          rw [e0, e1]
          refine wp_iconst (v := -1) (by decide) q176_ok d176_43 ?_
          refine wp_icmp_ne q176_ok d176_44 (t := 69) rfl (fun h44 => ?_) (fun h44 => ?_)
          · refine wp_iconst (v := -1) (by decide) q176_ok d176_69 ?_
            refine wp_iret q176_ok d176_70 rfl ?_
            exact ⟨rfl, d2, g, rfl, repM_vf h g2 (Nat.le_refl _), frK_vf g2⟩
          · have h44 := Classical.not_not.mp h44
            exact absurd h44 (nI_nm1 (by omega))
        | inr cl =>
          rw [e] at hv m2
          obtain rfl := hv
          have e0 : textS S w = habN S cl := by
            unfold textS
            rw [if_neg (show ¬ w = 0 from h1), if_pos (show w = 1 from h24), e]
            exact if_pos h4'
          have e1 : textQ S w = nI (sH S).1 := by
            unfold textQ
            rw [if_neg (show ¬ w = 0 from h1), if_pos (show w = 1 from h24), e]
            exact if_pos h4'
          rw [e0, e1]
          obtain ⟨m3, m4, m5⟩ := m2
          have e13 : mm_up d2 250 2 0 250 13 = nI (sH S).1 := (g2.2.1 13 (by decide) (by decide) (by decide) (by decide)).trans h.2.1.1
          refine wp_iconst (v := -1) (by decide) q176_ok d176_43 ?_
          refine wp_icmp_ne q176_ok d176_44 (t := 69) rfl (fun h44 => ?_) (fun h44 => ?_)
          · exact absurd rfl h44
          · have h44 := Classical.not_not.mp h44
            refine wp_aload_n (j := 0) rfl q176_ok d176_47 ?_
            refine wp_iconst (v := 0) (by decide) q176_ok d176_48 ?_
            refine wp_putI q176_ok d176_49 fl_11_110 rfl (by first | assumption | exact so0 hsh rfl) (Or.inl rfl) ?_
            refine wp_aload_n (j := 0) rfl q176_ok d176_52 ?_
            refine wp_dup rfl q176_ok d176_53 ?_
            refine wp_getI q176_ok d176_54 fl_11_289 rfl (by first | assumption | exact so0 hsh rfl) e13 ?_
            refine wp_iconst (v := 1) (by decide) q176_ok d176_57 ?_
            refine wp_iadd (nI_1 _) q176_ok d176_58 ?_
            refine wp_putI q176_ok d176_59 fl_11_289 rfl (by first | assumption | exact so0 hsh rfl) (Or.inl rfl) ?_
            refine wp_aload_n (j := 0) rfl q176_ok d176_62 ?_
            refine wp_getI q176_ok d176_63 fl_11_289 rfl (by first | assumption | exact so0 hsh rfl) ((mm_up_at 13).trans (if_pos rfl)) ?_
            refine wp_iconst (v := 1) (by decide) q176_ok d176_66 ?_
            refine wp_isub (nI_sub1 (Nat.succ_le_succ (Nat.zero_le _))) q176_ok d176_67 ?_
            refine wp_iret q176_ok d176_68 rfl ?_
            refine ⟨rfl, _, g, rfl, repM_hab h g2 h4' m3 m4 m5 (habS_ok e), fun c hc => ⟨?_, rfl⟩⟩
            rw [mm_up_ne (by omega), mm_up_ne (by omega)]
            exact g2.1 c (by omega) (by omega)
  · have h1 := Classical.not_not.mp h1
    refine wp_aload_n (j := 0) rfl q176_ok d176_4 ?_
    refine wp_cV q176_ok d176_5 ml_11_259 rfl q173_ok (u := 11) rfl (by first | assumption | exact so0 hsh rfl) rfl (Nat.le_of_ble_eq_true rfl) (Nat.le_of_ble_eq_true rfl) (r_rt (n := n + 31) hsh hr hL) (fun v5 μ5 hc => ?_)
    obtain ⟨hv, d2, rfl, g2, m2⟩ := hc
    refine ⟨mm_le_same rfl, ?_⟩
    cases e : townS (sP S) with
    | inl z =>
      rw [e] at hv m2
      have hz := townS_bd e
      obtain rfl := hv
      have e0 : textS S w = S := by unfold textS; rw [if_pos (show w = 0 from h1), e]
      have e1 : textQ S w = -1 := by unfold textQ; rw [if_pos (show w = 0 from h1), e]
      rw [e0, e1]
      refine wp_iconst (v := -1) (by decide) q176_ok d176_8 ?_
      refine wp_icmp_ne q176_ok d176_9 (t := 22) rfl (fun h9 => ?_) (fun h9 => ?_)
      · refine wp_iload_n (j := 1) rfl q176_ok d176_22 ?_
        refine wp_iconst (v := 1) (by decide) q176_ok d176_23 ?_
        refine wp_icmp_ne q176_ok d176_24 (t := 69) rfl (fun h24 => ?_) (fun h24 => ?_)
        · refine wp_iconst (v := -1) (by decide) q176_ok d176_69 ?_
          refine wp_iret q176_ok d176_70 rfl ?_
          exact ⟨rfl, d2, g, rfl, repM_gf h g2, frK_gf g2⟩
        · have h24 := Classical.not_not.mp h24
          exact absurd (show w = 0 from h1) (by rw [show w = 1 from h24]; decide)
      · have h9 := Classical.not_not.mp h9
        exact absurd h9 (nI_nm1 (by omega))
    | inr W =>
      rw [e] at hv m2
      obtain rfl := hv
      have e0 : textS S w = twnS S W := by unfold textS; rw [if_pos (show w = 0 from h1), e]
      have e1 : textQ S w = nI (wnp W) := by unfold textQ; rw [if_pos (show w = 0 from h1), e]
      rw [e0, e1]
      have hT : rpTM d2 W := m2
      have h01 : mm_up d2 250 2 0 250 22 = 0 ∨ mm_up d2 250 2 0 250 22 = 1 := by
        show d2 250 22 = 0 ∨ d2 250 22 = 1
        rw [hT.2.2.2.2.2.2.1]
        split
        · exact Or.inr rfl
        · exact Or.inl rfl
      refine wp_iconst (v := -1) (by decide) q176_ok d176_8 ?_
      refine wp_icmp_ne q176_ok d176_9 (t := 22) rfl (fun h9 => ?_) (fun h9 => ?_)
      · exact absurd rfl h9
      · have h9 := Classical.not_not.mp h9
        refine wp_aload_n (j := 0) rfl q176_ok d176_12 ?_
        refine wp_iconst (v := 0) (by decide) q176_ok d176_13 ?_
        refine wp_putI q176_ok d176_14 fl_11_110 rfl (by first | assumption | exact so0 hsh rfl) (Or.inl rfl) ?_
        refine wp_aload_n (j := 0) rfl q176_ok d176_17 ?_
        refine wp_cV q176_ok d176_18 ml_11_286 rfl q175_ok (u := 11) rfl (by first | assumption | exact so0 hsh rfl) rfl (Nat.le_of_ble_eq_true rfl) (Nat.le_of_ble_eq_true rfl) (r_take hsh hr h01) (fun v18 μ18 hc => ?_)
        obtain ⟨rfl, d3, rfl, t3⟩ := hc
        refine ⟨mm_le_same rfl, ?_⟩
        refine wp_iret q176_ok d176_21 rfl ?_
        refine ⟨by rw [show mm_up d2 250 2 0 250 20 = nI (wnp W) from hT.1], d3, g, rfl, repM_twn h g2 hT (townS_hb e) t3, fun c hc => ⟨?_, rfl⟩⟩
        rw [t3.1 c (by omega) (by omega), mm_up_ne (by omega)]
        exact g2.1 c (by omega) (by omega) (by omega) (by omega)
