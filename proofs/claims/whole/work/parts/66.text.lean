/-! ===== fault, text ===== -/
theorem repC_par {d d2 : mm_D} {g : mm_G} {r r2 : mm_R} {S : wo_S} (ok : okW (sW S) (sH S).1) (h : repC d g r S) (hd : ∀ c, c ≠ 3 → ¬ (18 ≤ c ∧ c < 38) → d2 c = d c) (hr : r2 12 = r 12) : repC d2 g r2 S := by
  obtain ⟨a1, a2, a3, a4, a5, a6, a7, a8⟩ := h
  have e : ∀ c, c ≠ 3 → (c < 18 ∨ 38 ≤ c) → d2 c = d c := fun c h1 h2 => hd c h1 (by omega)
  refine ⟨rpW_row ⟨ok.1, ok.2.1⟩ a1 (fun c h1 h2 => e c (by omega) (by omega)) hr, rpH_row a2 (fun c h1 h2 => e c (by omega) (by omega)), hX_row a3 (fun c hc => e c (by omega) (by omega)) (fun _ _ => rfl), ?_, ?_, ⟨?_, hA_row a6.2.1 (e _ (by decide) (by decide)) (e _ (by decide) (by decide)) (e _ (by decide) (by decide)), a6.2.2⟩, ntR_eq a7 (e _ (by decide) (by decide)) (e _ (by decide) (by decide)) (e _ (by decide) (by decide)), hA_row a8 (e _ (by decide) (by decide)) (e _ (by decide) (by decide)) (e _ (by decide) (by decide))⟩
  · rw [e 0 (by decide) (by decide)]; exact a4
  · rw [e 1 (by decide) (by decide), e 2 (by decide) (by decide)]; exact a5
  · rw [e 0 (by decide) (by decide)]; exact a6.1
def fauT (L : wo_P) : Int32 := match townS L with
  | .inl w => nI w
  | .inr _ => -1
def fauH (L : wo_P) : Int32 := match habS L with
  | .inl w => nI w
  | .inr _ => -1
def faultQ (S : wo_S) (w : Int32) : Int32 := if w = 0 then fauT (sP S) else if w = 1 then fauH (sP S) else -2
def twnS (S : wo_S) (W : wo_W) : wo_S := (W, sH S, (dwn, (sX S).2.1, 0, (sX S).2.2.2), sK S, (0, (sP S).2), (false, (sI S).2), (0, (sN S).2))
def habN (S : wo_S) (cl : List wo_C) : wo_S := (sW S, ((sH S).1 + 1, fun k => if k = (sH S).1 then hwV cl else (sH S).2 k), sX S, sK S, (0, (sP S).2), sI S, sN S)
def textQ (S : wo_S) (w : Int32) : Int32 := if w = 0 then (match townS (sP S) with
    | .inl _ => -1
    | .inr W => nI (wnp W))
  else if w = 1 then (match habS (sP S) with
    | .inl _ => -1
    | .inr _ => if (sH S).1 < 4 then nI (sH S).1 else -1)
  else -1
def textS (S : wo_S) (w : Int32) : wo_S := if w = 0 then (match townS (sP S) with
    | .inl _ => S
    | .inr W => twnS S W)
  else if w = 1 then (match habS (sP S) with
    | .inl _ => S
    | .inr cl => if (sH S).1 < 4 then habN S cl else S)
  else S
theorem fit_nm {w : Nat} (h : w < 2 ^ 31) : ¬ nI w = -1 := nI_nm1 h
theorem k_fault {xs : List Int32} {ext : mm_X} {n : Nat} {sh : mm_S} {d : mm_D} {g : mm_G} {r : mm_R} {S : wo_S} (hsh : shp sh) (hr : rfx r) (ok : okW (sW S) (sH S).1) (h : repC d g r S) (w : Int32) : wp xs ext (n + 62) 90 0 [some (.ref 0), some (.int w)] [] (sh, d, g, r) (kpost sh d g r S (some (.int (faultQ S w)))) := by
  have hL : tpR d (sP S) := h.2.2.2.2.1
  refine wp_iload_n (j := 1) rfl q90_ok d90_0 ?_
  refine wp_if_ne q90_ok d90_1 (t := 12) rfl (fun h1 => ?_) (fun h1 => ?_)
  · refine wp_iload_n (j := 1) rfl q90_ok d90_12 ?_
    refine wp_iconst (v := 1) (by decide) q90_ok d90_13 ?_
    refine wp_icmp_ne q90_ok d90_14 (t := 27) rfl (fun h14 => ?_) (fun h14 => ?_)
    · refine wp_bipush (v := -2) (by decide) q90_ok d90_27 ?_
      refine wp_iret q90_ok d90_29 rfl ?_
      exact kp_same hr h (by unfold faultQ; rw [if_neg (show ¬ w = 0 from h1), if_neg (show ¬ w = 1 from h14)])
    · have h14 := Classical.not_not.mp h14
      refine wp_aload_n (j := 0) rfl q90_ok d90_17 ?_
      refine wp_getR q90_ok d90_18 fl_10_58 rfl (by first | assumption | exact so0 hsh rfl) (by first | assumption | exact hr _ _ _ rfl) ?_
      refine wp_cV q90_ok d90_21 ml_10_117 rfl q11_ok (u := 1) rfl (by first | assumption | exact so0 hsh rfl) rfl (Nat.le_of_ble_eq_true rfl) (Nat.le_of_ble_eq_true rfl) (c_hread (n := n) hsh hr d hL) (fun v21 μ21 hc => ?_)
      obtain ⟨d2, rfl, f2, m2⟩ := hc
      refine ⟨mm_le_same rfl, ?_⟩
      have hrep := repC_par ok h (fun c h1 h2 => f2 c h1 (by omega) (by omega)) rfl
      have hq : faultQ S w = fauH (sP S) := by unfold faultQ; rw [if_neg (show ¬ w = 0 from h1), if_pos (show w = 1 from h14)]
      have hfr : frM d g r d2 g r := fun c hc => ⟨f2 c (by omega) (by omega) (by omega), rfl, rfl⟩
      rw [hq]
      unfold fauH
      cases e : habS (sP S) with
      | inl z =>
        rw [e] at m2
        obtain rfl := m2
        refine wp_goto (t := 29) rfl q90_ok d90_24 ?_
        refine wp_iret q90_ok d90_29 rfl ?_
        exact ⟨rfl, d2, g, r, rfl, hr, hrep, hfr⟩
      | inr W =>
        rw [e] at m2
        obtain ⟨rfl, _⟩ := m2
        refine wp_goto (t := 29) rfl q90_ok d90_24 ?_
        refine wp_iret q90_ok d90_29 rfl ?_
        exact ⟨rfl, d2, g, r, rfl, hr, hrep, hfr⟩
  · have h1 := Classical.not_not.mp h1
    refine wp_aload_n (j := 0) rfl q90_ok d90_4 ?_
    refine wp_getR q90_ok d90_5 fl_10_40 rfl (by first | assumption | exact so0 hsh rfl) (by first | assumption | exact hr _ _ _ rfl) ?_
    refine wp_cV q90_ok d90_8 ml_10_113 rfl q73_ok (u := 8) rfl (by first | assumption | exact so0 hsh rfl) rfl (Nat.le_of_ble_eq_true rfl) (Nat.le_of_ble_eq_true rfl) (c_tread (n := n + 56) hsh hr d hL) (fun v8 μ8 hc => ?_)
    obtain ⟨d2, r2, rfl, hr2, e26, f2, m2⟩ := hc
    refine ⟨mm_le_same rfl, ?_⟩
    have hrep := repC_par ok h (fun c h1 h2 => f2 c h1 (by omega)) (e26 12 (by decide))
    have hq : faultQ S w = fauT (sP S) := if_pos (show w = 0 from h1)
    have hfr : frM d g r d2 g r2 := fun c hc => ⟨f2 c (by omega) (by omega), rfl, e26 c (by omega)⟩
    rw [hq]
    unfold fauT
    cases e : townS (sP S) with
    | inl z =>
      rw [e] at m2
      obtain rfl := m2
      refine wp_iret q90_ok d90_11 rfl ?_
      exact ⟨rfl, d2, g, r2, rfl, hr2, hrep, hfr⟩
    | inr W =>
      rw [e] at m2
      obtain ⟨rfl, _⟩ := m2
      refine wp_iret q90_ok d90_11 rfl ?_
      exact ⟨rfl, d2, g, r2, rfl, hr2, hrep, hfr⟩
theorem rst_r {d : mm_D} {w c : Nat} (h : c < w ∨ w + 3 ≤ c) : rstT d w c = d c := by
  unfold rstT
  rw [mm_up_ne (by omega), mm_up_ne (by omega), mm_up_ne (by omega), mm_up_ne (by omega), mm_up_ne (by omega)]
theorem rst_A (d : mm_D) (w : Nat) : hA (rstT d w) w dwn := by
  unfold rstT
  refine ⟨?_, fun b hb => ?_⟩
  · rw [mm_up_ne (by omega), mm_up_ne (by omega), mm_up_ne (by omega), mm_up_ne (by omega), mm_up_at, if_pos rfl]
    rfl
  · have e : b = 0 ∨ b = 1 := by omega
    constructor
    · rw [mm_up_ne (by omega), mm_up_at]
      rcases e with rfl | rfl
      · rw [if_neg (by decide), mm_up_ne (by omega), mm_up_at, if_pos rfl]
        rfl
      · rw [if_pos rfl]
        rfl
    · rw [mm_up_at]
      rcases e with rfl | rfl
      · rw [if_neg (by decide), mm_up_ne (by omega), mm_up_at, if_pos rfl]
        rfl
      · rw [if_pos rfl]
        rfl
theorem c_takeTown {xs : List Int32} {ext : mm_X} {n : Nat} {sh : mm_S} {d : mm_D} {g : mm_G} {r : mm_R} (hsh : shp sh) (hr : rfx r) {W : wo_W} (hT : rpT d 18 W) : wp xs ext (n + 4) 92 0 [some (.ref 0)] [] (sh, d, g, r) (fun v μ => v = some (.int (nI (wnp W))) ∧ ∃ d2 r2, μ = (sh, d2, g, r2) ∧ rfx r2 ∧ (∀ c, c ≠ 12 → r2 c = r c) ∧ (∀ i, i < 6 → r2 12 i = none) ∧ (d2 4 5 = nI (wnp W) ∧ d2 4 6 = nI (wnb W) ∧ d2 4 7 = (if wfg W = true then 1 else 0) ∧ (∀ p, p < wnp W → ∀ j, j < 4 → d2 (6 + p) j = wper W p j) ∧ (∀ b, b < wnb W → ∀ j, j < 3 → d2 (14 + b) j = wbel W b j) ∧ (wfg W = true → ∀ j, j < 4 → d2 16 j = wvl W j)) ∧ (∀ c, c ≠ 0 → c ≠ 1 → ¬ (4 ≤ c ∧ c < 17) → ¬ (38 ≤ c ∧ c < 41) → c ≠ 47 → c ≠ 229 → d2 c = d c) ∧ (∀ j, d2 0 j = if j = 12 then 0 else d 0 j) ∧ d2 1 1 = 0 ∧ hA d2 38 dwn ∧ (∀ j, d2 47 j = if j = 2 then 0 else d 47 j) ∧ d2 229 2 = 0) := by
  have hT' : rpT (mm_up d 1 1 0) 18 W := by
    obtain ⟨a1, a2, a3, a4, a5, a6, a7, a8⟩ := hT
    unfold rpT
    rw [mm_up_ne (show 18 ≠ 1 by decide), mm_up_ne (show 18 + 12 ≠ 1 by decide)]
    exact ⟨a1, a2, a3, a4, fun p hp j hj => by rw [mm_up_ne (by omega)]; exact a5 p hp j hj, fun b hb j hj => by rw [mm_up_ne (by omega)]; exact a6 b hb j hj, a7, a8⟩
  have hnp := hT.2.1
  have hnb := hT.2.2.2.1
  refine wp_aload_n (j := 0) rfl q92_ok d92_0 ?_
  refine wp_getR q92_ok d92_1 fl_10_12 rfl (by first | assumption | exact so0 hsh rfl) (by first | assumption | exact hr _ _ _ rfl) ?_
  refine wp_iconst (v := 0) (by decide) q92_ok d92_4 ?_
  refine wp_putI q92_ok d92_5 fl_10_106 rfl (by first | assumption | exact so0 hsh rfl) (Or.inl rfl) ?_
  refine wp_aload_n (j := 0) rfl q92_ok d92_8 ?_
  refine wp_getR q92_ok d92_9 fl_10_28 rfl (by first | assumption | exact so0 hsh rfl) (by first | assumption | exact hr _ _ _ rfl) ?_
  refine wp_aload_n (j := 0) rfl q92_ok d92_12 ?_
  refine wp_getR q92_ok d92_13 fl_10_32 rfl (by first | assumption | exact so0 hsh rfl) (by first | assumption | exact hr _ _ _ rfl) ?_
  refine wp_cV q92_ok d92_16 ml_10_124 rfl q52_ok (u := 7) rfl (by first | assumption | exact so0 hsh rfl) rfl (Nat.le_of_ble_eq_true rfl) (Nat.le_of_ble_eq_true rfl) (c_tcopy4 (n := n + 1) hsh hr hT') (fun v16 μ16 hc => ?_)
  obtain ⟨rfl, d3, r3, rfl, hr3, e12, n12, ⟨c1, c2, c3, c4, c5, c6⟩, v3⟩ := hc
  refine ⟨mm_le_same rfl, ?_⟩
  refine wp_aload_n (j := 0) rfl q92_ok d92_19 ?_
  refine wp_getR q92_ok d92_20 fl_10_69 rfl (by first | assumption | exact so0 hsh rfl) (by first | assumption | exact hr3 _ _ _ rfl) ?_
  refine wp_cV q92_ok d92_23 ml_10_128 rfl q46_ok (u := 6) rfl (by first | assumption | exact so0 hsh rfl) rfl (Nat.le_of_ble_eq_true rfl) (Nat.le_of_ble_eq_true rfl) (c_trestart hsh hr3 (tw38 hsh hr3)) (fun v23 μ23 hc => ?_)
  obtain ⟨rfl, rfl⟩ := hc
  refine ⟨mm_le_same rfl, ?_⟩
  refine wp_aload_n (j := 0) rfl q92_ok d92_26 ?_
  refine wp_getR q92_ok d92_27 fl_10_82 rfl (by first | assumption | exact so0 hsh rfl) (by first | assumption | exact hr3 _ _ _ rfl) ?_
  refine wp_cV q92_ok d92_30 ml_10_131 rfl q30_ok (u := 3) rfl (by first | assumption | exact so0 hsh rfl) rfl (Nat.le_of_ble_eq_true rfl) (Nat.le_of_ble_eq_true rfl) (c_pforget hsh hr3) (fun v30 μ30 hc => ?_)
  obtain ⟨rfl, rfl⟩ := hc
  refine ⟨mm_le_same rfl, ?_⟩
  refine wp_aload_n (j := 0) rfl q92_ok d92_33 ?_
  refine wp_getR q92_ok d92_34 fl_10_89 rfl (by first | assumption | exact so0 hsh rfl) (by first | assumption | exact hr3 _ _ _ rfl) ?_
  refine wp_cV q92_ok d92_37 ml_10_134 rfl q25_ok (u := 2) rfl (by first | assumption | exact so0 hsh rfl) rfl (Nat.le_of_ble_eq_true rfl) (Nat.le_of_ble_eq_true rfl) (c_nforget hsh hr3) (fun v37 μ37 hc => ?_)
  obtain ⟨rfl, rfl⟩ := hc
  refine ⟨mm_le_same rfl, ?_⟩
  refine wp_aload_n (j := 0) rfl q92_ok d92_40 ?_
  refine wp_iconst (v := 0) (by decide) q92_ok d92_41 ?_
  refine wp_putZ q92_ok d92_42 fl_10_135 rfl (by first | assumption | exact so0 hsh rfl) (Or.inl rfl) (by first | assumption | exact Or.inl rfl | exact Or.inr rfl) ?_
  refine wp_aload_n (j := 0) rfl q92_ok d92_45 ?_
  refine wp_getR q92_ok d92_46 fl_10_28 rfl (by first | assumption | exact so0 hsh rfl) (by first | assumption | exact hr3 _ _ _ rfl) ?_
  refine wp_getI q92_ok d92_49 fl_10_139 rfl (by first | assumption | exact so0 hsh rfl) (show mm_up (mm_up (mm_up (rstT d3 38) 47 2 0) 229 2 0) 0 12 0 4 5 = nI (wnp W) from by rw [mm_up_ne (by decide), mm_up_ne (by decide), mm_up_ne (by decide), rst_r (by decide)]; exact c1) ?_
  refine wp_iret q92_ok d92_52 rfl ?_
  have er : ∀ c, c ≠ 0 → ¬ (38 ≤ c ∧ c < 41) → c ≠ 47 → c ≠ 229 → mm_up (mm_up (mm_up (rstT d3 38) 47 2 0) 229 2 0) 0 12 0 c = d3 c := fun c h1 h2 h3 h4 => by rw [mm_up_ne h1, mm_up_ne h4, mm_up_ne h3, rst_r (by omega)]
  refine ⟨rfl, _, r3, rfl, hr3, e12, n12, ⟨?_, ?_, ?_, fun p hp => ?_, fun b hb => ?_, fun hf => ?_⟩, fun c h1 h2 h3 h4 h5 h6 => ?_, fun j => ?_, ?_, ?_, fun j => ?_, ?_⟩
  · rw [er 4 (by decide) (by decide) (by decide) (by decide)]; exact c1
  · rw [er 4 (by decide) (by decide) (by decide) (by decide)]; exact c2
  · rw [er 4 (by decide) (by decide) (by decide) (by decide)]; exact c3
  · rw [er _ (by omega) (by omega) (by omega) (by omega)]; exact c4 p hp
  · rw [er _ (by omega) (by omega) (by omega) (by omega)]; exact c5 b hb
  · rw [er 16 (by decide) (by decide) (by decide) (by decide)]; exact v3 hf
  · rw [er c h1 h4 h5 h6, c6 c h3, mm_up_ne h2]
  · rw [mm_up_at, mm_up_ne (by decide), mm_up_ne (by decide), rst_r (by decide), c6 0 (by decide), mm_up_ne (by decide)]
  · rw [er 1 (by decide) (by decide) (by decide) (by decide), c6 1 (by decide), mm_up_at, if_pos rfl]
  · exact hA_row (rst_A d3 38) (by rw [mm_up_ne (by decide), mm_up_ne (by decide), mm_up_ne (by decide)]) (by rw [mm_up_ne (by decide), mm_up_ne (by decide), mm_up_ne (by decide)]) (by rw [mm_up_ne (by decide), mm_up_ne (by decide), mm_up_ne (by decide)])
  · rw [mm_up_ne (by decide), mm_up_ne (by decide), mm_up_at, rst_r (by decide), c6 47 (by decide), mm_up_ne (by decide)]
  · rw [mm_up_ne (by decide), mm_up_at, if_pos rfl]
theorem c_takeHabit {xs : List Int32} {ext : mm_X} {n : Nat} {sh : mm_S} {d : mm_D} {g : mm_G} {r : mm_R} (hsh : shp sh) (hr : rfx r) {hc : Nat} {cl : List wo_C} (h8 : d 0 8 = nI hc) (hc4 : hc ≤ 4) (ht : tolD d (linA cl)) : wp xs ext (n + 3) 93 0 [some (.ref 0)] [] (sh, d, g, r) (fun v μ => (¬ hc < 4 → v = some (.int (-1)) ∧ μ = (sh, d, g, r)) ∧ (hc < 4 → v = some (.int (nI hc)) ∧ ∃ d2, μ = (sh, d2, g, r) ∧ (∀ c, c ≠ 0 → c ≠ 1 → c ≠ 238 + 3 * hc → c ≠ 238 + 3 * hc + 1 → d2 c = d c) ∧ d2 1 1 = 0 ∧ (∀ j, d2 0 j = if j = 8 then nI (hc + 1) else d 0 j) ∧ d2 (238 + 3 * hc) 0 = d (238 + 3 * hc) 0 ∧ d2 (238 + 3 * hc) 2 = nI (linA cl).length ∧ ∀ i, i < (linA cl).length → d2 (238 + 3 * hc + 1) i = (linA cl).getD i 0)) := by
  have ht' : tolD (mm_up d 1 1 0) (linA cl) := by
    unfold tolD
    rw [mm_up_ne (show 33 ≠ 1 by decide), mm_up_ne (show 34 ≠ 1 by decide)]
    exact ht
  have h8' : mm_up d 1 1 0 0 8 = nI hc := by rw [mm_up_ne (by decide)]; exact h8
  refine wp_aload_n (j := 0) rfl q93_ok d93_0 ?_
  refine wp_getI q93_ok d93_1 fl_10_142 rfl (by first | assumption | exact so0 hsh rfl) (by first | assumption | rfl) ?_
  refine wp_if_lt q93_ok d93_4 (t := 31) rfl (fun h4 => ?_) (fun h4 => ?_)
  · exact absurd h4 (nI_pos (by omega))
  · refine wp_aload_n (j := 0) rfl q93_ok d93_7 ?_
    refine wp_getI q93_ok d93_8 fl_10_142 rfl (by first | assumption | exact so0 hsh rfl) (by first | assumption | rfl) ?_
    refine wp_aload_n (j := 0) rfl q93_ok d93_11 ?_
    refine wp_getR q93_ok d93_12 fl_10_62 rfl (by first | assumption | exact so0 hsh rfl) (by first | assumption | exact hr _ _ _ rfl) ?_
    refine wp_alen (m := 4) q93_ok d93_15 (shlt hsh (Nat.le_of_ble_eq_true rfl)) (sht hsh (Nat.le_of_ble_eq_true rfl) (Nat.le_of_ble_eq_true rfl)) (by first | assumption | exact shl hsh (Nat.le_of_ble_eq_true rfl) rfl) rfl ?_ (shK hsh)
    refine wp_icmp_ge q93_ok d93_16 (t := 31) rfl (fun h16 => ?_) (fun h16 => ?_)
    · have hge : 4 ≤ hc := (nI_leI (by decide) (by omega)).mp (show nI 4 ≤ nI hc from h16)
      refine wp_iconst (v := -1) (by decide) q93_ok d93_31 ?_
      refine wp_iret q93_ok d93_32 rfl ?_
      exact ⟨fun _ => ⟨rfl, rfl⟩, fun q => absurd q (by omega)⟩
    · have hlt : hc < 4 := Nat.lt_of_not_le (fun q => h16 ((nI_leI (by decide) (by omega)).mpr q))
      refine wp_aload_n (j := 0) rfl q93_ok d93_19 ?_
      refine wp_getR q93_ok d93_20 fl_10_62 rfl (by first | assumption | exact so0 hsh rfl) (by first | assumption | exact hr _ _ _ rfl) ?_
      refine wp_aload_n (j := 0) rfl q93_ok d93_23 ?_
      refine wp_getI q93_ok d93_24 fl_10_142 rfl (by first | assumption | exact so0 hsh rfl) (by first | assumption | rfl) ?_
      refine wp_aald (m := 4) q93_ok d93_27 (t := 23) (by decide) (by first | assumption | exact so0 hsh rfl) (by first | assumption | exact shl hsh (Nat.le_of_ble_eq_true rfl) rfl) (ixn_nI hlt) (r37 hr hlt) ?_
      refine wp_ifnonnull (t := 33) rfl q93_ok d93_28 ?_
      have hhab : hab (238 + 3 * hc) := by unfold hab; omega
      have hhb := hab_hb hsh hr hhab
      have hso := so238 hsh hlt
      refine wp_aload_n (j := 0) rfl q93_ok d93_33 ?_
      refine wp_getR q93_ok d93_34 fl_10_12 rfl (by first | assumption | exact so0 hsh rfl) (by first | assumption | exact hr _ _ _ rfl) ?_
      refine wp_iconst (v := 0) (by decide) q93_ok d93_37 ?_
      refine wp_putI q93_ok d93_38 fl_10_106 rfl (by first | assumption | exact so0 hsh rfl) (Or.inl rfl) ?_
      refine wp_aload_n (j := 0) rfl q93_ok d93_41 ?_
      refine wp_getR q93_ok d93_42 fl_10_62 rfl (by first | assumption | exact so0 hsh rfl) (by first | assumption | exact hr _ _ _ rfl) ?_
      refine wp_aload_n (j := 0) rfl q93_ok d93_45 ?_
      refine wp_getI q93_ok d93_46 fl_10_142 rfl (by first | assumption | exact so0 hsh rfl) h8' ?_
      refine wp_aald (m := 4) q93_ok d93_49 (t := 23) (by decide) (by first | assumption | exact so0 hsh rfl) (by first | assumption | exact shl hsh (Nat.le_of_ble_eq_true rfl) rfl) (ixn_nI hlt) (r37 hr hlt) ?_
      refine wp_aload_n (j := 0) rfl q93_ok d93_50 ?_
      refine wp_getR q93_ok d93_51 fl_10_49 rfl (by first | assumption | exact so0 hsh rfl) (by first | assumption | exact hr _ _ _ rfl) ?_
      refine wp_cV q93_ok d93_54 ml_10_145 rfl q6_ok (u := 0) rfl (by first | assumption | exact so0 hsh rfl) rfl (Nat.le_of_ble_eq_true rfl) (Nat.le_of_ble_eq_true rfl) (c_hcopy (n := n + 1) hsh hr hhb (by omega) ht') (fun v54 μ54 hc => ?_)
      obtain ⟨rfl, d3, rfl, f3, z3, l3, c3⟩ := hc
      refine ⟨mm_le_same rfl, ?_⟩
      have e8 : d3 0 8 = nI hc := by rw [f3 0 (by omega) (by omega)]; exact h8'
      refine wp_aload_n (j := 0) rfl q93_ok d93_57 ?_
      refine wp_dup rfl q93_ok d93_58 ?_
      refine wp_getI q93_ok d93_59 fl_10_142 rfl (by first | assumption | exact so0 hsh rfl) e8 ?_
      refine wp_iconst (v := 1) (by decide) q93_ok d93_62 ?_
      refine wp_iadd rfl q93_ok d93_63 ?_
      refine wp_putI q93_ok d93_64 fl_10_142 rfl (by first | assumption | exact so0 hsh rfl) (Or.inl rfl) ?_
      refine wp_aload_n (j := 0) rfl q93_ok d93_67 ?_
      refine wp_getI q93_ok d93_68 fl_10_142 rfl (by first | assumption | exact so0 hsh rfl) ((mm_up_at 8).trans (if_pos rfl)) ?_
      refine wp_iconst (v := 1) (by decide) q93_ok d93_71 ?_
      refine wp_isub nI_pm q93_ok d93_72 ?_
      refine wp_iret q93_ok d93_73 rfl ?_
      have er : ∀ c, c ≠ 0 → mm_up d3 0 8 (nI hc + 1) c = d3 c := fun c h => mm_up_ne h
      refine ⟨fun q => absurd hlt q, fun _ => ⟨rfl, _, rfl, fun c h1 h2 h3 h4 => by rw [er c h1, f3 c h3 h4, mm_up_ne h2], ?_, fun j => ?_, ?_, ?_, fun i hi => ?_⟩⟩
      · rw [er 1 (by decide), f3 1 (by omega) (by omega), mm_up_at, if_pos rfl]
      · rw [mm_up_at, f3 0 (by omega) (by omega), mm_up_ne (by decide), show nI hc + 1 = nI (hc + 1) from nI_1 hc]
      · rw [er _ (by omega), z3, mm_up_ne (by omega)]
      · rw [er _ (by omega)]; exact l3
      · rw [er _ (by omega)]; exact c3 i hi
