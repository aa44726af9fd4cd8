/-! ===== spoil, errand, veil asked ===== -/
theorem iff_nn {a b : Prop} (e : a ↔ ¬ b) (h : ¬ a) : b := Classical.byContradiction (fun q => h (e.mpr q))
theorem fr_prp {d d2 m2 : mm_D} {g g2 : mm_G} {r : mm_R} {T : wo_T} {t n : Nat} (hg : ∀ c, c ≠ 233 → g2 c = g c) (ha : ag m2 d2) (hp : prp d (mm_up r 232 2 (some t)) T t n m2) : fr d g r d2 g2 (mm_up r 232 2 (some t)) := by
  refine ⟨fun c h1 h2 => ?_, hg, fun c j h => ?_⟩
  · rw [ha c h1, hp.1 c (by omega)]
  · by_cases e : c = 232
    · subst e
      rw [mm_up_at, if_neg (fun q => h ⟨rfl, q⟩)]
    · rw [mm_up_ne e]
def spoilQ (T : wo_T) (A : wo_A) (n1 w : Int32) : Int32 := if hasT T then if ahdT n1 then if whT w then (if w = 0 then (obA (fun p => lateA T (awO T (bitC p)) A 0 n1.toNatClampNeg) (tnp T)).1 else (obA (fun p => lateA T (awO T (bitC p)) A 0 n1.toNatClampNeg) (tnp T)).2) else -1 else -1 else -1
abbrev spT (T : wo_T) (fr : Nat → Bool) (i : Int32) : Prop := perT T i ∧ fr i.toNatClampNeg = true
def errandQ (T : wo_T) (A : wo_A) (fr : Nat → Bool) (i n1 w : Int32) : Int32 := if spT T fr i then if ahdT n1 then if whT w then (if w = 0 then (obA (fun f => lateA T (mvO T i.toNatClampNeg (nI f)) A 0 n1.toNatClampNeg) 60).1 else (obA (fun f => lateA T (mvO T i.toNatClampNeg (nI f)) A 0 n1.toNatClampNeg) 60).2) else -1 else -1 else -1
def veilQ (T : wo_T) (A : wo_A) (hf : Bool) (n1 w : Int32) : Int32 := if hasT T then if hf = true then if ahdT n1 then if whT w then (if w = 0 then (obA (fun v => lateA T (vwO (nI v)) A 0 n1.toNatClampNeg) 10).1 else (obA (fun v => lateA T (vwO (nI v)) A 0 n1.toNatClampNeg) 10).2) else -1 else -1 else -1 else -1
theorem c_spoilT {xs : List Int32} {ext : mm_X} {n : Nat} {sh : mm_S} {d : mm_D} {g : mm_G} {r : mm_R} (hsh : shp sh) (hr : rfx r) {T : wo_T} {A : wo_A} (hT : rpC d r T) (hA0 : hA d 38 A) (n1 w : Int32) : wp xs ext (n + 7) 112 0 [some (.ref 0), some (.int n1), some (.int w), none] [] (sh, d, g, r) (fun v μ => v = some (.int (spoilQ T A n1 w)) ∧ ∃ d2 g2 r2, μ = (sh, d2, g2, r2) ∧ fr d g r d2 g2 r2) := by
  have hr' : rfx (mm_up r 232 2 (some 38)) := rfx_up hr rfl _
  have hT' := rpC_38 (t := 38) hT
  have hnb := hT.1.2.2.2.1
  have hnp := hT.1.2.1
  have hs' : mm_up r 232 2 (some 38) 232 2 = some 38 := (mm_up_at 2).trans (if_pos rfl)
  refine wp_aload_n (j := 0) rfl q112_ok d112_0 ?_
  refine wp_cV q112_ok d112_1 ml_10_189 rfl q128_ok (u := 10) rfl (by first | assumption | exact so0 hsh rfl) rfl (Nat.le_of_ble_eq_true rfl) (Nat.le_of_ble_eq_true rfl) (c_hasTown hsh hr) (fun v1 μ1 hc => ?_)
  obtain ⟨rfl, rfl⟩ := hc
  refine ⟨mm_le_same rfl, ?_⟩
  refine wp_if_eq q112_ok d112_4 (t := 23) rfl (fun h4 => ?_) (fun h4 => ?_)
  · refine wp_iconst (v := -1) (by decide) q112_ok d112_23 ?_
    refine wp_iret q112_ok d112_24 rfl ?_
    exact ⟨by unfold spoilQ; rw [if_neg ((has_T hT).mp h4)], d, g, r, rfl, fr_refl⟩
  · refine wp_iload_n (j := 1) rfl q112_ok d112_7 ?_
    refine wp_cS q112_ok d112_8 ml_10_210 rfl q132_ok rfl rfl rfl (Nat.le_of_ble_eq_true rfl) (Nat.le_of_ble_eq_true rfl) (c_isAhead _) (fun v8 μ8 hc => ?_)
    obtain ⟨rfl, rfl⟩ := hc
    refine ⟨mm_le_same rfl, ?_⟩
    refine wp_if_eq q112_ok d112_11 (t := 23) rfl (fun h11 => ?_) (fun h11 => ?_)
    · refine wp_iconst (v := -1) (by decide) q112_ok d112_23 ?_
      refine wp_iret q112_ok d112_24 rfl ?_
      exact ⟨by unfold spoilQ; rw [if_pos (iff_nn (has_T hT) h4), if_neg ((ahd_T n1).mp h11)], d, g, r, rfl, fr_refl⟩
    · refine wp_iload_n (j := 2) rfl q112_ok d112_14 ?_
      refine wp_if_lt q112_ok d112_15 (t := 23) rfl (fun h15 => ?_) (fun h15 => ?_)
      · refine wp_iconst (v := -1) (by decide) q112_ok d112_23 ?_
        refine wp_iret q112_ok d112_24 rfl ?_
        exact ⟨by unfold spoilQ; rw [if_pos (iff_nn (has_T hT) h4), if_pos (iff_nn (ahd_T n1) h11), if_neg (show ¬ whT w from fun q => absurd q.1 (Int32.not_le.mpr h15))], d, g, r, rfl, fr_refl⟩
      · refine wp_iload_n (j := 2) rfl q112_ok d112_18 ?_
        refine wp_iconst (v := 1) (by decide) q112_ok d112_19 ?_
        refine wp_icmp_le q112_ok d112_20 (t := 25) rfl (fun h20 => ?_) (fun h20 => ?_)
        · have hA := iff_nn (ahd_T n1) h11
          obtain ⟨N, hN1, hN, hNe⟩ := ahd_of h11
          have hNc : n1.toNatClampNeg = N := by rw [hNe]; exact nI_clamp (by omega)
          subst hNe
          have h1 : 1 ≤ tnp T := Nat.one_le_iff_ne_zero.mpr (iff_nn (has_T hT) h4)
          refine wp_aload_n (j := 0) rfl q112_ok d112_25 ?_
          refine wp_getR q112_ok d112_26 fl_10_98 rfl (by first | assumption | exact so0 hsh rfl) (by first | assumption | exact hr _ _ _ rfl) ?_
          refine wp_aload_n (j := 0) rfl q112_ok d112_29 ?_
          refine wp_getR q112_ok d112_30 fl_10_69 rfl (by first | assumption | exact so0 hsh rfl) (by first | assumption | exact hr _ _ _ rfl) ?_
          refine wp_iload_n (j := 1) rfl q112_ok d112_33 ?_
          refine wp_cV q112_ok d112_34 ml_10_163 rfl q78_ok (u := 9) rfl (by first | assumption | exact so0 hsh rfl) rfl (Nat.le_of_ble_eq_true rfl) (Nat.le_of_ble_eq_true rfl) (c_prepare (d := d) hsh hr (tw38 hsh hr) (by decide) ntw38 hT.1.1 hT.1.2.1 hT.1.2.2.2.2 (show N ≤ 540 by omega) d (ag_refl d)) (fun v34 μ34 hc => ?_)
          obtain ⟨rfl, d3, rfl, ha3⟩ := hc
          refine ⟨mm_le_same rfl, ?_⟩
          refine wp_iconst (v := 0) (by decide) q112_ok d112_37 ?_
          refine wp_istore_n (j := 3) (Nat.le_of_ble_eq_true rfl) (rfl : _ = [_, _, _, _]) q112_ok d112_38 ?_
          refine wp_post (c_spoil_l hsh hr' hT' hA0 hs' (show N ≤ 540 by omega) w h1 (tnp T) 0 d3 _ (prepD d (mm_up r 232 2 (some 38)) 38 (tnp T) N) (by omega) (fun c hc => mm_up_ne hc) ha3 (rdy_prep hT' (show N ≤ 540 by omega) (show 38 + 2 < 232 by decide)).2.2.2 ⟨prepD_15 _ _ _ _ _, fun q => absurd q (by decide)⟩) (fun v μ hc => ?_)
          obtain ⟨rfl, d4, g4, m4, rfl, hg4, ha4, hp4⟩ := hc
          exact ⟨by unfold spoilQ; rw [if_pos (iff_nn (has_T hT) h4), if_pos (hA), if_pos (show whT w from ⟨Int32.not_lt.mp h15, h20⟩), hNc], _, _, _, rfl, fr_prp hg4 ha4 hp4⟩
        · refine wp_iconst (v := -1) (by decide) q112_ok d112_23 ?_
          refine wp_iret q112_ok d112_24 rfl ?_
          exact ⟨by unfold spoilQ; rw [if_pos (iff_nn (has_T hT) h4), if_pos (iff_nn (ahd_T n1) h11), if_neg (show ¬ whT w from fun q => h20 q.2)], d, g, r, rfl, fr_refl⟩
def spnC (d : mm_D) (r : mm_R) (i : Int32) : Int32 := if perC d i = 0 then 0 else match r 12 i.toNatClampNeg with | none => 1 | some _ => 0
theorem c_span {xs : List Int32} {ext : mm_X} {n : Nat} {sh : mm_S} {d : mm_D} {g : mm_G} {r : mm_R} (hsh : shp sh) (hr : rfx r) {T : wo_T} (hT : rpC d r T) (i : Int32) : wp xs ext (n + 1) 130 0 [some (.ref 0), some (.int i)] [] (sh, d, g, r) (fun v μ => v = some (.int (spnC d r i)) ∧ μ = (sh, d, g, r)) := by
  have hnp := hT.1.2.1
  refine wp_aload_n (j := 0) rfl q130_ok d130_0 ?_
  refine wp_iload_n (j := 1) rfl q130_ok d130_1 ?_
  refine wp_cV q130_ok d130_2 ml_10_148 rfl q129_ok (u := 10) rfl (by first | assumption | exact so0 hsh rfl) rfl (Nat.le_of_ble_eq_true rfl) (Nat.le_of_ble_eq_true rfl) (c_isPerson hsh hr _) (fun v2 μ2 hc => ?_)
  obtain ⟨rfl, rfl⟩ := hc
  refine ⟨mm_le_same rfl, ?_⟩
  refine wp_if_eq q130_ok d130_5 (t := 24) rfl (fun h5 => ?_) (fun h5 => ?_)
  · refine wp_iconst (v := 0) (by decide) q130_ok d130_24 ?_
    refine wp_zret q130_ok d130_25 rfl (by first | assumption | exact Or.inl rfl | exact Or.inr rfl) ?_
    exact ⟨by unfold spnC; rw [if_pos h5], rfl⟩
  · obtain ⟨p, hp, hpe⟩ := in_of hT.1.1 (by omega) h5
    have hc : i.toNatClampNeg = p := by rw [hpe]; exact nI_clamp (by omega)
    cases hh : r 12 i.toNatClampNeg with
    | none =>
      have hh' : r 12 p = none := by rw [← hc]; exact hh
      subst hpe
      refine wp_aload_n (j := 0) rfl q130_ok d130_8 ?_
      refine wp_getR q130_ok d130_9 fl_10_28 rfl (by first | assumption | exact so0 hsh rfl) (by first | assumption | exact hr _ _ _ rfl) ?_
      refine wp_getR q130_ok d130_12 fl_10_159 rfl (by first | assumption | exact so0 hsh rfl) (by first | assumption | exact hr _ _ _ rfl) ?_
      refine wp_iload_n (j := 1) rfl q130_ok d130_15 ?_
      refine wp_aaldN (m := 6) q130_ok d130_16 (t := 23) (by decide) (by first | assumption | exact so0 hsh rfl) (by first | assumption | exact shl hsh (Nat.le_of_ble_eq_true rfl) rfl) (by first | assumption | exact ixn_nI (by omega)) (by first | assumption | exact hr _ _ _ rfl) ?_
      refine wp_ifnonnullN q130_ok d130_17 ?_
      refine wp_iconst (v := 1) (by decide) q130_ok d130_20 ?_
      refine wp_goto (t := 25) rfl q130_ok d130_21 ?_
      refine wp_zret q130_ok d130_25 rfl (by first | assumption | exact Or.inl rfl | exact Or.inr rfl) ?_
      exact ⟨by unfold spnC; rw [if_neg h5, hh], rfl⟩
    | some x =>
      have hh' : r 12 p = some x := by rw [← hc]; exact hh
      subst hpe
      refine wp_aload_n (j := 0) rfl q130_ok d130_8 ?_
      refine wp_getR q130_ok d130_9 fl_10_28 rfl (by first | assumption | exact so0 hsh rfl) (by first | assumption | exact hr _ _ _ rfl) ?_
      refine wp_getR q130_ok d130_12 fl_10_159 rfl (by first | assumption | exact so0 hsh rfl) (by first | assumption | exact hr _ _ _ rfl) ?_
      refine wp_iload_n (j := 1) rfl q130_ok d130_15 ?_
      refine wp_aald (m := 6) q130_ok d130_16 (t := 23) (by decide) (by first | assumption | exact so0 hsh rfl) (by first | assumption | exact shl hsh (Nat.le_of_ble_eq_true rfl) rfl) (by first | assumption | exact ixn_nI (by omega)) hh' ?_
      refine wp_ifnonnull (t := 24) rfl q130_ok d130_17 ?_
      refine wp_iconst (v := 0) (by decide) q130_ok d130_24 ?_
      refine wp_zret q130_ok d130_25 rfl (by first | assumption | exact Or.inl rfl | exact Or.inr rfl) ?_
      exact ⟨by unfold spnC; rw [if_neg h5, hh], rfl⟩
def frC (r : mm_R) (p : Nat) : Bool := (r 12 p).isNone
theorem span_T {d : mm_D} {r : mm_R} {T : wo_T} (hT : rpC d r T) (i : Int32) : spnC d r i = 0 ↔ ¬ spT T (frC r) i := by
  unfold spnC
  by_cases h : perC d i = 0
  · rw [if_pos h]
    exact ⟨fun _ q => (perC_T hT i).mp h q.1, fun _ => rfl⟩
  · rw [if_neg h]
    have hp := iff_nn (perC_T hT i) h
    cases hh : r 12 i.toNatClampNeg with
    | none => exact ⟨fun q => absurd q (show ¬ (1 : Int32) = 0 by decide), fun q => absurd ⟨hp, by unfold frC; rw [hh]; rfl⟩ q⟩
    | some x => exact ⟨fun _ q => (by have w := q.2; unfold frC at w; rw [hh] at w; cases w), fun _ => rfl⟩
theorem c_errandT {xs : List Int32} {ext : mm_X} {n : Nat} {sh : mm_S} {d : mm_D} {g : mm_G} {r : mm_R} (hsh : shp sh) (hr : rfx r) {T : wo_T} {A : wo_A} (hT : rpC d r T) (hA0 : hA d 38 A) (i n1 w : Int32) : wp xs ext (n + 7) 113 0 [some (.ref 0), some (.int i), some (.int n1), some (.int w), none] [] (sh, d, g, r) (fun v μ => v = some (.int (errandQ T A (frC r) i n1 w)) ∧ ∃ d2 g2 r2, μ = (sh, d2, g2, r2) ∧ fr d g r d2 g2 r2) := by
  have hr' : rfx (mm_up r 232 2 (some 38)) := rfx_up hr rfl _
  have hT' := rpC_38 (t := 38) hT
  have hnb := hT.1.2.2.2.1
  have hnp := hT.1.2.1
  have hs' : mm_up r 232 2 (some 38) 232 2 = some 38 := (mm_up_at 2).trans (if_pos rfl)
  refine wp_aload_n (j := 0) rfl q113_ok d113_0 ?_
  refine wp_iload_n (j := 1) rfl q113_ok d113_1 ?_
  refine wp_cV q113_ok d113_2 ml_10_288 rfl q130_ok (u := 10) rfl (by first | assumption | exact so0 hsh rfl) rfl (Nat.le_of_ble_eq_true rfl) (Nat.le_of_ble_eq_true rfl) (c_span hsh hr hT _) (fun v2 μ2 hc => ?_)
  obtain ⟨rfl, rfl⟩ := hc
  refine ⟨mm_le_same rfl, ?_⟩
  refine wp_if_eq q113_ok d113_5 (t := 24) rfl (fun h5 => ?_) (fun h5 => ?_)
  · refine wp_iconst (v := -1) (by decide) q113_ok d113_24 ?_
    refine wp_iret q113_ok d113_25 rfl ?_
    exact ⟨by unfold errandQ; rw [if_neg ((span_T hT i).mp h5)], d, g, r, rfl, fr_refl⟩
  · refine wp_iload_n (j := 2) rfl q113_ok d113_8 ?_
    refine wp_cS q113_ok d113_9 ml_10_210 rfl q132_ok rfl rfl rfl (Nat.le_of_ble_eq_true rfl) (Nat.le_of_ble_eq_true rfl) (c_isAhead _) (fun v9 μ9 hc => ?_)
    obtain ⟨rfl, rfl⟩ := hc
    refine ⟨mm_le_same rfl, ?_⟩
    refine wp_if_eq q113_ok d113_12 (t := 24) rfl (fun h12 => ?_) (fun h12 => ?_)
    · refine wp_iconst (v := -1) (by decide) q113_ok d113_24 ?_
      refine wp_iret q113_ok d113_25 rfl ?_
      exact ⟨by unfold errandQ; rw [if_pos (iff_nn (span_T hT i) h5), if_neg ((ahd_T n1).mp h12)], d, g, r, rfl, fr_refl⟩
    · refine wp_iload_n (j := 3) rfl q113_ok d113_15 ?_
      refine wp_if_lt q113_ok d113_16 (t := 24) rfl (fun h16 => ?_) (fun h16 => ?_)
      · refine wp_iconst (v := -1) (by decide) q113_ok d113_24 ?_
        refine wp_iret q113_ok d113_25 rfl ?_
        exact ⟨by unfold errandQ; rw [if_pos (iff_nn (span_T hT i) h5), if_pos (iff_nn (ahd_T n1) h12), if_neg (show ¬ whT w from fun q => absurd q.1 (Int32.not_le.mpr h16))], d, g, r, rfl, fr_refl⟩
      · refine wp_iload_n (j := 3) rfl q113_ok d113_19 ?_
        refine wp_iconst (v := 1) (by decide) q113_ok d113_20 ?_
        refine wp_icmp_le q113_ok d113_21 (t := 26) rfl (fun h21 => ?_) (fun h21 => ?_)
        · have hA := iff_nn (ahd_T n1) h12
          obtain ⟨N, hN1, hN, hNe⟩ := ahd_of h12
          have hNc : n1.toNatClampNeg = N := by rw [hNe]; exact nI_clamp (by omega)
          subst hNe
          have hS := iff_nn (span_T hT i) h5
          obtain ⟨p, hpp, hie⟩ : ∃ p, p < tnp T ∧ i = nI p := ⟨_, per_lt hS.1 hnp, nI_ofn hS.1.1⟩
          subst hie
          have hp0 : (nI p).toNatClampNeg = p := nI_clamp (by omega)
          refine wp_aload_n (j := 0) rfl q113_ok d113_26 ?_
          refine wp_getR q113_ok d113_27 fl_10_98 rfl (by first | assumption | exact so0 hsh rfl) (by first | assumption | exact hr _ _ _ rfl) ?_
          refine wp_aload_n (j := 0) rfl q113_ok d113_30 ?_
          refine wp_getR q113_ok d113_31 fl_10_69 rfl (by first | assumption | exact so0 hsh rfl) (by first | assumption | exact hr _ _ _ rfl) ?_
          refine wp_iload_n (j := 2) rfl q113_ok d113_34 ?_
          refine wp_cV q113_ok d113_35 ml_10_163 rfl q78_ok (u := 9) rfl (by first | assumption | exact so0 hsh rfl) rfl (Nat.le_of_ble_eq_true rfl) (Nat.le_of_ble_eq_true rfl) (c_prepare (d := d) hsh hr (tw38 hsh hr) (by decide) ntw38 hT.1.1 hT.1.2.1 hT.1.2.2.2.2 (show N ≤ 540 by omega) d (ag_refl d)) (fun v35 μ35 hc => ?_)
          obtain ⟨rfl, d3, rfl, ha3⟩ := hc
          refine ⟨mm_le_same rfl, ?_⟩
          refine wp_iconst (v := 0) (by decide) q113_ok d113_38 ?_
          refine wp_istore (j := 4) (Nat.le_of_ble_eq_true rfl) (rfl : _ = [_, _, _, _, _]) q113_ok d113_39 ?_
          refine wp_post (c_errand_l hsh hr' hT' hA0 hs' (show N ≤ 540 by omega) w hpp 60 0 d3 _ (prepD d (mm_up r 232 2 (some 38)) 38 (tnp T) N) (by omega) (fun c hc => mm_up_ne hc) ha3 (rdy_prep hT' (show N ≤ 540 by omega) (show 38 + 2 < 232 by decide)).2.2.2 ⟨prepD_15 _ _ _ _ _, fun q => absurd q (by decide)⟩) (fun v μ hc => ?_)
          obtain ⟨rfl, d4, g4, m4, rfl, hg4, ha4, hp4⟩ := hc
          exact ⟨by unfold errandQ; rw [if_pos (iff_nn (span_T hT _) h5), if_pos (hA), if_pos (show whT w from ⟨Int32.not_lt.mp h16, h21⟩), hNc, hp0], _, _, _, rfl, fr_prp hg4 ha4 hp4⟩
        · refine wp_iconst (v := -1) (by decide) q113_ok d113_24 ?_
          refine wp_iret q113_ok d113_25 rfl ?_
          exact ⟨by unfold errandQ; rw [if_pos (iff_nn (span_T hT i) h5), if_pos (iff_nn (ahd_T n1) h12), if_neg (show ¬ whT w from fun q => h21 q.2)], d, g, r, rfl, fr_refl⟩
theorem c_veilT {xs : List Int32} {ext : mm_X} {n : Nat} {sh : mm_S} {d : mm_D} {g : mm_G} {r : mm_R} (hsh : shp sh) (hr : rfx r) {T : wo_T} {A : wo_A} (hT : rpC d r T) (hA0 : hA d 38 A) (n1 w : Int32) : wp xs ext (n + 7) 124 0 [some (.ref 0), some (.int n1), some (.int w), none] [] (sh, d, g, r) (fun v μ => v = some (.int (veilQ T A (!decide (d 4 7 = 0)) n1 w)) ∧ ∃ d2 g2 r2, μ = (sh, d2, g2, r2) ∧ fr d g r d2 g2 r2) := by
  have hr' : rfx (mm_up r 232 2 (some 38)) := rfx_up hr rfl _
  have hT' := rpC_38 (t := 38) hT
  have hnb := hT.1.2.2.2.1
  have hnp := hT.1.2.1
  have hs' : mm_up r 232 2 (some 38) 232 2 = some 38 := (mm_up_at 2).trans (if_pos rfl)
  refine wp_aload_n (j := 0) rfl q124_ok d124_0 ?_
  refine wp_cV q124_ok d124_1 ml_10_189 rfl q128_ok (u := 10) rfl (by first | assumption | exact so0 hsh rfl) rfl (Nat.le_of_ble_eq_true rfl) (Nat.le_of_ble_eq_true rfl) (c_hasTown hsh hr) (fun v1 μ1 hc => ?_)
  obtain ⟨rfl, rfl⟩ := hc
  refine ⟨mm_le_same rfl, ?_⟩
  refine wp_if_eq q124_ok d124_4 (t := 33) rfl (fun h4 => ?_) (fun h4 => ?_)
  · refine wp_iconst (v := -1) (by decide) q124_ok d124_33 ?_
    refine wp_iret q124_ok d124_34 rfl ?_
    exact ⟨by unfold veilQ; rw [if_neg ((has_T hT).mp h4)], d, g, r, rfl, fr_refl⟩
  · refine wp_aload_n (j := 0) rfl q124_ok d124_7 ?_
    refine wp_getR q124_ok d124_8 fl_10_28 rfl (by first | assumption | exact so0 hsh rfl) (by first | assumption | exact hr _ _ _ rfl) ?_
    refine wp_getZ q124_ok d124_11 fl_10_329 rfl (by first | assumption | exact so0 hsh rfl) (by first | assumption | exact congrFun (ha _ (by unfold scr; omega)) _ | rfl) ?_
    refine wp_if_eq q124_ok d124_14 (t := 33) rfl (fun h14 => ?_) (fun h14 => ?_)
    · refine wp_iconst (v := -1) (by decide) q124_ok d124_33 ?_
      refine wp_iret q124_ok d124_34 rfl ?_
      exact ⟨by unfold veilQ; rw [if_pos (iff_nn (has_T hT) h4), if_neg (show ¬ (!decide (d 4 7 = 0)) = true by simp [h14])], d, g, r, rfl, fr_refl⟩
    · refine wp_iload_n (j := 1) rfl q124_ok d124_17 ?_
      refine wp_cS q124_ok d124_18 ml_10_210 rfl q132_ok rfl rfl rfl (Nat.le_of_ble_eq_true rfl) (Nat.le_of_ble_eq_true rfl) (c_isAhead _) (fun v18 μ18 hc => ?_)
      obtain ⟨rfl, rfl⟩ := hc
      refine ⟨mm_le_same rfl, ?_⟩
      refine wp_if_eq q124_ok d124_21 (t := 33) rfl (fun h21 => ?_) (fun h21 => ?_)
      · refine wp_iconst (v := -1) (by decide) q124_ok d124_33 ?_
        refine wp_iret q124_ok d124_34 rfl ?_
        exact ⟨by unfold veilQ; rw [if_pos (iff_nn (has_T hT) h4), if_pos (show (!decide (d 4 7 = 0)) = true by simp [h14]), if_neg ((ahd_T n1).mp h21)], d, g, r, rfl, fr_refl⟩
      · refine wp_iload_n (j := 2) rfl q124_ok d124_24 ?_
        refine wp_if_lt q124_ok d124_25 (t := 33) rfl (fun h25 => ?_) (fun h25 => ?_)
        · refine wp_iconst (v := -1) (by decide) q124_ok d124_33 ?_
          refine wp_iret q124_ok d124_34 rfl ?_
          exact ⟨by unfold veilQ; rw [if_pos (iff_nn (has_T hT) h4), if_pos (show (!decide (d 4 7 = 0)) = true by simp [h14]), if_pos (iff_nn (ahd_T n1) h21), if_neg (show ¬ whT w from fun q => absurd q.1 (Int32.not_le.mpr h25))], d, g, r, rfl, fr_refl⟩
        · refine wp_iload_n (j := 2) rfl q124_ok d124_28 ?_
          refine wp_iconst (v := 1) (by decide) q124_ok d124_29 ?_
          refine wp_icmp_le q124_ok d124_30 (t := 35) rfl (fun h30 => ?_) (fun h30 => ?_)
          · have hA := iff_nn (ahd_T n1) h21
            obtain ⟨N, hN1, hN, hNe⟩ := ahd_of h21
            have hNc : n1.toNatClampNeg = N := by rw [hNe]; exact nI_clamp (by omega)
            subst hNe
            refine wp_aload_n (j := 0) rfl q124_ok d124_35 ?_
            refine wp_getR q124_ok d124_36 fl_10_98 rfl (by first | assumption | exact so0 hsh rfl) (by first | assumption | exact hr _ _ _ rfl) ?_
            refine wp_aload_n (j := 0) rfl q124_ok d124_39 ?_
            refine wp_getR q124_ok d124_40 fl_10_69 rfl (by first | assumption | exact so0 hsh rfl) (by first | assumption | exact hr _ _ _ rfl) ?_
            refine wp_iload_n (j := 1) rfl q124_ok d124_43 ?_
            refine wp_cV q124_ok d124_44 ml_10_163 rfl q78_ok (u := 9) rfl (by first | assumption | exact so0 hsh rfl) rfl (Nat.le_of_ble_eq_true rfl) (Nat.le_of_ble_eq_true rfl) (c_prepare (d := d) hsh hr (tw38 hsh hr) (by decide) ntw38 hT.1.1 hT.1.2.1 hT.1.2.2.2.2 (show N ≤ 540 by omega) d (ag_refl d)) (fun v44 μ44 hc => ?_)
            obtain ⟨rfl, d3, rfl, ha3⟩ := hc
            refine ⟨mm_le_same rfl, ?_⟩
            refine wp_iconst (v := 0) (by decide) q124_ok d124_47 ?_
            refine wp_istore_n (j := 3) (Nat.le_of_ble_eq_true rfl) (rfl : _ = [_, _, _, _]) q124_ok d124_48 ?_
            refine wp_post (c_veil_l hsh hr' hT' hA0 hs' (show N ≤ 540 by omega) w 10 0 d3 _ (prepD d (mm_up r 232 2 (some 38)) 38 (tnp T) N) (by omega) (fun c hc => mm_up_ne hc) ha3 (rdy_prep hT' (show N ≤ 540 by omega) (show 38 + 2 < 232 by decide)).2.2.2 ⟨prepD_15 _ _ _ _ _, fun q => absurd q (by decide)⟩) (fun v μ hc => ?_)
            obtain ⟨rfl, d4, g4, m4, rfl, hg4, ha4, hp4⟩ := hc
            exact ⟨by unfold veilQ; rw [if_pos (iff_nn (has_T hT) h4), if_pos (show (!decide (d 4 7 = 0)) = true by simp [h14]), if_pos (hA), if_pos (show whT w from ⟨Int32.not_lt.mp h25, h30⟩), hNc], _, _, _, rfl, fr_prp hg4 ha4 hp4⟩
          · refine wp_iconst (v := -1) (by decide) q124_ok d124_33 ?_
            refine wp_iret q124_ok d124_34 rfl ?_
            exact ⟨by unfold veilQ; rw [if_pos (iff_nn (has_T hT) h4), if_pos (show (!decide (d 4 7 = 0)) = true by simp [h14]), if_pos (iff_nn (ahd_T n1) h21), if_neg (show ¬ whT w from fun q => h30 q.2)], d, g, r, rfl, fr_refl⟩
