/-! ===== turn and stare asked; notes; times; whose ===== -/
def turnQ (T : wo_T) (A : wo_A) (n1 : Int32) : Int32 := if hasT T then if ahdT n1 then outA (turG T A n1.toNatClampNeg) (2 ^ tnp T) (tnp T + 1) 0 else -1 else -1
def stareQ (T : wo_T) (A : wo_A) (n1 : Int32) : Int32 := if hasT T then if ahdT n1 then outA (staG T A n1.toNatClampNeg) (2 ^ tnp T) (tnp T + 1) 0 else -1 else -1
theorem c_turnT {xs : List Int32} {ext : mm_X} {n : Nat} {sh : mm_S} {d : mm_D} {g : mm_G} {r : mm_R} (hsh : shp sh) (hr : rfx r) {T : wo_T} {A : wo_A} (hT : rpC d r T) (hA0 : hA d 38 A) (n1 : Int32) : wp xs ext (n + 7) 109 0 [some (.ref 0), some (.int n1), none, none] [] (sh, d, g, r) (fun v μ => v = some (.int (turnQ T A n1)) ∧ ∃ d2 g2 r2, μ = (sh, d2, g2, r2) ∧ fr d g r d2 g2 r2) := by
  have hr' : rfx (mm_up r 232 2 (some 38)) := rfx_up hr rfl _
  have hT' := rpC_38 (t := 38) hT
  have hnb := hT.1.2.2.2.1
  have hnp := hT.1.2.1
  have hs' : mm_up r 232 2 (some 38) 232 2 = some 38 := (mm_up_at 2).trans (if_pos rfl)
  refine wp_aload_n (j := 0) rfl q109_ok d109_0 ?_
  refine wp_cV q109_ok d109_1 ml_10_189 rfl q128_ok (u := 10) rfl (by first | assumption | exact so0 hsh rfl) rfl (Nat.le_of_ble_eq_true rfl) (Nat.le_of_ble_eq_true rfl) (c_hasTown hsh hr) (fun v1 μ1 hc => ?_)
  obtain ⟨rfl, rfl⟩ := hc
  refine ⟨mm_le_same rfl, ?_⟩
  refine wp_if_eq q109_ok d109_4 (t := 14) rfl (fun h4 => ?_) (fun h4 => ?_)
  · refine wp_iconst (v := -1) (by decide) q109_ok d109_14 ?_
    refine wp_iret q109_ok d109_15 rfl ?_
    exact ⟨by unfold turnQ; rw [if_neg ((has_T hT).mp h4)], d, g, r, rfl, fr_refl⟩
  · refine wp_iload_n (j := 1) rfl q109_ok d109_7 ?_
    refine wp_cS q109_ok d109_8 ml_10_210 rfl q132_ok rfl rfl rfl (Nat.le_of_ble_eq_true rfl) (Nat.le_of_ble_eq_true rfl) (c_isAhead _) (fun v8 μ8 hc => ?_)
    obtain ⟨rfl, rfl⟩ := hc
    refine ⟨mm_le_same rfl, ?_⟩
    refine wp_if_ne q109_ok d109_11 (t := 16) rfl (fun h11 => ?_) (fun h11 => ?_)
    · have hA := iff_nn (ahd_T n1) h11
      obtain ⟨N, hN1, hN, hNe⟩ := ahd_of h11
      have hNc : n1.toNatClampNeg = N := by rw [hNe]; exact nI_clamp (by omega)
      subst hNe
      refine wp_aload_n (j := 0) rfl q109_ok d109_16 ?_
      refine wp_getR q109_ok d109_17 fl_10_98 rfl (by first | assumption | exact so0 hsh rfl) (by first | assumption | exact hr _ _ _ rfl) ?_
      refine wp_aload_n (j := 0) rfl q109_ok d109_20 ?_
      refine wp_getR q109_ok d109_21 fl_10_69 rfl (by first | assumption | exact so0 hsh rfl) (by first | assumption | exact hr _ _ _ rfl) ?_
      refine wp_iload_n (j := 1) rfl q109_ok d109_24 ?_
      refine wp_cV q109_ok d109_25 ml_10_163 rfl q78_ok (u := 9) rfl (by first | assumption | exact so0 hsh rfl) rfl (Nat.le_of_ble_eq_true rfl) (Nat.le_of_ble_eq_true rfl) (c_prepare (d := d) hsh hr (tw38 hsh hr) (by decide) ntw38 hT.1.1 hT.1.2.1 hT.1.2.2.2.2 (show N ≤ 540 by omega) d (ag_refl d)) (fun v25 μ25 hc => ?_)
      obtain ⟨rfl, d3, rfl, ha3⟩ := hc
      refine ⟨mm_le_same rfl, ?_⟩
      refine wp_iconst (v := 0) (by decide) q109_ok d109_28 ?_
      refine wp_istore_n (j := 2) (Nat.le_of_ble_eq_true rfl) (rfl : _ = [_, _, _, _]) q109_ok d109_29 ?_
      refine wp_post (c_turn_o hsh hr' hT' hA0 hs' (show N ≤ 540 by omega) (tnp T + 1) 0 none d3 _ (prepD d (mm_up r 232 2 (some 38)) 38 (tnp T) N) (by omega) (fun c hc => mm_up_ne hc) ha3 (rdy_prep hT' (show N ≤ 540 by omega) (show 38 + 2 < 232 by decide)).2.2.2) (fun v μ hc => ?_)
      obtain ⟨rfl, d4, g4, m4, rfl, hg4, ha4, hp4⟩ := hc
      exact ⟨by unfold turnQ; rw [if_pos (iff_nn (has_T hT) h4), if_pos hA, hNc], _, _, _, rfl, fr_prp hg4 ha4 hp4⟩
    · have h11 := Classical.not_not.mp h11
      refine wp_iconst (v := -1) (by decide) q109_ok d109_14 ?_
      refine wp_iret q109_ok d109_15 rfl ?_
      exact ⟨by unfold turnQ; rw [if_pos (iff_nn (has_T hT) h4), if_neg ((ahd_T n1).mp h11)], d, g, r, rfl, fr_refl⟩
theorem c_stareT {xs : List Int32} {ext : mm_X} {n : Nat} {sh : mm_S} {d : mm_D} {g : mm_G} {r : mm_R} (hsh : shp sh) (hr : rfx r) {T : wo_T} {A : wo_A} (hT : rpC d r T) (hA0 : hA d 38 A) (n1 : Int32) : wp xs ext (n + 7) 110 0 [some (.ref 0), some (.int n1), none, none] [] (sh, d, g, r) (fun v μ => v = some (.int (stareQ T A n1)) ∧ ∃ d2 g2 r2, μ = (sh, d2, g2, r2) ∧ fr d g r d2 g2 r2) := by
  have hr' : rfx (mm_up r 232 2 (some 38)) := rfx_up hr rfl _
  have hT' := rpC_38 (t := 38) hT
  have hnb := hT.1.2.2.2.1
  have hnp := hT.1.2.1
  have hs' : mm_up r 232 2 (some 38) 232 2 = some 38 := (mm_up_at 2).trans (if_pos rfl)
  refine wp_aload_n (j := 0) rfl q110_ok d110_0 ?_
  refine wp_cV q110_ok d110_1 ml_10_189 rfl q128_ok (u := 10) rfl (by first | assumption | exact so0 hsh rfl) rfl (Nat.le_of_ble_eq_true rfl) (Nat.le_of_ble_eq_true rfl) (c_hasTown hsh hr) (fun v1 μ1 hc => ?_)
  obtain ⟨rfl, rfl⟩ := hc
  refine ⟨mm_le_same rfl, ?_⟩
  refine wp_if_eq q110_ok d110_4 (t := 14) rfl (fun h4 => ?_) (fun h4 => ?_)
  · refine wp_iconst (v := -1) (by decide) q110_ok d110_14 ?_
    refine wp_iret q110_ok d110_15 rfl ?_
    exact ⟨by unfold stareQ; rw [if_neg ((has_T hT).mp h4)], d, g, r, rfl, fr_refl⟩
  · refine wp_iload_n (j := 1) rfl q110_ok d110_7 ?_
    refine wp_cS q110_ok d110_8 ml_10_210 rfl q132_ok rfl rfl rfl (Nat.le_of_ble_eq_true rfl) (Nat.le_of_ble_eq_true rfl) (c_isAhead _) (fun v8 μ8 hc => ?_)
    obtain ⟨rfl, rfl⟩ := hc
    refine ⟨mm_le_same rfl, ?_⟩
    refine wp_if_ne q110_ok d110_11 (t := 16) rfl (fun h11 => ?_) (fun h11 => ?_)
    · have hA := iff_nn (ahd_T n1) h11
      obtain ⟨N, hN1, hN, hNe⟩ := ahd_of h11
      have hNc : n1.toNatClampNeg = N := by rw [hNe]; exact nI_clamp (by omega)
      subst hNe
      refine wp_aload_n (j := 0) rfl q110_ok d110_16 ?_
      refine wp_getR q110_ok d110_17 fl_10_98 rfl (by first | assumption | exact so0 hsh rfl) (by first | assumption | exact hr _ _ _ rfl) ?_
      refine wp_aload_n (j := 0) rfl q110_ok d110_20 ?_
      refine wp_getR q110_ok d110_21 fl_10_69 rfl (by first | assumption | exact so0 hsh rfl) (by first | assumption | exact hr _ _ _ rfl) ?_
      refine wp_iload_n (j := 1) rfl q110_ok d110_24 ?_
      refine wp_cV q110_ok d110_25 ml_10_163 rfl q78_ok (u := 9) rfl (by first | assumption | exact so0 hsh rfl) rfl (Nat.le_of_ble_eq_true rfl) (Nat.le_of_ble_eq_true rfl) (c_prepare (d := d) hsh hr (tw38 hsh hr) (by decide) ntw38 hT.1.1 hT.1.2.1 hT.1.2.2.2.2 (show N ≤ 540 by omega) d (ag_refl d)) (fun v25 μ25 hc => ?_)
      obtain ⟨rfl, d3, rfl, ha3⟩ := hc
      refine ⟨mm_le_same rfl, ?_⟩
      refine wp_iconst (v := 0) (by decide) q110_ok d110_28 ?_
      refine wp_istore_n (j := 2) (Nat.le_of_ble_eq_true rfl) (rfl : _ = [_, _, _, _]) q110_ok d110_29 ?_
      refine wp_post (c_stare_o hsh hr' hT' hA0 hs' (show N ≤ 540 by omega) (tnp T + 1) 0 none d3 _ (prepD d (mm_up r 232 2 (some 38)) 38 (tnp T) N) (by omega) (fun c hc => mm_up_ne hc) ha3 (rdy_prep hT' (show N ≤ 540 by omega) (show 38 + 2 < 232 by decide)).2.2.2) (fun v μ hc => ?_)
      obtain ⟨rfl, d4, g4, m4, rfl, hg4, ha4, hp4⟩ := hc
      exact ⟨by unfold stareQ; rw [if_pos (iff_nn (has_T hT) h4), if_pos hA, hNc], _, _, _, rfl, fr_prp hg4 ha4 hp4⟩
    · have h11 := Classical.not_not.mp h11
      refine wp_iconst (v := -1) (by decide) q110_ok d110_14 ?_
      refine wp_iret q110_ok d110_15 rfl ?_
      exact ⟨by unfold stareQ; rw [if_pos (iff_nn (has_T hT) h4), if_neg ((ahd_T n1).mp h11)], d, g, r, rfl, fr_refl⟩
theorem c_nforget {xs : List Int32} {ext : mm_X} {n : Nat} {sh : mm_S} {d : mm_D} {g : mm_G} {r : mm_R} (hsh : shp sh) (hr : rfx r)  : wp xs ext (n + 0) 25 0 [some (.ref 229)] [] (sh, d, g, r) (fun v μ => v = none ∧ μ = (sh, mm_up d 229 2 0, g, r)) := by
  refine wp_aload_n (j := 0) rfl q25_ok d25_0 ?_
  refine wp_iconst (v := 0) (by decide) q25_ok d25_1 ?_
  refine wp_putI q25_ok d25_2 fl_2_19 rfl (by first | assumption | exact so0 hsh rfl) (Or.inl rfl) ?_
  refine wp_vret q25_ok d25_5 rfl ?_
  exact ⟨rfl, rfl⟩
/-- the notes: so many, at these minutes, rung or not -/
def ntR (d : mm_D) (len : Nat) (mt : Nat → Nat) (rs : Nat → Int32) : Prop := d 229 2 = nI len ∧ len ≤ 20 ∧ ∀ i, i < len → mt i ≤ 60 ∧ d 230 i = nI (mt i) ∧ d 231 i = rs i
def fitC (R ms rs : Nat → Int32) (f : Int32) : Nat → Nat → Int32
  | 0, _ => 1
  | z + 1, i => if f + ms i < 0 then 0 else if 540 ≤ f + ms i then 0 else if R (f + ms i).toNatClampNeg = rs i then fitC R ms rs f z (i + 1) else 0
def fitN (R : Nat → Int32) (mt : Nat → Nat) (rs : Nat → Int32) (f : Nat) : Nat → Nat → Int32
  | 0, _ => 1
  | z + 1, i => if R (f + mt i) = rs i then fitN R mt rs f z (i + 1) else 0
theorem fitN01 (R : Nat → Int32) (mt : Nat → Nat) (rs : Nat → Int32) (f : Nat) : ∀ z i, fitN R mt rs f z i = 0 ∨ fitN R mt rs f z i = 1
  | 0, _ => Or.inr rfl
  | z + 1, i => by
    rw [fitN]
    split
    · exact fitN01 R mt rs f z (i + 1)
    · exact Or.inl rfl
theorem fit_c {d : mm_D} {len : Nat} {mt : Nat → Nat} {rs : Nat → Int32} (h : ntR d len mt rs) (W R : Nat → Int32) {f : Nat} (hf : f ≤ 479) (hR : ∀ i, i < len → W (f + mt i) = R (f + mt i)) : ∀ z i, z + i = len → fitC W (d 230) (d 231) (nI f) z i = fitN R mt rs f z i
  | 0, _, _ => rfl
  | z + 1, i, hz => by
    obtain ⟨m60, e1, e2⟩ := h.2.2 i (by omega)
    have e : nI f + d 230 i = nI (f + mt i) := by rw [e1]; exact (Int32.ofNat_add _ _).symm
    rw [fitC, fitN, e, if_neg (nI_pos (by omega)), if_neg (show ¬ (540 : Int32) ≤ nI (f + mt i) from nI_ge (show f + mt i < 540 by omega) (by decide)), nI_clamp (by omega), hR i (by omega), e2, fit_c h W R hf hR z (i + 1) (by omega)]
theorem c_fit_l {xs : List Int32} {ext : mm_X} {n : Nat} {sh : mm_S} {d : mm_D} {g : mm_G} {r : mm_R} (hsh : shp sh) (hr : rfx r) {len : Nat} (h229 : d 229 2 = nI len) (hl : len ≤ 20) (f : Int32) : ∀ (z k : Nat) (u : Option Value), z + k = len → wp xs ext (n + 0) 28 2 [some (.ref 229), some (.ref 237), some (.int f), some (.int (nI k)), u] [] (sh, d, g, r) (fun v μ => v = some (.int (fitC (d 237) (d 230) (d 231) f z k)) ∧ μ = (sh, d, g, r)) := by
  intro z
  induction z with
  | zero =>
    intro k u hm
    have hvb : len = k := by omega
    subst hvb
    refine wp_iload_n (j := 3) rfl q28_ok d28_2 ?_
    refine wp_aload_n (j := 0) rfl q28_ok d28_3 ?_
    refine wp_getI q28_ok d28_4 fl_2_19 rfl (by first | assumption | exact so0 hsh rfl) (by first | assumption | rfl) ?_
    refine wp_icmp_ge q28_ok d28_7 (t := 59) rfl (fun h7 => ?_) (fun h7 => ?_)
    · refine wp_iconst (v := 1) (by decide) q28_ok d28_59 ?_
      refine wp_zret q28_ok d28_60 rfl (by first | assumption | exact Or.inl rfl | exact Or.inr rfl) ?_
      exact ⟨rfl, rfl⟩
    · exact absurd (nI_le (Nat.le_refl _) (by omega)) h7
  | succ z ih =>
    intro k u hm
    have hlt : k < len := by omega
    refine wp_iload_n (j := 3) rfl q28_ok d28_2 ?_
    refine wp_aload_n (j := 0) rfl q28_ok d28_3 ?_
    refine wp_getI q28_ok d28_4 fl_2_19 rfl (by first | assumption | exact so0 hsh rfl) (by first | assumption | rfl) ?_
    refine wp_icmp_ge q28_ok d28_7 (t := 59) rfl (fun h7 => ?_) (fun h7 => ?_)
    · exact absurd h7 (nI_ge hlt (by omega))
    · refine wp_iload_n (j := 3) rfl q28_ok d28_10 ?_
      refine wp_bipush (v := 20) (by decide) q28_ok d28_11 ?_
      refine wp_icmp_ge q28_ok d28_13 (t := 59) rfl (fun h13 => ?_) (fun h13 => ?_)
      · exact absurd h13 (nI_ge (show k < 20 by omega) (by decide))
      · refine wp_iload_n (j := 2) rfl q28_ok d28_16 ?_
        refine wp_aload_n (j := 0) rfl q28_ok d28_17 ?_
        refine wp_getR q28_ok d28_18 fl_2_9 rfl (by first | assumption | exact so0 hsh rfl) (by first | assumption | exact hr _ _ _ rfl) ?_
        refine wp_iload_n (j := 3) rfl q28_ok d28_21 ?_
        refine wp_iald (m := 20) q28_ok d28_22 (by first | assumption | exact so0 hsh rfl) (by first | assumption | exact shl hsh (Nat.le_of_ble_eq_true rfl) rfl) (by first | assumption | exact ixn_nI (by omega)) (by first | assumption | rfl) ?_ (shK hsh)
        refine wp_iadd rfl q28_ok d28_23 ?_
        refine wp_istore (j := 4) (Nat.le_of_ble_eq_true rfl) (rfl : _ = [_, _, _, _, _]) q28_ok d28_24 ?_
        refine wp_iload (j := 4) rfl q28_ok d28_26 ?_
        refine wp_if_lt q28_ok d28_28 (t := 51) rfl (fun h28 => ?_) (fun h28 => ?_)
        · refine wp_iconst (v := 0) (by decide) q28_ok d28_51 ?_
          refine wp_zret q28_ok d28_52 rfl (by first | assumption | exact Or.inl rfl | exact Or.inr rfl) ?_
          exact ⟨by rw [fitC, if_pos h28], rfl⟩
        · refine wp_iload (j := 4) rfl q28_ok d28_31 ?_
          refine wp_aload_n (j := 1) rfl q28_ok d28_33 ?_
          refine wp_alen (m := 540) q28_ok d28_34 (shlt hsh (Nat.le_of_ble_eq_true rfl)) (sht hsh (Nat.le_of_ble_eq_true rfl) (Nat.le_of_ble_eq_true rfl)) (by first | assumption | exact shl hsh (Nat.le_of_ble_eq_true rfl) rfl) rfl ?_ (shK hsh)
          refine wp_icmp_ge q28_ok d28_35 (t := 51) rfl (fun h35 => ?_) (fun h35 => ?_)
          · refine wp_iconst (v := 0) (by decide) q28_ok d28_51 ?_
            refine wp_zret q28_ok d28_52 rfl (by first | assumption | exact Or.inl rfl | exact Or.inr rfl) ?_
            exact ⟨by rw [fitC, if_neg h28, if_pos (show (540 : Int32) ≤ f + d 230 k from h35)], rfl⟩
          · refine wp_aload_n (j := 1) rfl q28_ok d28_38 ?_
            refine wp_iload (j := 4) rfl q28_ok d28_39 ?_
            refine wp_bald (m := 540) q28_ok d28_41 (by first | assumption | exact so0 hsh rfl) (by first | assumption | exact shl hsh (Nat.le_of_ble_eq_true rfl) rfl) (ixn_of5 h28 h35) (by first | assumption | rfl) ?_
            refine wp_aload_n (j := 0) rfl q28_ok d28_42 ?_
            refine wp_getR q28_ok d28_43 fl_2_15 rfl (by first | assumption | exact so0 hsh rfl) (by first | assumption | exact hr _ _ _ rfl) ?_
            refine wp_iload_n (j := 3) rfl q28_ok d28_46 ?_
            refine wp_bald (m := 20) q28_ok d28_47 (by first | assumption | exact so0 hsh rfl) (by first | assumption | exact shl hsh (Nat.le_of_ble_eq_true rfl) rfl) (by first | assumption | exact ixn_nI (by omega)) (by first | assumption | rfl) ?_
            refine wp_icmp_eq q28_ok d28_48 (t := 53) rfl (fun h48 => ?_) (fun h48 => ?_)
            · refine wp_iinc (j := 3) rfl (by first | exact inc1 | rfl) (rfl : _ = [_, _, _, _, _]) q28_ok d28_53 ?_
              refine wp_goto (t := 2) rfl q28_ok d28_56 ?_
              have this := ih (k + 1) (some (.int (f + d 230 k))) (by omega)
              refine wp_post this (fun v μ hc => ?_)
              rw [fitC, if_neg h28, if_neg (show ¬ (540 : Int32) ≤ f + d 230 k from h35), if_pos h48]
              exact hc
            · refine wp_iconst (v := 0) (by decide) q28_ok d28_51 ?_
              refine wp_zret q28_ok d28_52 rfl (by first | assumption | exact Or.inl rfl | exact Or.inr rfl) ?_
              exact ⟨by rw [fitC, if_neg h28, if_neg (show ¬ (540 : Int32) ≤ f + d 230 k from h35), if_neg h48], rfl⟩
theorem c_fit {xs : List Int32} {ext : mm_X} {n : Nat} {sh : mm_S} {d : mm_D} {g : mm_G} {r : mm_R} (hsh : shp sh) (hr : rfx r) {len : Nat} (h229 : d 229 2 = nI len) (hl : len ≤ 20) (f : Int32) : wp xs ext (n + 0) 28 0 [some (.ref 229), some (.ref 237), some (.int f), none, none] [] (sh, d, g, r) (fun v μ => v = some (.int (fitC (d 237) (d 230) (d 231) f len 0)) ∧ μ = (sh, d, g, r)) := by
  refine wp_iconst (v := 0) (by decide) q28_ok d28_0 ?_
  refine wp_istore_n (j := 3) (Nat.le_of_ble_eq_true rfl) (rfl : _ = [_, _, _, _, _]) q28_ok d28_1 ?_
  exact c_fit_l hsh hr h229 hl f len 0 none (by omega)
def furC (ms : Nat → Int32) : Nat → Int32
  | 0 => -1
  | k + 1 => if furC ms k < ms k then ms k else furC ms k
def nnN (mt : Nat → Nat) : Nat → Nat
  | 0 => 0
  | k + 1 => if nnN mt k < mt k + 1 then mt k + 1 else nnN mt k
theorem nnN_le {mt : Nat → Nat} : ∀ k, (∀ i, i < k → mt i ≤ 60) → nnN mt k ≤ 61
  | 0, _ => by rw [nnN]; omega
  | k + 1, h => by
    have := nnN_le (mt := mt) k (fun i hi => h i (by omega))
    have := h k (by omega)
    rw [nnN]
    split <;> omega
theorem nnN_gt {mt : Nat → Nat} : ∀ k i, i < k → mt i < nnN mt k
  | 0, i, h => absurd h (Nat.not_lt_zero _)
  | k + 1, i, h => by
    rw [nnN]
    by_cases e : i = k
    · subst e
      split <;> omega
    · have := nnN_gt (mt := mt) k i (by omega)
      split <;> omega
theorem fur_c {ms : Nat → Int32} {mt : Nat → Nat} : ∀ k, (∀ i, i < k → mt i ≤ 60 ∧ ms i = nI (mt i)) → furC ms k = if nnN mt k = 0 then -1 else nI (nnN mt k - 1)
  | 0, _ => rfl
  | k + 1, h => by
    have ih := fur_c (ms := ms) (mt := mt) k (fun i hi => h i (by omega))
    have hl := nnN_le (mt := mt) k (fun i hi => (h i (by omega)).1)
    obtain ⟨h60, hk⟩ := h k (by omega)
    rw [furC, nnN, ih, hk]
    by_cases e : nnN mt k = 0
    · rw [if_pos e, if_pos (show (-1 : Int32) < nI (mt k) from Int32.lt_of_lt_of_le (show (-1 : Int32) < 0 by decide) (nI_pos' (by omega))), e, if_pos (show 0 < mt k + 1 by omega), if_neg (show ¬ mt k + 1 = 0 by omega)]
      rfl
    · rw [if_neg e]
      by_cases q : nnN mt k - 1 < mt k
      · rw [if_pos ((nI_ltI (by omega) (by omega)).mpr q), if_pos (show nnN mt k < mt k + 1 by omega), if_neg (show ¬ mt k + 1 = 0 by omega)]
        rfl
      · rw [if_neg (fun w => q ((nI_ltI (by omega) (by omega)).mp w)), if_neg (show ¬ nnN mt k < mt k + 1 by omega), if_neg e]
theorem fur1 {ms : Nat → Int32} {mt : Nat → Nat} {k : Nat} (h : ∀ i, i < k → mt i ≤ 60 ∧ ms i = nI (mt i)) : furC ms k + 1 = nI (nnN mt k) := by
  rw [fur_c k h]
  by_cases e : nnN mt k = 0
  · rw [if_pos e, e]
    decide
  · rw [if_neg e]
    exact (nI_1 _).trans (by rw [Nat.sub_add_cancel (by omega)])
theorem c_fur_l {xs : List Int32} {ext : mm_X} {n : Nat} {sh : mm_S} {d : mm_D} {g : mm_G} {r : mm_R} (hsh : shp sh) (hr : rfx r) {len : Nat} (h229 : d 229 2 = nI len) (hl : len ≤ 20) : ∀ (z k : Nat), z + k = len → wp xs ext (n + 1) 27 4 [some (.ref 229), some (.int (furC (d 230) k)), some (.int (nI k))] [] (sh, d, g, r) (fun v μ => v = some (.int (furC (d 230) len)) ∧ μ = (sh, d, g, r)) := by
  intro z
  induction z with
  | zero =>
    intro k hm
    have hvb : len = k := by omega
    subst hvb
    refine wp_iload_n (j := 2) rfl q27_ok d27_4 ?_
    refine wp_aload_n (j := 0) rfl q27_ok d27_5 ?_
    refine wp_getI q27_ok d27_6 fl_2_19 rfl (by first | assumption | exact so0 hsh rfl) (by first | assumption | rfl) ?_
    refine wp_icmp_ge q27_ok d27_9 (t := 35) rfl (fun h9 => ?_) (fun h9 => ?_)
    · refine wp_iload_n (j := 1) rfl q27_ok d27_35 ?_
      refine wp_iret q27_ok d27_36 rfl ?_
      exact ⟨rfl, rfl⟩
    · exact absurd (nI_le (Nat.le_refl _) (by omega)) h9
  | succ z ih =>
    intro k hm
    have hlt : k < len := by omega
    refine wp_iload_n (j := 2) rfl q27_ok d27_4 ?_
    refine wp_aload_n (j := 0) rfl q27_ok d27_5 ?_
    refine wp_getI q27_ok d27_6 fl_2_19 rfl (by first | assumption | exact so0 hsh rfl) (by first | assumption | rfl) ?_
    refine wp_icmp_ge q27_ok d27_9 (t := 35) rfl (fun h9 => ?_) (fun h9 => ?_)
    · exact absurd h9 (nI_ge hlt (by omega))
    · refine wp_iload_n (j := 2) rfl q27_ok d27_12 ?_
      refine wp_bipush (v := 20) (by decide) q27_ok d27_13 ?_
      refine wp_icmp_ge q27_ok d27_15 (t := 35) rfl (fun h15 => ?_) (fun h15 => ?_)
      · exact absurd h15 (nI_ge (show k < 20 by omega) (by decide))
      · refine wp_iload_n (j := 1) rfl q27_ok d27_18 ?_
        refine wp_aload_n (j := 0) rfl q27_ok d27_19 ?_
        refine wp_getR q27_ok d27_20 fl_2_9 rfl (by first | assumption | exact so0 hsh rfl) (by first | assumption | exact hr _ _ _ rfl) ?_
        refine wp_iload_n (j := 2) rfl q27_ok d27_23 ?_
        refine wp_iald (m := 20) q27_ok d27_24 (by first | assumption | exact so0 hsh rfl) (by first | assumption | exact shl hsh (Nat.le_of_ble_eq_true rfl) rfl) (by first | assumption | exact ixn_nI (by omega)) (by first | assumption | rfl) ?_ (shK hsh)
        refine wp_cS q27_ok d27_25 ml_2_23 rfl q227_ok rfl rfl rfl (Nat.le_of_ble_eq_true rfl) (Nat.le_of_ble_eq_true rfl) (c_max _ _) (fun v25 μ25 hc => ?_)
        obtain ⟨rfl, rfl⟩ := hc
        refine ⟨mm_le_same rfl, ?_⟩
        refine wp_istore_n (j := 1) (Nat.le_of_ble_eq_true rfl) (rfl : _ = [_, _, _]) q27_ok d27_28 ?_
        refine wp_iinc (j := 2) rfl (by first | exact inc1 | rfl) (rfl : _ = [_, _, _]) q27_ok d27_29 ?_
        refine wp_goto (t := 4) rfl q27_ok d27_32 ?_
        exact ih (k + 1) (by omega)
theorem c_fur {xs : List Int32} {ext : mm_X} {n : Nat} {sh : mm_S} {d : mm_D} {g : mm_G} {r : mm_R} (hsh : shp sh) (hr : rfx r) {len : Nat} (h229 : d 229 2 = nI len) (hl : len ≤ 20) : wp xs ext (n + 1) 27 0 [some (.ref 229), none, none] [] (sh, d, g, r) (fun v μ => v = some (.int (furC (d 230) len)) ∧ μ = (sh, d, g, r)) := by
  refine wp_iconst (v := -1) (by decide) q27_ok d27_0 ?_
  refine wp_istore_n (j := 1) (Nat.le_of_ble_eq_true rfl) (rfl : _ = [_, _, _]) q27_ok d27_1 ?_
  refine wp_iconst (v := 0) (by decide) q27_ok d27_2 ?_
  refine wp_istore_n (j := 2) (Nat.le_of_ble_eq_true rfl) (rfl : _ = [_, _, _]) q27_ok d27_3 ?_
  exact c_fur_l hsh hr h229 hl len 0 (by omega)
theorem c_nadd {xs : List Int32} {ext : mm_X} {n : Nat} {sh : mm_S} {d : mm_D} {g : mm_G} {r : mm_R} (hsh : shp sh) (hr : rfx r) {len : Nat} (h229 : d 229 2 = nI len) (hl : len < 20) (t b : Int32) (hb : b = 0 ∨ b = 1) : wp xs ext (n + 0) 26 0 [some (.ref 229), some (.int t), some (.int b)] [] (sh, d, g, r) (fun v μ => v = none ∧ μ = (sh, mm_up (mm_up (mm_up d 230 len t) 231 len b) 229 2 (nI (len + 1)), g, r)) := by
  refine wp_aload_n (j := 0) rfl q26_ok d26_0 ?_
  refine wp_getI q26_ok d26_1 fl_2_19 rfl (by first | assumption | exact so0 hsh rfl) (by first | assumption | rfl) ?_
  refine wp_if_lt q26_ok d26_4 (t := 46) rfl (fun h4 => ?_) (fun h4 => ?_)
  · exact absurd h4 (nI_pos (by omega))
  · refine wp_aload_n (j := 0) rfl q26_ok d26_7 ?_
    refine wp_getI q26_ok d26_8 fl_2_19 rfl (by first | assumption | exact so0 hsh rfl) (by first | assumption | rfl) ?_
    refine wp_bipush (v := 20) (by decide) q26_ok d26_11 ?_
    refine wp_icmp_ge q26_ok d26_13 (t := 46) rfl (fun h13 => ?_) (fun h13 => ?_)
    · exact absurd h13 (nI_ge (show len < 20 by omega) (by decide))
    · refine wp_aload_n (j := 0) rfl q26_ok d26_16 ?_
      refine wp_getR q26_ok d26_17 fl_2_9 rfl (by first | assumption | exact so0 hsh rfl) (by first | assumption | exact hr _ _ _ rfl) ?_
      refine wp_aload_n (j := 0) rfl q26_ok d26_20 ?_
      refine wp_getI q26_ok d26_21 fl_2_19 rfl (by first | assumption | exact so0 hsh rfl) (by first | assumption | rfl) ?_
      refine wp_iload_n (j := 1) rfl q26_ok d26_24 ?_
      refine wp_iast (m := 20) q26_ok d26_25 (by first | assumption | exact so0 hsh rfl) (by first | assumption | exact shl hsh (Nat.le_of_ble_eq_true rfl) rfl) (by first | assumption | exact ixn_nI (by omega)) ?_
      refine wp_aload_n (j := 0) rfl q26_ok d26_26 ?_
      refine wp_getR q26_ok d26_27 fl_2_15 rfl (by first | assumption | exact so0 hsh rfl) (by first | assumption | exact hr _ _ _ rfl) ?_
      refine wp_aload_n (j := 0) rfl q26_ok d26_30 ?_
      refine wp_getI q26_ok d26_31 fl_2_19 rfl (by first | assumption | exact so0 hsh rfl) ((congrFun (mm_up_ne (by decide)) _).trans h229) ?_
      refine wp_iload_n (j := 2) rfl q26_ok d26_34 ?_
      refine wp_bast (m := 20) q26_ok d26_35 (by first | assumption | exact so0 hsh rfl) (by first | assumption | exact shl hsh (Nat.le_of_ble_eq_true rfl) rfl) (by first | assumption | exact ixn_nI (by omega)) (by first | assumption | exact Or.inl rfl | exact Or.inr rfl) ?_
      refine wp_aload_n (j := 0) rfl q26_ok d26_36 ?_
      refine wp_dup rfl q26_ok d26_37 ?_
      refine wp_getI q26_ok d26_38 fl_2_19 rfl (by first | assumption | exact so0 hsh rfl) ((congrFun ((mm_up_ne (by decide)).trans (mm_up_ne (by decide))) _).trans h229) ?_
      refine wp_iconst (v := 1) (by decide) q26_ok d26_41 ?_
      refine wp_iadd rfl q26_ok d26_42 ?_
      refine wp_putI q26_ok d26_43 fl_2_19 rfl (by first | assumption | exact so0 hsh rfl) (Or.inl rfl) ?_
      refine wp_vret q26_ok d26_46 rfl ?_
      exact ⟨rfl, by rw [show nI len + 1 = nI (len + 1) from nI_1 len]⟩
