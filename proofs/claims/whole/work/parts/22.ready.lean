/-! ===== the trial made ready ===== -/
theorem TC_up {sh : mm_S} {d : mm_D} {r : mm_R} {np nb s : Nat} (h : TC sh d r np nb s) {j : Nat} (hj : j ≠ 9) (v : Int32) : TC sh (mm_up d 232 j v) r np nb s := by
  obtain ⟨h1, h2, h3, h4, h5, h6, h7, h8, h9⟩ := h
  refine ⟨h1, h2, h3, by rw [mm_up_ne (by omega)]; exact h4, h5, by rw [mm_up_ne (by omega)]; exact h6, h7, ?_, habs_eq (fun c hc => mm_up_ne (by omega)) h9⟩
  unfold movOK at h8 ⊢
  rw [mm_up_at, if_neg (fun e => hj e.symm)]
  exact h8
theorem rstD_row {d : mm_D} {s np c : Nat} (h : c ≠ 232) (h1 : c ≠ 233) (h2 : c ≠ 234) (h3 : c ≠ 235) : rstD d s np c = d c := by
  unfold rstD
  rw [mm_up_ne h, rst0_row h h1 h2 h3]
theorem TC_rst {sh : mm_S} {d : mm_D} {r : mm_R} {np nb s : Nat} (h : TC sh d r np nb s) : TC sh (rstD d s np) r np nb s := by
  obtain ⟨h1, h2, h3, h4, h5, h6, h7, h8, h9⟩ := h
  have er : ∀ c, c < 232 ∨ 238 ≤ c → rstD d s np c = d c := fun c hc => rstD_row (by omega) (by omega) (by omega) (by omega)
  refine ⟨h1, h2, h3, by rw [er 4 (by omega)]; exact h4, h5, by rw [er 4 (by omega)]; exact h6, h7, Or.inl ?_, habs_eq er h9⟩
  unfold rstD rst0
  rw [mm_up_at, if_neg (by decide), mm_up_at, if_pos rfl]
def undS (d : mm_D) (r : mm_R) (s np nb : Nat) : Nat → Nat → Int32
  | 0, _ => 1
  | m + 1, k => if stpN d r s np nb (k + 1) 232 14 &&& 1 = 0 then undS d r s np nb m (k + 1) else 0
theorem c_under_l {xs : List Int32} {ext : mm_X} {n : Nat} {sh : mm_S} {d : mm_D} {g : mm_G} {r : mm_R} (hsh : shp sh) (hr : rfx r) {np nb s N : Nat} (hN : N < 2 ^ 31) (h : TC sh d r np nb s) (w : Int32) : ∀ (z k : Nat) (d1 : mm_D), z + k = N → ag (stpN d r s np nb k) d1 → wp xs ext (n + 6) 86 11 [some (.ref 232), some (.int w), some (.int (nI N)), some (.int (nI k))] [] (sh, d1, g, r) (fun v μ => v = some (.int (undS d r s np nb z k)) ∧ ∃ d2 j, μ = (sh, d2, g, r) ∧ ag (stpN d r s np nb j) d2) := by
  intro z
  induction z with
  | zero =>
    intro k d1 hm ha
    have hvb : N = k := by omega
    subst hvb
    refine wp_iload_n (j := 3) rfl q86_ok d86_11 ?_
    refine wp_iload_n (j := 2) rfl q86_ok d86_12 ?_
    refine wp_icmp_ge q86_ok d86_13 (t := 37) rfl (fun h13 => ?_) (fun h13 => ?_)
    · refine wp_iconst (v := 1) (by decide) q86_ok d86_37 ?_
      refine wp_zret q86_ok d86_38 rfl (by first | assumption | exact Or.inl rfl | exact Or.inr rfl) ?_
      exact ⟨rfl, d1, _, rfl, ha⟩
    · exact absurd (nI_le (Nat.le_refl _) (by omega)) h13
  | succ z ih =>
    intro k d1 hm ha
    have hlt : k < N := by omega
    refine wp_iload_n (j := 3) rfl q86_ok d86_11 ?_
    refine wp_iload_n (j := 2) rfl q86_ok d86_12 ?_
    refine wp_icmp_ge q86_ok d86_13 (t := 37) rfl (fun h13 => ?_) (fun h13 => ?_)
    · exact absurd h13 (nI_ge hlt (by omega))
    · refine wp_aload_n (j := 0) rfl q86_ok d86_16 ?_
      refine wp_cV q86_ok d86_17 ml_9_115 rfl q82_ok (u := 9) rfl (by first | assumption | exact so0 hsh rfl) rfl (Nat.le_of_ble_eq_true rfl) (Nat.le_of_ble_eq_true rfl) (c_stepT hsh hr (TC_N h k) d1 ha) (fun v17 μ17 hc => ?_)
      obtain ⟨rfl, d2, rfl, ha2⟩ := hc
      refine ⟨mm_le_same rfl, ?_⟩
      refine wp_aload_n (j := 0) rfl q86_ok d86_20 ?_
      refine wp_getI q86_ok d86_21 fl_9_112 rfl (by first | assumption | exact so0 hsh rfl) (congrFun (ha2 _ (by unfold scr; omega)) _) ?_
      refine wp_iconst (v := 1) (by decide) q86_ok d86_24 ?_
      refine wp_iand rfl q86_ok d86_25 ?_
      refine wp_if_eq q86_ok d86_26 (t := 31) rfl (fun h26 => ?_) (fun h26 => ?_)
      · refine wp_iinc (j := 3) rfl (by first | exact inc1 | rfl) (rfl : _ = [_, _, _, _]) q86_ok d86_31 ?_
        refine wp_goto (t := 11) rfl q86_ok d86_34 ?_
        refine wp_post (ih (k + 1) d2 (by omega) ha2) (fun v μ hv => ?_)
        rw [undS, if_pos (by assumption)]
        exact hv
      · refine wp_iconst (v := 0) (by decide) q86_ok d86_29 ?_
        refine wp_zret q86_ok d86_30 rfl (by first | assumption | exact Or.inl rfl | exact Or.inr rfl) ?_
        exact ⟨by rw [undS, if_neg (by assumption)], d2, k + 1, rfl, ha2⟩
theorem c_under {xs : List Int32} {ext : mm_X} {n : Nat} {sh : mm_S} {d : mm_D} {g : mm_G} {r : mm_R} (hsh : shp sh) (hr : rfx r) {np nb s N : Nat} (hN : N < 2 ^ 31) (h : TC sh d r np nb s) (htw : tw sh r s) (hns : ntw s) (w : Int32) (d1 : mm_D) (ha : ag d d1) : wp xs ext (n + 6) 86 0 [some (.ref 232), some (.int w), some (.int (nI N)), none] [] (sh, d1, g, r) (fun v μ => v = some (.int (undS (mm_up (rstD d s np) 232 8 w) r s np nb N 0)) ∧ ∃ d2 j, μ = (sh, d2, mm_up g 233 3 (g s 3), r) ∧ ag (stpN (mm_up (rstD d s np) 232 8 w) r s np nb j) d2) := by
  refine wp_aload_n (j := 0) rfl q86_ok d86_0 ?_
  refine wp_cV q86_ok d86_1 ml_9_52 rfl q79_ok (u := 9) rfl (by first | assumption | exact so0 hsh rfl) rfl (Nat.le_of_ble_eq_true rfl) (Nat.le_of_ble_eq_true rfl) (c_restart hsh hr h.1 htw hns h.2.2.2.1 h.2.2.2.2.1 d1 ha) (fun v1 μ1 hc => ?_)
  obtain ⟨rfl, d2, rfl, ha2⟩ := hc
  refine ⟨mm_le_same rfl, ?_⟩
  refine wp_aload_n (j := 0) rfl q86_ok d86_4 ?_
  refine wp_iload_n (j := 1) rfl q86_ok d86_5 ?_
  refine wp_putI q86_ok d86_6 fl_9_65 rfl (by first | assumption | exact so0 hsh rfl) (Or.inl rfl) ?_
  refine wp_iconst (v := 0) (by decide) q86_ok d86_9 ?_
  refine wp_istore_n (j := 3) (Nat.le_of_ble_eq_true rfl) (rfl : _ = [_, _, _, _]) q86_ok d86_10 ?_
  exact c_under_l hsh hr hN (TC_up (TC_rst h) (by decide) w) w N 0 _ (by omega) (ag_up ha2 _ _ _)
theorem c_move {xs : List Int32} {ext : mm_X} {n : Nat} {sh : mm_S} {d : mm_D} {g : mm_G} {r : mm_R} (hsh : shp sh) (hr : rfx r) (p f : Int32) : wp xs ext (n + 0) 80 0 [some (.ref 232), some (.int p), some (.int f)] [] (sh, d, g, r) (fun v μ => v = none ∧ μ = (sh, mm_up (mm_up d 232 9 p) 232 10 f, g, r)) := by
  refine wp_aload_n (j := 0) rfl q80_ok d80_0 ?_
  refine wp_iload_n (j := 1) rfl q80_ok d80_1 ?_
  refine wp_putI q80_ok d80_2 fl_9_68 rfl (by first | assumption | exact so0 hsh rfl) (Or.inl rfl) ?_
  refine wp_aload_n (j := 0) rfl q80_ok d80_5 ?_
  refine wp_iload_n (j := 2) rfl q80_ok d80_6 ?_
  refine wp_putI q80_ok d80_7 fl_9_80 rfl (by first | assumption | exact so0 hsh rfl) (Or.inl rfl) ?_
  refine wp_vret q80_ok d80_10 rfl ?_
  exact ⟨rfl, rfl⟩
def offD (d : mm_D) (w l : Int32) : mm_D := if d 232 15 = -1 then mm_up (mm_up d 232 15 w) 232 16 l else if d 232 16 ≤ l then d else mm_up (mm_up d 232 15 w) 232 16 l
theorem c_offer {xs : List Int32} {ext : mm_X} {n : Nat} {sh : mm_S} {d : mm_D} {g : mm_G} {r : mm_R} (hsh : shp sh) (hr : rfx r) (w l : Int32) : wp xs ext (n + 0) 85 0 [some (.ref 232), some (.int w), some (.int l)] [] (sh, d, g, r) (fun v μ => v = none ∧ μ = (sh, offD d w l, g, r)) := by
  refine wp_aload_n (j := 0) rfl q85_ok d85_0 ?_
  refine wp_getI q85_ok d85_1 fl_9_33 rfl (by first | assumption | exact so0 hsh rfl) (by first | assumption | rfl) ?_
  refine wp_iconst (v := -1) (by decide) q85_ok d85_4 ?_
  refine wp_icmp_eq q85_ok d85_5 (t := 16) rfl (fun h5 => ?_) (fun h5 => ?_)
  · refine wp_aload_n (j := 0) rfl q85_ok d85_16 ?_
    refine wp_iload_n (j := 1) rfl q85_ok d85_17 ?_
    refine wp_putI q85_ok d85_18 fl_9_33 rfl (by first | assumption | exact so0 hsh rfl) (Or.inl rfl) ?_
    refine wp_aload_n (j := 0) rfl q85_ok d85_21 ?_
    refine wp_iload_n (j := 2) rfl q85_ok d85_22 ?_
    refine wp_putI q85_ok d85_23 fl_9_118 rfl (by first | assumption | exact so0 hsh rfl) (Or.inl rfl) ?_
    refine wp_vret q85_ok d85_26 rfl ?_
    exact ⟨rfl, by unfold offD; simp [*]⟩
  · refine wp_iload_n (j := 2) rfl q85_ok d85_8 ?_
    refine wp_aload_n (j := 0) rfl q85_ok d85_9 ?_
    refine wp_getI q85_ok d85_10 fl_9_118 rfl (by first | assumption | exact so0 hsh rfl) (by first | assumption | rfl) ?_
    refine wp_icmp_ge q85_ok d85_13 (t := 26) rfl (fun h13 => ?_) (fun h13 => ?_)
    · refine wp_vret q85_ok d85_26 rfl ?_
      exact ⟨rfl, by unfold offD; simp [*]⟩
    · refine wp_aload_n (j := 0) rfl q85_ok d85_16 ?_
      refine wp_iload_n (j := 1) rfl q85_ok d85_17 ?_
      refine wp_putI q85_ok d85_18 fl_9_33 rfl (by first | assumption | exact so0 hsh rfl) (Or.inl rfl) ?_
      refine wp_aload_n (j := 0) rfl q85_ok d85_21 ?_
      refine wp_iload_n (j := 2) rfl q85_ok d85_22 ?_
      refine wp_putI q85_ok d85_23 fl_9_118 rfl (by first | assumption | exact so0 hsh rfl) (Or.inl rfl) ?_
      refine wp_vret q85_ok d85_26 rfl ?_
      exact ⟨rfl, by unfold offD; simp [*]⟩
def pr1 (d : mm_D) (r : mm_R) (np : Nat) : mm_D := mm_up (mm_up d 232 15 (-1)) 232 5 (wavC (mm_up d 232 15 (-1)) r np)
def prS (d : mm_D) (r : mm_R) (t np : Nat) : Nat → mm_D
  | 0 => d
  | k + 1 => mm_up (prS d r t np k) 236 k (lookersC (prS d r t np k) r (prS d r t np k t 0 + nI k) 0 (prS d r t np k 232 5 ^^^ -1) np)
theorem prS_row {d : mm_D} {r : mm_R} {t np c : Nat} (h : c ≠ 236) : ∀ k, prS d r t np k c = d c
  | 0 => rfl
  | k + 1 => by rw [prS, mm_up_ne h, prS_row h k]
theorem habs_prS {d : mm_D} {r : mm_R} {t np : Nat} (hb : habs d r) (k : Nat) : habs (prS d r t np k) r := habs_eq (fun c hc => prS_row (by omega) k) hb
theorem c_prep_l {xs : List Int32} {ext : mm_X} {n : Nat} {sh : mm_S} {d : mm_D} {g : mm_G} {r : mm_R} (hsh : shp sh) (hr : rfx r) {np t N : Nat} (hs : r 232 2 = some t) (htw : tw sh r t) (hns : ntw t) (hnp : d 4 5 = nI np) (h6 : np ≤ 6) (hbs : habs d r) (hN : N ≤ 540) : ∀ (z k : Nat) (d1 : mm_D), z + k = N → ag (prS d r t np k) d1 → wp xs ext (n + 5) 78 23 [some (.ref 232), some (.ref t), some (.int (nI N)), some (.int (nI k))] [] (sh, d1, g, r) (fun v μ => v = none ∧ ∃ d2, μ = (sh, d2, mm_up g 233 3 (g t 3), r) ∧ ag (rstD (prS d r t np N) t np) d2) := by
  intro z
  induction z with
  | zero =>
    intro k d1 hm ha
    have hvb : N = k := by omega
    subst hvb
    have hnp0 : prS d r t np N 4 5 = nI np := by rw [prS_row (by omega)]; exact hnp
    have hnp1 : d1 4 5 = nI np := by rw [ha _ (by unfold scr; omega)]; exact hnp0
    refine wp_iload_n (j := 3) rfl q78_ok d78_23 ?_
    refine wp_iload_n (j := 2) rfl q78_ok d78_24 ?_
    refine wp_icmp_ge q78_ok d78_25 (t := 69) rfl (fun h25 => ?_) (fun h25 => ?_)
    · refine wp_aload_n (j := 0) rfl q78_ok d78_69 ?_
      refine wp_cV q78_ok d78_70 ml_9_52 rfl q79_ok (u := 9) rfl (by first | assumption | exact so0 hsh rfl) rfl (Nat.le_of_ble_eq_true rfl) (Nat.le_of_ble_eq_true rfl) (c_restart hsh hr hs htw hns hnp0 h6 d1 ha) (fun v70 μ70 hc => ?_)
      obtain ⟨rfl, d2, rfl, ha2⟩ := hc
      refine ⟨mm_le_same rfl, ?_⟩
      refine wp_vret q78_ok d78_73 rfl ?_
      exact ⟨rfl, d2, rfl, ha2⟩
    · exact absurd (nI_le (Nat.le_refl _) (by omega)) h25
  | succ z ih =>
    intro k d1 hm ha
    have hlt : k < N := by omega
    have hnp0 : prS d r t np k 4 5 = nI np := by rw [prS_row (by omega)]; exact hnp
    have hnp1 : d1 4 5 = nI np := by rw [ha _ (by unfold scr; omega)]; exact hnp0
    refine wp_iload_n (j := 3) rfl q78_ok d78_23 ?_
    refine wp_iload_n (j := 2) rfl q78_ok d78_24 ?_
    refine wp_icmp_ge q78_ok d78_25 (t := 69) rfl (fun h25 => ?_) (fun h25 => ?_)
    · exact absurd h25 (nI_ge hlt (by omega))
    · refine wp_iload_n (j := 3) rfl q78_ok d78_28 ?_
      refine wp_aload_n (j := 0) rfl q78_ok d78_29 ?_
      refine wp_getR q78_ok d78_30 fl_9_18 rfl (by first | assumption | exact so0 hsh rfl) (by first | assumption | exact hr _ _ _ rfl) ?_
      refine wp_alen (m := 540) q78_ok d78_33 (shlt hsh (Nat.le_of_ble_eq_true rfl)) (sht hsh (Nat.le_of_ble_eq_true rfl) (Nat.le_of_ble_eq_true rfl)) (by first | assumption | exact shl hsh (Nat.le_of_ble_eq_true rfl) rfl) rfl ?_ (shK hsh)
      refine wp_icmp_ge q78_ok d78_34 (t := 69) rfl (fun h34 => ?_) (fun h34 => ?_)
      · exact absurd h34 (nI_ge (show k < 540 by omega) (by decide))
      · refine wp_aload_n (j := 0) rfl q78_ok d78_37 ?_
        refine wp_getR q78_ok d78_38 fl_9_18 rfl (by first | assumption | exact so0 hsh rfl) (by first | assumption | exact hr _ _ _ rfl) ?_
        refine wp_iload_n (j := 3) rfl q78_ok d78_41 ?_
        refine wp_aload_n (j := 0) rfl q78_ok d78_42 ?_
        refine wp_getR q78_ok d78_43 fl_9_26 rfl (by first | assumption | exact so0 hsh rfl) (by first | assumption | exact hr _ _ _ rfl) ?_
        refine wp_aload_n (j := 1) rfl q78_ok d78_46 ?_
        refine wp_getI q78_ok d78_47 fl_9_45 rfl htw.1 (congrFun (ha _ hns.1) _) ?_
        refine wp_iload_n (j := 3) rfl q78_ok d78_50 ?_
        refine wp_iadd rfl q78_ok d78_51 ?_
        refine wp_iconst (v := 0) (by decide) q78_ok d78_52 ?_
        refine wp_aload_n (j := 0) rfl q78_ok d78_53 ?_
        refine wp_getI q78_ok d78_54 fl_9_43 rfl (by first | assumption | exact so0 hsh rfl) (by first | assumption | exact congrFun (ha _ (by unfold scr; omega)) _ | rfl) ?_
        refine wp_iconst (v := -1) (by decide) q78_ok d78_57 ?_
        refine wp_ixor rfl q78_ok d78_58 ?_
        refine wp_cV q78_ok d78_59 ml_9_48 rfl q65_ok (u := 7) rfl (by first | assumption | exact so0 hsh rfl) rfl (Nat.le_of_ble_eq_true rfl) (Nat.le_of_ble_eq_true rfl) (c_lookers hsh hr hnp1 h6 _ _ _ (habs_ag ha (habs_prS hbs k))) (fun v59 μ59 hc => ?_)
        obtain ⟨rfl, d2, rfl, ha2⟩ := hc
        refine ⟨mm_le_same rfl, ?_⟩
        rw [lookersC_ag ha (habs_prS hbs k) _ _ _ np h6]
        refine wp_iast (m := 540) q78_ok d78_62 (by first | assumption | exact so0 hsh rfl) (by first | assumption | exact shl hsh (Nat.le_of_ble_eq_true rfl) rfl) (by first | assumption | exact ixn_nI (by omega)) ?_
        refine wp_iinc (j := 3) rfl (by first | exact inc1 | rfl) (rfl : _ = [_, _, _, _]) q78_ok d78_63 ?_
        refine wp_goto (t := 23) rfl q78_ok d78_66 ?_
        exact ih (k + 1) _ (by omega) (by rw [prS]; exact ag_up (ag_trans ha ha2) _ _ _)
theorem rfx_up {r : mm_R} (hr : rfx r) {c k : Nat} (h : r0 c k = none) (v : Option Nat) : rfx (mm_up r c k v) := by
  intro a j y e
  have e0 := hr a j y e
  unfold mm_up
  by_cases h1 : a = c
  · subst h1
    by_cases h2 : j = k
    · subst h2
      rw [h] at e
      cases e
    · simp only [if_pos, if_neg h2]
      exact e0
  · simp only [if_neg h1]
    exact e0
theorem habs_r {d : mm_D} {r r' : mm_R} (h : r' 12 = r 12) (hb : habs d r) : habs d r' := fun p x hp hx => hb p x hp (by rw [← h]; exact hx)
theorem tw_up {sh : mm_S} {r : mm_R} {t : Nat} (h : tw sh r t) (e : t ≠ 232) (v : Option Nat) : tw sh (mm_up r 232 2 v) t := by
  obtain ⟨h1, h2, h3, h4, h5, h6, h7⟩ := h
  exact ⟨h1, h2, h3, h4, h5, by rw [mm_up_ne e]; exact h6, by rw [mm_up_ne e]; exact h7⟩
theorem c_prepare {xs : List Int32} {ext : mm_X} {n : Nat} {sh : mm_S} {d : mm_D} {g : mm_G} {r : mm_R} (hsh : shp sh) (hr : rfx r) {np t N : Nat} (htw : tw sh r t) (hne : t ≠ 232) (hns : ntw t) (hnp : d 4 5 = nI np) (h6 : np ≤ 6) (hbs : habs d r) (hN : N ≤ 540) (d1 : mm_D) (ha : ag d d1) : wp xs ext (n + 5) 78 0 [some (.ref 232), some (.ref t), some (.int (nI N)), none] [] (sh, d1, g, r) (fun v μ => v = none ∧ ∃ d2, μ = (sh, d2, mm_up g 233 3 (g t 3), mm_up r 232 2 (some t)) ∧ ag (rstD (prS (pr1 d (mm_up r 232 2 (some t)) np) (mm_up r 232 2 (some t)) t np N) t np) d2) := by
  have hr' : rfx (mm_up r 232 2 (some t)) := rfx_up hr rfl _
  have ha' := ag_up ha 232 15 (-1)
  have hbs1 : habs (mm_up d 232 15 (-1)) (mm_up r 232 2 (some t)) := habs_eq (fun c hc => mm_up_ne (by omega)) (habs_r (mm_up_ne (by omega)) hbs)
  have hnp1 : mm_up d1 232 15 (-1) 4 5 = nI np := by rw [mm_up_ne (by omega), ha _ (by unfold scr; omega)]; exact hnp
  have hnp2 : pr1 d (mm_up r 232 2 (some t)) np 4 5 = nI np := by unfold pr1; rw [mm_up_ne (by omega), mm_up_ne (by omega)]; exact hnp
  have hbs2 : habs (pr1 d (mm_up r 232 2 (some t)) np) (mm_up r 232 2 (some t)) := habs_eq (fun c hc => mm_up_ne (by omega)) hbs1
  refine wp_aload_n (j := 0) rfl q78_ok d78_0 ?_
  refine wp_aload_n (j := 1) rfl q78_ok d78_1 ?_
  refine wp_putR q78_ok d78_2 fl_9_30 rfl (by first | assumption | exact so0 hsh rfl) (Or.inl rfl) htw.1.1 ?_
  refine wp_aload_n (j := 0) rfl q78_ok d78_5 ?_
  refine wp_iconst (v := -1) (by decide) q78_ok d78_6 ?_
  refine wp_putI q78_ok d78_7 fl_9_33 rfl (by first | assumption | exact so0 hsh rfl) (Or.inl rfl) ?_
  refine wp_aload_n (j := 0) rfl q78_ok d78_10 ?_
  refine wp_aload_n (j := 0) rfl q78_ok d78_11 ?_
  refine wp_getR q78_ok d78_12 fl_9_26 rfl (by first | assumption | exact so0 hsh rfl) (hr' _ _ _ rfl) ?_
  refine wp_cV q78_ok d78_15 ml_9_37 rfl q68_ok (u := 7) rfl (by first | assumption | exact so0 hsh rfl) rfl (Nat.le_of_ble_eq_true rfl) (Nat.le_of_ble_eq_true rfl) (c_wav hsh hr' hnp1 h6 (habs_ag ha' hbs1)) (fun v15 μ15 hc => ?_)
  obtain ⟨rfl, rfl⟩ := hc
  refine ⟨mm_le_same rfl, ?_⟩
  rw [wavC_ag ha' hbs1 np h6]
  refine wp_putI q78_ok d78_18 fl_9_43 rfl (by first | assumption | exact so0 hsh rfl) (Or.inl rfl) ?_
  refine wp_iconst (v := 0) (by decide) q78_ok d78_21 ?_
  refine wp_istore_n (j := 3) (Nat.le_of_ble_eq_true rfl) (rfl : _ = [_, _, _, _]) q78_ok d78_22 ?_
  exact c_prep_l hsh hr' ((mm_up_at 2).trans (if_pos rfl)) (tw_up htw hne _) hns hnp2 h6 hbs2 hN N 0 _ (by omega) (by unfold prS pr1; exact ag_up ha' _ _ _)
