/-! ===== many minutes of the trial ===== -/
theorem st4_row {d : mm_D} {c : Nat} (h : c ≠ 237) : st4 d c = d c := by
  unfold st4
  split
  · rfl
  · split
    · rfl
    · exact mm_up_ne h
theorem stpD_row {d : mm_D} {r : mm_R} {s np nb c : Nat} (h1 : c ≠ 232) (h2 : c ≠ 233) (h3 : c ≠ 234) (h4 : c ≠ 235) (h5 : c ≠ 237) : stpD d r s np nb c = d c := by
  unfold stpD st5
  rw [mm_up_ne h1, st4_row h5]
  unfold st3
  rw [mm_up_ne h1, pasD_row h2 h3 h4]
  unfold st2 st1
  rw [mm_up_ne h1, mm_up_ne h1]
theorem stpD_col {d : mm_D} {r : mm_R} {s np nb j : Nat} (h1 : j ≠ 12) (h2 : j ≠ 13) (h3 : j ≠ 14) (h4 : j ≠ 6) : stpD d r s np nb 232 j = d 232 j := by
  unfold stpD st5
  rw [mm_up_at, if_neg h4, st4_row (by omega)]
  unfold st3
  rw [mm_up_at, if_neg h3, pasD_row (by omega) (by omega) (by omega)]
  unfold st2
  rw [mm_up_at, if_neg h2]
  unfold st1
  rw [mm_up_at, if_neg h1]
/-- what stands while a trial runs -/
def TC (sh : mm_S) (d : mm_D) (r : mm_R) (np nb s : Nat) : Prop := r 232 2 = some s ∧ so sh s 6 ∧ ¬ scr s ∧ d 4 5 = nI np ∧ np ≤ 6 ∧ d 4 6 = nI nb ∧ nb ≤ 2 ∧ movOK d np ∧ habs d r
theorem habs_eq {d d' : mm_D} {r : mm_R} (h : ∀ c, c < 232 ∨ 238 ≤ c → d' c = d c) (hb : habs d r) : habs d' r := by
  intro p x hp hx
  obtain ⟨hh, len, h1, h2, h3⟩ := hb p x hp hx
  have e1 : d' x = d x := h _ (by rcases hh with rfl | rfl | rfl | rfl | rfl <;> omega)
  have e2 : d' (x + 1) = d (x + 1) := h _ (by rcases hh with rfl | rfl | rfl | rfl | rfl <;> omega)
  exact ⟨hh, len, by rw [e1]; exact h1, h2, by rw [e2]; exact h3⟩
theorem TC_step {sh : mm_S} {d : mm_D} {r : mm_R} {np nb s : Nat} (h : TC sh d r np nb s) : TC sh (stpD d r s np nb) r np nb s := by
  obtain ⟨h1, h2, h3, h4, h5, h6, h7, h8, h9⟩ := h
  have er : ∀ c, c < 232 ∨ 238 ≤ c → stpD d r s np nb c = d c := fun c hc => stpD_row (by omega) (by omega) (by omega) (by omega) (by omega)
  refine ⟨h1, h2, h3, by rw [er 4 (by omega)]; exact h4, h5, by rw [er 4 (by omega)]; exact h6, h7, ?_, habs_eq er h9⟩
  unfold movOK at h8 ⊢
  rw [stpD_col (by omega) (by omega) (by omega) (by omega)]
  exact h8
theorem TC_ag {sh : mm_S} {d d' : mm_D} {r : mm_R} {np nb s : Nat} (ha : ag d d') (h : TC sh d r np nb s) : TC sh d' r np nb s := by
  obtain ⟨h1, h2, h3, h4, h5, h6, h7, h8, h9⟩ := h
  have e4 : d' 4 = d 4 := ha _ (by unfold scr; omega)
  have e9 : d' 232 = d 232 := ha _ (by unfold scr; omega)
  refine ⟨h1, h2, h3, by rw [e4]; exact h4, h5, by rw [e4]; exact h6, h7, ?_, habs_ag ha h9⟩
  unfold movOK at h8 ⊢
  rw [e9]
  exact h8
def stpN (d : mm_D) (r : mm_R) (s np nb : Nat) : Nat → mm_D
  | 0 => d
  | k + 1 => stpD (stpN d r s np nb k) r s np nb
theorem TC_N {sh : mm_S} {d : mm_D} {r : mm_R} {np nb s : Nat} (h : TC sh d r np nb s) : ∀ k, TC sh (stpN d r s np nb k) r np nb s
  | 0 => h
  | k + 1 => TC_step (TC_N h k)
theorem c_stepT {xs : List Int32} {ext : mm_X} {n : Nat} {sh : mm_S} {d : mm_D} {g : mm_G} {r : mm_R} (hsh : shp sh) (hr : rfx r) {np nb s : Nat} (h : TC sh d r np nb s) (d1 : mm_D) (ha : ag d d1) : wp xs ext (n + 5) 82 0 [some (.ref 232)] [] (sh, d1, g, r) (fun v μ => v = none ∧ ∃ d2, μ = (sh, d2, g, r) ∧ ag (stpD d r s np nb) d2) := by
  obtain ⟨h1, h2, h3, h4, h5, h6, h7, h8, h9⟩ := h
  exact c_step hsh hr h1 h2 h3 h4 h5 h6 h7 h8 h9 d1 ha
theorem c_run_l {xs : List Int32} {ext : mm_X} {n : Nat} {sh : mm_S} {d : mm_D} {g : mm_G} {r : mm_R} (hsh : shp sh) (hr : rfx r) {np nb s N : Nat} (hN : N < 2 ^ 31) (h : TC sh d r np nb s) : ∀ (z k : Nat) (d1 : mm_D), z + k = N → ag (stpN d r s np nb k) d1 → wp xs ext (n + 6) 83 2 [some (.ref 232), some (.int (nI N)), some (.int (nI k))] [] (sh, d1, g, r) (fun v μ => v = none ∧ ∃ d2, μ = (sh, d2, g, r) ∧ ag (stpN d r s np nb N) d2) := by
  intro z
  induction z with
  | zero =>
    intro k d1 hm ha
    have hvb : N = k := by omega
    subst hvb
    refine wp_iload_n (j := 2) rfl q83_ok d83_2 ?_
    refine wp_iload_n (j := 1) rfl q83_ok d83_3 ?_
    refine wp_icmp_ge q83_ok d83_4 (t := 17) rfl (fun h4 => ?_) (fun h4 => ?_)
    · refine wp_vret q83_ok d83_17 rfl ?_
      exact ⟨rfl, d1, rfl, ha⟩
    · exact absurd (nI_le (Nat.le_refl _) (by omega)) h4
  | succ z ih =>
    intro k d1 hm ha
    have hlt : k < N := by omega
    refine wp_iload_n (j := 2) rfl q83_ok d83_2 ?_
    refine wp_iload_n (j := 1) rfl q83_ok d83_3 ?_
    refine wp_icmp_ge q83_ok d83_4 (t := 17) rfl (fun h4 => ?_) (fun h4 => ?_)
    · exact absurd h4 (nI_ge hlt (by omega))
    · refine wp_aload_n (j := 0) rfl q83_ok d83_7 ?_
      refine wp_cV q83_ok d83_8 ml_9_115 rfl q82_ok (u := 9) rfl (by first | assumption | exact so0 hsh rfl) rfl (Nat.le_of_ble_eq_true rfl) (Nat.le_of_ble_eq_true rfl) (c_stepT hsh hr (TC_N h k) d1 ha) (fun v8 μ8 hc => ?_)
      obtain ⟨rfl, d2, rfl, ha2⟩ := hc
      refine ⟨mm_le_same rfl, ?_⟩
      refine wp_iinc (j := 2) rfl (by first | exact inc1 | rfl) (rfl : _ = [_, _, _]) q83_ok d83_11 ?_
      refine wp_goto (t := 2) rfl q83_ok d83_14 ?_
      exact ih (k + 1) d2 (by omega) ha2
theorem c_run {xs : List Int32} {ext : mm_X} {n : Nat} {sh : mm_S} {d : mm_D} {g : mm_G} {r : mm_R} (hsh : shp sh) (hr : rfx r) {np nb s N : Nat} (hN : N < 2 ^ 31) (h : TC sh d r np nb s) (d1 : mm_D) (ha : ag d d1) : wp xs ext (n + 6) 83 0 [some (.ref 232), some (.int (nI N)), none] [] (sh, d1, g, r) (fun v μ => v = none ∧ ∃ d2, μ = (sh, d2, g, r) ∧ ag (stpN d r s np nb N) d2) := by
  refine wp_iconst (v := 0) (by decide) q83_ok d83_0 ?_
  refine wp_istore_n (j := 2) (Nat.le_of_ble_eq_true rfl) (rfl : _ = [_, _, _]) q83_ok d83_1 ?_
  exact c_run_l hsh hr hN h N 0 d1 (by omega) ha
def lateS (d : mm_D) (r : mm_R) (s np nb b : Nat) : Nat → Int32
  | 0 => 0
  | k + 1 => lateS d r s np nb b k + stpN d r s np nb (k + 1) 234 b
theorem c_late_l {xs : List Int32} {ext : mm_X} {n : Nat} {sh : mm_S} {d : mm_D} {g : mm_G} {r : mm_R} (hsh : shp sh) (hr : rfx r) {np nb s N b : Nat} (hb : b < 2) (hN : N < 2 ^ 31) (h : TC sh d r np nb s) : ∀ (z k : Nat) (d1 : mm_D), z + k = N → ag (stpN d r s np nb k) d1 → wp xs ext (n + 6) 84 5 [some (.ref 232), some (.int (nI b)), some (.int (nI N)), some (.int (lateS d r s np nb b k)), some (.int (nI k))] [] (sh, d1, g, r) (fun v μ => v = some (.int (lateS d r s np nb b N)) ∧ ∃ d2, μ = (sh, d2, g, r) ∧ ag (stpN d r s np nb N) d2) := by
  intro z
  induction z with
  | zero =>
    intro k d1 hm ha
    have hvb : N = k := by omega
    subst hvb
    refine wp_iload (j := 4) rfl q84_ok d84_5 ?_
    refine wp_iload_n (j := 2) rfl q84_ok d84_7 ?_
    refine wp_icmp_ge q84_ok d84_8 (t := 42) rfl (fun h8 => ?_) (fun h8 => ?_)
    · refine wp_iload_n (j := 3) rfl q84_ok d84_42 ?_
      refine wp_iret q84_ok d84_43 rfl ?_
      exact ⟨rfl, d1, rfl, ha⟩
    · exact absurd (nI_le (Nat.le_refl _) (by omega)) h8
  | succ z ih =>
    intro k d1 hm ha
    have hlt : k < N := by omega
    refine wp_iload (j := 4) rfl q84_ok d84_5 ?_
    refine wp_iload_n (j := 2) rfl q84_ok d84_7 ?_
    refine wp_icmp_ge q84_ok d84_8 (t := 42) rfl (fun h8 => ?_) (fun h8 => ?_)
    · exact absurd h8 (nI_ge hlt (by omega))
    · refine wp_iload_n (j := 1) rfl q84_ok d84_11 ?_
      refine wp_if_lt q84_ok d84_12 (t := 42) rfl (fun h12 => ?_) (fun h12 => ?_)
      · exact absurd h12 (nI_pos (by omega))
      · refine wp_iload_n (j := 1) rfl q84_ok d84_15 ?_
        refine wp_iconst (v := 2) (by decide) q84_ok d84_16 ?_
        refine wp_icmp_ge q84_ok d84_17 (t := 42) rfl (fun h17 => ?_) (fun h17 => ?_)
        · exact absurd h17 (nI_ge hb (by decide))
        · refine wp_aload_n (j := 0) rfl q84_ok d84_20 ?_
          refine wp_cV q84_ok d84_21 ml_9_115 rfl q82_ok (u := 9) rfl (by first | assumption | exact so0 hsh rfl) rfl (Nat.le_of_ble_eq_true rfl) (Nat.le_of_ble_eq_true rfl) (c_stepT hsh hr (TC_N h k) d1 ha) (fun v21 μ21 hc => ?_)
          obtain ⟨rfl, d2, rfl, ha2⟩ := hc
          refine ⟨mm_le_same rfl, ?_⟩
          refine wp_iload_n (j := 3) rfl q84_ok d84_24 ?_
          refine wp_aload_n (j := 0) rfl q84_ok d84_25 ?_
          refine wp_getR q84_ok d84_26 fl_9_12 rfl (by first | assumption | exact so0 hsh rfl) (by first | assumption | exact hr _ _ _ rfl) ?_
          refine wp_getR q84_ok d84_29 fl_9_93 rfl (by first | assumption | exact so0 hsh rfl) (by first | assumption | exact hr _ _ _ rfl) ?_
          refine wp_iload_n (j := 1) rfl q84_ok d84_32 ?_
          refine wp_iald (m := 2) q84_ok d84_33 (by first | assumption | exact so0 hsh rfl) (by first | assumption | exact shl hsh (Nat.le_of_ble_eq_true rfl) rfl) (by first | assumption | exact ixn_nI (by omega)) (congrFun (ha2 _ (by unfold scr; omega)) _) ?_ (shK hsh)
          refine wp_iadd rfl q84_ok d84_34 ?_
          refine wp_istore_n (j := 3) (Nat.le_of_ble_eq_true rfl) (rfl : _ = [_, _, _, _, _]) q84_ok d84_35 ?_
          refine wp_iinc (j := 4) rfl (by first | exact inc1 | rfl) (rfl : _ = [_, _, _, _, _]) q84_ok d84_36 ?_
          refine wp_goto (t := 5) rfl q84_ok d84_39 ?_
          exact ih (k + 1) d2 (by omega) ha2
theorem c_late {xs : List Int32} {ext : mm_X} {n : Nat} {sh : mm_S} {d : mm_D} {g : mm_G} {r : mm_R} (hsh : shp sh) (hr : rfx r) {np nb s N b : Nat} (hb : b < 2) (hN : N < 2 ^ 31) (h : TC sh d r np nb s) (d1 : mm_D) (ha : ag d d1) : wp xs ext (n + 6) 84 0 [some (.ref 232), some (.int (nI b)), some (.int (nI N)), none, none] [] (sh, d1, g, r) (fun v μ => v = some (.int (lateS d r s np nb b N)) ∧ ∃ d2, μ = (sh, d2, g, r) ∧ ag (stpN d r s np nb N) d2) := by
  refine wp_iconst (v := 0) (by decide) q84_ok d84_0 ?_
  refine wp_istore_n (j := 3) (Nat.le_of_ble_eq_true rfl) (rfl : _ = [_, _, _, _, _]) q84_ok d84_1 ?_
  refine wp_iconst (v := 0) (by decide) q84_ok d84_2 ?_
  refine wp_istore (j := 4) (Nat.le_of_ble_eq_true rfl) (rfl : _ = [_, _, _, _, _]) q84_ok d84_3 ?_
  exact c_late_l hsh hr hb hN h N 0 d1 (by omega) ha
theorem cpT_ag {d d' : mm_D} (ha : ag d d') {a b : Nat} (hA : ntw a) (hB : ntw b) : ag (cpT d a b) (cpT d' a b) := by
  have h0 : ag (cpT0 d a b) (cpT0 d' a b) := by unfold cpT0; rw [ha _ hB.1]; exact ag_up ha _ _ _
  have h1 : ag (cpT1 d a b) (cpT1 d' a b) := by unfold cpT1; rw [h0 _ hB.2.1]; exact ag_up h0 _ _ _
  have h2 : ag (cpT2 d a b) (cpT2 d' a b) := by unfold cpT2; rw [h1 _ hB.2.2]; exact ag_up h1 _ _ _
  have h3 : ag (cpT3 d a b) (cpT3 d' a b) := by unfold cpT3; rw [h2 _ hB.2.1]; exact ag_up h2 _ _ _
  unfold cpT
  rw [h3 _ hB.2.2]
  exact ag_up h3 _ _ _
theorem cpT_row {d : mm_D} {a b c : Nat} (h0 : c ≠ a) (h1 : c ≠ a + 1) (h2 : c ≠ a + 2) : cpT d a b c = d c := by
  unfold cpT
  rw [mm_up_ne h2]
  unfold cpT3
  rw [mm_up_ne h1]
  unfold cpT2
  rw [mm_up_ne h2]
  unfold cpT1
  rw [mm_up_ne h1]
  unfold cpT0
  rw [mm_up_ne h0]
theorem viewC_r {d d' : mm_D} (h : ∀ c, c < 17 → d' c = d c) : viewC d' = viewC d := by
  unfold viewC
  rw [h 4 (by omega), h 16 (by omega)]
theorem nearC_r {d d' : mm_D} (h : ∀ c, c < 17 → d' c = d c) (v : Int32) : ∀ k, k ≤ 6 → nearC d' v k = nearC d v k
  | 0, _ => rfl
  | k + 1, hk => by rw [nearC, nearC, nearC_r h v k (by omega), h (6 + k) (by omega)]
def rst0 (d : mm_D) (s : Nat) : mm_D := mm_up (mm_up (mm_up (mm_up (cpT d 233 s) 232 6 0) 232 7 0) 232 8 0) 232 9 (-1)
def rstD (d : mm_D) (s np : Nat) : mm_D := mm_up (rst0 d s) 232 11 (nearC d (viewC d) np)
theorem rst0_row {d : mm_D} {s c : Nat} (h : c ≠ 232) (h1 : c ≠ 233) (h2 : c ≠ 234) (h3 : c ≠ 235) : rst0 d s c = d c := by
  unfold rst0
  rw [mm_up_ne h, mm_up_ne h, mm_up_ne h, mm_up_ne h, cpT_row h1 h2 h3]
theorem rst0_ag {d d' : mm_D} (ha : ag d d') {s : Nat} (hs : ntw s) : ag (rst0 d s) (rst0 d' s) := by
  unfold rst0
  exact ag_up (ag_up (ag_up (ag_up (cpT_ag ha ntw233 hs) _ _ _) _ _ _) _ _ _) _ _ _
theorem c_restart {xs : List Int32} {ext : mm_X} {n : Nat} {sh : mm_S} {d : mm_D} {g : mm_G} {r : mm_R} (hsh : shp sh) (hr : rfx r) {np s : Nat} (hs : r 232 2 = some s) (htw : tw sh r s) (hns : ntw s) (hnp : d 4 5 = nI np) (h6 : np ≤ 6) (d1 : mm_D) (ha : ag d d1) : wp xs ext (n + 2) 79 0 [some (.ref 232)] [] (sh, d1, g, r) (fun v μ => v = none ∧ ∃ d2, μ = (sh, d2, mm_up g 233 3 (g s 3), r) ∧ ag (rstD d s np) d2) := by
  have h17 : ∀ c, c < 17 → rst0 d1 s c = d c := fun c hc => by rw [rst0_row (by omega) (by omega) (by omega) (by omega)]; exact ha _ (by unfold scr; omega)
  have hnp1 : rst0 d1 s 4 5 = nI np := by rw [h17 4 (by omega)]; exact hnp
  refine wp_aload_n (j := 0) rfl q79_ok d79_0 ?_
  refine wp_getR q79_ok d79_1 fl_9_12 rfl (by first | assumption | exact so0 hsh rfl) (by first | assumption | exact hr _ _ _ rfl) ?_
  refine wp_aload_n (j := 0) rfl q79_ok d79_4 ?_
  refine wp_getR q79_ok d79_5 fl_9_30 rfl (by first | assumption | exact so0 hsh rfl) hs ?_
  refine wp_cV q79_ok d79_8 ml_9_55 rfl q47_ok (u := 6) rfl (by first | assumption | exact so0 hsh rfl) rfl (Nat.le_of_ble_eq_true rfl) (Nat.le_of_ble_eq_true rfl) (c_tcopy hsh hr (tw233 hsh hr) htw) (fun v8 μ8 hc => ?_)
  obtain ⟨rfl, rfl⟩ := hc
  refine ⟨mm_le_same rfl, ?_⟩
  refine wp_aload_n (j := 0) rfl q79_ok d79_11 ?_
  refine wp_iconst (v := 0) (by decide) q79_ok d79_12 ?_
  refine wp_putI q79_ok d79_13 fl_9_59 rfl (by first | assumption | exact so0 hsh rfl) (Or.inl rfl) ?_
  refine wp_aload_n (j := 0) rfl q79_ok d79_16 ?_
  refine wp_iconst (v := 0) (by decide) q79_ok d79_17 ?_
  refine wp_putI q79_ok d79_18 fl_9_62 rfl (by first | assumption | exact so0 hsh rfl) (Or.inl rfl) ?_
  refine wp_aload_n (j := 0) rfl q79_ok d79_21 ?_
  refine wp_iconst (v := 0) (by decide) q79_ok d79_22 ?_
  refine wp_putI q79_ok d79_23 fl_9_65 rfl (by first | assumption | exact so0 hsh rfl) (Or.inl rfl) ?_
  refine wp_aload_n (j := 0) rfl q79_ok d79_26 ?_
  refine wp_iconst (v := -1) (by decide) q79_ok d79_27 ?_
  refine wp_putI q79_ok d79_28 fl_9_68 rfl (by first | assumption | exact so0 hsh rfl) (Or.inl rfl) ?_
  refine wp_aload_n (j := 0) rfl q79_ok d79_31 ?_
  refine wp_aload_n (j := 0) rfl q79_ok d79_32 ?_
  refine wp_getR q79_ok d79_33 fl_9_26 rfl (by first | assumption | exact so0 hsh rfl) (by first | assumption | exact hr _ _ _ rfl) ?_
  refine wp_aload_n (j := 0) rfl q79_ok d79_36 ?_
  refine wp_getR q79_ok d79_37 fl_9_26 rfl (by first | assumption | exact so0 hsh rfl) (by first | assumption | exact hr _ _ _ rfl) ?_
  refine wp_cV q79_ok d79_40 ml_9_71 rfl q58_ok (u := 7) rfl (by first | assumption | exact so0 hsh rfl) rfl (Nat.le_of_ble_eq_true rfl) (Nat.le_of_ble_eq_true rfl) (c_view (d := rst0 d1 s) hsh hr) (fun v40 μ40 hc => ?_)
  obtain ⟨rfl, rfl⟩ := hc
  refine ⟨mm_le_same rfl, ?_⟩
  refine wp_cV q79_ok d79_43 ml_9_74 rfl q67_ok (u := 7) rfl (by first | assumption | exact so0 hsh rfl) rfl (Nat.le_of_ble_eq_true rfl) (Nat.le_of_ble_eq_true rfl) (c_near (d := rst0 d1 s) hsh hr hnp1 h6 _) (fun v43 μ43 hc => ?_)
  obtain ⟨rfl, rfl⟩ := hc
  refine ⟨mm_le_same rfl, ?_⟩
  rw [nearC_r h17 _ np h6, viewC_r h17]
  refine wp_putI q79_ok d79_46 fl_9_78 rfl (by first | assumption | exact so0 hsh rfl) (Or.inl rfl) ?_
  refine wp_vret q79_ok d79_49 rfl ?_
  exact ⟨rfl, _, rfl, by unfold rstD; exact ag_up (rst0_ag ha hns) _ _ _⟩
