/-! ===== the past, and the minutes that go ===== -/
theorem cpT_0 {d : mm_D} {a b : Nat} : cpT d a b a 0 = d b 0 := by
  unfold cpT
  rw [mm_up_ne (by omega)]
  unfold cpT3
  rw [mm_up_ne (by omega)]
  unfold cpT2
  rw [mm_up_ne (by omega)]
  unfold cpT1
  rw [mm_up_ne (by omega)]
  unfold cpT0
  rw [mm_up_at, if_pos rfl]
theorem hA_cpT {d : mm_D} {a b : Nat} {A : wo_A} (hab : a + 3 ≤ b ∨ b + 3 ≤ a) (h : hA d b A) : hA (cpT d a b) a A := by
  have r0 : ∀ c, c ≠ a → cpT0 d a b c = d c := fun c hc => by unfold cpT0; exact mm_up_ne hc
  have r1 : ∀ c, c ≠ a → c ≠ a + 1 → cpT1 d a b c = d c := fun c h0 h1 => by unfold cpT1; rw [mm_up_ne h1, r0 c h0]
  have r2 : ∀ c, c ≠ a → c ≠ a + 1 → c ≠ a + 2 → cpT2 d a b c = d c := fun c h0 h1 h2 => by unfold cpT2; rw [mm_up_ne h2, r1 c h0 h1]
  have r3 : ∀ c, c ≠ a → c ≠ a + 1 → c ≠ a + 2 → cpT3 d a b c = d c := fun c h0 h1 h2 => by unfold cpT3; rw [mm_up_ne h1, r2 c h0 h1 h2]
  refine ⟨by rw [cpT_0]; exact h.1, fun j hj => ?_⟩
  have e : j = 0 ∨ j = 1 := by omega
  constructor
  · unfold cpT
    rw [mm_up_ne (by omega)]
    unfold cpT3
    rw [mm_up_at]
    rcases e with rfl | rfl
    · rw [if_neg (by decide)]
      unfold cpT2
      rw [mm_up_ne (by omega)]
      unfold cpT1
      rw [mm_up_at, if_pos rfl, r0 _ (by omega)]
      exact (h.2 0 hj).1
    · rw [if_pos rfl, r2 _ (by omega) (by omega) (by omega)]
      exact (h.2 1 hj).1
  · unfold cpT
    rw [mm_up_at]
    rcases e with rfl | rfl
    · rw [if_neg (by decide)]
      unfold cpT3
      rw [mm_up_ne (by omega)]
      unfold cpT2
      rw [mm_up_at, if_pos rfl, r1 _ (by omega) (by omega)]
      exact (h.2 0 hj).2
    · rw [if_pos rfl, r3 _ (by omega) (by omega) (by omega)]
      exact (h.2 1 hj).2
theorem hA_row {d d' : mm_D} {w : Nat} {A : wo_A} (h : hA d w A) (e0 : d' w = d w) (e1 : d' (w + 1) = d (w + 1)) (e2 : d' (w + 2) = d (w + 2)) : hA d' w A := by
  unfold hA
  rw [e0, e1, e2]
  exact h
theorem so60 {sh : mm_S} (hsh : shp sh) {j : Nat} (hj : j < 60) : so sh (49 + 3 * j) 6 ∧ so sh (49 + 3 * j + 1) 20 ∧ (sh.2.2.2 (49 + 3 * j + 1)).2 = 2 ∧ so sh (49 + 3 * j + 2) 20 ∧ (sh.2.2.2 (49 + 3 * j + 2)).2 = 2 := by
  have e : ∀ j, j < 60 → lay (49 + 3 * j) = (6, (lay 49).2) ∧ lay (49 + 3 * j + 1) = (20, 2) ∧ lay (49 + 3 * j + 2) = (20, 2) := by decide +kernel
  obtain ⟨e0, e1, e2⟩ := e j hj
  have s : ∀ c t m, lay c = (t, m) → c < 282 → so sh c t ∧ (sh.2.2.2 c).2 = m := fun c t m h1 h2 => ⟨⟨by rw [hsh.1]; exact h2, by rw [hsh.2 _ h2, h1]⟩, by rw [hsh.2 _ h2, h1]⟩
  exact ⟨(s _ _ _ e0 (by omega)).1, (s _ _ _ e1 (by omega)).1, (s _ _ _ e1 (by omega)).2, (s _ _ _ e2 (by omega)).1, (s _ _ _ e2 (by omega)).2⟩
theorem tw60 {sh : mm_S} {r : mm_R} (hsh : shp sh) (hr : rfx r) {j : Nat} (hj : j < 60) : tw sh r (49 + 3 * j) := by
  have e : ∀ j, j < 60 → r0 (49 + 3 * j) 1 = some (49 + 3 * j + 1) ∧ r0 (49 + 3 * j) 2 = some (49 + 3 * j + 2) := by decide +kernel
  obtain ⟨a, b, c, d, f⟩ := so60 hsh hj
  exact ⟨a, b, c, d, f, hr _ _ _ (e j hj).1, hr _ _ _ (e j hj).2⟩
theorem r48 {r : mm_R} (hr : rfx r) {j : Nat} (hj : j < 60) : r 48 j = some (49 + 3 * j) := by
  have e : ∀ j, j < 60 → r0 48 j = some (49 + 3 * j) := by decide +kernel
  exact hr _ _ _ (e j hj)
def kpD (d : mm_D) (nx len : Nat) : mm_D := mm_up (mm_up (cpT d (49 + 3 * nx) 38) 47 1 (if (60 : Int32) ≤ nI nx + 1 then 0 else nI nx + 1)) 47 2 (if (60 : Int32) < nI len + 1 then 60 else nI len + 1)
theorem c_pforget {xs : List Int32} {ext : mm_X} {n : Nat} {sh : mm_S} {d : mm_D} {g : mm_G} {r : mm_R} (hsh : shp sh) (hr : rfx r)  : wp xs ext (n + 0) 30 0 [some (.ref 47)] [] (sh, d, g, r) (fun v μ => v = none ∧ μ = (sh, mm_up d 47 2 0, g, r)) := by
  refine wp_aload_n (j := 0) rfl q30_ok d30_0 ?_
  refine wp_iconst (v := 0) (by decide) q30_ok d30_1 ?_
  refine wp_putI q30_ok d30_2 fl_3_18 rfl (by first | assumption | exact so0 hsh rfl) (Or.inl rfl) ?_
  refine wp_vret q30_ok d30_5 rfl ?_
  exact ⟨rfl, rfl⟩
theorem c_keep {xs : List Int32} {ext : mm_X} {n : Nat} {sh : mm_S} {d : mm_D} {g : mm_G} {r : mm_R} (hsh : shp sh) (hr : rfx r) {nx len : Nat} (h1 : d 47 1 = nI nx) (hx : nx < 60) (h2 : d 47 2 = nI len) (hl : len ≤ 60) : wp xs ext (n + 2) 31 0 [some (.ref 47), some (.ref 38)] [] (sh, d, g, r) (fun v μ => v = none ∧ μ = (sh, kpD d nx len, mm_up g (49 + 3 * nx) 3 (g 38 3), r)) := by
  refine wp_aload_n (j := 0) rfl q31_ok d31_0 ?_
  refine wp_getI q31_ok d31_1 fl_3_22 rfl (by first | assumption | exact so0 hsh rfl) (by first | assumption | rfl) ?_
  refine wp_if_lt q31_ok d31_4 (t := 19) rfl (fun h4 => ?_) (fun h4 => ?_)
  · exact absurd h4 (nI_pos (by omega))
  · refine wp_aload_n (j := 0) rfl q31_ok d31_7 ?_
    refine wp_getI q31_ok d31_8 fl_3_22 rfl (by first | assumption | exact so0 hsh rfl) (by first | assumption | rfl) ?_
    refine wp_aload_n (j := 0) rfl q31_ok d31_11 ?_
    refine wp_getR q31_ok d31_12 fl_3_11 rfl (by first | assumption | exact so0 hsh rfl) (by first | assumption | exact hr _ _ _ rfl) ?_
    refine wp_alen (m := 60) q31_ok d31_15 (shlt hsh (Nat.le_of_ble_eq_true rfl)) (sht hsh (Nat.le_of_ble_eq_true rfl) (Nat.le_of_ble_eq_true rfl)) (by first | assumption | exact shl hsh (Nat.le_of_ble_eq_true rfl) rfl) rfl ?_ (shK hsh)
    refine wp_icmp_lt q31_ok d31_16 (t := 24) rfl (fun h16 => ?_) (fun h16 => ?_)
    · refine wp_aload_n (j := 0) rfl q31_ok d31_24 ?_
      refine wp_getR q31_ok d31_25 fl_3_11 rfl (by first | assumption | exact so0 hsh rfl) (by first | assumption | exact hr _ _ _ rfl) ?_
      refine wp_aload_n (j := 0) rfl q31_ok d31_28 ?_
      refine wp_getI q31_ok d31_29 fl_3_22 rfl (by first | assumption | exact so0 hsh rfl) (by first | assumption | rfl) ?_
      refine wp_aald (m := 60) q31_ok d31_32 (t := 24) (by decide) (by first | assumption | exact so0 hsh rfl) (by first | assumption | exact shl hsh (Nat.le_of_ble_eq_true rfl) rfl) (by first | assumption | exact ixn_nI (by omega)) (r48 hr hx) ?_
      refine wp_ifnull q31_ok d31_33 ?_
      refine wp_aload_n (j := 0) rfl q31_ok d31_36 ?_
      refine wp_getR q31_ok d31_37 fl_3_11 rfl (by first | assumption | exact so0 hsh rfl) (by first | assumption | exact hr _ _ _ rfl) ?_
      refine wp_aload_n (j := 0) rfl q31_ok d31_40 ?_
      refine wp_getI q31_ok d31_41 fl_3_22 rfl (by first | assumption | exact so0 hsh rfl) (by first | assumption | rfl) ?_
      refine wp_aald (m := 60) q31_ok d31_44 (t := 24) (by decide) (by first | assumption | exact so0 hsh rfl) (by first | assumption | exact shl hsh (Nat.le_of_ble_eq_true rfl) rfl) (by first | assumption | exact ixn_nI (by omega)) (r48 hr hx) ?_
      refine wp_aload_n (j := 1) rfl q31_ok d31_45 ?_
      have hs6 : so sh (49 + 3 * nx) 6 := (so60 hsh hx).1
      have hcp := c_tcopy (xs := xs) (ext := ext) (n := n + 1) (d := d) (g := g) hsh hr (tw60 hsh hr hx) (tw38 hsh hr)
      refine wp_cV q31_ok d31_46 ml_3_25 rfl q47_ok (u := 6) rfl (by first | assumption | exact so0 hsh rfl) rfl (Nat.le_of_ble_eq_true rfl) (Nat.le_of_ble_eq_true rfl) (hcp) (fun v46 μ46 hc => ?_)
      obtain ⟨rfl, rfl⟩ := hc
      refine ⟨mm_le_same rfl, ?_⟩
      refine wp_aload_n (j := 0) rfl q31_ok d31_49 ?_
      refine wp_aload_n (j := 0) rfl q31_ok d31_50 ?_
      refine wp_getI q31_ok d31_51 fl_3_22 rfl (by first | assumption | exact so0 hsh rfl) ((congrFun (cpT_row (by omega) (by omega) (by omega)) _).trans h1) ?_
      refine wp_iconst (v := 1) (by decide) q31_ok d31_54 ?_
      refine wp_iadd rfl q31_ok d31_55 ?_
      refine wp_aload_n (j := 0) rfl q31_ok d31_56 ?_
      refine wp_getR q31_ok d31_57 fl_3_11 rfl (by first | assumption | exact so0 hsh rfl) (by first | assumption | exact hr _ _ _ rfl) ?_
      refine wp_alen (m := 60) q31_ok d31_60 (shlt hsh (Nat.le_of_ble_eq_true rfl)) (sht hsh (Nat.le_of_ble_eq_true rfl) (Nat.le_of_ble_eq_true rfl)) (by first | assumption | exact shl hsh (Nat.le_of_ble_eq_true rfl) rfl) rfl ?_ (shK hsh)
      refine wp_icmp_ge q31_ok d31_61 (t := 73) rfl (fun h61 => ?_) (fun h61 => ?_)
      · refine wp_iconst (v := 0) (by decide) q31_ok d31_73 ?_
        refine wp_putI q31_ok d31_74 fl_3_22 rfl (by first | assumption | exact so0 hsh rfl) (Or.inl rfl) ?_
        refine wp_aload_n (j := 0) rfl q31_ok d31_77 ?_
        refine wp_aload_n (j := 0) rfl q31_ok d31_78 ?_
        refine wp_getI q31_ok d31_79 fl_3_18 rfl (by first | assumption | exact so0 hsh rfl) (((mm_up_at 2).trans (if_neg (by decide))).trans ((congrFun (cpT_row (by omega) (by omega) (by omega)) _).trans h2)) ?_
        refine wp_iconst (v := 1) (by decide) q31_ok d31_82 ?_
        refine wp_iadd rfl q31_ok d31_83 ?_
        refine wp_aload_n (j := 0) rfl q31_ok d31_84 ?_
        refine wp_getR q31_ok d31_85 fl_3_11 rfl (by first | assumption | exact so0 hsh rfl) (by first | assumption | exact hr _ _ _ rfl) ?_
        refine wp_alen (m := 60) q31_ok d31_88 (shlt hsh (Nat.le_of_ble_eq_true rfl)) (sht hsh (Nat.le_of_ble_eq_true rfl) (Nat.le_of_ble_eq_true rfl)) (by first | assumption | exact shl hsh (Nat.le_of_ble_eq_true rfl) rfl) rfl ?_ (shK hsh)
        refine wp_cS q31_ok d31_89 ml_3_29 rfl q229_ok rfl rfl rfl (Nat.le_of_ble_eq_true rfl) (Nat.le_of_ble_eq_true rfl) (c_min _ _) (fun v89 μ89 hc => ?_)
        obtain ⟨rfl, rfl⟩ := hc
        refine ⟨mm_le_same rfl, ?_⟩
        refine wp_putI q31_ok d31_92 fl_3_18 rfl (by first | assumption | exact so0 hsh rfl) (Or.inl rfl) ?_
        refine wp_vret q31_ok d31_95 rfl ?_
        exact ⟨rfl, by unfold kpD; rw [if_pos (show (60 : Int32) ≤ nI nx + 1 from h61)]; rfl⟩
      · refine wp_aload_n (j := 0) rfl q31_ok d31_64 ?_
        refine wp_getI q31_ok d31_65 fl_3_22 rfl (by first | assumption | exact so0 hsh rfl) ((congrFun (cpT_row (by omega) (by omega) (by omega)) _).trans h1) ?_
        refine wp_iconst (v := 1) (by decide) q31_ok d31_68 ?_
        refine wp_iadd rfl q31_ok d31_69 ?_
        refine wp_goto (t := 74) rfl q31_ok d31_70 ?_
        refine wp_putI q31_ok d31_74 fl_3_22 rfl (by first | assumption | exact so0 hsh rfl) (Or.inl rfl) ?_
        refine wp_aload_n (j := 0) rfl q31_ok d31_77 ?_
        refine wp_aload_n (j := 0) rfl q31_ok d31_78 ?_
        refine wp_getI q31_ok d31_79 fl_3_18 rfl (by first | assumption | exact so0 hsh rfl) (((mm_up_at 2).trans (if_neg (by decide))).trans ((congrFun (cpT_row (by omega) (by omega) (by omega)) _).trans h2)) ?_
        refine wp_iconst (v := 1) (by decide) q31_ok d31_82 ?_
        refine wp_iadd rfl q31_ok d31_83 ?_
        refine wp_aload_n (j := 0) rfl q31_ok d31_84 ?_
        refine wp_getR q31_ok d31_85 fl_3_11 rfl (by first | assumption | exact so0 hsh rfl) (by first | assumption | exact hr _ _ _ rfl) ?_
        refine wp_alen (m := 60) q31_ok d31_88 (shlt hsh (Nat.le_of_ble_eq_true rfl)) (sht hsh (Nat.le_of_ble_eq_true rfl) (Nat.le_of_ble_eq_true rfl)) (by first | assumption | exact shl hsh (Nat.le_of_ble_eq_true rfl) rfl) rfl ?_ (shK hsh)
        refine wp_cS q31_ok d31_89 ml_3_29 rfl q229_ok rfl rfl rfl (Nat.le_of_ble_eq_true rfl) (Nat.le_of_ble_eq_true rfl) (c_min _ _) (fun v89 μ89 hc => ?_)
        obtain ⟨rfl, rfl⟩ := hc
        refine ⟨mm_le_same rfl, ?_⟩
        refine wp_putI q31_ok d31_92 fl_3_18 rfl (by first | assumption | exact so0 hsh rfl) (Or.inl rfl) ?_
        refine wp_vret q31_ok d31_95 rfl ?_
        exact ⟨rfl, by unfold kpD; rw [if_neg (show ¬ (60 : Int32) ≤ nI nx + 1 from h61)]; rfl⟩
    · exact absurd ((nI_ltI (show nx < 2 ^ 31 by omega) (by decide)).mpr (show nx < 60 by omega)) h16
def nxP (nx : Nat) : Nat := if nx = 0 then 59 else nx - 1
theorem nxP_lt {nx : Nat} (h : nx < 60) : nxP nx < 60 := by
  unfold nxP
  split <;> omega
def rsD (d : mm_D) (nx len : Nat) : mm_D := cpT (mm_up (mm_up d 47 2 (nI len - 1)) 47 1 (nI (nxP nx))) 38 (49 + 3 * nxP nx)
theorem c_restore {xs : List Int32} {ext : mm_X} {n : Nat} {sh : mm_S} {d : mm_D} {g : mm_G} {r : mm_R} (hsh : shp sh) (hr : rfx r) {nx len : Nat} (h1 : d 47 1 = nI nx) (hx : nx < 60) (h2 : d 47 2 = nI len) (hl : len ≤ 60) : wp xs ext (n + 2) 32 0 [some (.ref 47), some (.ref 38), none] [] (sh, d, g, r) (fun v μ => (len = 0 → v = some (.int 0) ∧ μ = (sh, d, g, r)) ∧ (¬ len = 0 → v = some (.int 1) ∧ μ = (sh, rsD d nx len, mm_up g 38 3 (g (49 + 3 * nxP nx) 3), r))) := by
  have hxp := nxP_lt hx
  refine wp_aload_n (j := 0) rfl q32_ok d32_0 ?_
  refine wp_getI q32_ok d32_1 fl_3_22 rfl (by first | assumption | exact so0 hsh rfl) (by first | assumption | rfl) ?_
  refine wp_if_le q32_ok d32_4 (t := 28) rfl (fun h4 => ?_) (fun h4 => ?_)
  · have hn0 : nx = 0 := Nat.le_zero.mp ((nI_leI (by omega) (by decide)).mp (show nI nx ≤ nI 0 from h4))
    have hnp : nxP nx = 59 := if_pos hn0
    refine wp_aload_n (j := 0) rfl q32_ok d32_28 ?_
    refine wp_getR q32_ok d32_29 fl_3_11 rfl (by first | assumption | exact so0 hsh rfl) (by first | assumption | exact hr _ _ _ rfl) ?_
    refine wp_alen (m := 60) q32_ok d32_32 (shlt hsh (Nat.le_of_ble_eq_true rfl)) (sht hsh (Nat.le_of_ble_eq_true rfl) (Nat.le_of_ble_eq_true rfl)) (by first | assumption | exact shl hsh (Nat.le_of_ble_eq_true rfl) rfl) rfl ?_ (shK hsh)
    refine wp_iconst (v := 1) (by decide) q32_ok d32_33 ?_
    refine wp_isub (show (60 : Int32) - 1 = nI (nxP nx) from by rw [hnp]; decide) q32_ok d32_34 ?_
    refine wp_istore_n (j := 2) (Nat.le_of_ble_eq_true rfl) (rfl : _ = [_, _, _]) q32_ok d32_35 ?_
    refine wp_aload_n (j := 0) rfl q32_ok d32_36 ?_
    refine wp_getI q32_ok d32_37 fl_3_18 rfl (by first | assumption | exact so0 hsh rfl) (by first | assumption | rfl) ?_
    refine wp_iconst (v := 1) (by decide) q32_ok d32_40 ?_
    refine wp_icmp_lt q32_ok d32_41 (t := 57) rfl (fun h41 => ?_) (fun h41 => ?_)
    · have hl0 : len < 1 := (nI_ltI (by omega) (by decide)).mp (show nI len < nI 1 from h41)
      refine wp_iconst (v := 0) (by decide) q32_ok d32_57 ?_
      refine wp_zret q32_ok d32_58 rfl (by first | assumption | exact Or.inl rfl | exact Or.inr rfl) ?_
      exact ⟨fun _ => ⟨rfl, rfl⟩, fun q => absurd (show len = 0 by omega) q⟩
    · have hl1 : ¬ len < 1 := fun q => h41 ((nI_ltI (by omega) (by decide)).mpr q)
      refine wp_iload_n (j := 2) rfl q32_ok d32_44 ?_
      refine wp_if_lt q32_ok d32_45 (t := 57) rfl (fun h45 => ?_) (fun h45 => ?_)
      · exact absurd h45 (nI_pos (by omega))
      · refine wp_aload_n (j := 0) rfl q32_ok d32_48 ?_
        refine wp_getR q32_ok d32_49 fl_3_11 rfl (by first | assumption | exact so0 hsh rfl) (by first | assumption | exact hr _ _ _ rfl) ?_
        refine wp_iload_n (j := 2) rfl q32_ok d32_52 ?_
        refine wp_aald (m := 60) q32_ok d32_53 (t := 24) (by decide) (by first | assumption | exact so0 hsh rfl) (by first | assumption | exact shl hsh (Nat.le_of_ble_eq_true rfl) rfl) (ixn_nI hxp) (r48 hr hxp) ?_
        refine wp_ifnonnull (t := 59) rfl q32_ok d32_54 ?_
        refine wp_aload_n (j := 0) rfl q32_ok d32_59 ?_
        refine wp_dup rfl q32_ok d32_60 ?_
        refine wp_getI q32_ok d32_61 fl_3_18 rfl (by first | assumption | exact so0 hsh rfl) (by first | assumption | rfl) ?_
        refine wp_iconst (v := 1) (by decide) q32_ok d32_64 ?_
        refine wp_isub rfl q32_ok d32_65 ?_
        refine wp_putI q32_ok d32_66 fl_3_18 rfl (by first | assumption | exact so0 hsh rfl) (Or.inl rfl) ?_
        refine wp_aload_n (j := 0) rfl q32_ok d32_69 ?_
        refine wp_iload_n (j := 2) rfl q32_ok d32_70 ?_
        refine wp_putI q32_ok d32_71 fl_3_22 rfl (by first | assumption | exact so0 hsh rfl) (Or.inl rfl) ?_
        refine wp_aload_n (j := 1) rfl q32_ok d32_74 ?_
        refine wp_aload_n (j := 0) rfl q32_ok d32_75 ?_
        refine wp_getR q32_ok d32_76 fl_3_11 rfl (by first | assumption | exact so0 hsh rfl) (by first | assumption | exact hr _ _ _ rfl) ?_
        refine wp_iload_n (j := 2) rfl q32_ok d32_79 ?_
        refine wp_aald (m := 60) q32_ok d32_80 (t := 24) (by decide) (by first | assumption | exact so0 hsh rfl) (by first | assumption | exact shl hsh (Nat.le_of_ble_eq_true rfl) rfl) (ixn_nI hxp) (r48 hr hxp) ?_
        refine wp_cV q32_ok d32_81 ml_3_25 rfl q47_ok (u := 6) rfl (by first | assumption | exact so0 hsh rfl) rfl (Nat.le_of_ble_eq_true rfl) (Nat.le_of_ble_eq_true rfl) (c_tcopy hsh hr (tw38 hsh hr) (tw60 hsh hr hxp)) (fun v81 μ81 hc => ?_)
        obtain ⟨rfl, rfl⟩ := hc
        refine ⟨mm_le_same rfl, ?_⟩
        refine wp_iconst (v := 1) (by decide) q32_ok d32_84 ?_
        refine wp_zret q32_ok d32_85 rfl (by first | assumption | exact Or.inl rfl | exact Or.inr rfl) ?_
        exact ⟨fun q => absurd q (by omega), fun _ => ⟨rfl, rfl⟩⟩
  · have hn0 : ¬ nx = 0 := fun q => h4 ((nI_leI (by omega) (by decide)).mpr (Nat.le_of_eq q))
    have hnp : nxP nx = nx - 1 := if_neg hn0
    refine wp_aload_n (j := 0) rfl q32_ok d32_7 ?_
    refine wp_getI q32_ok d32_8 fl_3_22 rfl (by first | assumption | exact so0 hsh rfl) (by first | assumption | rfl) ?_
    refine wp_aload_n (j := 0) rfl q32_ok d32_11 ?_
    refine wp_getR q32_ok d32_12 fl_3_11 rfl (by first | assumption | exact so0 hsh rfl) (by first | assumption | exact hr _ _ _ rfl) ?_
    refine wp_alen (m := 60) q32_ok d32_15 (shlt hsh (Nat.le_of_ble_eq_true rfl)) (sht hsh (Nat.le_of_ble_eq_true rfl) (Nat.le_of_ble_eq_true rfl)) (by first | assumption | exact shl hsh (Nat.le_of_ble_eq_true rfl) rfl) rfl ?_ (shK hsh)
    refine wp_icmp_gt q32_ok d32_16 (t := 28) rfl (fun h16 => ?_) (fun h16 => ?_)
    · exact absurd ((nI_ltI (by decide) (by omega)).mp (show nI 60 < nI nx from h16)) (by omega)
    · refine wp_aload_n (j := 0) rfl q32_ok d32_19 ?_
      refine wp_getI q32_ok d32_20 fl_3_22 rfl (by first | assumption | exact so0 hsh rfl) (by first | assumption | rfl) ?_
      refine wp_iconst (v := 1) (by decide) q32_ok d32_23 ?_
      refine wp_isub (show nI nx - 1 = nI (nxP nx) from by rw [hnp]; exact nI_sub1 (by omega)) q32_ok d32_24 ?_
      refine wp_goto (t := 35) rfl q32_ok d32_25 ?_
      refine wp_istore_n (j := 2) (Nat.le_of_ble_eq_true rfl) (rfl : _ = [_, _, _]) q32_ok d32_35 ?_
      refine wp_aload_n (j := 0) rfl q32_ok d32_36 ?_
      refine wp_getI q32_ok d32_37 fl_3_18 rfl (by first | assumption | exact so0 hsh rfl) (by first | assumption | rfl) ?_
      refine wp_iconst (v := 1) (by decide) q32_ok d32_40 ?_
      refine wp_icmp_lt q32_ok d32_41 (t := 57) rfl (fun h41 => ?_) (fun h41 => ?_)
      · have hl0 : len < 1 := (nI_ltI (by omega) (by decide)).mp (show nI len < nI 1 from h41)
        refine wp_iconst (v := 0) (by decide) q32_ok d32_57 ?_
        refine wp_zret q32_ok d32_58 rfl (by first | assumption | exact Or.inl rfl | exact Or.inr rfl) ?_
        exact ⟨fun _ => ⟨rfl, rfl⟩, fun q => absurd (show len = 0 by omega) q⟩
      · have hl1 : ¬ len < 1 := fun q => h41 ((nI_ltI (by omega) (by decide)).mpr q)
        refine wp_iload_n (j := 2) rfl q32_ok d32_44 ?_
        refine wp_if_lt q32_ok d32_45 (t := 57) rfl (fun h45 => ?_) (fun h45 => ?_)
        · exact absurd h45 (nI_pos (by omega))
        · refine wp_aload_n (j := 0) rfl q32_ok d32_48 ?_
          refine wp_getR q32_ok d32_49 fl_3_11 rfl (by first | assumption | exact so0 hsh rfl) (by first | assumption | exact hr _ _ _ rfl) ?_
          refine wp_iload_n (j := 2) rfl q32_ok d32_52 ?_
          refine wp_aald (m := 60) q32_ok d32_53 (t := 24) (by decide) (by first | assumption | exact so0 hsh rfl) (by first | assumption | exact shl hsh (Nat.le_of_ble_eq_true rfl) rfl) (ixn_nI hxp) (r48 hr hxp) ?_
          refine wp_ifnonnull (t := 59) rfl q32_ok d32_54 ?_
          refine wp_aload_n (j := 0) rfl q32_ok d32_59 ?_
          refine wp_dup rfl q32_ok d32_60 ?_
          refine wp_getI q32_ok d32_61 fl_3_18 rfl (by first | assumption | exact so0 hsh rfl) (by first | assumption | rfl) ?_
          refine wp_iconst (v := 1) (by decide) q32_ok d32_64 ?_
          refine wp_isub rfl q32_ok d32_65 ?_
          refine wp_putI q32_ok d32_66 fl_3_18 rfl (by first | assumption | exact so0 hsh rfl) (Or.inl rfl) ?_
          refine wp_aload_n (j := 0) rfl q32_ok d32_69 ?_
          refine wp_iload_n (j := 2) rfl q32_ok d32_70 ?_
          refine wp_putI q32_ok d32_71 fl_3_22 rfl (by first | assumption | exact so0 hsh rfl) (Or.inl rfl) ?_
          refine wp_aload_n (j := 1) rfl q32_ok d32_74 ?_
          refine wp_aload_n (j := 0) rfl q32_ok d32_75 ?_
          refine wp_getR q32_ok d32_76 fl_3_11 rfl (by first | assumption | exact so0 hsh rfl) (by first | assumption | exact hr _ _ _ rfl) ?_
          refine wp_iload_n (j := 2) rfl q32_ok d32_79 ?_
          refine wp_aald (m := 60) q32_ok d32_80 (t := 24) (by decide) (by first | assumption | exact so0 hsh rfl) (by first | assumption | exact shl hsh (Nat.le_of_ble_eq_true rfl) rfl) (ixn_nI hxp) (r48 hr hxp) ?_
          refine wp_cV q32_ok d32_81 ml_3_25 rfl q47_ok (u := 6) rfl (by first | assumption | exact so0 hsh rfl) rfl (Nat.le_of_ble_eq_true rfl) (Nat.le_of_ble_eq_true rfl) (c_tcopy hsh hr (tw38 hsh hr) (tw60 hsh hr hxp)) (fun v81 μ81 hc => ?_)
          obtain ⟨rfl, rfl⟩ := hc
          refine ⟨mm_le_same rfl, ?_⟩
          refine wp_iconst (v := 1) (by decide) q32_ok d32_84 ?_
          refine wp_zret q32_ok d32_85 rfl (by first | assumption | exact Or.inl rfl | exact Or.inr rfl) ?_
          exact ⟨fun q => absurd q (by omega), fun _ => ⟨rfl, rfl⟩⟩
