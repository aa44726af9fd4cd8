/-! ===== towns told: clauses ===== -/
theorem nI_pm {t : Nat} : nI t + 1 - 1 = nI t := by
  rw [show nI t + 1 = nI (t + 1) from nI_1 t]
  exact nI_sub1 (by omega)
/-- the town told stands in the cells from t on -/
def rpT (d : mm_D) (t : Nat) (W : wo_W) : Prop := d t 5 = nI (wnp W) ∧ wnp W ≤ 6 ∧ d t 6 = nI (wnb W) ∧ wnb W ≤ 2 ∧ (∀ p, p < wnp W → ∀ j, j < 4 → d (t + 2 + p) j = wper W p j) ∧ (∀ b, b < wnb W → ∀ j, j < 3 → d (t + 10 + b) j = wbel W b j) ∧ d t 7 = (if wfg W = true then 1 else 0) ∧ (wfg W = true → ∀ j, j < 4 → d (t + 12) j = wvl W j)
def W0 : wo_W := ((0, 0), (fun _ _ => 0), (fun _ _ => 0), false, (fun _ => 0), fun _ => -1)
def addP (W : wo_W) (w : Nat → Int32) : wo_W := ((wnp W + 1, wnb W), (fun a j => if a = wnp W then w j else wper W a j), W.2.2)
def addB (W : wo_W) (w : Nat → Int32) : wo_W := ((wnp W, wnb W + 1), W.2.1, (fun a j => if a = wnb W then w j else wbel W a j), W.2.2.2)
def addF (W : wo_W) (w : Nat → Int32) : wo_W := (W.1, W.2.1, W.2.2.1, true, w, W.2.2.2.2.2)
def defI (k j : Nat) : Int32 := tabI k (4 * j + 3)
def itm2 (L : wo_P) (k p : Nat) (f : (Nat → Int32) → wo_W) : Nat ⊕ (Nat × wo_W) := match itmL L k 160 p 0 (defI k) with
  | .inl e => .inl e
  | .inr x => .inr (x.1, f x.2)
def townC (L : wo_P) (p : Nat) (W : wo_W) : Nat ⊕ (Nat × wo_W) :=
  if bAt L (wsp L p) = 112 then (if wnp W < 6 then itm2 L 0 (wsp L p + 1) (addP W) else .inl (wsp L p))
  else if bAt L (wsp L p) = 103 then (if wfg W = true then .inl (wsp L p) else itm2 L 1 (wsp L p + 1) (addF W))
  else if bAt L (wsp L p) = 98 then (if wnb W < 2 then itm2 L 2 (wsp L p + 1) (addB W) else .inl (wsp L p))
  else .inl (wsp L p)
theorem c_addPerson18 {xs : List Int32} {ext : mm_X} {n : Nat} {sh : mm_S} {d : mm_D} {g : mm_G} {r : mm_R} (hsh : shp sh) (hr : rfx r) {np : Nat} (h5 : d 18 5 = nI np) (h6 : np ≤ 6) : wp xs ext (n + 1) 54 0 [some (.ref 18)] [] (sh, d, g, r) (fun v μ => (np < 6 → v = some (.ref (20 + np)) ∧ μ = (sh, up4 (mm_up d 18 5 (nI (np + 1))) (20 + np) 0 5 20 1, g, r)) ∧ (¬ np < 6 → v = some .null ∧ μ = (sh, d, g, r))) := by
  refine wp_aload_n (j := 0) rfl q54_ok d54_0 ?_
  refine wp_getI q54_ok d54_1 fl_7_32 rfl (by first | assumption | exact so0 hsh rfl) (by first | assumption | rfl) ?_
  refine wp_if_lt q54_ok d54_4 (t := 19) rfl (fun h4 => ?_) (fun h4 => ?_)
  · exact absurd h4 (nI_pos (by omega))
  · refine wp_aload_n (j := 0) rfl q54_ok d54_7 ?_
    refine wp_getI q54_ok d54_8 fl_7_32 rfl (by first | assumption | exact so0 hsh rfl) (by first | assumption | rfl) ?_
    refine wp_aload_n (j := 0) rfl q54_ok d54_11 ?_
    refine wp_getR q54_ok d54_12 fl_7_11 rfl (by first | assumption | exact so0 hsh rfl) (by first | assumption | exact hr _ _ _ rfl) ?_
    refine wp_alen (m := 6) q54_ok d54_15 (shlt hsh (Nat.le_of_ble_eq_true rfl)) (sht hsh (Nat.le_of_ble_eq_true rfl) (Nat.le_of_ble_eq_true rfl)) (by first | assumption | exact shl hsh (Nat.le_of_ble_eq_true rfl) rfl) rfl ?_ (shK hsh)
    refine wp_icmp_lt q54_ok d54_16 (t := 21) rfl (fun h16 => ?_) (fun h16 => ?_)
    · have hlt : np < 6 := (nI_ltI (by omega) (by decide)).mp (show nI np < nI 6 from h16)
      refine wp_aload_n (j := 0) rfl q54_ok d54_21 ?_
      refine wp_dup rfl q54_ok d54_22 ?_
      refine wp_getI q54_ok d54_23 fl_7_32 rfl (by first | assumption | exact so0 hsh rfl) (by first | assumption | rfl) ?_
      refine wp_iconst (v := 1) (by decide) q54_ok d54_26 ?_
      refine wp_iadd rfl q54_ok d54_27 ?_
      refine wp_putI q54_ok d54_28 fl_7_32 rfl (by first | assumption | exact so0 hsh rfl) (Or.inl rfl) ?_
      refine wp_aload_n (j := 0) rfl q54_ok d54_31 ?_
      refine wp_getR q54_ok d54_32 fl_7_11 rfl (by first | assumption | exact so0 hsh rfl) (by first | assumption | exact hr _ _ _ rfl) ?_
      refine wp_aload_n (j := 0) rfl q54_ok d54_35 ?_
      refine wp_getI q54_ok d54_36 fl_7_32 rfl (by first | assumption | exact so0 hsh rfl) ((mm_up_at 5).trans (if_pos rfl)) ?_
      refine wp_iconst (v := 1) (by decide) q54_ok d54_39 ?_
      refine wp_isub nI_pm q54_ok d54_40 ?_
      refine wp_aald (m := 6) q54_ok d54_41 (t := 25) (by decide) (by first | assumption | exact so0 hsh rfl) (by first | assumption | exact shl hsh (Nat.le_of_ble_eq_true rfl) rfl) (ixn_nI hlt) (r19 hr hlt) ?_
      refine wp_gets q54_ok d54_42 gs_7_60 ?_
      refine wp_cS q54_ok d54_45 ml_7_63 rfl q57_ok rfl rfl rfl (Nat.le_of_ble_eq_true rfl) (Nat.le_of_ble_eq_true rfl) (c_untold0 hsh (s20 hsh hlt).1 (s20 hsh hlt).2) (fun v45 μ45 hc => ?_)
      obtain ⟨rfl, rfl⟩ := hc
      refine ⟨mm_le_same rfl, ?_⟩
      refine wp_aret q54_ok d54_48 rfl ?_
      exact ⟨fun _ => ⟨rfl, by rw [show nI np + 1 = nI (np + 1) from nI_1 np]⟩, fun q => absurd hlt q⟩
    · have hge : ¬ np < 6 := fun q => h16 ((nI_ltI (by omega) (by decide)).mpr q)
      refine wp_null q54_ok d54_19 ?_
      refine wp_aretN q54_ok d54_20 rfl ?_
      exact ⟨fun q => absurd q hge, fun _ => ⟨rfl, rfl⟩⟩
theorem c_addBell18 {xs : List Int32} {ext : mm_X} {n : Nat} {sh : mm_S} {d : mm_D} {g : mm_G} {r : mm_R} (hsh : shp sh) (hr : rfx r) {np : Nat} (h5 : d 18 6 = nI np) (h6 : np ≤ 2) : wp xs ext (n + 1) 55 0 [some (.ref 18)] [] (sh, d, g, r) (fun v μ => (np < 2 → v = some (.ref (28 + np)) ∧ μ = (sh, up3 (mm_up d 18 6 (nI (np + 1))) (28 + np) 20 0 9, g, r)) ∧ (¬ np < 2 → v = some .null ∧ μ = (sh, d, g, r))) := by
  refine wp_aload_n (j := 0) rfl q55_ok d55_0 ?_
  refine wp_getI q55_ok d55_1 fl_7_36 rfl (by first | assumption | exact so0 hsh rfl) (by first | assumption | rfl) ?_
  refine wp_if_lt q55_ok d55_4 (t := 19) rfl (fun h4 => ?_) (fun h4 => ?_)
  · exact absurd h4 (nI_pos (by omega))
  · refine wp_aload_n (j := 0) rfl q55_ok d55_7 ?_
    refine wp_getI q55_ok d55_8 fl_7_36 rfl (by first | assumption | exact so0 hsh rfl) (by first | assumption | rfl) ?_
    refine wp_aload_n (j := 0) rfl q55_ok d55_11 ?_
    refine wp_getR q55_ok d55_12 fl_7_22 rfl (by first | assumption | exact so0 hsh rfl) (by first | assumption | exact hr _ _ _ rfl) ?_
    refine wp_alen (m := 2) q55_ok d55_15 (shlt hsh (Nat.le_of_ble_eq_true rfl)) (sht hsh (Nat.le_of_ble_eq_true rfl) (Nat.le_of_ble_eq_true rfl)) (by first | assumption | exact shl hsh (Nat.le_of_ble_eq_true rfl) rfl) rfl ?_ (shK hsh)
    refine wp_icmp_lt q55_ok d55_16 (t := 21) rfl (fun h16 => ?_) (fun h16 => ?_)
    · have hlt : np < 2 := (nI_ltI (by omega) (by decide)).mp (show nI np < nI 2 from h16)
      refine wp_aload_n (j := 0) rfl q55_ok d55_21 ?_
      refine wp_dup rfl q55_ok d55_22 ?_
      refine wp_getI q55_ok d55_23 fl_7_36 rfl (by first | assumption | exact so0 hsh rfl) (by first | assumption | rfl) ?_
      refine wp_iconst (v := 1) (by decide) q55_ok d55_26 ?_
      refine wp_iadd rfl q55_ok d55_27 ?_
      refine wp_putI q55_ok d55_28 fl_7_36 rfl (by first | assumption | exact so0 hsh rfl) (Or.inl rfl) ?_
      refine wp_aload_n (j := 0) rfl q55_ok d55_31 ?_
      refine wp_getR q55_ok d55_32 fl_7_22 rfl (by first | assumption | exact so0 hsh rfl) (by first | assumption | exact hr _ _ _ rfl) ?_
      refine wp_aload_n (j := 0) rfl q55_ok d55_35 ?_
      refine wp_getI q55_ok d55_36 fl_7_36 rfl (by first | assumption | exact so0 hsh rfl) ((mm_up_at 6).trans (if_pos rfl)) ?_
      refine wp_iconst (v := 1) (by decide) q55_ok d55_39 ?_
      refine wp_isub nI_pm q55_ok d55_40 ?_
      refine wp_aald (m := 2) q55_ok d55_41 (t := 25) (by decide) (by first | assumption | exact so0 hsh rfl) (by first | assumption | exact shl hsh (Nat.le_of_ble_eq_true rfl) rfl) (ixn_nI hlt) (r27 hr hlt) ?_
      refine wp_gets q55_ok d55_42 gs_7_67 ?_
      refine wp_cS q55_ok d55_45 ml_7_63 rfl q57_ok rfl rfl rfl (Nat.le_of_ble_eq_true rfl) (Nat.le_of_ble_eq_true rfl) (c_untold2 hsh (s28 hsh hlt).1 (s28 hsh hlt).2) (fun v45 μ45 hc => ?_)
      obtain ⟨rfl, rfl⟩ := hc
      refine ⟨mm_le_same rfl, ?_⟩
      refine wp_aret q55_ok d55_48 rfl ?_
      exact ⟨fun _ => ⟨rfl, by rw [show nI np + 1 = nI (np + 1) from nI_1 np]⟩, fun q => absurd hlt q⟩
    · have hge : ¬ np < 2 := fun q => h16 ((nI_ltI (by omega) (by decide)).mpr q)
      refine wp_null q55_ok d55_19 ?_
      refine wp_aretN q55_ok d55_20 rfl ?_
      exact ⟨fun q => absurd q hge, fun _ => ⟨rfl, rfl⟩⟩
theorem c_addFog18 {xs : List Int32} {ext : mm_X} {n : Nat} {sh : mm_S} {d : mm_D} {g : mm_G} {r : mm_R} (hsh : shp sh) (hr : rfx r) {f : Int32} (h7 : d 18 7 = f) : wp xs ext (n + 1) 56 0 [some (.ref 18)] [] (sh, d, g, r) (fun v μ => (f = 0 → v = some (.ref 30) ∧ μ = (sh, up4 (mm_up d 18 7 1) 30 0 10 60 0, g, r)) ∧ (¬ f = 0 → v = some .null ∧ μ = (sh, d, g, r))) := by
  refine wp_aload_n (j := 0) rfl q56_ok d56_0 ?_
  refine wp_getZ q56_ok d56_1 fl_7_39 rfl (by first | assumption | exact so0 hsh rfl) (by first | assumption | rfl) ?_
  refine wp_if_eq q56_ok d56_4 (t := 9) rfl (fun h4 => ?_) (fun h4 => ?_)
  · refine wp_aload_n (j := 0) rfl q56_ok d56_9 ?_
    refine wp_iconst (v := 1) (by decide) q56_ok d56_10 ?_
    refine wp_putZ q56_ok d56_11 fl_7_39 rfl (by first | assumption | exact so0 hsh rfl) (Or.inl rfl) (by first | assumption | exact Or.inl rfl | exact Or.inr rfl) ?_
    refine wp_aload_n (j := 0) rfl q56_ok d56_14 ?_
    refine wp_getR q56_ok d56_15 fl_7_25 rfl (by first | assumption | exact so0 hsh rfl) (by first | assumption | exact hr _ _ _ rfl) ?_
    refine wp_gets q56_ok d56_18 gs_7_70 ?_
    refine wp_cS q56_ok d56_21 ml_7_63 rfl q57_ok rfl rfl rfl (Nat.le_of_ble_eq_true rfl) (Nat.le_of_ble_eq_true rfl) (c_untold1 hsh (so0 hsh rfl) (shl hsh (Nat.le_of_ble_eq_true rfl) rfl)) (fun v21 μ21 hc => ?_)
    obtain ⟨rfl, rfl⟩ := hc
    refine ⟨mm_le_same rfl, ?_⟩
    refine wp_aret q56_ok d56_24 rfl ?_
    exact ⟨fun _ => ⟨rfl, rfl⟩, fun q => absurd h4 q⟩
  · refine wp_null q56_ok d56_7 ?_
    refine wp_aretN q56_ok d56_8 rfl ?_
    exact ⟨fun q => absurd q h4, fun _ => ⟨rfl, rfl⟩⟩
theorem r026 {p : Nat} (h : p < 6) : r0 26 p = none := by
  have : ∀ p, p < 6 → r0 26 p = none := by decide +kernel
  exact this p h
theorem c_clear18_l {xs : List Int32} {ext : mm_X} {n : Nat} {sh : mm_S} {d : mm_D} {g : mm_G} {r : mm_R} (hsh : shp sh) (hr : rfx r) : ∀ (z k : Nat) (r1 : mm_R), z + k = 6 → rfx r1 → (∀ c, c ≠ 26 → r1 c = r c) → (∀ i, i < k → r1 26 i = none) → (∀ i, k ≤ i → r1 26 i = r 26 i) → wp xs ext (n + 0) 51 2 [some (.ref 18), some (.int (nI k))] [] (sh, d, g, r1) (fun v μ => v = none ∧ ∃ r2, μ = (sh, mm_up (mm_up (mm_up d 18 5 0) 18 6 0) 18 7 0, g, r2) ∧ rfx r2 ∧ (∀ c, c ≠ 26 → r2 c = r c) ∧ (∀ i, i < 6 → r2 26 i = none) ∧ (∀ i, 6 ≤ i → r2 26 i = r 26 i)) := by
  intro z
  induction z with
  | zero =>
    intro k r1 hm hr1 e1 e2 e3
    have hvb : k = 6 := by omega
    subst hvb
    refine wp_iload_n (j := 1) rfl q51_ok d51_2 ?_
    refine wp_aload_n (j := 0) rfl q51_ok d51_3 ?_
    refine wp_getR q51_ok d51_4 fl_7_18 rfl (by first | assumption | exact so0 hsh rfl) (by first | assumption | exact hr1 _ _ _ rfl) ?_
    refine wp_alen (m := 6) q51_ok d51_7 (shlt hsh (Nat.le_of_ble_eq_true rfl)) (sht hsh (Nat.le_of_ble_eq_true rfl) (Nat.le_of_ble_eq_true rfl)) (by first | assumption | exact shl hsh (Nat.le_of_ble_eq_true rfl) rfl) rfl ?_ (shK hsh)
    refine wp_icmp_ge q51_ok d51_8 (t := 24) rfl (fun h8 => ?_) (fun h8 => ?_)
    · refine wp_aload_n (j := 0) rfl q51_ok d51_24 ?_
      refine wp_iconst (v := 0) (by decide) q51_ok d51_25 ?_
      refine wp_putI q51_ok d51_26 fl_7_32 rfl (by first | assumption | exact so0 hsh rfl) (Or.inl rfl) ?_
      refine wp_aload_n (j := 0) rfl q51_ok d51_29 ?_
      refine wp_iconst (v := 0) (by decide) q51_ok d51_30 ?_
      refine wp_putI q51_ok d51_31 fl_7_36 rfl (by first | assumption | exact so0 hsh rfl) (Or.inl rfl) ?_
      refine wp_aload_n (j := 0) rfl q51_ok d51_34 ?_
      refine wp_iconst (v := 0) (by decide) q51_ok d51_35 ?_
      refine wp_putZ q51_ok d51_36 fl_7_39 rfl (by first | assumption | exact so0 hsh rfl) (Or.inl rfl) (by first | assumption | exact Or.inl rfl | exact Or.inr rfl) ?_
      refine wp_vret q51_ok d51_39 rfl ?_
      exact ⟨rfl, r1, rfl, hr1, e1, e2, e3⟩
    · exact absurd (nI_le (Nat.le_refl _) (by decide)) h8
  | succ z ih =>
    intro k r1 hm hr1 e1 e2 e3
    have hlt : k < 6 := by omega
    refine wp_iload_n (j := 1) rfl q51_ok d51_2 ?_
    refine wp_aload_n (j := 0) rfl q51_ok d51_3 ?_
    refine wp_getR q51_ok d51_4 fl_7_18 rfl (by first | assumption | exact so0 hsh rfl) (by first | assumption | exact hr1 _ _ _ rfl) ?_
    refine wp_alen (m := 6) q51_ok d51_7 (shlt hsh (Nat.le_of_ble_eq_true rfl)) (sht hsh (Nat.le_of_ble_eq_true rfl) (Nat.le_of_ble_eq_true rfl)) (by first | assumption | exact shl hsh (Nat.le_of_ble_eq_true rfl) rfl) rfl ?_ (shK hsh)
    refine wp_icmp_ge q51_ok d51_8 (t := 24) rfl (fun h8 => ?_) (fun h8 => ?_)
    · exact absurd h8 (nI_ge hlt (by decide))
    · refine wp_aload_n (j := 0) rfl q51_ok d51_11 ?_
      refine wp_getR q51_ok d51_12 fl_7_18 rfl (by first | assumption | exact so0 hsh rfl) (by first | assumption | exact hr1 _ _ _ rfl) ?_
      refine wp_iload_n (j := 1) rfl q51_ok d51_15 ?_
      refine wp_null q51_ok d51_16 ?_
      refine wp_aastN (m := 6) q51_ok d51_17 (t := 23) (by decide) (by first | assumption | exact so0 hsh rfl) (shl hsh (m := 6) (Nat.le_of_ble_eq_true rfl) rfl) (ixn_nI hlt) ?_
      refine wp_iinc (j := 1) rfl (by first | exact inc1 | rfl) (rfl : _ = [_, _]) q51_ok d51_18 ?_
      refine wp_goto (t := 2) rfl q51_ok d51_21 ?_
      refine ih (k + 1) _ (by omega) (rfx_up hr1 (r026 hlt) _) (fun c hc => (mm_up_ne hc).trans (e1 c hc)) (fun i hi => ?_) (fun i hi => ?_)
      · rw [mm_up_at]
        by_cases q : i = k
        · rw [if_pos q]
        · rw [if_neg q]; exact e2 i (by omega)
      · rw [mm_up_at, if_neg (by omega)]
        exact e3 i (by omega)
theorem c_clear18 {xs : List Int32} {ext : mm_X} {n : Nat} {sh : mm_S} {d : mm_D} {g : mm_G} {r : mm_R} (hsh : shp sh) (hr : rfx r) : wp xs ext (n + 0) 51 0 [some (.ref 18), none] [] (sh, d, g, r) (fun v μ => v = none ∧ ∃ r2, μ = (sh, mm_up (mm_up (mm_up d 18 5 0) 18 6 0) 18 7 0, g, r2) ∧ rfx r2 ∧ (∀ c, c ≠ 26 → r2 c = r c) ∧ (∀ i, i < 6 → r2 26 i = none) ∧ (∀ i, 6 ≤ i → r2 26 i = r 26 i)) := by
  refine wp_iconst (v := 0) (by decide) q51_ok d51_0 ?_
  refine wp_istore_n (j := 1) (Nat.le_of_ble_eq_true rfl) (rfl : _ = [_, _]) q51_ok d51_1 ?_
  exact c_clear18_l hsh hr 6 0 r (by omega) hr (fun _ _ => rfl) (fun i hi => absurd hi (Nat.not_lt_zero _)) (fun _ _ => rfl)
theorem c_addPerson4 {xs : List Int32} {ext : mm_X} {n : Nat} {sh : mm_S} {d : mm_D} {g : mm_G} {r : mm_R} (hsh : shp sh) (hr : rfx r) {np : Nat} (h5 : d 4 5 = nI np) (h6 : np ≤ 6) : wp xs ext (n + 1) 54 0 [some (.ref 4)] [] (sh, d, g, r) (fun v μ => (np < 6 → v = some (.ref (6 + np)) ∧ μ = (sh, up4 (mm_up d 4 5 (nI (np + 1))) (6 + np) 0 5 20 1, g, r)) ∧ (¬ np < 6 → v = some .null ∧ μ = (sh, d, g, r))) := by
  refine wp_aload_n (j := 0) rfl q54_ok d54_0 ?_
  refine wp_getI q54_ok d54_1 fl_7_32 rfl (by first | assumption | exact so0 hsh rfl) (by first | assumption | rfl) ?_
  refine wp_if_lt q54_ok d54_4 (t := 19) rfl (fun h4 => ?_) (fun h4 => ?_)
  · exact absurd h4 (nI_pos (by omega))
  · refine wp_aload_n (j := 0) rfl q54_ok d54_7 ?_
    refine wp_getI q54_ok d54_8 fl_7_32 rfl (by first | assumption | exact so0 hsh rfl) (by first | assumption | rfl) ?_
    refine wp_aload_n (j := 0) rfl q54_ok d54_11 ?_
    refine wp_getR q54_ok d54_12 fl_7_11 rfl (by first | assumption | exact so0 hsh rfl) (by first | assumption | exact hr _ _ _ rfl) ?_
    refine wp_alen (m := 6) q54_ok d54_15 (shlt hsh (Nat.le_of_ble_eq_true rfl)) (sht hsh (Nat.le_of_ble_eq_true rfl) (Nat.le_of_ble_eq_true rfl)) (by first | assumption | exact shl hsh (Nat.le_of_ble_eq_true rfl) rfl) rfl ?_ (shK hsh)
    refine wp_icmp_lt q54_ok d54_16 (t := 21) rfl (fun h16 => ?_) (fun h16 => ?_)
    · have hlt : np < 6 := (nI_ltI (by omega) (by decide)).mp (show nI np < nI 6 from h16)
      refine wp_aload_n (j := 0) rfl q54_ok d54_21 ?_
      refine wp_dup rfl q54_ok d54_22 ?_
      refine wp_getI q54_ok d54_23 fl_7_32 rfl (by first | assumption | exact so0 hsh rfl) (by first | assumption | rfl) ?_
      refine wp_iconst (v := 1) (by decide) q54_ok d54_26 ?_
      refine wp_iadd rfl q54_ok d54_27 ?_
      refine wp_putI q54_ok d54_28 fl_7_32 rfl (by first | assumption | exact so0 hsh rfl) (Or.inl rfl) ?_
      refine wp_aload_n (j := 0) rfl q54_ok d54_31 ?_
      refine wp_getR q54_ok d54_32 fl_7_11 rfl (by first | assumption | exact so0 hsh rfl) (by first | assumption | exact hr _ _ _ rfl) ?_
      refine wp_aload_n (j := 0) rfl q54_ok d54_35 ?_
      refine wp_getI q54_ok d54_36 fl_7_32 rfl (by first | assumption | exact so0 hsh rfl) ((mm_up_at 5).trans (if_pos rfl)) ?_
      refine wp_iconst (v := 1) (by decide) q54_ok d54_39 ?_
      refine wp_isub nI_pm q54_ok d54_40 ?_
      refine wp_aald (m := 6) q54_ok d54_41 (t := 25) (by decide) (by first | assumption | exact so0 hsh rfl) (by first | assumption | exact shl hsh (Nat.le_of_ble_eq_true rfl) rfl) (ixn_nI hlt) (r5 hr hlt) ?_
      refine wp_gets q54_ok d54_42 gs_7_60 ?_
      refine wp_cS q54_ok d54_45 ml_7_63 rfl q57_ok rfl rfl rfl (Nat.le_of_ble_eq_true rfl) (Nat.le_of_ble_eq_true rfl) (c_untold0 hsh (s6 hsh hlt).1 (s6 hsh hlt).2) (fun v45 μ45 hc => ?_)
      obtain ⟨rfl, rfl⟩ := hc
      refine ⟨mm_le_same rfl, ?_⟩
      refine wp_aret q54_ok d54_48 rfl ?_
      exact ⟨fun _ => ⟨rfl, by rw [show nI np + 1 = nI (np + 1) from nI_1 np]⟩, fun q => absurd hlt q⟩
    · have hge : ¬ np < 6 := fun q => h16 ((nI_ltI (by omega) (by decide)).mpr q)
      refine wp_null q54_ok d54_19 ?_
      refine wp_aretN q54_ok d54_20 rfl ?_
      exact ⟨fun q => absurd q hge, fun _ => ⟨rfl, rfl⟩⟩
theorem c_addBell4 {xs : List Int32} {ext : mm_X} {n : Nat} {sh : mm_S} {d : mm_D} {g : mm_G} {r : mm_R} (hsh : shp sh) (hr : rfx r) {np : Nat} (h5 : d 4 6 = nI np) (h6 : np ≤ 2) : wp xs ext (n + 1) 55 0 [some (.ref 4)] [] (sh, d, g, r) (fun v μ => (np < 2 → v = some (.ref (14 + np)) ∧ μ = (sh, up3 (mm_up d 4 6 (nI (np + 1))) (14 + np) 20 0 9, g, r)) ∧ (¬ np < 2 → v = some .null ∧ μ = (sh, d, g, r))) := by
  refine wp_aload_n (j := 0) rfl q55_ok d55_0 ?_
  refine wp_getI q55_ok d55_1 fl_7_36 rfl (by first | assumption | exact so0 hsh rfl) (by first | assumption | rfl) ?_
  refine wp_if_lt q55_ok d55_4 (t := 19) rfl (fun h4 => ?_) (fun h4 => ?_)
  · exact absurd h4 (nI_pos (by omega))
  · refine wp_aload_n (j := 0) rfl q55_ok d55_7 ?_
    refine wp_getI q55_ok d55_8 fl_7_36 rfl (by first | assumption | exact so0 hsh rfl) (by first | assumption | rfl) ?_
    refine wp_aload_n (j := 0) rfl q55_ok d55_11 ?_
    refine wp_getR q55_ok d55_12 fl_7_22 rfl (by first | assumption | exact so0 hsh rfl) (by first | assumption | exact hr _ _ _ rfl) ?_
    refine wp_alen (m := 2) q55_ok d55_15 (shlt hsh (Nat.le_of_ble_eq_true rfl)) (sht hsh (Nat.le_of_ble_eq_true rfl) (Nat.le_of_ble_eq_true rfl)) (by first | assumption | exact shl hsh (Nat.le_of_ble_eq_true rfl) rfl) rfl ?_ (shK hsh)
    refine wp_icmp_lt q55_ok d55_16 (t := 21) rfl (fun h16 => ?_) (fun h16 => ?_)
    · have hlt : np < 2 := (nI_ltI (by omega) (by decide)).mp (show nI np < nI 2 from h16)
      refine wp_aload_n (j := 0) rfl q55_ok d55_21 ?_
      refine wp_dup rfl q55_ok d55_22 ?_
      refine wp_getI q55_ok d55_23 fl_7_36 rfl (by first | assumption | exact so0 hsh rfl) (by first | assumption | rfl) ?_
      refine wp_iconst (v := 1) (by decide) q55_ok d55_26 ?_
      refine wp_iadd rfl q55_ok d55_27 ?_
      refine wp_putI q55_ok d55_28 fl_7_36 rfl (by first | assumption | exact so0 hsh rfl) (Or.inl rfl) ?_
      refine wp_aload_n (j := 0) rfl q55_ok d55_31 ?_
      refine wp_getR q55_ok d55_32 fl_7_22 rfl (by first | assumption | exact so0 hsh rfl) (by first | assumption | exact hr _ _ _ rfl) ?_
      refine wp_aload_n (j := 0) rfl q55_ok d55_35 ?_
      refine wp_getI q55_ok d55_36 fl_7_36 rfl (by first | assumption | exact so0 hsh rfl) ((mm_up_at 6).trans (if_pos rfl)) ?_
      refine wp_iconst (v := 1) (by decide) q55_ok d55_39 ?_
      refine wp_isub nI_pm q55_ok d55_40 ?_
      refine wp_aald (m := 2) q55_ok d55_41 (t := 25) (by decide) (by first | assumption | exact so0 hsh rfl) (by first | assumption | exact shl hsh (Nat.le_of_ble_eq_true rfl) rfl) (ixn_nI hlt) (r13 hr hlt) ?_
      refine wp_gets q55_ok d55_42 gs_7_67 ?_
      refine wp_cS q55_ok d55_45 ml_7_63 rfl q57_ok rfl rfl rfl (Nat.le_of_ble_eq_true rfl) (Nat.le_of_ble_eq_true rfl) (c_untold2 hsh (s14 hsh hlt).1 (s14 hsh hlt).2) (fun v45 μ45 hc => ?_)
      obtain ⟨rfl, rfl⟩ := hc
      refine ⟨mm_le_same rfl, ?_⟩
      refine wp_aret q55_ok d55_48 rfl ?_
      exact ⟨fun _ => ⟨rfl, by rw [show nI np + 1 = nI (np + 1) from nI_1 np]⟩, fun q => absurd hlt q⟩
    · have hge : ¬ np < 2 := fun q => h16 ((nI_ltI (by omega) (by decide)).mpr q)
      refine wp_null q55_ok d55_19 ?_
      refine wp_aretN q55_ok d55_20 rfl ?_
      exact ⟨fun q => absurd q hge, fun _ => ⟨rfl, rfl⟩⟩
theorem c_addFog4 {xs : List Int32} {ext : mm_X} {n : Nat} {sh : mm_S} {d : mm_D} {g : mm_G} {r : mm_R} (hsh : shp sh) (hr : rfx r) {f : Int32} (h7 : d 4 7 = f) : wp xs ext (n + 1) 56 0 [some (.ref 4)] [] (sh, d, g, r) (fun v μ => (f = 0 → v = some (.ref 16) ∧ μ = (sh, up4 (mm_up d 4 7 1) 16 0 10 60 0, g, r)) ∧ (¬ f = 0 → v = some .null ∧ μ = (sh, d, g, r))) := by
  refine wp_aload_n (j := 0) rfl q56_ok d56_0 ?_
  refine wp_getZ q56_ok d56_1 fl_7_39 rfl (by first | assumption | exact so0 hsh rfl) (by first | assumption | rfl) ?_
  refine wp_if_eq q56_ok d56_4 (t := 9) rfl (fun h4 => ?_) (fun h4 => ?_)
  · refine wp_aload_n (j := 0) rfl q56_ok d56_9 ?_
    refine wp_iconst (v := 1) (by decide) q56_ok d56_10 ?_
    refine wp_putZ q56_ok d56_11 fl_7_39 rfl (by first | assumption | exact so0 hsh rfl) (Or.inl rfl) (by first | assumption | exact Or.inl rfl | exact Or.inr rfl) ?_
    refine wp_aload_n (j := 0) rfl q56_ok d56_14 ?_
    refine wp_getR q56_ok d56_15 fl_7_25 rfl (by first | assumption | exact so0 hsh rfl) (by first | assumption | exact hr _ _ _ rfl) ?_
    refine wp_gets q56_ok d56_18 gs_7_70 ?_
    refine wp_cS q56_ok d56_21 ml_7_63 rfl q57_ok rfl rfl rfl (Nat.le_of_ble_eq_true rfl) (Nat.le_of_ble_eq_true rfl) (c_untold1 hsh (so0 hsh rfl) (shl hsh (Nat.le_of_ble_eq_true rfl) rfl)) (fun v21 μ21 hc => ?_)
    obtain ⟨rfl, rfl⟩ := hc
    refine ⟨mm_le_same rfl, ?_⟩
    refine wp_aret q56_ok d56_24 rfl ?_
    exact ⟨fun _ => ⟨rfl, rfl⟩, fun q => absurd h4 q⟩
  · refine wp_null q56_ok d56_7 ?_
    refine wp_aretN q56_ok d56_8 rfl ?_
    exact ⟨fun q => absurd q h4, fun _ => ⟨rfl, rfl⟩⟩
theorem c_clear4_l {xs : List Int32} {ext : mm_X} {n : Nat} {sh : mm_S} {d : mm_D} {g : mm_G} {r : mm_R} (hsh : shp sh) (hr : rfx r) : ∀ (z k : Nat) (r1 : mm_R), z + k = 6 → rfx r1 → (∀ c, c ≠ 12 → r1 c = r c) → (∀ i, i < k → r1 12 i = none) → (∀ i, k ≤ i → r1 12 i = r 12 i) → wp xs ext (n + 0) 51 2 [some (.ref 4), some (.int (nI k))] [] (sh, d, g, r1) (fun v μ => v = none ∧ ∃ r2, μ = (sh, mm_up (mm_up (mm_up d 4 5 0) 4 6 0) 4 7 0, g, r2) ∧ rfx r2 ∧ (∀ c, c ≠ 12 → r2 c = r c) ∧ (∀ i, i < 6 → r2 12 i = none) ∧ (∀ i, 6 ≤ i → r2 12 i = r 12 i)) := by
  intro z
  induction z with
  | zero =>
    intro k r1 hm hr1 e1 e2 e3
    have hvb : k = 6 := by omega
    subst hvb
    refine wp_iload_n (j := 1) rfl q51_ok d51_2 ?_
    refine wp_aload_n (j := 0) rfl q51_ok d51_3 ?_
    refine wp_getR q51_ok d51_4 fl_7_18 rfl (by first | assumption | exact so0 hsh rfl) (by first | assumption | exact hr1 _ _ _ rfl) ?_
    refine wp_alen (m := 6) q51_ok d51_7 (shlt hsh (Nat.le_of_ble_eq_true rfl)) (sht hsh (Nat.le_of_ble_eq_true rfl) (Nat.le_of_ble_eq_true rfl)) (by first | assumption | exact shl hsh (Nat.le_of_ble_eq_true rfl) rfl) rfl ?_ (shK hsh)
    refine wp_icmp_ge q51_ok d51_8 (t := 24) rfl (fun h8 => ?_) (fun h8 => ?_)
    · refine wp_aload_n (j := 0) rfl q51_ok d51_24 ?_
      refine wp_iconst (v := 0) (by decide) q51_ok d51_25 ?_
      refine wp_putI q51_ok d51_26 fl_7_32 rfl (by first | assumption | exact so0 hsh rfl) (Or.inl rfl) ?_
      refine wp_aload_n (j := 0) rfl q51_ok d51_29 ?_
      refine wp_iconst (v := 0) (by decide) q51_ok d51_30 ?_
      refine wp_putI q51_ok d51_31 fl_7_36 rfl (by first | assumption | exact so0 hsh rfl) (Or.inl rfl) ?_
      refine wp_aload_n (j := 0) rfl q51_ok d51_34 ?_
      refine wp_iconst (v := 0) (by decide) q51_ok d51_35 ?_
      refine wp_putZ q51_ok d51_36 fl_7_39 rfl (by first | assumption | exact so0 hsh rfl) (Or.inl rfl) (by first | assumption | exact Or.inl rfl | exact Or.inr rfl) ?_
      refine wp_vret q51_ok d51_39 rfl ?_
      exact ⟨rfl, r1, rfl, hr1, e1, e2, e3⟩
    · exact absurd (nI_le (Nat.le_refl _) (by decide)) h8
  | succ z ih =>
    intro k r1 hm hr1 e1 e2 e3
    have hlt : k < 6 := by omega
    refine wp_iload_n (j := 1) rfl q51_ok d51_2 ?_
    refine wp_aload_n (j := 0) rfl q51_ok d51_3 ?_
    refine wp_getR q51_ok d51_4 fl_7_18 rfl (by first | assumption | exact so0 hsh rfl) (by first | assumption | exact hr1 _ _ _ rfl) ?_
    refine wp_alen (m := 6) q51_ok d51_7 (shlt hsh (Nat.le_of_ble_eq_true rfl)) (sht hsh (Nat.le_of_ble_eq_true rfl) (Nat.le_of_ble_eq_true rfl)) (by first | assumption | exact shl hsh (Nat.le_of_ble_eq_true rfl) rfl) rfl ?_ (shK hsh)
    refine wp_icmp_ge q51_ok d51_8 (t := 24) rfl (fun h8 => ?_) (fun h8 => ?_)
    · exact absurd h8 (nI_ge hlt (by decide))
    · refine wp_aload_n (j := 0) rfl q51_ok d51_11 ?_
      refine wp_getR q51_ok d51_12 fl_7_18 rfl (by first | assumption | exact so0 hsh rfl) (by first | assumption | exact hr1 _ _ _ rfl) ?_
      refine wp_iload_n (j := 1) rfl q51_ok d51_15 ?_
      refine wp_null q51_ok d51_16 ?_
      refine wp_aastN (m := 6) q51_ok d51_17 (t := 23) (by decide) (by first | assumption | exact so0 hsh rfl) (shl hsh (m := 6) (Nat.le_of_ble_eq_true rfl) rfl) (ixn_nI hlt) ?_
      refine wp_iinc (j := 1) rfl (by first | exact inc1 | rfl) (rfl : _ = [_, _]) q51_ok d51_18 ?_
      refine wp_goto (t := 2) rfl q51_ok d51_21 ?_
      refine ih (k + 1) _ (by omega) (rfx_up hr1 (r012 hlt) _) (fun c hc => (mm_up_ne hc).trans (e1 c hc)) (fun i hi => ?_) (fun i hi => ?_)
      · rw [mm_up_at]
        by_cases q : i = k
        · rw [if_pos q]
        · rw [if_neg q]; exact e2 i (by omega)
      · rw [mm_up_at, if_neg (by omega)]
        exact e3 i (by omega)
theorem c_clear4 {xs : List Int32} {ext : mm_X} {n : Nat} {sh : mm_S} {d : mm_D} {g : mm_G} {r : mm_R} (hsh : shp sh) (hr : rfx r) : wp xs ext (n + 0) 51 0 [some (.ref 4), none] [] (sh, d, g, r) (fun v μ => v = none ∧ ∃ r2, μ = (sh, mm_up (mm_up (mm_up d 4 5 0) 4 6 0) 4 7 0, g, r2) ∧ rfx r2 ∧ (∀ c, c ≠ 12 → r2 c = r c) ∧ (∀ i, i < 6 → r2 12 i = none) ∧ (∀ i, 6 ≤ i → r2 12 i = r 12 i)) := by
  refine wp_iconst (v := 0) (by decide) q51_ok d51_0 ?_
  refine wp_istore_n (j := 1) (Nat.le_of_ble_eq_true rfl) (rfl : _ = [_, _]) q51_ok d51_1 ?_
  exact c_clear4_l hsh hr 6 0 r (by omega) hr (fun _ _ => rfl) (fun i hi => absurd hi (Nat.not_lt_zero _)) (fun _ _ => rfl)
/-- only the signs and the town told -/
def tf (d d2 : mm_D) : Prop := ∀ a, a ≠ 3 → ¬ (18 ≤ a ∧ a < 32) → d2 a = d a
theorem tf_trans {d d1 d2 : mm_D} (h : tf d d1) (h' : tf d1 d2) : tf d d2 := fun a h1 h2 => (h' a h1 h2).trans (h a h1 h2)
theorem tf_sf {d d2 : mm_D} (h : sf d d2) : tf d d2 := fun a h1 _ => h a h1
theorem tf_rf {c : Nat} {d d2 : mm_D} (h : rf c d d2) (h1 : 18 ≤ c) (h2 : c < 32) : tf d d2 := fun a e1 e2 => h a e1 (by omega)
def tpost (sh : mm_S) (g : mm_G) (r : mm_R) (L : wo_P) (d : mm_D) (res : Nat ⊕ (Nat × wo_W)) (v : Option Value) (μ : mm_M) : Prop := ∃ d2, μ = (sh, d2, g, r) ∧ tf d d2 ∧ (match res with
  | .inl w => v = some (.int 0) ∧ d2 3 2 = nI w
  | .inr x => v = some (.int 1) ∧ sgR d2 L x.1 ∧ rpT d2 18 x.2)
theorem rpT_sf {d d2 : mm_D} {W : wo_W} (h : rpT d 18 W) (hf : sf d d2) : rpT d2 18 W := by
  unfold rpT
  rw [hf 18 (by decide), hf (18 + 12) (by decide)]
  obtain ⟨a1, a2, a3, a4, a5, a6, a7, a8⟩ := h
  exact ⟨a1, a2, a3, a4, fun p hp j hj => by rw [hf _ (by omega)]; exact a5 p hp j hj, fun b hb j hj => by rw [hf _ (by omega)]; exact a6 b hb j hj, a7, a8⟩
theorem sg_row {d d2 : mm_D} {L : wo_P} {p : Nat} (h : sgR d L p) (e1 : d2 1 = d 1) (e2 : d2 2 = d 2) (e3 : d2 3 = d 3) : sgR d2 L p := by
  unfold sgR tpR
  rw [e1, e2, e3]
  exact h
theorem addP_ok {d d2 : mm_D} {W : wo_W} {w : Nat → Int32} (h : rpT d 18 W) (hn : wnp W < 6) (e : ∀ a, 18 ≤ a → a < 32 → a ≠ 18 → a ≠ 20 + wnp W → d2 a = d a) (e5 : d2 18 5 = nI (wnp W + 1)) (e6 : ∀ j, j ≠ 5 → d2 18 j = d 18 j) (ew : ∀ j, j < 4 → d2 (20 + wnp W) j = w j) : rpT d2 18 (addP W w) := by
  obtain ⟨a1, a2, a3, a4, a5, a6, a7, a8⟩ := h
  refine ⟨e5, by show wnp W + 1 ≤ 6; omega, by rw [e6 6 (by decide)]; exact a3, a4, fun p hp j hj => ?_, fun b hb j hj => ?_, by rw [e6 7 (by decide)]; exact a7, fun hf j hj => ?_⟩
  · have hp' : p < wnp W + 1 := hp
    show d2 (18 + 2 + p) j = if p = wnp W then w j else wper W p j
    by_cases q : p = wnp W
    · rw [if_pos q, q]; exact ew j hj
    · rw [if_neg q, e _ (by omega) (by omega) (by omega) (by omega)]; exact a5 p (by omega) j hj
  · have hb' : b < wnb W := hb
    rw [e _ (by omega) (by omega) (by omega) (by omega)]; exact a6 b hb' j hj
  · rw [e _ (by omega) (by omega) (by omega) (by omega)]; exact a8 hf j hj
theorem addB_ok {d d2 : mm_D} {W : wo_W} {w : Nat → Int32} (h : rpT d 18 W) (hn : wnb W < 2) (e : ∀ a, 18 ≤ a → a < 32 → a ≠ 18 → a ≠ 28 + wnb W → d2 a = d a) (e5 : d2 18 6 = nI (wnb W + 1)) (e6 : ∀ j, j ≠ 6 → d2 18 j = d 18 j) (ew : ∀ j, j < 3 → d2 (28 + wnb W) j = w j) : rpT d2 18 (addB W w) := by
  obtain ⟨a1, a2, a3, a4, a5, a6, a7, a8⟩ := h
  refine ⟨by rw [e6 5 (by decide)]; exact a1, a2, e5, by show wnb W + 1 ≤ 2; omega, fun p hp j hj => ?_, fun b hb j hj => ?_, by rw [e6 7 (by decide)]; exact a7, fun hf j hj => ?_⟩
  · have hp' : p < wnp W := hp
    rw [e _ (by omega) (by omega) (by omega) (by omega)]; exact a5 p hp' j hj
  · have hb' : b < wnb W + 1 := hb
    show d2 (18 + 10 + b) j = if b = wnb W then w j else wbel W b j
    by_cases q : b = wnb W
    · rw [if_pos q, q]; exact ew j hj
    · rw [if_neg q, e _ (by omega) (by omega) (by omega) (by omega)]; exact a6 b (by omega) j hj
  · rw [e _ (by omega) (by omega) (by omega) (by omega)]; exact a8 hf j hj
theorem addF_ok {d d2 : mm_D} {W : wo_W} {w : Nat → Int32} (h : rpT d 18 W) (e : ∀ a, 18 ≤ a → a < 32 → a ≠ 18 → a ≠ 30 → d2 a = d a) (e5 : d2 18 7 = 1) (e6 : ∀ j, j ≠ 7 → d2 18 j = d 18 j) (ew : ∀ j, j < 4 → d2 30 j = w j) : rpT d2 18 (addF W w) := by
  obtain ⟨a1, a2, a3, a4, a5, a6, a7, a8⟩ := h
  refine ⟨by rw [e6 5 (by decide)]; exact a1, a2, by rw [e6 6 (by decide)]; exact a3, a4, fun p hp j hj => ?_, fun b hb j hj => ?_, e5, fun hf j hj => ew j hj⟩
  · have hp' : p < wnp W := hp
    rw [e _ (by omega) (by omega) (by omega) (by omega)]; exact a5 p hp' j hj
  · have hb' : b < wnb W := hb
    rw [e _ (by omega) (by omega) (by omega) (by omega)]; exact a6 b hb' j hj
theorem df4_0 {j : Nat} (h : j < 4) : (if j = 0 then (0 : Int32) else if j = 1 then 5 else if j = 2 then 20 else 1) = defI 0 j := by
  have : ∀ j, j < 4 → (if j = 0 then (0 : Int32) else if j = 1 then 5 else if j = 2 then 20 else 1) = defI 0 j := by decide
  exact this j h
theorem df4_1 {j : Nat} (h : j < 4) : (if j = 0 then (0 : Int32) else if j = 1 then 10 else if j = 2 then 60 else 0) = defI 1 j := by
  have : ∀ j, j < 4 → (if j = 0 then (0 : Int32) else if j = 1 then 10 else if j = 2 then 60 else 0) = defI 1 j := by decide
  exact this j h
theorem df3 {j : Nat} (h : j < 3) : (if j = 0 then (20 : Int32) else if j = 1 then 0 else 9) = defI 2 j := by
  have : ∀ j, j < 3 → (if j = 0 then (20 : Int32) else if j = 1 then 0 else 9) = defI 2 j := by decide
  exact this j h
theorem ip_trans {sh : mm_S} {g : mm_G} {r : mm_R} {L : wo_P} {d d1 : mm_D} {c k : Nat} {res : Nat ⊕ (Nat × (Nat → Int32))} {v : Option Value} {μ : mm_M} (hf : rf c d d1) (h : ipost sh g r L d1 c k res v μ) : ipost sh g r L d c k res v μ := by
  obtain ⟨d2, rfl, h1, h2⟩ := h
  exact ⟨d2, rfl, rf_trans hf h1, h2⟩
theorem c_tc77_0 {xs : List Int32} {ext : mm_X} {n : Nat} {sh : mm_S} {g : mm_G} {r : mm_R} {L : wo_P} (hsh : shp sh) (hr : rfx r) {c q : Nat} (hso : so sh c 20) (hm : (sh.2.2.2 c).2 = mK 0) (hc : 4 ≤ c) {d : mm_D} (hg : sgR d L q) (hq : q < L.1) (hw : ∀ j, j < mK 0 → d c j = defI 0 j) : wp xs ext (n + 4) 74 77 [some (.ref 32), some (.int 112), some (.ref c)] [] (sh, d, g, r) (ipost sh g r L d c 0 (itmL L 0 160 (q + 1) 0 (defI 0))) := by
  refine wp_aload_n (j := 0) rfl q74_ok d74_77 ?_
  refine wp_getR q74_ok d74_78 fl_8_9 rfl (by first | assumption | exact so0 hsh rfl) (by first | assumption | exact hr _ _ _ rfl) ?_
  refine wp_cV q74_ok d74_81 ml_8_67 rfl q36_ok (u := 4) rfl (by first | assumption | exact so0 hsh rfl) rfl (Nat.le_of_ble_eq_true rfl) (Nat.le_of_ble_eq_true rfl) (c_skip hsh hr hg.2.1) (fun v81 μ81 hc => ?_)
  obtain ⟨rfl, rfl⟩ := hc
  refine ⟨mm_le_same rfl, ?_⟩
  have hg3 : sgR (mm_up d 3 1 (nI (q + 1))) L (q + 1) := ⟨tpR_sf hg.1 (sf_up _ _ _), (mm_up_at 1).trans (if_pos rfl), hq⟩
  refine wp_aload_n (j := 0) rfl q74_ok d74_84 ?_
  refine wp_aload_n (j := 2) rfl q74_ok d74_85 ?_
  refine wp_iload_n (j := 1) rfl q74_ok d74_86 ?_
  refine wp_bipush (v := 112) (by decide) q74_ok d74_87 ?_
  refine wp_icmp_ne q74_ok d74_89 (t := 98) rfl (fun h89 => ?_) (fun h89 => ?_)
  · exact absurd rfl h89
  · have h89 := Classical.not_not.mp h89
    refine wp_gets q74_ok d74_92 gs_8_70 ?_
    refine wp_goto (t := 113) rfl q74_ok d74_95 ?_
    refine wp_cV q74_ok d74_113 ml_8_80 rfl q75_ok (u := 8) rfl (by first | assumption | exact so0 hsh rfl) rfl (Nat.le_of_ble_eq_true rfl) (Nat.le_of_ble_eq_true rfl) (c_items (k := 0) (c := c) (w := defI 0) hsh hr (by decide) hso hm hc hg3 (fun j hj => (congrFun (mm_up_ne (show c ≠ 3 by omega)) j).trans (hw j hj))) (fun v113 μ113 hc => ?_)
    obtain ⟨d4, rfl, f4, m4⟩ := hc
    refine ⟨mm_le_same rfl, ?_⟩
    have hfx : rf c d d4 := rf_trans (rf_sf (sf_up d 1 (nI (q + 1)))) f4
    cases e4 : itmL L 0 160 (q + 1) 0 (defI 0) with
    | inl e =>
      rw [e4] at m4
      obtain ⟨rfl, m4⟩ := m4
      refine wp_zret q74_ok d74_116 rfl (by first | assumption | exact Or.inl rfl | exact Or.inr rfl) ?_
      exact ⟨d4, rfl, hfx, rfl, m4⟩
    | inr x =>
      rw [e4] at m4
      obtain ⟨rfl, m4⟩ := m4
      refine wp_zret q74_ok d74_116 rfl (by first | assumption | exact Or.inl rfl | exact Or.inr rfl) ?_
      exact ⟨d4, rfl, hfx, rfl, m4⟩
theorem c_tc77_1 {xs : List Int32} {ext : mm_X} {n : Nat} {sh : mm_S} {g : mm_G} {r : mm_R} {L : wo_P} (hsh : shp sh) (hr : rfx r) {c q : Nat} (hso : so sh c 20) (hm : (sh.2.2.2 c).2 = mK 1) (hc : 4 ≤ c) {d : mm_D} (hg : sgR d L q) (hq : q < L.1) (hw : ∀ j, j < mK 1 → d c j = defI 1 j) : wp xs ext (n + 4) 74 77 [some (.ref 32), some (.int 103), some (.ref c)] [] (sh, d, g, r) (ipost sh g r L d c 1 (itmL L 1 160 (q + 1) 0 (defI 1))) := by
  refine wp_aload_n (j := 0) rfl q74_ok d74_77 ?_
  refine wp_getR q74_ok d74_78 fl_8_9 rfl (by first | assumption | exact so0 hsh rfl) (by first | assumption | exact hr _ _ _ rfl) ?_
  refine wp_cV q74_ok d74_81 ml_8_67 rfl q36_ok (u := 4) rfl (by first | assumption | exact so0 hsh rfl) rfl (Nat.le_of_ble_eq_true rfl) (Nat.le_of_ble_eq_true rfl) (c_skip hsh hr hg.2.1) (fun v81 μ81 hc => ?_)
  obtain ⟨rfl, rfl⟩ := hc
  refine ⟨mm_le_same rfl, ?_⟩
  have hg3 : sgR (mm_up d 3 1 (nI (q + 1))) L (q + 1) := ⟨tpR_sf hg.1 (sf_up _ _ _), (mm_up_at 1).trans (if_pos rfl), hq⟩
  refine wp_aload_n (j := 0) rfl q74_ok d74_84 ?_
  refine wp_aload_n (j := 2) rfl q74_ok d74_85 ?_
  refine wp_iload_n (j := 1) rfl q74_ok d74_86 ?_
  refine wp_bipush (v := 112) (by decide) q74_ok d74_87 ?_
  refine wp_icmp_ne q74_ok d74_89 (t := 98) rfl (fun h89 => ?_) (fun h89 => ?_)
  · refine wp_iload_n (j := 1) rfl q74_ok d74_98 ?_
    refine wp_bipush (v := 103) (by decide) q74_ok d74_99 ?_
    refine wp_icmp_ne q74_ok d74_101 (t := 110) rfl (fun h101 => ?_) (fun h101 => ?_)
    · exact absurd rfl h101
    · have h101 := Classical.not_not.mp h101
      refine wp_gets q74_ok d74_104 gs_8_74 ?_
      refine wp_goto (t := 113) rfl q74_ok d74_107 ?_
      refine wp_cV q74_ok d74_113 ml_8_80 rfl q75_ok (u := 8) rfl (by first | assumption | exact so0 hsh rfl) rfl (Nat.le_of_ble_eq_true rfl) (Nat.le_of_ble_eq_true rfl) (c_items (k := 1) (c := c) (w := defI 1) hsh hr (by decide) hso hm hc hg3 (fun j hj => (congrFun (mm_up_ne (show c ≠ 3 by omega)) j).trans (hw j hj))) (fun v113 μ113 hc => ?_)
      obtain ⟨d4, rfl, f4, m4⟩ := hc
      refine ⟨mm_le_same rfl, ?_⟩
      have hfx : rf c d d4 := rf_trans (rf_sf (sf_up d 1 (nI (q + 1)))) f4
      cases e4 : itmL L 1 160 (q + 1) 0 (defI 1) with
      | inl e =>
        rw [e4] at m4
        obtain ⟨rfl, m4⟩ := m4
        refine wp_zret q74_ok d74_116 rfl (by first | assumption | exact Or.inl rfl | exact Or.inr rfl) ?_
        exact ⟨d4, rfl, hfx, rfl, m4⟩
      | inr x =>
        rw [e4] at m4
        obtain ⟨rfl, m4⟩ := m4
        refine wp_zret q74_ok d74_116 rfl (by first | assumption | exact Or.inl rfl | exact Or.inr rfl) ?_
        exact ⟨d4, rfl, hfx, rfl, m4⟩
  · have h89 := Classical.not_not.mp h89
    exact absurd (show (103 : Int32) = 112 from h89) (by decide)
theorem c_tc77_2 {xs : List Int32} {ext : mm_X} {n : Nat} {sh : mm_S} {g : mm_G} {r : mm_R} {L : wo_P} (hsh : shp sh) (hr : rfx r) {c q : Nat} (hso : so sh c 20) (hm : (sh.2.2.2 c).2 = mK 2) (hc : 4 ≤ c) {d : mm_D} (hg : sgR d L q) (hq : q < L.1) (hw : ∀ j, j < mK 2 → d c j = defI 2 j) : wp xs ext (n + 4) 74 77 [some (.ref 32), some (.int 98), some (.ref c)] [] (sh, d, g, r) (ipost sh g r L d c 2 (itmL L 2 160 (q + 1) 0 (defI 2))) := by
  refine wp_aload_n (j := 0) rfl q74_ok d74_77 ?_
  refine wp_getR q74_ok d74_78 fl_8_9 rfl (by first | assumption | exact so0 hsh rfl) (by first | assumption | exact hr _ _ _ rfl) ?_
  refine wp_cV q74_ok d74_81 ml_8_67 rfl q36_ok (u := 4) rfl (by first | assumption | exact so0 hsh rfl) rfl (Nat.le_of_ble_eq_true rfl) (Nat.le_of_ble_eq_true rfl) (c_skip hsh hr hg.2.1) (fun v81 μ81 hc => ?_)
  obtain ⟨rfl, rfl⟩ := hc
  refine ⟨mm_le_same rfl, ?_⟩
  have hg3 : sgR (mm_up d 3 1 (nI (q + 1))) L (q + 1) := ⟨tpR_sf hg.1 (sf_up _ _ _), (mm_up_at 1).trans (if_pos rfl), hq⟩
  refine wp_aload_n (j := 0) rfl q74_ok d74_84 ?_
  refine wp_aload_n (j := 2) rfl q74_ok d74_85 ?_
  refine wp_iload_n (j := 1) rfl q74_ok d74_86 ?_
  refine wp_bipush (v := 112) (by decide) q74_ok d74_87 ?_
  refine wp_icmp_ne q74_ok d74_89 (t := 98) rfl (fun h89 => ?_) (fun h89 => ?_)
  · refine wp_iload_n (j := 1) rfl q74_ok d74_98 ?_
    refine wp_bipush (v := 103) (by decide) q74_ok d74_99 ?_
    refine wp_icmp_ne q74_ok d74_101 (t := 110) rfl (fun h101 => ?_) (fun h101 => ?_)
    · refine wp_gets q74_ok d74_110 gs_8_77 ?_
      refine wp_cV q74_ok d74_113 ml_8_80 rfl q75_ok (u := 8) rfl (by first | assumption | exact so0 hsh rfl) rfl (Nat.le_of_ble_eq_true rfl) (Nat.le_of_ble_eq_true rfl) (c_items (k := 2) (c := c) (w := defI 2) hsh hr (by decide) hso hm hc hg3 (fun j hj => (congrFun (mm_up_ne (show c ≠ 3 by omega)) j).trans (hw j hj))) (fun v113 μ113 hc => ?_)
      obtain ⟨d4, rfl, f4, m4⟩ := hc
      refine ⟨mm_le_same rfl, ?_⟩
      have hfx : rf c d d4 := rf_trans (rf_sf (sf_up d 1 (nI (q + 1)))) f4
      cases e4 : itmL L 2 160 (q + 1) 0 (defI 2) with
      | inl e =>
        rw [e4] at m4
        obtain ⟨rfl, m4⟩ := m4
        refine wp_zret q74_ok d74_116 rfl (by first | assumption | exact Or.inl rfl | exact Or.inr rfl) ?_
        exact ⟨d4, rfl, hfx, rfl, m4⟩
      | inr x =>
        rw [e4] at m4
        obtain ⟨rfl, m4⟩ := m4
        refine wp_zret q74_ok d74_116 rfl (by first | assumption | exact Or.inl rfl | exact Or.inr rfl) ?_
        exact ⟨d4, rfl, hfx, rfl, m4⟩
    · have h101 := Classical.not_not.mp h101
      exact absurd (show (98 : Int32) = 103 from h101) (by decide)
  · have h89 := Classical.not_not.mp h89
    exact absurd (show (98 : Int32) = 112 from h89) (by decide)
theorem c_tclause {xs : List Int32} {ext : mm_X} {n : Nat} {sh : mm_S} {g : mm_G} {r : mm_R} {L : wo_P} (hsh : shp sh) (hr : rfx r) {p : Nat} {W : wo_W} {d : mm_D} (hg : sgR d L p) (hT : rpT d 18 W) : wp xs ext (n + 4) 74 0 [some (.ref 32), none, none] [] (sh, d, g, r) (tpost sh g r L d (townC L p W)) := by
  have hwl := wsp_le L hg.2.2
  have hwg := wsp_ge L p
  refine wp_aload_n (j := 0) rfl q74_ok d74_0 ?_
  refine wp_getR q74_ok d74_1 fl_8_9 rfl (by first | assumption | exact so0 hsh rfl) (by first | assumption | exact hr _ _ _ rfl) ?_
  refine wp_cV q74_ok d74_4 ml_8_41 rfl q35_ok (u := 4) rfl (by first | assumption | exact so0 hsh rfl) rfl (Nat.le_of_ble_eq_true rfl) (Nat.le_of_ble_eq_true rfl) (c_peek hsh hr hg) (fun v4 μ4 hc => ?_)
  obtain ⟨rfl, d1, rfl, f1, a1, w1⟩ := hc
  refine ⟨mm_le_same rfl, ?_⟩
  have hg1 : sgR d1 L (wsp L p) := ⟨tpR_sf hg.1 f1, a1, hwl⟩
  have hT1 := rpT_sf hT f1
  refine wp_istore_n (j := 1) (Nat.le_of_ble_eq_true rfl) (rfl : _ = [_, _, _]) q74_ok d74_7 ?_
  refine wp_iload_n (j := 1) rfl q74_ok d74_8 ?_
  refine wp_bipush (v := 112) (by decide) q74_ok d74_9 ?_
  refine wp_icmp_ne q74_ok d74_11 (t := 24) rfl (fun h11 => ?_) (fun h11 => ?_)
  · refine wp_iload_n (j := 1) rfl q74_ok d74_24 ?_
    refine wp_bipush (v := 103) (by decide) q74_ok d74_25 ?_
    refine wp_icmp_ne q74_ok d74_27 (t := 40) rfl (fun h27 => ?_) (fun h27 => ?_)
    · refine wp_iload_n (j := 1) rfl q74_ok d74_40 ?_
      refine wp_bipush (v := 98) (by decide) q74_ok d74_41 ?_
      refine wp_icmp_ne q74_ok d74_43 (t := 56) rfl (fun h43 => ?_) (fun h43 => ?_)
      · refine wp_null q74_ok d74_56 ?_
        refine wp_astore_nN (j := 2) (Nat.le_of_ble_eq_true rfl) (rfl : _ = [_, _, _]) q74_ok d74_57 ?_
        refine wp_aload_nN (j := 2) rfl q74_ok d74_58 ?_
        refine wp_ifnonnullN q74_ok d74_59 ?_
        refine wp_aload_n (j := 0) rfl q74_ok d74_62 ?_
        refine wp_getR q74_ok d74_63 fl_8_9 rfl (by first | assumption | exact so0 hsh rfl) (by first | assumption | exact hr _ _ _ rfl) ?_
        refine wp_aload_n (j := 0) rfl q74_ok d74_66 ?_
        refine wp_getR q74_ok d74_67 fl_8_9 rfl (by first | assumption | exact so0 hsh rfl) (by first | assumption | exact hr _ _ _ rfl) ?_
        refine wp_getI q74_ok d74_70 fl_8_51 rfl (by first | assumption | exact so0 hsh rfl) a1 ?_
        refine wp_cV q74_ok d74_73 ml_8_64 rfl q39_ok (u := 4) rfl (by first | assumption | exact so0 hsh rfl) rfl (Nat.le_of_ble_eq_true rfl) (Nat.le_of_ble_eq_true rfl) (c_refuse hsh hr _) (fun v73 μ73 hc => ?_)
        obtain ⟨rfl, rfl⟩ := hc
        refine ⟨mm_le_same rfl, ?_⟩
        refine wp_zret q74_ok d74_76 rfl (by first | assumption | exact Or.inl rfl | exact Or.inr rfl) ?_
        exact ⟨_, rfl, tf_sf (sf_trans f1 (sf_up d1 _ _)), by rw [show townC L p W = .inl (wsp L p) from by unfold townC; rw [if_neg (show ¬ bAt L (wsp L p) = 112 from h11), if_neg (show ¬ bAt L (wsp L p) = 103 from h27), if_neg (show ¬ bAt L (wsp L p) = 98 from h43)]]; exact ⟨rfl, (mm_up_at 2).trans (if_pos rfl)⟩⟩
      · have h43 := Classical.not_not.mp h43
        have hc0 : bAt L (wsp L p) = 98 := h43
        have n112 : ¬ bAt L (wsp L p) = 112 := h11
        have n103 : ¬ bAt L (wsp L p) = 103 := h27
        refine wp_aload_n (j := 0) rfl q74_ok d74_46 ?_
        refine wp_getR q74_ok d74_47 fl_8_15 rfl (by first | assumption | exact so0 hsh rfl) (by first | assumption | exact hr _ _ _ rfl) ?_
        refine wp_cV q74_ok d74_50 ml_8_61 rfl q55_ok (u := 7) rfl (by first | assumption | exact so0 hsh rfl) rfl (Nat.le_of_ble_eq_true rfl) (Nat.le_of_ble_eq_true rfl) (c_addBell18 (n := n + 2) hsh hr hT1.2.2.1 hT1.2.2.2.1) (fun v50 μ50 hc => ?_)
        obtain ⟨t1, t2⟩ := hc
        refine ⟨(Decidable.byCases (fun q => by rw [(t1 q).2]; exact mm_le_same rfl) (fun q => by rw [(t2 q).2]; exact mm_le_same rfl)), ?_⟩
        by_cases hlt : wnb W < 2
        · obtain ⟨rfl, rfl⟩ := t1 hlt
          have hql := bAt_lt hc0 (by decide)
          have hgm : sgR (up3 (mm_up d1 18 6 (nI (wnb W + 1))) (28 + wnb W) 20 0 9) L (wsp L p) := sg_row hg1 (by rw [up3_ne (by omega), mm_up_ne (by decide)]) (by rw [up3_ne (by omega), mm_up_ne (by decide)]) (by rw [up3_ne (by omega), mm_up_ne (by decide)])
          refine wp_goto (t := 57) rfl q74_ok d74_53 ?_
          refine wp_astore_n (j := 2) (Nat.le_of_ble_eq_true rfl) (rfl : _ = [_, _, _]) q74_ok d74_57 ?_
          refine wp_aload_n (j := 2) rfl q74_ok d74_58 ?_
          refine wp_ifnonnull (t := 77) rfl q74_ok d74_59 ?_
          have hrow : ∀ j, j < mK 2 → (up3 (mm_up d1 18 6 (nI (wnb W + 1))) (28 + wnb W) 20 0 9) (28 + wnb W) j = defI 2 j := fun j hj => (up3_at hj).trans (df3 hj)
          rw [hc0]
          refine wp_post (c_tc77_2 (n := n) hsh hr (s28 hsh hlt).1 (s28 hsh hlt).2 (by omega) hgm hql hrow) (fun v μ hc => ?_)
          obtain ⟨d5, rfl, f5, m5⟩ := hc
          have hes : townC L p W = itm2 L 2 (wsp L p + 1) (addB W) := by unfold townC; rw [if_neg n112, if_neg n103, if_pos hc0, if_pos hlt]
          refine ⟨d5, rfl, tf_trans (tf_sf f1) (tf_trans (fun a h1 h2 => by rw [up3_ne (by omega), mm_up_ne (by omega)]) (tf_rf f5 (by omega) (by omega))), ?_⟩
          rw [hes]
          unfold itm2
          cases e5 : itmL L 2 160 (wsp L p + 1) 0 (defI 2) with
          | inl e =>
            rw [e5] at m5
            exact m5
          | inr x =>
            rw [e5] at m5
            obtain ⟨m5, m6, m7⟩ := m5
            have h18 : d5 18 = mm_up d1 18 6 (nI (wnb W + 1)) 18 := (f5 18 (by decide) (by omega)).trans (up3_ne (by omega))
            refine ⟨m5, m6, addB_ok hT1 hlt (fun a h1 h2 h3 h4 => by rw [f5 a (by omega) (by omega), up3_ne (by omega), mm_up_ne (by omega)]) (by rw [h18, mm_up_at, if_pos rfl]) (fun j hj => by rw [h18, mm_up_at, if_neg hj]) m7⟩
        · obtain ⟨rfl, rfl⟩ := t2 hlt
          refine wp_goto (t := 57) rfl q74_ok d74_53 ?_
          refine wp_astore_nN (j := 2) (Nat.le_of_ble_eq_true rfl) (rfl : _ = [_, _, _]) q74_ok d74_57 ?_
          refine wp_aload_nN (j := 2) rfl q74_ok d74_58 ?_
          refine wp_ifnonnullN q74_ok d74_59 ?_
          refine wp_aload_n (j := 0) rfl q74_ok d74_62 ?_
          refine wp_getR q74_ok d74_63 fl_8_9 rfl (by first | assumption | exact so0 hsh rfl) (by first | assumption | exact hr _ _ _ rfl) ?_
          refine wp_aload_n (j := 0) rfl q74_ok d74_66 ?_
          refine wp_getR q74_ok d74_67 fl_8_9 rfl (by first | assumption | exact so0 hsh rfl) (by first | assumption | exact hr _ _ _ rfl) ?_
          refine wp_getI q74_ok d74_70 fl_8_51 rfl (by first | assumption | exact so0 hsh rfl) a1 ?_
          refine wp_cV q74_ok d74_73 ml_8_64 rfl q39_ok (u := 4) rfl (by first | assumption | exact so0 hsh rfl) rfl (Nat.le_of_ble_eq_true rfl) (Nat.le_of_ble_eq_true rfl) (c_refuse hsh hr _) (fun v73 μ73 hc => ?_)
          obtain ⟨rfl, rfl⟩ := hc
          refine ⟨mm_le_same rfl, ?_⟩
          refine wp_zret q74_ok d74_76 rfl (by first | assumption | exact Or.inl rfl | exact Or.inr rfl) ?_
          exact ⟨_, rfl, tf_sf (sf_trans f1 (sf_up d1 _ _)), by rw [show townC L p W = .inl (wsp L p) from by unfold townC; rw [if_neg n112, if_neg n103, if_pos hc0, if_neg hlt]]; exact ⟨rfl, (mm_up_at 2).trans (if_pos rfl)⟩⟩
    · have h27 := Classical.not_not.mp h27
      have hc0 : bAt L (wsp L p) = 103 := h27
      have n112 : ¬ bAt L (wsp L p) = 112 := h11
      refine wp_aload_n (j := 0) rfl q74_ok d74_30 ?_
      refine wp_getR q74_ok d74_31 fl_8_15 rfl (by first | assumption | exact so0 hsh rfl) (by first | assumption | exact hr _ _ _ rfl) ?_
      refine wp_cV q74_ok d74_34 ml_8_58 rfl q56_ok (u := 7) rfl (by first | assumption | exact so0 hsh rfl) rfl (Nat.le_of_ble_eq_true rfl) (Nat.le_of_ble_eq_true rfl) (c_addFog18 (n := n + 2) hsh hr hT1.2.2.2.2.2.2.1) (fun v34 μ34 hc => ?_)
      obtain ⟨t1, t2⟩ := hc
      refine ⟨(Decidable.byCases (fun q => by rw [(t1 q).2]; exact mm_le_same rfl) (fun q => by rw [(t2 q).2]; exact mm_le_same rfl)), ?_⟩
      by_cases hfg : wfg W = true
      · obtain ⟨rfl, rfl⟩ := t2 (by rw [if_pos hfg]; decide)
        refine wp_goto (t := 57) rfl q74_ok d74_37 ?_
        refine wp_astore_nN (j := 2) (Nat.le_of_ble_eq_true rfl) (rfl : _ = [_, _, _]) q74_ok d74_57 ?_
        refine wp_aload_nN (j := 2) rfl q74_ok d74_58 ?_
        refine wp_ifnonnullN q74_ok d74_59 ?_
        refine wp_aload_n (j := 0) rfl q74_ok d74_62 ?_
        refine wp_getR q74_ok d74_63 fl_8_9 rfl (by first | assumption | exact so0 hsh rfl) (by first | assumption | exact hr _ _ _ rfl) ?_
        refine wp_aload_n (j := 0) rfl q74_ok d74_66 ?_
        refine wp_getR q74_ok d74_67 fl_8_9 rfl (by first | assumption | exact so0 hsh rfl) (by first | assumption | exact hr _ _ _ rfl) ?_
        refine wp_getI q74_ok d74_70 fl_8_51 rfl (by first | assumption | exact so0 hsh rfl) a1 ?_
        refine wp_cV q74_ok d74_73 ml_8_64 rfl q39_ok (u := 4) rfl (by first | assumption | exact so0 hsh rfl) rfl (Nat.le_of_ble_eq_true rfl) (Nat.le_of_ble_eq_true rfl) (c_refuse hsh hr _) (fun v73 μ73 hc => ?_)
        obtain ⟨rfl, rfl⟩ := hc
        refine ⟨mm_le_same rfl, ?_⟩
        refine wp_zret q74_ok d74_76 rfl (by first | assumption | exact Or.inl rfl | exact Or.inr rfl) ?_
        exact ⟨_, rfl, tf_sf (sf_trans f1 (sf_up d1 _ _)), by rw [show townC L p W = .inl (wsp L p) from by unfold townC; rw [if_neg n112, if_pos hc0, if_pos hfg]]; exact ⟨rfl, (mm_up_at 2).trans (if_pos rfl)⟩⟩
      · obtain ⟨rfl, rfl⟩ := t1 (if_neg hfg)
        have hql := bAt_lt hc0 (by decide)
        have hgm : sgR (up4 (mm_up d1 18 7 1) 30 0 10 60 0) L (wsp L p) := sg_row hg1 (by rw [up4_ne (by omega), mm_up_ne (by decide)]) (by rw [up4_ne (by omega), mm_up_ne (by decide)]) (by rw [up4_ne (by omega), mm_up_ne (by decide)])
        refine wp_goto (t := 57) rfl q74_ok d74_37 ?_
        refine wp_astore_n (j := 2) (Nat.le_of_ble_eq_true rfl) (rfl : _ = [_, _, _]) q74_ok d74_57 ?_
        refine wp_aload_n (j := 2) rfl q74_ok d74_58 ?_
        refine wp_ifnonnull (t := 77) rfl q74_ok d74_59 ?_
        have hrow : ∀ j, j < mK 1 → (up4 (mm_up d1 18 7 1) 30 0 10 60 0) 30 j = defI 1 j := fun j hj => (up4_at hj).trans (df4_1 hj)
        rw [hc0]
        refine wp_post (c_tc77_1 (n := n) hsh hr (so0 hsh rfl) (shl hsh (Nat.le_of_ble_eq_true rfl) rfl) (by omega) hgm hql hrow) (fun v μ hc => ?_)
        obtain ⟨d5, rfl, f5, m5⟩ := hc
        have hes : townC L p W = itm2 L 1 (wsp L p + 1) (addF W) := by unfold townC; rw [if_neg n112, if_pos hc0, if_neg hfg]
        refine ⟨d5, rfl, tf_trans (tf_sf f1) (tf_trans (fun a h1 h2 => by rw [up4_ne (by omega), mm_up_ne (by omega)]) (tf_rf f5 (by omega) (by omega))), ?_⟩
        rw [hes]
        unfold itm2
        cases e5 : itmL L 1 160 (wsp L p + 1) 0 (defI 1) with
        | inl e =>
          rw [e5] at m5
          exact m5
        | inr x =>
          rw [e5] at m5
          obtain ⟨m5, m6, m7⟩ := m5
          have h18 : d5 18 = mm_up d1 18 7 1 18 := (f5 18 (by decide) (by omega)).trans (up4_ne (by omega))
          refine ⟨m5, m6, addF_ok hT1  (fun a h1 h2 h3 h4 => by rw [f5 a (by omega) (by omega), up4_ne (by omega), mm_up_ne (by omega)]) (by rw [h18, mm_up_at, if_pos rfl]) (fun j hj => by rw [h18, mm_up_at, if_neg hj]) m7⟩
  · have h11 := Classical.not_not.mp h11
    have hc0 : bAt L (wsp L p) = 112 := h11
    refine wp_aload_n (j := 0) rfl q74_ok d74_14 ?_
    refine wp_getR q74_ok d74_15 fl_8_15 rfl (by first | assumption | exact so0 hsh rfl) (by first | assumption | exact hr _ _ _ rfl) ?_
    refine wp_cV q74_ok d74_18 ml_8_54 rfl q54_ok (u := 7) rfl (by first | assumption | exact so0 hsh rfl) rfl (Nat.le_of_ble_eq_true rfl) (Nat.le_of_ble_eq_true rfl) (c_addPerson18 (n := n + 2) hsh hr hT1.1 hT1.2.1) (fun v18 μ18 hc => ?_)
    obtain ⟨t1, t2⟩ := hc
    refine ⟨(Decidable.byCases (fun q => by rw [(t1 q).2]; exact mm_le_same rfl) (fun q => by rw [(t2 q).2]; exact mm_le_same rfl)), ?_⟩
    by_cases hlt : wnp W < 6
    · obtain ⟨rfl, rfl⟩ := t1 hlt
      have hql := bAt_lt hc0 (by decide)
      have hgm : sgR (up4 (mm_up d1 18 5 (nI (wnp W + 1))) (20 + wnp W) 0 5 20 1) L (wsp L p) := sg_row hg1 (by rw [up4_ne (by omega), mm_up_ne (by decide)]) (by rw [up4_ne (by omega), mm_up_ne (by decide)]) (by rw [up4_ne (by omega), mm_up_ne (by decide)])
      refine wp_goto (t := 57) rfl q74_ok d74_21 ?_
      refine wp_astore_n (j := 2) (Nat.le_of_ble_eq_true rfl) (rfl : _ = [_, _, _]) q74_ok d74_57 ?_
      refine wp_aload_n (j := 2) rfl q74_ok d74_58 ?_
      refine wp_ifnonnull (t := 77) rfl q74_ok d74_59 ?_
      have hrow : ∀ j, j < mK 0 → (up4 (mm_up d1 18 5 (nI (wnp W + 1))) (20 + wnp W) 0 5 20 1) (20 + wnp W) j = defI 0 j := fun j hj => (up4_at hj).trans (df4_0 hj)
      rw [hc0]
      refine wp_post (c_tc77_0 (n := n) hsh hr (s20 hsh hlt).1 (s20 hsh hlt).2 (by omega) hgm hql hrow) (fun v μ hc => ?_)
      obtain ⟨d5, rfl, f5, m5⟩ := hc
      have hes : townC L p W = itm2 L 0 (wsp L p + 1) (addP W) := by unfold townC; rw [if_pos hc0, if_pos hlt]
      refine ⟨d5, rfl, tf_trans (tf_sf f1) (tf_trans (fun a h1 h2 => by rw [up4_ne (by omega), mm_up_ne (by omega)]) (tf_rf f5 (by omega) (by omega))), ?_⟩
      rw [hes]
      unfold itm2
      cases e5 : itmL L 0 160 (wsp L p + 1) 0 (defI 0) with
      | inl e =>
        rw [e5] at m5
        exact m5
      | inr x =>
        rw [e5] at m5
        obtain ⟨m5, m6, m7⟩ := m5
        have h18 : d5 18 = mm_up d1 18 5 (nI (wnp W + 1)) 18 := (f5 18 (by decide) (by omega)).trans (up4_ne (by omega))
        refine ⟨m5, m6, addP_ok hT1 hlt (fun a h1 h2 h3 h4 => by rw [f5 a (by omega) (by omega), up4_ne (by omega), mm_up_ne (by omega)]) (by rw [h18, mm_up_at, if_pos rfl]) (fun j hj => by rw [h18, mm_up_at, if_neg hj]) m7⟩
    · obtain ⟨rfl, rfl⟩ := t2 hlt
      refine wp_goto (t := 57) rfl q74_ok d74_21 ?_
      refine wp_astore_nN (j := 2) (Nat.le_of_ble_eq_true rfl) (rfl : _ = [_, _, _]) q74_ok d74_57 ?_
      refine wp_aload_nN (j := 2) rfl q74_ok d74_58 ?_
      refine wp_ifnonnullN q74_ok d74_59 ?_
      refine wp_aload_n (j := 0) rfl q74_ok d74_62 ?_
      refine wp_getR q74_ok d74_63 fl_8_9 rfl (by first | assumption | exact so0 hsh rfl) (by first | assumption | exact hr _ _ _ rfl) ?_
      refine wp_aload_n (j := 0) rfl q74_ok d74_66 ?_
      refine wp_getR q74_ok d74_67 fl_8_9 rfl (by first | assumption | exact so0 hsh rfl) (by first | assumption | exact hr _ _ _ rfl) ?_
      refine wp_getI q74_ok d74_70 fl_8_51 rfl (by first | assumption | exact so0 hsh rfl) a1 ?_
      refine wp_cV q74_ok d74_73 ml_8_64 rfl q39_ok (u := 4) rfl (by first | assumption | exact so0 hsh rfl) rfl (Nat.le_of_ble_eq_true rfl) (Nat.le_of_ble_eq_true rfl) (c_refuse hsh hr _) (fun v73 μ73 hc => ?_)
      obtain ⟨rfl, rfl⟩ := hc
      refine ⟨mm_le_same rfl, ?_⟩
      refine wp_zret q74_ok d74_76 rfl (by first | assumption | exact Or.inl rfl | exact Or.inr rfl) ?_
      exact ⟨_, rfl, tf_sf (sf_trans f1 (sf_up d1 _ _)), by rw [show townC L p W = .inl (wsp L p) from by unfold townC; rw [if_pos hc0, if_neg hlt]]; exact ⟨rfl, (mm_up_at 2).trans (if_pos rfl)⟩⟩
