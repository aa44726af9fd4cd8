/-! ===== the signs ===== -/
def bAt (L : wo_P) (p : Nat) : Int32 := if p < L.1 then L.2 p else -1
def wspS (L : wo_P) : Nat → Nat → Nat
  | 0, k => k
  | z + 1, k => if L.2 k = 32 then wspS L z (k + 1) else k
def wsp (L : wo_P) (p : Nat) : Nat := wspS L (L.1 - p) p
theorem wspS_le (L : wo_P) : ∀ z k, k ≤ wspS L z k ∧ wspS L z k ≤ k + z
  | 0, k => ⟨Nat.le_refl _, Nat.le_refl _⟩
  | z + 1, k => by
    rw [wspS]
    split
    · have := wspS_le L z (k + 1)
      omega
    · omega
theorem wsp_ge (L : wo_P) (p : Nat) : p ≤ wsp L p := (wspS_le L _ _).1
theorem wsp_le (L : wo_P) {p : Nat} (h : p ≤ L.1) : wsp L p ≤ L.1 := by
  have := (wspS_le L (L.1 - p) p).2
  unfold wsp
  omega
/-- the tape and the place -/
def sgR (d : mm_D) (L : wo_P) (p : Nat) : Prop := tpR d L ∧ d 3 1 = nI p ∧ p ≤ L.1
def sf (d d2 : mm_D) : Prop := ∀ c, c ≠ 3 → d2 c = d c
theorem sf_refl (d : mm_D) : sf d d := fun _ _ => rfl
theorem sf_trans {d d1 d2 : mm_D} (h : sf d d1) (h' : sf d1 d2) : sf d d2 := fun c hc => (h' c hc).trans (h c hc)
theorem sf_up (d : mm_D) (k : Nat) (v : Int32) : sf d (mm_up d 3 k v) := fun c hc => mm_up_ne hc
theorem tpR_sf {d d2 : mm_D} {L : wo_P} (h : tpR d L) (hf : sf d d2) : tpR d2 L := by
  unfold tpR
  rw [hf 1 (by decide), hf 2 (by decide)]
  exact h
theorem c_peek_l {xs : List Int32} {ext : mm_X} {n : Nat} {sh : mm_S} {d : mm_D} {g : mm_G} {r : mm_R} (hsh : shp sh) (hr : rfx r) {L : wo_P} (hL : tpR d L) : ∀ (z k : Nat) (d1 : mm_D), z + k = L.1 → sf d d1 → d1 3 2 = d 3 2 → wp xs ext (n + 0) 35 5 [some (.ref 3), some (.int (nI k))] [] (sh, d1, g, r) (fun v μ => v = some (.int (bAt L (wspS L z k))) ∧ ∃ d2, μ = (sh, d2, g, r) ∧ sf d d2 ∧ d2 3 1 = nI (wspS L z k) ∧ d2 3 2 = d 3 2) := by
  have h160 := hL.2.1
  intro z
  induction z with
  | zero =>
    intro k d1 hm hf h2
    have hvb : k = L.1 := by omega
    subst hvb
    have hL1 := tpR_sf hL hf
    refine wp_iload_n (j := 1) rfl q35_ok d35_5 ?_
    refine wp_if_lt q35_ok d35_6 (t := 67) rfl (fun h6 => ?_) (fun h6 => ?_)
    · exact absurd h6 (nI_pos (by omega))
    · refine wp_iload_n (j := 1) rfl q35_ok d35_9 ?_
      refine wp_aload_n (j := 0) rfl q35_ok d35_10 ?_
      refine wp_getR q35_ok d35_11 fl_4_9 rfl (by first | assumption | exact so0 hsh rfl) (by first | assumption | exact hr _ _ _ rfl) ?_
      refine wp_getI q35_ok d35_14 fl_4_22 rfl (by first | assumption | exact so0 hsh rfl) hL1.1 ?_
      refine wp_icmp_ge q35_ok d35_17 (t := 67) rfl (fun h17 => ?_) (fun h17 => ?_)
      · refine wp_aload_n (j := 0) rfl q35_ok d35_67 ?_
        refine wp_aload_n (j := 0) rfl q35_ok d35_68 ?_
        refine wp_getR q35_ok d35_69 fl_4_9 rfl (by first | assumption | exact so0 hsh rfl) (by first | assumption | exact hr _ _ _ rfl) ?_
        refine wp_getI q35_ok d35_72 fl_4_22 rfl (by first | assumption | exact so0 hsh rfl) hL1.1 ?_
        refine wp_putI q35_ok d35_75 fl_4_15 rfl (by first | assumption | exact so0 hsh rfl) (Or.inl rfl) ?_
        refine wp_iconst (v := -1) (by decide) q35_ok d35_78 ?_
        refine wp_iret q35_ok d35_79 rfl ?_
        exact ⟨by rw [wspS]; unfold bAt; rw [if_neg (Nat.lt_irrefl _)], _, rfl, sf_trans hf (sf_up d1 _ _), (mm_up_at 1).trans (if_pos rfl), ((mm_up_at 2).trans (if_neg (by decide))).trans h2⟩
      · exact absurd (nI_le (Nat.le_refl _) (by omega)) h17
  | succ z ih =>
    intro k d1 hm hf h2
    have hlt : k < L.1 := by omega
    have hL1 := tpR_sf hL hf
    have e2 : d1 2 k = L.2 k := hL1.2.2 k hlt
    refine wp_iload_n (j := 1) rfl q35_ok d35_5 ?_
    refine wp_if_lt q35_ok d35_6 (t := 67) rfl (fun h6 => ?_) (fun h6 => ?_)
    · exact absurd h6 (nI_pos (by omega))
    · refine wp_iload_n (j := 1) rfl q35_ok d35_9 ?_
      refine wp_aload_n (j := 0) rfl q35_ok d35_10 ?_
      refine wp_getR q35_ok d35_11 fl_4_9 rfl (by first | assumption | exact so0 hsh rfl) (by first | assumption | exact hr _ _ _ rfl) ?_
      refine wp_getI q35_ok d35_14 fl_4_22 rfl (by first | assumption | exact so0 hsh rfl) hL1.1 ?_
      refine wp_icmp_ge q35_ok d35_17 (t := 67) rfl (fun h17 => ?_) (fun h17 => ?_)
      · exact absurd h17 (nI_ge hlt (by omega))
      · refine wp_iload_n (j := 1) rfl q35_ok d35_20 ?_
        refine wp_aload_n (j := 0) rfl q35_ok d35_21 ?_
        refine wp_getR q35_ok d35_22 fl_4_9 rfl (by first | assumption | exact so0 hsh rfl) (by first | assumption | exact hr _ _ _ rfl) ?_
        refine wp_getR q35_ok d35_25 fl_4_27 rfl (by first | assumption | exact so0 hsh rfl) (by first | assumption | exact hr _ _ _ rfl) ?_
        refine wp_alen (m := 160) q35_ok d35_28 (shlt hsh (Nat.le_of_ble_eq_true rfl)) (sht hsh (Nat.le_of_ble_eq_true rfl) (Nat.le_of_ble_eq_true rfl)) (by first | assumption | exact shl hsh (Nat.le_of_ble_eq_true rfl) rfl) rfl ?_ (shK hsh)
        refine wp_icmp_ge q35_ok d35_29 (t := 67) rfl (fun h29 => ?_) (fun h29 => ?_)
        · exact absurd h29 (nI_ge (show k < 160 by omega) (by decide))
        · refine wp_aload_n (j := 0) rfl q35_ok d35_32 ?_
          refine wp_iload_n (j := 1) rfl q35_ok d35_33 ?_
          refine wp_putI q35_ok d35_34 fl_4_15 rfl (by first | assumption | exact so0 hsh rfl) (Or.inl rfl) ?_
          refine wp_aload_n (j := 0) rfl q35_ok d35_37 ?_
          refine wp_getR q35_ok d35_38 fl_4_9 rfl (by first | assumption | exact so0 hsh rfl) (by first | assumption | exact hr _ _ _ rfl) ?_
          refine wp_getR q35_ok d35_41 fl_4_27 rfl (by first | assumption | exact so0 hsh rfl) (by first | assumption | exact hr _ _ _ rfl) ?_
          refine wp_iload_n (j := 1) rfl q35_ok d35_44 ?_
          refine wp_iald (m := 160) q35_ok d35_45 (by first | assumption | exact so0 hsh rfl) (by first | assumption | exact shl hsh (Nat.le_of_ble_eq_true rfl) rfl) (by first | assumption | exact ixn_nI (by omega)) ((congrFun (mm_up_ne (show 2 ≠ 3 by decide)) k).trans e2) ?_ (shK hsh)
          refine wp_bipush (v := 32) (by decide) q35_ok d35_46 ?_
          refine wp_icmp_eq q35_ok d35_48 (t := 61) rfl (fun h48 => ?_) (fun h48 => ?_)
          · refine wp_iinc (j := 1) rfl (by first | exact inc1 | rfl) (rfl : _ = [_, _]) q35_ok d35_61 ?_
            refine wp_goto (t := 5) rfl q35_ok d35_64 ?_
            rw [wspS, if_pos (show L.2 k = 32 from h48)]
            exact ih (k + 1) _ (by omega) (sf_trans hf (sf_up d1 _ _)) (((mm_up_at 2).trans (if_neg (by decide))).trans h2)
          · refine wp_aload_n (j := 0) rfl q35_ok d35_51 ?_
            refine wp_getR q35_ok d35_52 fl_4_9 rfl (by first | assumption | exact so0 hsh rfl) (by first | assumption | exact hr _ _ _ rfl) ?_
            refine wp_getR q35_ok d35_55 fl_4_27 rfl (by first | assumption | exact so0 hsh rfl) (by first | assumption | exact hr _ _ _ rfl) ?_
            refine wp_iload_n (j := 1) rfl q35_ok d35_58 ?_
            refine wp_iald (m := 160) q35_ok d35_59 (by first | assumption | exact so0 hsh rfl) (by first | assumption | exact shl hsh (Nat.le_of_ble_eq_true rfl) rfl) (by first | assumption | exact ixn_nI (by omega)) ((congrFun (mm_up_ne (show 2 ≠ 3 by decide)) k).trans e2) ?_ (shK hsh)
            refine wp_iret q35_ok d35_60 rfl ?_
            rw [wspS, if_neg (show ¬ L.2 k = 32 from h48)]
            exact ⟨by unfold bAt; rw [if_pos hlt], _, rfl, sf_trans hf (sf_up d1 _ _), (mm_up_at 1).trans (if_pos rfl), ((mm_up_at 2).trans (if_neg (by decide))).trans h2⟩
theorem c_peek {xs : List Int32} {ext : mm_X} {n : Nat} {sh : mm_S} {d : mm_D} {g : mm_G} {r : mm_R} (hsh : shp sh) (hr : rfx r) {L : wo_P} {p : Nat} (hg : sgR d L p) : wp xs ext (n + 0) 35 0 [some (.ref 3), none] [] (sh, d, g, r) (fun v μ => v = some (.int (bAt L (wsp L p))) ∧ ∃ d2, μ = (sh, d2, g, r) ∧ sf d d2 ∧ d2 3 1 = nI (wsp L p) ∧ d2 3 2 = d 3 2) := by
  refine wp_aload_n (j := 0) rfl q35_ok d35_0 ?_
  refine wp_getI q35_ok d35_1 fl_4_15 rfl (by first | assumption | exact so0 hsh rfl) hg.2.1 ?_
  refine wp_istore_n (j := 1) (Nat.le_of_ble_eq_true rfl) (rfl : _ = [_, _]) q35_ok d35_4 ?_
  exact c_peek_l hsh hr hg.1 (L.1 - p) p d (by have := hg.2.2; omega) (sf_refl d) rfl
theorem c_passes {xs : List Int32} {ext : mm_X} {n : Nat} {sh : mm_S} {d : mm_D} {g : mm_G} {r : mm_R} (hsh : shp sh) (hr : rfx r) {L : wo_P} {p : Nat} (hg : sgR d L p) (s : Int32) : wp xs ext (n + 1) 37 0 [some (.ref 3), some (.int s)] [] (sh, d, g, r) (fun v μ => v = some (.int (if bAt L (wsp L p) = s then 1 else 0)) ∧ ∃ d2, μ = (sh, d2, g, r) ∧ sf d d2 ∧ d2 3 1 = nI (if bAt L (wsp L p) = s then wsp L p + 1 else wsp L p) ∧ d2 3 2 = d 3 2) := by
  refine wp_aload_n (j := 0) rfl q37_ok d37_0 ?_
  refine wp_cV q37_ok d37_1 ml_4_31 rfl q35_ok (u := 4) rfl (by first | assumption | exact so0 hsh rfl) rfl (Nat.le_of_ble_eq_true rfl) (Nat.le_of_ble_eq_true rfl) (c_peek hsh hr hg) (fun v1 μ1 hc => ?_)
  obtain ⟨rfl, d1, rfl, f1, a1, w1⟩ := hc
  refine ⟨mm_le_same rfl, ?_⟩
  refine wp_iload_n (j := 1) rfl q37_ok d37_4 ?_
  refine wp_icmp_eq q37_ok d37_5 (t := 10) rfl (fun h5 => ?_) (fun h5 => ?_)
  · refine wp_aload_n (j := 0) rfl q37_ok d37_10 ?_
    refine wp_dup rfl q37_ok d37_11 ?_
    refine wp_getI q37_ok d37_12 fl_4_15 rfl (by first | assumption | exact so0 hsh rfl) a1 ?_
    refine wp_iconst (v := 1) (by decide) q37_ok d37_15 ?_
    refine wp_iadd rfl q37_ok d37_16 ?_
    refine wp_putI q37_ok d37_17 fl_4_15 rfl (by first | assumption | exact so0 hsh rfl) (Or.inl rfl) ?_
    refine wp_iconst (v := 1) (by decide) q37_ok d37_20 ?_
    refine wp_zret q37_ok d37_21 rfl (by first | assumption | exact Or.inl rfl | exact Or.inr rfl) ?_
    rw [if_pos (show bAt L (wsp L p) = s from h5), if_pos (show bAt L (wsp L p) = s from h5)]
    exact ⟨rfl, _, rfl, sf_trans f1 (sf_up d1 _ _), ((mm_up_at 1).trans (if_pos rfl)).trans (nI_1 _), ((mm_up_at 2).trans (if_neg (by decide))).trans w1⟩
  · refine wp_iconst (v := 0) (by decide) q37_ok d37_8 ?_
    refine wp_zret q37_ok d37_9 rfl (by first | assumption | exact Or.inl rfl | exact Or.inr rfl) ?_
    rw [if_neg (show ¬ bAt L (wsp L p) = s from h5), if_neg (show ¬ bAt L (wsp L p) = s from h5)]
    exact ⟨rfl, d1, rfl, f1, a1, w1⟩
theorem c_refuse {xs : List Int32} {ext : mm_X} {n : Nat} {sh : mm_S} {d : mm_D} {g : mm_G} {r : mm_R} (hsh : shp sh) (hr : rfx r) (w : Int32) : wp xs ext (n + 0) 39 0 [some (.ref 3), some (.int w)] [] (sh, d, g, r) (fun v μ => v = some (.int 0) ∧ μ = (sh, mm_up d 3 2 w, g, r)) := by
  refine wp_aload_n (j := 0) rfl q39_ok d39_0 ?_
  refine wp_iload_n (j := 1) rfl q39_ok d39_1 ?_
  refine wp_putI q39_ok d39_2 fl_4_19 rfl (by first | assumption | exact so0 hsh rfl) (Or.inl rfl) ?_
  refine wp_iconst (v := 0) (by decide) q39_ok d39_5 ?_
  refine wp_zret q39_ok d39_6 rfl (by first | assumption | exact Or.inl rfl | exact Or.inr rfl) ?_
  exact ⟨rfl, rfl⟩
theorem c_takes {xs : List Int32} {ext : mm_X} {n : Nat} {sh : mm_S} {d : mm_D} {g : mm_G} {r : mm_R} (hsh : shp sh) (hr : rfx r) {L : wo_P} {p : Nat} (hg : sgR d L p) (s : Int32) : wp xs ext (n + 1) 38 0 [some (.ref 3), some (.int s)] [] (sh, d, g, r) (fun v μ => (bAt L (wsp L p) = s → v = some (.int 1) ∧ ∃ d2, μ = (sh, d2, g, r) ∧ sf d d2 ∧ d2 3 1 = nI (wsp L p + 1)) ∧ (¬ bAt L (wsp L p) = s → v = some (.int 0) ∧ ∃ d2, μ = (sh, d2, g, r) ∧ sf d d2 ∧ d2 3 2 = nI (wsp L p))) := by
  refine wp_aload_n (j := 0) rfl q38_ok d38_0 ?_
  refine wp_cV q38_ok d38_1 ml_4_31 rfl q35_ok (u := 4) rfl (by first | assumption | exact so0 hsh rfl) rfl (Nat.le_of_ble_eq_true rfl) (Nat.le_of_ble_eq_true rfl) (c_peek hsh hr hg) (fun v1 μ1 hc => ?_)
  obtain ⟨rfl, d1, rfl, f1, a1, w1⟩ := hc
  refine ⟨mm_le_same rfl, ?_⟩
  refine wp_iload_n (j := 1) rfl q38_ok d38_4 ?_
  refine wp_icmp_eq q38_ok d38_5 (t := 17) rfl (fun h5 => ?_) (fun h5 => ?_)
  · refine wp_aload_n (j := 0) rfl q38_ok d38_17 ?_
    refine wp_dup rfl q38_ok d38_18 ?_
    refine wp_getI q38_ok d38_19 fl_4_15 rfl (by first | assumption | exact so0 hsh rfl) a1 ?_
    refine wp_iconst (v := 1) (by decide) q38_ok d38_22 ?_
    refine wp_iadd rfl q38_ok d38_23 ?_
    refine wp_putI q38_ok d38_24 fl_4_15 rfl (by first | assumption | exact so0 hsh rfl) (Or.inl rfl) ?_
    refine wp_iconst (v := 1) (by decide) q38_ok d38_27 ?_
    refine wp_zret q38_ok d38_28 rfl (by first | assumption | exact Or.inl rfl | exact Or.inr rfl) ?_
    exact ⟨fun _ => ⟨rfl, _, rfl, sf_trans f1 (sf_up d1 _ _), ((mm_up_at 1).trans (if_pos rfl)).trans (nI_1 _)⟩, fun q => absurd h5 q⟩
  · refine wp_aload_n (j := 0) rfl q38_ok d38_8 ?_
    refine wp_aload_n (j := 0) rfl q38_ok d38_9 ?_
    refine wp_getI q38_ok d38_10 fl_4_15 rfl (by first | assumption | exact so0 hsh rfl) a1 ?_
    refine wp_cV q38_ok d38_13 ml_4_35 rfl q39_ok (u := 4) rfl (by first | assumption | exact so0 hsh rfl) rfl (Nat.le_of_ble_eq_true rfl) (Nat.le_of_ble_eq_true rfl) (c_refuse hsh hr _) (fun v13 μ13 hc => ?_)
    obtain ⟨rfl, rfl⟩ := hc
    refine ⟨mm_le_same rfl, ?_⟩
    refine wp_zret q38_ok d38_16 rfl (by first | assumption | exact Or.inl rfl | exact Or.inr rfl) ?_
    exact ⟨fun q => absurd q h5, fun _ => ⟨rfl, _, rfl, sf_trans f1 (sf_up d1 _ _), (mm_up_at 2).trans (if_pos rfl)⟩⟩
theorem c_skip {xs : List Int32} {ext : mm_X} {n : Nat} {sh : mm_S} {d : mm_D} {g : mm_G} {r : mm_R} (hsh : shp sh) (hr : rfx r) {p : Nat} (h : d 3 1 = nI p) : wp xs ext (n + 0) 36 0 [some (.ref 3)] [] (sh, d, g, r) (fun v μ => v = none ∧ μ = (sh, mm_up d 3 1 (nI (p + 1)), g, r)) := by
  refine wp_aload_n (j := 0) rfl q36_ok d36_0 ?_
  refine wp_dup rfl q36_ok d36_1 ?_
  refine wp_getI q36_ok d36_2 fl_4_15 rfl (by first | assumption | exact so0 hsh rfl) (by first | assumption | rfl) ?_
  refine wp_iconst (v := 1) (by decide) q36_ok d36_5 ?_
  refine wp_iadd rfl q36_ok d36_6 ?_
  refine wp_putI q36_ok d36_7 fl_4_15 rfl (by first | assumption | exact so0 hsh rfl) (Or.inl rfl) ?_
  refine wp_vret q36_ok d36_10 rfl ?_
  exact ⟨rfl, by rw [show nI p + 1 = nI (p + 1) from nI_1 p]⟩
theorem c_srestart {xs : List Int32} {ext : mm_X} {n : Nat} {sh : mm_S} {d : mm_D} {g : mm_G} {r : mm_R} (hsh : shp sh) (hr : rfx r)  : wp xs ext (n + 0) 34 0 [some (.ref 3)] [] (sh, d, g, r) (fun v μ => v = none ∧ μ = (sh, mm_up (mm_up d 3 1 0) 3 2 (-1), g, r)) := by
  refine wp_aload_n (j := 0) rfl q34_ok d34_0 ?_
  refine wp_iconst (v := 0) (by decide) q34_ok d34_1 ?_
  refine wp_putI q34_ok d34_2 fl_4_15 rfl (by first | assumption | exact so0 hsh rfl) (Or.inl rfl) ?_
  refine wp_aload_n (j := 0) rfl q34_ok d34_5 ?_
  refine wp_iconst (v := -1) (by decide) q34_ok d34_6 ?_
  refine wp_putI q34_ok d34_7 fl_4_19 rfl (by first | assumption | exact so0 hsh rfl) (Or.inl rfl) ?_
  refine wp_vret q34_ok d34_10 rfl ?_
  exact ⟨rfl, rfl⟩
def dgt (L : wo_P) (p : Nat) : Int32 := if p < L.1 then (if L.2 p - 48 < 0 then -1 else if 9 < L.2 p - 48 then -1 else L.2 p - 48) else -1
theorem c_digit {xs : List Int32} {ext : mm_X} {n : Nat} {sh : mm_S} {d : mm_D} {g : mm_G} {r : mm_R} (hsh : shp sh) (hr : rfx r) {L : wo_P} {p : Nat} (hg : sgR d L p) : wp xs ext (n + 0) 40 0 [some (.ref 3), none] [] (sh, d, g, r) (fun v μ => v = some (.int (dgt L p)) ∧ μ = (sh, d, g, r)) := by
  have h160 := hg.1.2.1
  have hp := hg.2.2
  refine wp_aload_n (j := 0) rfl q40_ok d40_0 ?_
  refine wp_getI q40_ok d40_1 fl_4_15 rfl (by first | assumption | exact so0 hsh rfl) hg.2.1 ?_
  refine wp_if_lt q40_ok d40_4 (t := 36) rfl (fun h4 => ?_) (fun h4 => ?_)
  · exact absurd h4 (nI_pos (by omega))
  · refine wp_aload_n (j := 0) rfl q40_ok d40_7 ?_
    refine wp_getI q40_ok d40_8 fl_4_15 rfl (by first | assumption | exact so0 hsh rfl) hg.2.1 ?_
    refine wp_aload_n (j := 0) rfl q40_ok d40_11 ?_
    refine wp_getR q40_ok d40_12 fl_4_9 rfl (by first | assumption | exact so0 hsh rfl) (by first | assumption | exact hr _ _ _ rfl) ?_
    refine wp_getI q40_ok d40_15 fl_4_22 rfl (by first | assumption | exact so0 hsh rfl) hg.1.1 ?_
    refine wp_icmp_ge q40_ok d40_18 (t := 36) rfl (fun h18 => ?_) (fun h18 => ?_)
    · refine wp_iconst (v := -1) (by decide) q40_ok d40_36 ?_
      refine wp_iret q40_ok d40_37 rfl ?_
      exact ⟨by unfold dgt; rw [if_neg (fun q => absurd ((nI_leI (by omega) (by omega)).mp (show nI L.1 ≤ nI p from h18)) (by omega))], rfl⟩
    · refine wp_aload_n (j := 0) rfl q40_ok d40_21 ?_
      refine wp_getI q40_ok d40_22 fl_4_15 rfl (by first | assumption | exact so0 hsh rfl) hg.2.1 ?_
      refine wp_aload_n (j := 0) rfl q40_ok d40_25 ?_
      refine wp_getR q40_ok d40_26 fl_4_9 rfl (by first | assumption | exact so0 hsh rfl) (by first | assumption | exact hr _ _ _ rfl) ?_
      refine wp_getR q40_ok d40_29 fl_4_27 rfl (by first | assumption | exact so0 hsh rfl) (by first | assumption | exact hr _ _ _ rfl) ?_
      refine wp_alen (m := 160) q40_ok d40_32 (shlt hsh (Nat.le_of_ble_eq_true rfl)) (sht hsh (Nat.le_of_ble_eq_true rfl) (Nat.le_of_ble_eq_true rfl)) (by first | assumption | exact shl hsh (Nat.le_of_ble_eq_true rfl) rfl) rfl ?_ (shK hsh)
      refine wp_icmp_lt q40_ok d40_33 (t := 38) rfl (fun h33 => ?_) (fun h33 => ?_)
      · have hlt : p < L.1 := (nI_ltI (by omega) (by omega)).mp (by first | exact h18 | exact Int32.not_le.mp h18)
        have e2 : d 2 p = L.2 p := hg.1.2.2 p hlt
        refine wp_aload_n (j := 0) rfl q40_ok d40_38 ?_
        refine wp_getR q40_ok d40_39 fl_4_9 rfl (by first | assumption | exact so0 hsh rfl) (by first | assumption | exact hr _ _ _ rfl) ?_
        refine wp_getR q40_ok d40_42 fl_4_27 rfl (by first | assumption | exact so0 hsh rfl) (by first | assumption | exact hr _ _ _ rfl) ?_
        refine wp_aload_n (j := 0) rfl q40_ok d40_45 ?_
        refine wp_getI q40_ok d40_46 fl_4_15 rfl (by first | assumption | exact so0 hsh rfl) hg.2.1 ?_
        refine wp_iald (m := 160) q40_ok d40_49 (by first | assumption | exact so0 hsh rfl) (shl hsh (m := 160) (Nat.le_of_ble_eq_true rfl) rfl) (ixn_nI (show p < 160 by omega)) e2 ?_ (shK hsh)
        refine wp_bipush (v := 48) (by decide) q40_ok d40_50 ?_
        refine wp_isub rfl q40_ok d40_52 ?_
        refine wp_istore_n (j := 1) (Nat.le_of_ble_eq_true rfl) (rfl : _ = [_, _]) q40_ok d40_53 ?_
        refine wp_iload_n (j := 1) rfl q40_ok d40_54 ?_
        refine wp_if_lt q40_ok d40_55 (t := 68) rfl (fun h55 => ?_) (fun h55 => ?_)
        · refine wp_iconst (v := -1) (by decide) q40_ok d40_68 ?_
          refine wp_iret q40_ok d40_69 rfl ?_
          exact ⟨by unfold dgt; rw [if_pos hlt, if_pos (show L.2 p - 48 < 0 from h55)], rfl⟩
        · refine wp_iload_n (j := 1) rfl q40_ok d40_58 ?_
          refine wp_bipush (v := 9) (by decide) q40_ok d40_59 ?_
          refine wp_icmp_gt q40_ok d40_61 (t := 68) rfl (fun h61 => ?_) (fun h61 => ?_)
          · refine wp_iconst (v := -1) (by decide) q40_ok d40_68 ?_
            refine wp_iret q40_ok d40_69 rfl ?_
            exact ⟨by unfold dgt; rw [if_pos hlt, if_neg (show ¬ L.2 p - 48 < 0 from h55), if_pos (show 9 < L.2 p - 48 from h61)], rfl⟩
          · refine wp_iload_n (j := 1) rfl q40_ok d40_64 ?_
            refine wp_goto (t := 69) rfl q40_ok d40_65 ?_
            refine wp_iret q40_ok d40_69 rfl ?_
            exact ⟨by unfold dgt; rw [if_pos hlt, if_neg (show ¬ L.2 p - 48 < 0 from h55), if_neg (show ¬ 9 < L.2 p - 48 from h61)], rfl⟩
      · refine wp_iconst (v := -1) (by decide) q40_ok d40_36 ?_
        refine wp_iret q40_ok d40_37 rfl ?_
        exact absurd (show p < 160 by have := (nI_ltI (a := p) (b := L.1) (by omega) (by omega)).mp (Int32.not_le.mp h18); omega) (fun q => h33 ((nI_ltI (by omega) (by decide)).mpr q))
def numL (L : wo_P) : Nat → Nat → Int32 → Nat × Int32
  | 0, p, v => (p, v)
  | f + 1, p, v => if dgt L p = -1 then (p, v) else numL L f (p + 1) (v * 10 + dgt L p)
/-- a number of so many digits at most behind the first: where it is wrong, or where it ends and what it is -/
def numS (L : wo_P) (f p : Nat) : Nat ⊕ (Nat × Int32) := if dgt L (wsp L p) = -1 then .inl (wsp L p) else if dgt L (numL L f (wsp L p + 1) (dgt L (wsp L p))).1 = -1 then .inr (numL L f (wsp L p + 1) (dgt L (wsp L p))) else .inl (numL L f (wsp L p + 1) (dgt L (wsp L p))).1
theorem dgt_lt {L : wo_P} {p : Nat} (h : ¬ dgt L p = -1) : p < L.1 := by
  refine Classical.byContradiction (fun q => h ?_)
  unfold dgt
  rw [if_neg q]
theorem numL_le {L : wo_P} : ∀ f p v, p ≤ L.1 → p ≤ (numL L f p v).1 ∧ (numL L f p v).1 ≤ L.1
  | 0, p, v, h => ⟨Nat.le_refl _, h⟩
  | f + 1, p, v, h => by
    rw [numL]
    by_cases q : dgt L p = -1
    · rw [if_pos q]; exact ⟨Nat.le_refl _, h⟩
    · rw [if_neg q]
      have := numL_le (L := L) f (p + 1) (v * 10 + dgt L p) (dgt_lt q)
      omega
theorem dgt09 {L : wo_P} {p : Nat} (h : ¬ dgt L p = -1) : 0 ≤ dgt L p ∧ dgt L p ≤ 9 := by
  have hl := dgt_lt h
  unfold dgt at h ⊢
  rw [if_pos hl] at h ⊢
  by_cases a : L.2 p - 48 < 0
  · rw [if_pos a] at h; exact absurd rfl h
  · rw [if_neg a] at h ⊢
    by_cases b : 9 < L.2 p - 48
    · rw [if_pos b] at h; exact absurd rfl h
    · rw [if_neg b]
      exact ⟨Int32.not_lt.mp a, Int32.not_lt.mp b⟩
theorem c_number_l {xs : List Int32} {ext : mm_X} {n : Nat} {sh : mm_S} {g : mm_G} {r : mm_R} (hsh : shp sh) (hr : rfx r) {L : wo_P} {N : Nat} (hN : N < 2 ^ 31) (d0 : mm_D) : ∀ (z k p : Nat) (v0 : Int32) (d : mm_D), z + k = N → sgR d L p → sf d0 d → wp xs ext (n + 1) 41 38 [some (.ref 3), some (.int (nI N)), some (.int v0), some (.int (nI k))] [] (sh, d, g, r) (fun v μ => ∃ d2, μ = (sh, d2, g, r) ∧ sf d0 d2 ∧ (match (if dgt L (numL L z p v0).1 = -1 then Sum.inr (numL L z p v0) else Sum.inl (numL L z p v0).1 : Nat ⊕ (Nat × Int32)) with | .inl w => v = some (.int (-1)) ∧ d2 3 2 = nI w | .inr x => v = some (.int x.2) ∧ d2 3 1 = nI x.1)) := by
  intro z
  induction z with
  | zero =>
    intro k p v0 d hm hg hf
    have hvb : N = k := by omega
    subst hvb
    refine wp_iload_n (j := 3) rfl q41_ok d41_38 ?_
    refine wp_iload_n (j := 1) rfl q41_ok d41_39 ?_
    refine wp_icmp_ge q41_ok d41_40 (t := 77) rfl (fun h40 => ?_) (fun h40 => ?_)
    · refine wp_aload_n (j := 0) rfl q41_ok d41_77 ?_
      refine wp_cV q41_ok d41_78 ml_4_39 rfl q40_ok (u := 4) rfl (by first | assumption | exact so0 hsh rfl) rfl (Nat.le_of_ble_eq_true rfl) (Nat.le_of_ble_eq_true rfl) (c_digit hsh hr hg) (fun v78 μ78 hc => ?_)
      obtain ⟨rfl, rfl⟩ := hc
      refine ⟨mm_le_same rfl, ?_⟩
      refine wp_iconst (v := -1) (by decide) q41_ok d41_81 ?_
      refine wp_icmp_eq q41_ok d41_82 (t := 96) rfl (fun h82 => ?_) (fun h82 => ?_)
      · refine wp_iload_n (j := 2) rfl q41_ok d41_96 ?_
        refine wp_iret q41_ok d41_97 rfl ?_
        refine ⟨d, rfl, hf, ?_⟩
        rw [show numL L 0 p v0 = (p, v0) from rfl, if_pos (show dgt L p = -1 from h82)]
        exact ⟨rfl, hg.2.1⟩
      · refine wp_aload_n (j := 0) rfl q41_ok d41_85 ?_
        refine wp_aload_n (j := 0) rfl q41_ok d41_86 ?_
        refine wp_getI q41_ok d41_87 fl_4_15 rfl (by first | assumption | exact so0 hsh rfl) hg.2.1 ?_
        refine wp_cV q41_ok d41_90 ml_4_35 rfl q39_ok (u := 4) rfl (by first | assumption | exact so0 hsh rfl) rfl (Nat.le_of_ble_eq_true rfl) (Nat.le_of_ble_eq_true rfl) (c_refuse hsh hr _) (fun v90 μ90 hc => ?_)
        obtain ⟨rfl, rfl⟩ := hc
        refine ⟨mm_le_same rfl, ?_⟩
        refine wp_pop rfl q41_ok d41_93 ?_
        refine wp_iconst (v := -1) (by decide) q41_ok d41_94 ?_
        refine wp_iret q41_ok d41_95 rfl ?_
        refine ⟨_, rfl, sf_trans hf (sf_up d _ _), ?_⟩
        rw [show numL L 0 p v0 = (p, v0) from rfl, if_neg (show ¬ dgt L p = -1 from h82)]
        exact ⟨rfl, (mm_up_at 2).trans (if_pos rfl)⟩
    · exact absurd (nI_le (Nat.le_refl _) (by omega)) h40
  | succ z ih =>
    intro k p v0 d hm hg hf
    have hlt : k < N := by omega
    refine wp_iload_n (j := 3) rfl q41_ok d41_38 ?_
    refine wp_iload_n (j := 1) rfl q41_ok d41_39 ?_
    refine wp_icmp_ge q41_ok d41_40 (t := 77) rfl (fun h40 => ?_) (fun h40 => ?_)
    · exact absurd h40 (nI_ge hlt (by omega))
    · refine wp_aload_n (j := 0) rfl q41_ok d41_43 ?_
      refine wp_cV q41_ok d41_44 ml_4_39 rfl q40_ok (u := 4) rfl (by first | assumption | exact so0 hsh rfl) rfl (Nat.le_of_ble_eq_true rfl) (Nat.le_of_ble_eq_true rfl) (c_digit hsh hr hg) (fun v44 μ44 hc => ?_)
      obtain ⟨rfl, rfl⟩ := hc
      refine ⟨mm_le_same rfl, ?_⟩
      refine wp_iconst (v := -1) (by decide) q41_ok d41_47 ?_
      refine wp_icmp_eq q41_ok d41_48 (t := 77) rfl (fun h48 => ?_) (fun h48 => ?_)
      · refine wp_aload_n (j := 0) rfl q41_ok d41_77 ?_
        refine wp_cV q41_ok d41_78 ml_4_39 rfl q40_ok (u := 4) rfl (by first | assumption | exact so0 hsh rfl) rfl (Nat.le_of_ble_eq_true rfl) (Nat.le_of_ble_eq_true rfl) (c_digit hsh hr hg) (fun v78 μ78 hc => ?_)
        obtain ⟨rfl, rfl⟩ := hc
        refine ⟨mm_le_same rfl, ?_⟩
        refine wp_iconst (v := -1) (by decide) q41_ok d41_81 ?_
        refine wp_icmp_eq q41_ok d41_82 (t := 96) rfl (fun h82 => ?_) (fun h82 => ?_)
        · refine wp_iload_n (j := 2) rfl q41_ok d41_96 ?_
          refine wp_iret q41_ok d41_97 rfl ?_
          refine ⟨d, rfl, hf, ?_⟩
          rw [show numL L (z + 1) p v0 = (p, v0) from by rw [numL, if_pos (show dgt L p = -1 from h48)], if_pos (show dgt L p = -1 from h48)]
          exact ⟨rfl, hg.2.1⟩
        · exact absurd (show dgt L p = -1 from h48) h82
      · refine wp_iload_n (j := 2) rfl q41_ok d41_51 ?_
        refine wp_bipush (v := 10) (by decide) q41_ok d41_52 ?_
        refine wp_imul rfl q41_ok d41_54 ?_
        refine wp_aload_n (j := 0) rfl q41_ok d41_55 ?_
        refine wp_cV q41_ok d41_56 ml_4_39 rfl q40_ok (u := 4) rfl (by first | assumption | exact so0 hsh rfl) rfl (Nat.le_of_ble_eq_true rfl) (Nat.le_of_ble_eq_true rfl) (c_digit hsh hr hg) (fun v56 μ56 hc => ?_)
        obtain ⟨rfl, rfl⟩ := hc
        refine ⟨mm_le_same rfl, ?_⟩
        refine wp_iadd rfl q41_ok d41_59 ?_
        refine wp_istore_n (j := 2) (Nat.le_of_ble_eq_true rfl) (rfl : _ = [_, _, _, _]) q41_ok d41_60 ?_
        refine wp_aload_n (j := 0) rfl q41_ok d41_61 ?_
        refine wp_dup rfl q41_ok d41_62 ?_
        refine wp_getI q41_ok d41_63 fl_4_15 rfl (by first | assumption | exact so0 hsh rfl) hg.2.1 ?_
        refine wp_iconst (v := 1) (by decide) q41_ok d41_66 ?_
        refine wp_iadd rfl q41_ok d41_67 ?_
        refine wp_putI q41_ok d41_68 fl_4_15 rfl (by first | assumption | exact so0 hsh rfl) (Or.inl rfl) ?_
        refine wp_iinc (j := 3) rfl (by first | exact inc1 | rfl) (rfl : _ = [_, _, _, _]) q41_ok d41_71 ?_
        refine wp_goto (t := 38) rfl q41_ok d41_74 ?_
        have hne : ¬ dgt L p = -1 := h48
        have hpl := dgt_lt hne
        have hg2 : sgR (mm_up d 3 1 (nI p + 1)) L (p + 1) := ⟨tpR_sf hg.1 (sf_up d _ _), ((mm_up_at 1).trans (if_pos rfl)).trans (nI_1 p), hpl⟩
        have this := ih (k + 1) (p + 1) (v0 * 10 + dgt L p) _ (by omega) hg2 (sf_trans hf (sf_up d _ _))
        rw [numL, if_neg hne]
        exact this
theorem c_number {xs : List Int32} {ext : mm_X} {n : Nat} {sh : mm_S} {d : mm_D} {g : mm_G} {r : mm_R} (hsh : shp sh) (hr : rfx r) {L : wo_P} {p : Nat} (hg : sgR d L p) {f : Nat} (hf31 : f + 1 < 2 ^ 31) : wp xs ext (n + 2) 41 0 [some (.ref 3), some (.int (nI (f + 1))), none, none] [] (sh, d, g, r) (fun v μ => ∃ d2, μ = (sh, d2, g, r) ∧ sf d d2 ∧ (match numS L f p with | .inl w => v = some (.int (-1)) ∧ d2 3 2 = nI w | .inr x => v = some (.int x.2) ∧ d2 3 1 = nI x.1)) := by
  refine wp_aload_n (j := 0) rfl q41_ok d41_0 ?_
  refine wp_cV q41_ok d41_1 ml_4_31 rfl q35_ok (u := 4) rfl (by first | assumption | exact so0 hsh rfl) rfl (Nat.le_of_ble_eq_true rfl) (Nat.le_of_ble_eq_true rfl) (c_peek hsh hr hg) (fun v1 μ1 hc => ?_)
  obtain ⟨rfl, d1, rfl, f1, a1, w1⟩ := hc
  refine ⟨mm_le_same rfl, ?_⟩
  have hg1 : sgR d1 L (wsp L p) := ⟨tpR_sf hg.1 f1, a1, wsp_le L hg.2.2⟩
  refine wp_pop rfl q41_ok d41_4 ?_
  refine wp_aload_n (j := 0) rfl q41_ok d41_5 ?_
  refine wp_cV q41_ok d41_6 ml_4_39 rfl q40_ok (u := 4) rfl (by first | assumption | exact so0 hsh rfl) rfl (Nat.le_of_ble_eq_true rfl) (Nat.le_of_ble_eq_true rfl) (c_digit (d := d1) hsh hr hg1) (fun v6 μ6 hc => ?_)
  obtain ⟨rfl, rfl⟩ := hc
  refine ⟨mm_le_same rfl, ?_⟩
  refine wp_istore_n (j := 2) (Nat.le_of_ble_eq_true rfl) (rfl : _ = [_, _, _, _]) q41_ok d41_9 ?_
  refine wp_iload_n (j := 2) rfl q41_ok d41_10 ?_
  refine wp_iconst (v := -1) (by decide) q41_ok d41_11 ?_
  refine wp_icmp_ne q41_ok d41_12 (t := 26) rfl (fun h12 => ?_) (fun h12 => ?_)
  · refine wp_aload_n (j := 0) rfl q41_ok d41_26 ?_
    refine wp_dup rfl q41_ok d41_27 ?_
    refine wp_getI q41_ok d41_28 fl_4_15 rfl (by first | assumption | exact so0 hsh rfl) a1 ?_
    refine wp_iconst (v := 1) (by decide) q41_ok d41_31 ?_
    refine wp_iadd rfl q41_ok d41_32 ?_
    refine wp_putI q41_ok d41_33 fl_4_15 rfl (by first | assumption | exact so0 hsh rfl) (Or.inl rfl) ?_
    refine wp_iconst (v := 1) (by decide) q41_ok d41_36 ?_
    refine wp_istore_n (j := 3) (Nat.le_of_ble_eq_true rfl) (rfl : _ = [_, _, _, _]) q41_ok d41_37 ?_
    have hne : ¬ dgt L (wsp L p) = -1 := h12
    have hg2 : sgR (mm_up d1 3 1 (nI (wsp L p) + 1)) L (wsp L p + 1) := ⟨tpR_sf hg1.1 (sf_up d1 _ _), ((mm_up_at 1).trans (if_pos rfl)).trans (nI_1 _), dgt_lt hne⟩
    have this := c_number_l (xs := xs) (ext := ext) (n := n + 1) (g := g) hsh hr hf31 d f 1 (wsp L p + 1) (dgt L (wsp L p)) _ (by omega) hg2 (sf_trans f1 (sf_up d1 _ _))
    refine wp_post this (fun v μ hc => ?_)
    obtain ⟨d2, rfl, k1, k2⟩ := hc
    refine ⟨d2, rfl, k1, ?_⟩
    unfold numS
    rw [if_neg hne]
    exact k2
  · have h12 := Classical.not_not.mp h12
    refine wp_aload_n (j := 0) rfl q41_ok d41_15 ?_
    refine wp_aload_n (j := 0) rfl q41_ok d41_16 ?_
    refine wp_getI q41_ok d41_17 fl_4_15 rfl (by first | assumption | exact so0 hsh rfl) a1 ?_
    refine wp_cV q41_ok d41_20 ml_4_35 rfl q39_ok (u := 4) rfl (by first | assumption | exact so0 hsh rfl) rfl (Nat.le_of_ble_eq_true rfl) (Nat.le_of_ble_eq_true rfl) (c_refuse hsh hr _) (fun v20 μ20 hc => ?_)
    obtain ⟨rfl, rfl⟩ := hc
    refine ⟨mm_le_same rfl, ?_⟩
    refine wp_pop rfl q41_ok d41_23 ?_
    refine wp_iconst (v := -1) (by decide) q41_ok d41_24 ?_
    refine wp_iret q41_ok d41_25 rfl ?_
    refine ⟨_, rfl, sf_trans f1 (sf_up d1 _ _), ?_⟩
    unfold numS
    rw [if_pos (show dgt L (wsp L p) = -1 from h12)]
    exact ⟨rfl, (mm_up_at 2).trans (if_pos rfl)⟩
