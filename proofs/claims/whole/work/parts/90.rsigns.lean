/-! ===== the model reads: signs ===== -/
theorem mm_up_up {α : Type} {f : Nat → Nat → α} {c k : Nat} {v w : α} : mm_up (mm_up f c k v) c k w = mm_up f c k w := by
  funext a
  unfold mm_up
  by_cases q : a = c
  · rw [if_pos q, if_pos q, if_pos rfl]
    funext b
    by_cases e : b = k
    · rw [if_pos e, if_pos e]
    · rw [if_neg e, if_neg e, if_neg e]
  · rw [if_neg q, if_neg q, if_neg q]
theorem mm_up_self {α : Type} {f : Nat → Nat → α} {c k : Nat} {v : α} (h : f c k = v) : mm_up f c k v = f := by
  funext a
  unfold mm_up
  by_cases q : a = c
  · rw [if_pos q]
    funext b
    by_cases e : b = k
    · rw [if_pos e, q, e, h]
    · rw [if_neg e, q]
  · rw [if_neg q]
theorem tapM_250 {d : mm_D} {L : wo_P} {k : Nat} {v : Int32} (h : tapM d L) (hk : 2 ≠ k) : tapM (mm_up d 250 k v) L := tapM_x h (mm_up_ne (by decide)) ((mm_up_at 2).trans (if_neg hk))
theorem bAt_at {L : wo_P} {p : Nat} (h : p < L.1) : bAt L p = L.2 p := if_pos h
theorem bAt_out {L : wo_P} {p : Nat} (h : ¬ p < L.1) : bAt L p = -1 := if_neg h
theorem m_here {xs : List Int32} {ext : mm_X} {n : Nat} {sh : mm_S} {d : mm_D} {g : mm_G} {r : mm_R} {L : wo_P} (hsh : shp sh) (hr : rfx r) (hL : tapM d L) {a : Nat} (ha : d 250 3 = nI a) (hal : a < 2 ^ 31) : wp xs ext (n + 0) 140 0 [some (.ref 250)] [] (sh, d, g, r) (fun v μ => v = some (.int (bAt L a)) ∧ μ = (sh, d, g, r)) := by
  have h160 := hL.2.1
  refine wp_aload_n (j := 0) rfl q140_ok d140_0 ?_
  refine wp_getI q140_ok d140_1 fl_11_113 rfl (by first | assumption | exact so0 hsh rfl) ha ?_
  refine wp_aload_n (j := 0) rfl q140_ok d140_4 ?_
  refine wp_getI q140_ok d140_5 fl_11_110 rfl (by first | assumption | exact so0 hsh rfl) hL.1 ?_
  refine wp_icmp_ge q140_ok d140_8 (t := 23) rfl (fun h8 => ?_) (fun h8 => ?_)
  · have hq : ¬ a < L.1 := fun q => absurd ((nI_leI (by omega) hal).mp h8) (by omega)
    refine wp_iconst (v := -1) (by decide) q140_ok d140_23 ?_
    refine wp_iret q140_ok d140_24 rfl ?_
    exact ⟨by rw [bAt_out hq], rfl⟩
  · have hq : a < L.1 := Nat.lt_of_not_le (fun q => h8 ((nI_leI (by omega) hal).mpr q))
    refine wp_aload_n (j := 0) rfl q140_ok d140_11 ?_
    refine wp_getR q140_ok d140_12 fl_11_9 rfl (by first | assumption | exact so0 hsh rfl) (by first | assumption | exact hr _ _ _ rfl) ?_
    refine wp_aload_n (j := 0) rfl q140_ok d140_15 ?_
    refine wp_getI q140_ok d140_16 fl_11_113 rfl (by first | assumption | exact so0 hsh rfl) ha ?_
    refine wp_iald (m := 160) q140_ok d140_19 (by first | assumption | exact so0 hsh rfl) (shl hsh (m := 160) (Nat.le_of_ble_eq_true rfl) rfl) (ixn_nI (show a < 160 by omega)) (hL.2.2 a hq) ?_ (shK hsh)
    refine wp_goto (t := 24) rfl q140_ok d140_20 ?_
    refine wp_iret q140_ok d140_24 rfl ?_
    exact ⟨by rw [bAt_at hq], rfl⟩
theorem m_look_l {xs : List Int32} {ext : mm_X} {n : Nat} {sh : mm_S} {d : mm_D} {g : mm_G} {r : mm_R} {L : wo_P} (hsh : shp sh) (hr : rfx r) (hL : tapM d L) : ∀ (z k : Nat), z + k = L.1 → wp xs ext (n + 1) 141 0 [some (.ref 250)] [] (sh, mm_up d 250 3 (nI k), g, r) (fun v μ => v = some (.int (bAt L (wspS L z k))) ∧ μ = (sh, mm_up d 250 3 (nI (wspS L z k)), g, r)) := by
  have h160 := hL.2.1
  intro z
  induction z with
  | zero =>
    intro k hm
    have hk : ¬ k < L.1 := by omega
    have hL1 := tapM_250 (v := nI k) hL (show 2 ≠ 3 by decide)
    have ha : mm_up d 250 3 (nI k) 250 3 = nI k := (mm_up_at 3).trans (if_pos rfl)
    refine wp_aload_n (j := 0) rfl q141_ok d141_0 ?_
    refine wp_cV q141_ok d141_1 ml_11_116 rfl q140_ok (u := 11) rfl (by first | assumption | exact so0 hsh rfl) rfl (Nat.le_of_ble_eq_true rfl) (Nat.le_of_ble_eq_true rfl) (m_here (n := n) hsh hr hL1 ha (by omega)) (fun v1 μ1 hc => ?_)
    obtain ⟨rfl, rfl⟩ := hc
    refine ⟨mm_le_same rfl, ?_⟩
    refine wp_bipush (v := 32) (by decide) q141_ok d141_4 ?_
    refine wp_icmp_ne q141_ok d141_6 (t := 22) rfl (fun h6 => ?_) (fun h6 => ?_)
    · refine wp_aload_n (j := 0) rfl q141_ok d141_22 ?_
      refine wp_cV q141_ok d141_23 ml_11_116 rfl q140_ok (u := 11) rfl (by first | assumption | exact so0 hsh rfl) rfl (Nat.le_of_ble_eq_true rfl) (Nat.le_of_ble_eq_true rfl) (m_here (n := n) hsh hr hL1 ha (by omega)) (fun v23 μ23 hc => ?_)
      obtain ⟨rfl, rfl⟩ := hc
      refine ⟨mm_le_same rfl, ?_⟩
      refine wp_iret q141_ok d141_26 rfl ?_
      exact ⟨rfl, rfl⟩
    · have h6 := Classical.not_not.mp h6
      exact absurd h6 (by rw [bAt_out hk]; decide)
  | succ z ih =>
    intro k hm
    have hk : k < L.1 := by omega
    have hL1 := tapM_250 (v := nI k) hL (show 2 ≠ 3 by decide)
    have ha : mm_up d 250 3 (nI k) 250 3 = nI k := (mm_up_at 3).trans (if_pos rfl)
    refine wp_aload_n (j := 0) rfl q141_ok d141_0 ?_
    refine wp_cV q141_ok d141_1 ml_11_116 rfl q140_ok (u := 11) rfl (by first | assumption | exact so0 hsh rfl) rfl (Nat.le_of_ble_eq_true rfl) (Nat.le_of_ble_eq_true rfl) (m_here (n := n) hsh hr hL1 ha (by omega)) (fun v1 μ1 hc => ?_)
    obtain ⟨rfl, rfl⟩ := hc
    refine ⟨mm_le_same rfl, ?_⟩
    refine wp_bipush (v := 32) (by decide) q141_ok d141_4 ?_
    refine wp_icmp_ne q141_ok d141_6 (t := 22) rfl (fun h6 => ?_) (fun h6 => ?_)
    · refine wp_aload_n (j := 0) rfl q141_ok d141_22 ?_
      refine wp_cV q141_ok d141_23 ml_11_116 rfl q140_ok (u := 11) rfl (by first | assumption | exact so0 hsh rfl) rfl (Nat.le_of_ble_eq_true rfl) (Nat.le_of_ble_eq_true rfl) (m_here (n := n) hsh hr hL1 ha (by omega)) (fun v23 μ23 hc => ?_)
      obtain ⟨rfl, rfl⟩ := hc
      refine ⟨mm_le_same rfl, ?_⟩
      refine wp_iret q141_ok d141_26 rfl ?_
      exact ⟨by rw [wspS, if_neg (show ¬ L.2 k = 32 from fun q => h6 ((bAt_at hk).trans q))], by rw [wspS, if_neg (show ¬ L.2 k = 32 from fun q => h6 ((bAt_at hk).trans q))]⟩
    · have h6 := Classical.not_not.mp h6
      refine wp_aload_n (j := 0) rfl q141_ok d141_9 ?_
      refine wp_dup rfl q141_ok d141_10 ?_
      refine wp_getI q141_ok d141_11 fl_11_113 rfl (by first | assumption | exact so0 hsh rfl) ha ?_
      refine wp_iconst (v := 1) (by decide) q141_ok d141_14 ?_
      refine wp_iadd (nI_1 k) q141_ok d141_15 ?_
      refine wp_putI q141_ok d141_16 fl_11_113 rfl (by first | assumption | exact so0 hsh rfl) (Or.inl rfl) ?_
      refine wp_goto (t := 0) rfl q141_ok d141_19 ?_
      rw [wspS, if_pos (show L.2 k = 32 from (bAt_at hk).symm.trans h6), mm_up_up]
      exact ih (k + 1) (by omega)
theorem m_look {xs : List Int32} {ext : mm_X} {n : Nat} {sh : mm_S} {d : mm_D} {g : mm_G} {r : mm_R} {L : wo_P} (hsh : shp sh) (hr : rfx r) (hL : tapM d L) {p : Nat} (ha : d 250 3 = nI p) (hp : p ≤ L.1) : wp xs ext (n + 1) 141 0 [some (.ref 250)] [] (sh, d, g, r) (fun v μ => v = some (.int (bAt L (wsp L p))) ∧ μ = (sh, mm_up d 250 3 (nI (wsp L p)), g, r)) := by
  have h0 := m_look_l (xs := xs) (ext := ext) (n := n) (g := g) hsh hr hL (L.1 - p) p (by omega)
  rw [mm_up_self ha] at h0
  exact h0
theorem m_bad0 {xs : List Int32} {ext : mm_X} {n : Nat} {sh : mm_S} {d : mm_D} {g : mm_G} {r : mm_R} (hsh : shp sh) (hr : rfx r) (hw : d 250 4 = -1) {a : Nat} (ha : d 250 3 = nI a) : wp xs ext (n + 0) 142 0 [some (.ref 250)] [] (sh, d, g, r) (fun v μ => v = none ∧ μ = (sh, mm_up d 250 4 (nI a), g, r)) := by
  refine wp_aload_n (j := 0) rfl q142_ok d142_0 ?_
  refine wp_aload_n (j := 0) rfl q142_ok d142_1 ?_
  refine wp_getI q142_ok d142_2 fl_11_120 rfl (by first | assumption | exact so0 hsh rfl) hw ?_
  refine wp_iconst (v := -1) (by decide) q142_ok d142_5 ?_
  refine wp_icmp_ne q142_ok d142_6 (t := 16) rfl (fun h6 => ?_) (fun h6 => ?_)
  · exact absurd rfl h6
  · have h6 := Classical.not_not.mp h6
    refine wp_aload_n (j := 0) rfl q142_ok d142_9 ?_
    refine wp_getI q142_ok d142_10 fl_11_113 rfl (by first | assumption | exact so0 hsh rfl) ha ?_
    refine wp_goto (t := 20) rfl q142_ok d142_13 ?_
    refine wp_putI q142_ok d142_20 fl_11_120 rfl (by first | assumption | exact so0 hsh rfl) (Or.inl rfl) ?_
    refine wp_vret q142_ok d142_23 rfl ?_
    exact ⟨rfl, rfl⟩
theorem m_badw {xs : List Int32} {ext : mm_X} {n : Nat} {sh : mm_S} {d : mm_D} {g : mm_G} {r : mm_R} (hsh : shp sh) (hr : rfx r) (hw : ¬ d 250 4 = -1) : wp xs ext (n + 0) 142 0 [some (.ref 250)] [] (sh, d, g, r) (fun v μ => v = none ∧ μ = (sh, d, g, r)) := by
  refine wp_aload_n (j := 0) rfl q142_ok d142_0 ?_
  refine wp_aload_n (j := 0) rfl q142_ok d142_1 ?_
  refine wp_getI q142_ok d142_2 fl_11_120 rfl (by first | assumption | exact so0 hsh rfl) (by first | assumption | rfl) ?_
  refine wp_iconst (v := -1) (by decide) q142_ok d142_5 ?_
  refine wp_icmp_ne q142_ok d142_6 (t := 16) rfl (fun h6 => ?_) (fun h6 => ?_)
  · refine wp_aload_n (j := 0) rfl q142_ok d142_16 ?_
    refine wp_getI q142_ok d142_17 fl_11_120 rfl (by first | assumption | exact so0 hsh rfl) (by first | assumption | rfl) ?_
    refine wp_putI q142_ok d142_20 fl_11_120 rfl (by first | assumption | exact so0 hsh rfl) (Or.inl rfl) ?_
    refine wp_vret q142_ok d142_23 rfl ?_
    exact ⟨rfl, by rw [mm_up_self rfl]⟩
  · have h6 := Classical.not_not.mp h6
    exact absurd h6 hw
abbrev isD (c : Int32) : Prop := 48 ≤ c ∧ c ≤ 57
theorem m_isDigit {xs : List Int32} {ext : mm_X} {n : Nat} {sh : mm_S} {d : mm_D} {g : mm_G} {r : mm_R}  (c : Int32) : wp xs ext (n + 0) 143 0 [some (.int c)] [] (sh, d, g, r) (fun v μ => v = some (.int (if isD c then 1 else 0)) ∧ μ = (sh, d, g, r)) := by
  refine wp_iload_n (j := 0) rfl q143_ok d143_0 ?_
  refine wp_bipush (v := 48) (by decide) q143_ok d143_1 ?_
  refine wp_icmp_lt q143_ok d143_3 (t := 16) rfl (fun h3 => ?_) (fun h3 => ?_)
  · refine wp_iconst (v := 0) (by decide) q143_ok d143_16 ?_
    refine wp_zret q143_ok d143_17 rfl (by first | assumption | exact Or.inl rfl | exact Or.inr rfl) ?_
    exact ⟨by rw [if_neg (fun q => absurd q.1 (Int32.not_le.mpr h3))], rfl⟩
  · refine wp_iload_n (j := 0) rfl q143_ok d143_6 ?_
    refine wp_bipush (v := 57) (by decide) q143_ok d143_7 ?_
    refine wp_icmp_gt q143_ok d143_9 (t := 16) rfl (fun h9 => ?_) (fun h9 => ?_)
    · refine wp_iconst (v := 0) (by decide) q143_ok d143_16 ?_
      refine wp_zret q143_ok d143_17 rfl (by first | assumption | exact Or.inl rfl | exact Or.inr rfl) ?_
      exact ⟨by rw [if_neg (fun q => absurd q.2 (Int32.not_le.mpr h9))], rfl⟩
    · refine wp_iconst (v := 1) (by decide) q143_ok d143_12 ?_
      refine wp_goto (t := 17) rfl q143_ok d143_13 ?_
      refine wp_zret q143_ok d143_17 rfl (by first | assumption | exact Or.inl rfl | exact Or.inr rfl) ?_
      exact ⟨by rw [if_pos ⟨Int32.not_lt.mp h3, Int32.not_lt.mp h9⟩], rfl⟩
theorem m_ltr {xs : List Int32} {ext : mm_X} {n : Nat} {sh : mm_S} {d : mm_D} {g : mm_G} {r : mm_R}  (c : Int32) : wp xs ext (n + 0) 145 0 [some (.int c)] [] (sh, d, g, r) (fun v μ => v = some (.int (ltr c)) ∧ μ = (sh, d, g, r)) := by
  refine wp_iload_n (j := 0) rfl q145_ok d145_0 ?_
  refine wp_bipush (v := 116) (by decide) q145_ok d145_1 ?_
  refine wp_icmp_ne q145_ok d145_3 (t := 10) rfl (fun h3 => ?_) (fun h3 => ?_)
  · refine wp_iload_n (j := 0) rfl q145_ok d145_10 ?_
    refine wp_bipush (v := 104) (by decide) q145_ok d145_11 ?_
    refine wp_icmp_ne q145_ok d145_13 (t := 20) rfl (fun h13 => ?_) (fun h13 => ?_)
    · refine wp_iload_n (j := 0) rfl q145_ok d145_20 ?_
      refine wp_bipush (v := 109) (by decide) q145_ok d145_21 ?_
      refine wp_icmp_ne q145_ok d145_23 (t := 30) rfl (fun h23 => ?_) (fun h23 => ?_)
      · refine wp_iload_n (j := 0) rfl q145_ok d145_30 ?_
        refine wp_bipush (v := 111) (by decide) q145_ok d145_31 ?_
        refine wp_icmp_ne q145_ok d145_33 (t := 40) rfl (fun h33 => ?_) (fun h33 => ?_)
        · refine wp_iload_n (j := 0) rfl q145_ok d145_40 ?_
          refine wp_bipush (v := 100) (by decide) q145_ok d145_41 ?_
          refine wp_icmp_ne q145_ok d145_43 (t := 50) rfl (fun h43 => ?_) (fun h43 => ?_)
          · refine wp_iload_n (j := 0) rfl q145_ok d145_50 ?_
            refine wp_bipush (v := 112) (by decide) q145_ok d145_51 ?_
            refine wp_icmp_ne q145_ok d145_53 (t := 60) rfl (fun h53 => ?_) (fun h53 => ?_)
            · refine wp_iconst (v := -1) (by decide) q145_ok d145_60 ?_
              refine wp_iret q145_ok d145_61 rfl ?_
              exact ⟨by unfold ltr; rw [if_neg h3, if_neg h13, if_neg h23, if_neg h33, if_neg h43, if_neg h53], rfl⟩
            · have h53 := Classical.not_not.mp h53
              refine wp_iconst (v := 5) (by decide) q145_ok d145_56 ?_
              refine wp_goto (t := 61) rfl q145_ok d145_57 ?_
              refine wp_iret q145_ok d145_61 rfl ?_
              exact ⟨by unfold ltr; rw [if_neg h3, if_neg h13, if_neg h23, if_neg h33, if_neg h43, if_pos h53], rfl⟩
          · have h43 := Classical.not_not.mp h43
            refine wp_iconst (v := 4) (by decide) q145_ok d145_46 ?_
            refine wp_goto (t := 61) rfl q145_ok d145_47 ?_
            refine wp_iret q145_ok d145_61 rfl ?_
            exact ⟨by unfold ltr; rw [if_neg h3, if_neg h13, if_neg h23, if_neg h33, if_pos h43], rfl⟩
        · have h33 := Classical.not_not.mp h33
          refine wp_iconst (v := 3) (by decide) q145_ok d145_36 ?_
          refine wp_goto (t := 61) rfl q145_ok d145_37 ?_
          refine wp_iret q145_ok d145_61 rfl ?_
          exact ⟨by unfold ltr; rw [if_neg h3, if_neg h13, if_neg h23, if_pos h33], rfl⟩
      · have h23 := Classical.not_not.mp h23
        refine wp_iconst (v := 2) (by decide) q145_ok d145_26 ?_
        refine wp_goto (t := 61) rfl q145_ok d145_27 ?_
        refine wp_iret q145_ok d145_61 rfl ?_
        exact ⟨by unfold ltr; rw [if_neg h3, if_neg h13, if_pos h23], rfl⟩
    · have h13 := Classical.not_not.mp h13
      refine wp_iconst (v := 1) (by decide) q145_ok d145_16 ?_
      refine wp_goto (t := 61) rfl q145_ok d145_17 ?_
      refine wp_iret q145_ok d145_61 rfl ?_
      exact ⟨by unfold ltr; rw [if_neg h3, if_pos h13], rfl⟩
  · have h3 := Classical.not_not.mp h3
    refine wp_iconst (v := 0) (by decide) q145_ok d145_6 ?_
    refine wp_goto (t := 61) rfl q145_ok d145_7 ?_
    refine wp_iret q145_ok d145_61 rfl ?_
    exact ⟨by unfold ltr; rw [if_pos h3], rfl⟩
theorem cmp_61 : cmp 61 = -15 := by decide
theorem cmp_60 : cmp 60 = -16 := by decide
theorem cmp_62 : cmp 62 = -17 := by decide
theorem cmp_no {c : Int32} (h1 : ¬ c = 61) (h2 : ¬ c = 60) (h3 : ¬ c = 62) : cmp c = -1 := by unfold cmp; rw [if_neg h1, if_neg h2, if_neg h3]
theorem cmp_yes {c : Int32} (h : ¬ cmp c = -1) : c = 61 ∨ c = 60 ∨ c = 62 := by
  by_cases h1 : c = 61
  · exact Or.inl h1
  · by_cases h2 : c = 60
    · exact Or.inr (Or.inl h2)
    · by_cases h3 : c = 62
      · exact Or.inr (Or.inr h3)
      · exact absurd (cmp_no h1 h2 h3) h
theorem m_isSign {xs : List Int32} {ext : mm_X} {n : Nat} {sh : mm_S} {d : mm_D} {g : mm_G} {r : mm_R}  (c : Int32) : wp xs ext (n + 0) 152 0 [some (.int c)] [] (sh, d, g, r) (fun v μ => v = some (.int (if cmp c = -1 then 0 else 1)) ∧ μ = (sh, d, g, r)) := by
  refine wp_iload_n (j := 0) rfl q152_ok d152_0 ?_
  refine wp_bipush (v := 61) (by decide) q152_ok d152_1 ?_
  refine wp_icmp_eq q152_ok d152_3 (t := 18) rfl (fun h3 => ?_) (fun h3 => ?_)
  · refine wp_iconst (v := 1) (by decide) q152_ok d152_18 ?_
    refine wp_goto (t := 23) rfl q152_ok d152_19 ?_
    refine wp_zret q152_ok d152_23 rfl (by first | assumption | exact Or.inl rfl | exact Or.inr rfl) ?_
    exact ⟨by rw [show c = 61 from h3, cmp_61, if_neg (by decide)], rfl⟩
  · refine wp_iload_n (j := 0) rfl q152_ok d152_6 ?_
    refine wp_bipush (v := 60) (by decide) q152_ok d152_7 ?_
    refine wp_icmp_eq q152_ok d152_9 (t := 18) rfl (fun h9 => ?_) (fun h9 => ?_)
    · refine wp_iconst (v := 1) (by decide) q152_ok d152_18 ?_
      refine wp_goto (t := 23) rfl q152_ok d152_19 ?_
      refine wp_zret q152_ok d152_23 rfl (by first | assumption | exact Or.inl rfl | exact Or.inr rfl) ?_
      exact ⟨by rw [show c = 60 from h9, cmp_60, if_neg (by decide)], rfl⟩
    · refine wp_iload_n (j := 0) rfl q152_ok d152_12 ?_
      refine wp_bipush (v := 62) (by decide) q152_ok d152_13 ?_
      refine wp_icmp_ne q152_ok d152_15 (t := 22) rfl (fun h15 => ?_) (fun h15 => ?_)
      · refine wp_iconst (v := 0) (by decide) q152_ok d152_22 ?_
        refine wp_zret q152_ok d152_23 rfl (by first | assumption | exact Or.inl rfl | exact Or.inr rfl) ?_
        exact ⟨by rw [if_pos (cmp_no h3 h9 h15)], rfl⟩
      · have h15 := Classical.not_not.mp h15
        refine wp_iconst (v := 1) (by decide) q152_ok d152_18 ?_
        refine wp_goto (t := 23) rfl q152_ok d152_19 ?_
        refine wp_zret q152_ok d152_23 rfl (by first | assumption | exact Or.inl rfl | exact Or.inr rfl) ?_
        exact ⟨by rw [show c = 62 from h15, cmp_62, if_neg (by decide)], rfl⟩
/-- a sign that is a figure -/
theorem sub48 {c : Int32} (h : isD c) : ∃ m, m ≤ 9 ∧ c = nI (m + 48) ∧ c - 48 = nI m := by
  obtain ⟨h1, h2⟩ := h
  have hc0 : 0 ≤ c := Int32.le_trans (by decide) h1
  have hc := nI_ofn hc0
  have hl : c.toNatClampNeg < 2 ^ 31 := by
    have := Int32.toInt_lt c
    unfold Int32.toNatClampNeg
    omega
  generalize c.toNatClampNeg = k at hc hl
  subst hc
  have a := (nI_leI (by decide) hl).mp (show nI 48 ≤ nI k from h1)
  have b := (nI_leI hl (by decide)).mp (show nI k ≤ nI 57 from h2)
  obtain ⟨m, rfl⟩ : ∃ m, k = m + 48 := ⟨k - 48, by omega⟩
  refine ⟨m, by omega, rfl, ?_⟩
  show Int32.ofNat (m + 48) - Int32.ofNat 48 = Int32.ofNat m
  rw [Int32.ofNat_add, Int32.add_sub_cancel]
theorem isD_of {c : Int32} (h0 : ¬ c - 48 < 0) (h9 : ¬ 9 < c - 48) : isD c := by
  have hc := nI_ofn (Int32.not_lt.mp h0)
  have hl : (c - 48).toNatClampNeg < 2 ^ 31 := by
    have := Int32.toInt_lt (c - 48)
    unfold Int32.toNatClampNeg
    omega
  generalize (c - 48).toNatClampNeg = m at hc hl
  have h9' : m ≤ 9 := (nI_leI hl (by decide)).mp (show nI m ≤ nI 9 from by rw [← hc]; exact Int32.not_lt.mp h9)
  have e : c = nI (m + 48) := by
    have h2 : c - 48 + 48 = nI m + 48 := by rw [hc]
    rw [Int32.sub_add_cancel] at h2
    rw [h2]
    exact (Int32.ofNat_add m 48).symm
  rw [e]
  exact ⟨(nI_leI (by decide) (by omega)).mpr (show 48 ≤ m + 48 by omega), (nI_leI (by omega) (by decide)).mpr (show m + 48 ≤ 57 by omega)⟩
theorem dgt_is {L : wo_P} {p : Nat} (h : isD (bAt L p)) : dgt L p = bAt L p - 48 ∧ ¬ dgt L p = -1 := by
  have hp : p < L.1 := by
    refine Classical.byContradiction (fun q => ?_)
    rw [bAt_out q] at h
    exact absurd h (by decide)
  have e : dgt L p = bAt L p - 48 := by
    obtain ⟨m, m1, m2, m3⟩ := sub48 h
    rw [bAt_at hp] at m3 ⊢
    unfold dgt
    rw [if_pos hp, m3, if_neg (Int32.not_lt.mpr (nI_pos' (by omega))), if_neg (show ¬ (9 : Int32) < nI m from Int32.not_lt.mpr ((nI_leI (by omega) (by decide)).mpr (show m ≤ 9 from m1)))]
  refine ⟨e, ?_⟩
  obtain ⟨m, m1, m2, m3⟩ := sub48 h
  rw [e, m3]
  exact nI_nm1 (by omega)
theorem dgt_not {L : wo_P} {p : Nat} (h : ¬ isD (bAt L p)) : dgt L p = -1 := by
  unfold dgt
  by_cases hp : p < L.1
  · rw [if_pos hp]
    rw [bAt_at hp] at h
    by_cases h0 : L.2 p - 48 < 0
    · rw [if_pos h0]
    · rw [if_neg h0]
      by_cases h9 : 9 < L.2 p - 48
      · rw [if_pos h9]
      · exact absurd (isD_of h0 h9) h
  · rw [if_neg hp]
theorem dg_step {L : wo_P} {q : Nat} (v : Int32) (h : isD (bAt L q)) : 10 * v + bAt L q - 48 = v * 10 + dgt L q := by
  rw [(dgt_is h).1, Int32.mul_comm v 10, Int32.sub_eq_add_neg, Int32.sub_eq_add_neg, Int32.add_assoc]
/-- the wrong place told, or none -/
def endD (d : mm_D) (L : wo_P) (q : Nat) : mm_D := if dgt L q = -1 then mm_up d 250 3 (nI q) else mm_up (mm_up d 250 3 (nI q)) 250 4 (nI q)
theorem m_plain_l {xs : List Int32} {ext : mm_X} {n : Nat} {sh : mm_S} {d : mm_D} {g : mm_G} {r : mm_R} {L : wo_P} (hsh : shp sh) (hr : rfx r) (hL : tapM d L) (hw : d 250 4 = -1) : ∀ (z i q : Nat) (u : Int32), z + i = 4 → q ≤ L.1 → wp xs ext (n + 1) 148 4 [some (.ref 250), some (.int u), some (.int (nI i))] [] (sh, mm_up d 250 3 (nI q), g, r) (fun v μ => v = some (.int (numL L z q u).2) ∧ μ = (sh, endD d L (numL L z q u).1, g, r)) := by
  have h160 := hL.2.1
  intro z
  induction z with
  | zero =>
    intro i q u hm hq
    have hvb : i = 4 := by omega
    subst hvb
    have hL1 := tapM_250 (v := nI q) hL (show 2 ≠ 3 by decide)
    have ha : mm_up d 250 3 (nI q) 250 3 = nI q := (mm_up_at 3).trans (if_pos rfl)
    have hw1 : mm_up d 250 3 (nI q) 250 4 = -1 := ((mm_up_at 4).trans (if_neg (by decide))).trans hw
    refine wp_iload_n (j := 2) rfl q148_ok d148_4 ?_
    refine wp_iconst (v := 4) (by decide) q148_ok d148_5 ?_
    refine wp_icmp_ge q148_ok d148_6 (t := 48) rfl (fun h6 => ?_) (fun h6 => ?_)
    · refine wp_aload_n (j := 0) rfl q148_ok d148_48 ?_
      refine wp_cV q148_ok d148_49 ml_11_116 rfl q140_ok (u := 11) rfl (by first | assumption | exact so0 hsh rfl) rfl (Nat.le_of_ble_eq_true rfl) (Nat.le_of_ble_eq_true rfl) (m_here (n := n) hsh hr hL1 ha (by omega)) (fun v49 μ49 hc => ?_)
      obtain ⟨rfl, rfl⟩ := hc
      refine ⟨mm_le_same rfl, ?_⟩
      refine wp_cS q148_ok d148_52 ml_11_135 rfl q143_ok rfl rfl rfl (Nat.le_of_ble_eq_true rfl) (Nat.le_of_ble_eq_true rfl) (m_isDigit _) (fun v52 μ52 hc => ?_)
      obtain ⟨rfl, rfl⟩ := hc
      refine ⟨mm_le_same rfl, ?_⟩
      by_cases cD : isD (bAt L q)
      · rw [if_pos cD]
        refine wp_if_eq q148_ok d148_55 (t := 62) rfl (fun h55 => ?_) (fun h55 => ?_)
        · exact absurd h55 (by decide)
        · refine wp_aload_n (j := 0) rfl q148_ok d148_58 ?_
          refine wp_cV q148_ok d148_59 ml_11_129 rfl q142_ok (u := 11) rfl (by first | assumption | exact so0 hsh rfl) rfl (Nat.le_of_ble_eq_true rfl) (Nat.le_of_ble_eq_true rfl) (m_bad0 hsh hr hw1 ha) (fun v59 μ59 hc => ?_)
          obtain ⟨rfl, rfl⟩ := hc
          refine ⟨mm_le_same rfl, ?_⟩
          refine wp_iload_n (j := 1) rfl q148_ok d148_62 ?_
          refine wp_iret q148_ok d148_63 rfl ?_
          exact ⟨by rw [numL], by unfold endD; rw [numL, if_neg (dgt_is cD).2]⟩
      · rw [if_neg cD]
        refine wp_if_eq q148_ok d148_55 (t := 62) rfl (fun h55 => ?_) (fun h55 => ?_)
        · refine wp_iload_n (j := 1) rfl q148_ok d148_62 ?_
          refine wp_iret q148_ok d148_63 rfl ?_
          exact ⟨by rw [numL], by unfold endD; rw [numL, if_pos (dgt_not cD)]⟩
        · exact absurd rfl h55
    · exact absurd (nI_le (Nat.le_refl _) (by decide)) h6
  | succ z ih =>
    intro i q u hm hq
    have hlt : i < 4 := by omega
    have hL1 := tapM_250 (v := nI q) hL (show 2 ≠ 3 by decide)
    have ha : mm_up d 250 3 (nI q) 250 3 = nI q := (mm_up_at 3).trans (if_pos rfl)
    have hw1 : mm_up d 250 3 (nI q) 250 4 = -1 := ((mm_up_at 4).trans (if_neg (by decide))).trans hw
    refine wp_iload_n (j := 2) rfl q148_ok d148_4 ?_
    refine wp_iconst (v := 4) (by decide) q148_ok d148_5 ?_
    refine wp_icmp_ge q148_ok d148_6 (t := 48) rfl (fun h6 => ?_) (fun h6 => ?_)
    · exact absurd h6 (nI_ge hlt (by decide))
    · refine wp_aload_n (j := 0) rfl q148_ok d148_9 ?_
      refine wp_cV q148_ok d148_10 ml_11_116 rfl q140_ok (u := 11) rfl (by first | assumption | exact so0 hsh rfl) rfl (Nat.le_of_ble_eq_true rfl) (Nat.le_of_ble_eq_true rfl) (m_here (n := n) hsh hr hL1 ha (by omega)) (fun v10 μ10 hc => ?_)
      obtain ⟨rfl, rfl⟩ := hc
      refine ⟨mm_le_same rfl, ?_⟩
      refine wp_cS q148_ok d148_13 ml_11_135 rfl q143_ok rfl rfl rfl (Nat.le_of_ble_eq_true rfl) (Nat.le_of_ble_eq_true rfl) (m_isDigit _) (fun v13 μ13 hc => ?_)
      obtain ⟨rfl, rfl⟩ := hc
      refine ⟨mm_le_same rfl, ?_⟩
      by_cases cF : isD (bAt L q)
      · rw [if_pos cF]
        have hql := dgt_lt (dgt_is cF).2
        refine wp_if_eq q148_ok d148_16 (t := 48) rfl (fun h16 => ?_) (fun h16 => ?_)
        · exact absurd h16 (by decide)
        · refine wp_bipush (v := 10) (by decide) q148_ok d148_19 ?_
          refine wp_iload_n (j := 1) rfl q148_ok d148_21 ?_
          refine wp_imul rfl q148_ok d148_22 ?_
          refine wp_aload_n (j := 0) rfl q148_ok d148_23 ?_
          refine wp_cV q148_ok d148_24 ml_11_116 rfl q140_ok (u := 11) rfl (by first | assumption | exact so0 hsh rfl) rfl (Nat.le_of_ble_eq_true rfl) (Nat.le_of_ble_eq_true rfl) (m_here (n := n) hsh hr hL1 ha (by omega)) (fun v24 μ24 hc => ?_)
          obtain ⟨rfl, rfl⟩ := hc
          refine ⟨mm_le_same rfl, ?_⟩
          refine wp_iadd rfl q148_ok d148_27 ?_
          refine wp_bipush (v := 48) (by decide) q148_ok d148_28 ?_
          refine wp_isub (dg_step u cF) q148_ok d148_30 ?_
          refine wp_istore_n (j := 1) (Nat.le_of_ble_eq_true rfl) (rfl : _ = [_, _, _]) q148_ok d148_31 ?_
          refine wp_aload_n (j := 0) rfl q148_ok d148_32 ?_
          refine wp_dup rfl q148_ok d148_33 ?_
          refine wp_getI q148_ok d148_34 fl_11_113 rfl (by first | assumption | exact so0 hsh rfl) ha ?_
          refine wp_iconst (v := 1) (by decide) q148_ok d148_37 ?_
          refine wp_iadd (nI_1 q) q148_ok d148_38 ?_
          refine wp_putI q148_ok d148_39 fl_11_113 rfl (by first | assumption | exact so0 hsh rfl) (Or.inl rfl) ?_
          refine wp_iinc (j := 2) rfl (by first | exact inc1 | rfl) (rfl : _ = [_, _, _]) q148_ok d148_42 ?_
          refine wp_goto (t := 4) rfl q148_ok d148_45 ?_
          rw [numL, if_neg (dgt_is cF).2, mm_up_up]
          exact ih (i + 1) (q + 1) _ (by omega) hql
      · rw [if_neg cF]
        have en : numL L (z + 1) q u = (q, u) := by rw [numL, if_pos (dgt_not cF)]
        refine wp_if_eq q148_ok d148_16 (t := 48) rfl (fun h16 => ?_) (fun h16 => ?_)
        · refine wp_aload_n (j := 0) rfl q148_ok d148_48 ?_
          refine wp_cV q148_ok d148_49 ml_11_116 rfl q140_ok (u := 11) rfl (by first | assumption | exact so0 hsh rfl) rfl (Nat.le_of_ble_eq_true rfl) (Nat.le_of_ble_eq_true rfl) (m_here (n := n) hsh hr hL1 ha (by omega)) (fun v49 μ49 hc => ?_)
          obtain ⟨rfl, rfl⟩ := hc
          refine ⟨mm_le_same rfl, ?_⟩
          refine wp_cS q148_ok d148_52 ml_11_135 rfl q143_ok rfl rfl rfl (Nat.le_of_ble_eq_true rfl) (Nat.le_of_ble_eq_true rfl) (m_isDigit _) (fun v52 μ52 hc => ?_)
          obtain ⟨rfl, rfl⟩ := hc
          refine ⟨mm_le_same rfl, ?_⟩
          by_cases cD : isD (bAt L q)
          · rw [if_pos cD]
            refine wp_if_eq q148_ok d148_55 (t := 62) rfl (fun h55 => ?_) (fun h55 => ?_)
            · exact absurd h55 (by decide)
            · refine wp_aload_n (j := 0) rfl q148_ok d148_58 ?_
              refine wp_cV q148_ok d148_59 ml_11_129 rfl q142_ok (u := 11) rfl (by first | assumption | exact so0 hsh rfl) rfl (Nat.le_of_ble_eq_true rfl) (Nat.le_of_ble_eq_true rfl) (m_bad0 hsh hr hw1 ha) (fun v59 μ59 hc => ?_)
              obtain ⟨rfl, rfl⟩ := hc
              refine ⟨mm_le_same rfl, ?_⟩
              refine wp_iload_n (j := 1) rfl q148_ok d148_62 ?_
              refine wp_iret q148_ok d148_63 rfl ?_
              exact ⟨by rw [en], by unfold endD; rw [en, if_neg (dgt_is cD).2]⟩
          · rw [if_neg cD]
            refine wp_if_eq q148_ok d148_55 (t := 62) rfl (fun h55 => ?_) (fun h55 => ?_)
            · refine wp_iload_n (j := 1) rfl q148_ok d148_62 ?_
              refine wp_iret q148_ok d148_63 rfl ?_
              exact ⟨by rw [en], by unfold endD; rw [en, if_pos (dgt_not cD)]⟩
            · exact absurd rfl h55
        · exact absurd rfl h16
theorem m_plain {xs : List Int32} {ext : mm_X} {n : Nat} {sh : mm_S} {d : mm_D} {g : mm_G} {r : mm_R} {L : wo_P} (hsh : shp sh) (hr : rfx r) (hL : tapM d L) (hw : d 250 4 = -1) {q : Nat} (ha : d 250 3 = nI q) (hq : ¬ dgt L q = -1) : wp xs ext (n + 1) 148 0 [some (.ref 250), none, none] [] (sh, d, g, r) (fun v μ => v = some (.int (numL L 3 (q + 1) (dgt L q)).2) ∧ μ = (sh, endD d L (numL L 3 (q + 1) (dgt L q)).1, g, r)) := by
  refine wp_iconst (v := 0) (by decide) q148_ok d148_0 ?_
  refine wp_istore_n (j := 1) (Nat.le_of_ble_eq_true rfl) (rfl : _ = [_, _, _]) q148_ok d148_1 ?_
  refine wp_iconst (v := 0) (by decide) q148_ok d148_2 ?_
  refine wp_istore_n (j := 2) (Nat.le_of_ble_eq_true rfl) (rfl : _ = [_, _, _]) q148_ok d148_3 ?_
  have h0 := m_plain_l (xs := xs) (ext := ext) (n := n) (g := g) hsh hr hL hw 4 0 q 0 (by omega) (Nat.le_of_lt (dgt_lt hq))
  rw [mm_up_self ha, numL, if_neg hq, show (0 : Int32) * 10 + dgt L q = dgt L q by rw [Int32.zero_mul, Int32.zero_add]] at h0
  exact h0
