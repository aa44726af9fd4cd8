/-! ===== the model reads conditions ===== -/
def RMcmp (xs : List Int32) (ext : mm_X) (sh : mm_S) (g : mm_G) (r : mm_R) (L : wo_P) (t n k : Nat) : Prop := ∀ (d : mm_D) (p s : Nat) (cs : List Int32), MS d L t k p s cs → wp xs ext n 153 0 [some (.ref 250), none] [] (sh, d, g, r) (mres sh g r L t k s d cs (cmpS L k p))
def RMunit (xs : List Int32) (ext : mm_X) (sh : mm_S) (g : mm_G) (r : mm_R) (L : wo_P) (t n k : Nat) : Prop := ∀ (d : mm_D) (p s : Nat) (cs : List Int32), MS d L t k p s cs → wp xs ext n 154 0 [some (.ref 250), none] [] (sh, d, g, r) (mres sh g r L t k s d cs (unitK L k p))
def RMcon (xs : List Int32) (ext : mm_X) (sh : mm_S) (g : mm_G) (r : mm_R) (L : wo_P) (t n k : Nat) : Prop := ∀ (d : mm_D) (p s : Nat) (cs : List Int32), MS d L t k p s cs → wp xs ext n 157 0 [some (.ref 250)] [] (sh, d, g, r) (mres sh g r L t k s d cs (conS L (unitK L k) p))
def RMand (xs : List Int32) (ext : mm_X) (sh : mm_S) (g : mm_G) (r : mm_R) (L : wo_P) (t n k : Nat) : Prop := ∀ (d : mm_D) (s : Nat) (cs : List Int32) (res : wo_R), mst L t k s d cs res → (∀ x, res = .inr x → 1 ≤ x.1) → wp xs ext n 155 0 [some (.ref 250)] [] (sh, d, g, r) (mres sh g r L t k s d cs (thn res (mulS L (unitK L k) 38 (-13) 160)))
def RMor (xs : List Int32) (ext : mm_X) (sh : mm_S) (g : mm_G) (r : mm_R) (L : wo_P) (t n k : Nat) : Prop := ∀ (d : mm_D) (s : Nat) (cs : List Int32) (res : wo_R), mst L t k s d cs res → (∀ x, res = .inr x → 1 ≤ x.1) → wp xs ext n 156 0 [some (.ref 250)] [] (sh, d, g, r) (mres sh g r L t k s d cs (thn res (mulS L (truS L (unitK L k)) 124 (-12) 160)))
theorem tokV_61 {c : Int32} (h : c = 61) : tokV 6 0 (cmp c) := by rw [h, cmp_61]; exact tokV_op (by decide) (by decide) (by decide)
theorem tokV_60 {c : Int32} (h : c = 60) : tokV 7 0 (cmp c) := by rw [h, cmp_60]; exact tokV_op (by decide) (by decide) (by decide)
theorem tokV_62 {c : Int32} (h : c = 62) : tokV 8 0 (cmp c) := by rw [h, cmp_62]; exact tokV_op (by decide) (by decide) (by decide)
theorem cmp_62of {c : Int32} (h : ¬ cmp c = -1) (h1 : ¬ c = 61) (h2 : ¬ c = 60) : c = 62 := by
  rcases cmp_yes h with e | e | e
  · exact absurd e h1
  · exact absurd e h2
  · exact e
theorem bd_1 {L : wo_P} {q : Nat} {res : wo_R} (h : bdW L (q + 1) res) : ∀ x, res = .inr x → 1 ≤ x.1 := fun x e => by
  rw [e] at h
  have h : q + 1 ≤ x.1 ∧ x.1 ≤ L.1 := h
  omega
theorem mst_up {d : mm_D} {L : wo_P} {t k s : Nat} {cs : List Int32} {res : wo_R} (hk : k + 1 ≤ 6) (h : mst L t k s d cs res) : mst L t (k + 1) s (mm_up d 250 5 (d 250 5 - 1)) cs res := by
  cases res with
  | inl w =>
    obtain ⟨h1, h2, a, e, h3, h4, h5⟩ := h
    exact WS_any (a := a) (c := e) h1.1 h1.2.1 h1.2.2 h2.1 h2.2 h3.1 h3.2 h4 (by omega)
  | inr x =>
    have h : MS d L t k x.1 s (cs ++ x.2) := h
    have e : d 250 5 - 1 = nI (6 - (k + 1)) := by
      rw [h.2.2.2.1, nI_sub1 (by omega), show 6 - k - 1 = 6 - (k + 1) by omega]
    rw [e]
    exact MS_deep h (k + 1)
theorem r_cmp {xs : List Int32} {ext : mm_X} {sh : mm_S} {g : mm_G} {r : mm_R} {L : wo_P} {t : Nat} (hsh : shp sh) (hr : rfx r) {n k : Nat} (hk : k ≤ 6) (hs : RMsum xs ext sh g r L t (n + 1) k) : RMcmp xs ext sh g r L t (n + 2) k := by
  intro d p s cs h
  have hpl := h.2.1.2
  have hwl := wsp_le L hpl
  have hwg := wsp_ge L p
  have hl := h.2.2.2.2.2.2.1
  have S1 := MS_at (s2 := s) h hwl (show cs.length + s ≤ wsp L p by omega)
  refine wp_aload_n (j := 0) rfl q153_ok d153_0 ?_
  refine wp_getI q153_ok d153_1 fl_11_120 rfl (by first | assumption | exact so0 hsh rfl) h.2.2.1 ?_
  refine wp_iconst (v := -1) (by decide) q153_ok d153_4 ?_
  refine wp_icmp_ne q153_ok d153_5 (t := 15) rfl (fun h5 => ?_) (fun h5 => ?_)
  · exact absurd rfl h5
  · have h5 := Classical.not_not.mp h5
    refine wp_aload_n (j := 0) rfl q153_ok d153_8 ?_
    refine wp_cV q153_ok d153_9 ml_11_132 rfl q141_ok (u := 11) rfl (by first | assumption | exact so0 hsh rfl) rfl (Nat.le_of_ble_eq_true rfl) (Nat.le_of_ble_eq_true rfl) (m_look hsh hr h.1 h.2.1.1 h.2.1.2) (fun v9 μ9 hc => ?_)
    obtain ⟨rfl, rfl⟩ := hc
    refine ⟨mm_le_same rfl, ?_⟩
    refine wp_goto (t := 16) rfl q153_ok d153_12 ?_
    refine wp_istore_n (j := 1) (Nat.le_of_ble_eq_true rfl) (rfl : _ = [_, _]) q153_ok d153_16 ?_
    refine wp_iload_n (j := 1) rfl q153_ok d153_17 ?_
    refine wp_cS q153_ok d153_18 ml_11_166 rfl q152_ok rfl rfl rfl (Nat.le_of_ble_eq_true rfl) (Nat.le_of_ble_eq_true rfl) (m_isSign _) (fun v18 μ18 hc => ?_)
    obtain ⟨rfl, rfl⟩ := hc
    refine ⟨mm_le_same rfl, ?_⟩
    by_cases hc : cmp (bAt L (wsp L p)) = -1
    · rw [if_pos hc]
      refine wp_if_ne q153_ok d153_21 (t := 29) rfl (fun h21 => ?_) (fun h21 => ?_)
      · exact absurd rfl h21
      · have h21 := Classical.not_not.mp h21
        refine wp_aload_n (j := 0) rfl q153_ok d153_24 ?_
        refine wp_cV q153_ok d153_25 ml_11_129 rfl q142_ok (u := 11) rfl (by first | assumption | exact so0 hsh rfl) rfl (Nat.le_of_ble_eq_true rfl) (Nat.le_of_ble_eq_true rfl) (m_bad0 hsh hr S1.2.2.1 S1.2.1.1) (fun v25 μ25 hc => ?_)
        obtain ⟨rfl, rfl⟩ := hc
        refine ⟨mm_le_same rfl, ?_⟩
        refine wp_vret q153_ok d153_28 rfl ?_
        refine ⟨rfl, _, rfl, xf_trans xf_3 xf_4, ?_⟩
        unfold cmpS
        rw [if_pos hc]
        exact WS_bad S1 (by omega)
    · rw [if_neg hc]
      have hql := cmp_lt hc
      have S2 := MS_at (s2 := s + 1) S1 hql (show cs.length + (s + 1) ≤ wsp L p + 1 by omega)
      refine wp_if_ne q153_ok d153_21 (t := 29) rfl (fun h21 => ?_) (fun h21 => ?_)
      · refine wp_aload_n (j := 0) rfl q153_ok d153_29 ?_
        refine wp_dup rfl q153_ok d153_30 ?_
        refine wp_getI q153_ok d153_31 fl_11_113 rfl (by first | assumption | exact so0 hsh rfl) S1.2.1.1 ?_
        refine wp_iconst (v := 1) (by decide) q153_ok d153_34 ?_
        refine wp_iadd (nI_1 _) q153_ok d153_35 ?_
        refine wp_putI q153_ok d153_36 fl_11_113 rfl (by first | assumption | exact so0 hsh rfl) (Or.inl rfl) ?_
        refine wp_aload_n (j := 0) rfl q153_ok d153_39 ?_
        refine wp_cV q153_ok d153_40 ml_11_153 rfl q151_ok (u := 11) rfl (by first | assumption | exact so0 hsh rfl) rfl (Nat.le_of_ble_eq_true rfl) (Nat.le_of_ble_eq_true rfl) (hs _ _ _ _ S2) (fun v40 μ40 hc => ?_)
        obtain ⟨rfl, d3, rfl, x3, m3⟩ := hc
        refine ⟨mm_le_same rfl, ?_⟩
        refine wp_aload_n (j := 0) rfl q153_ok d153_43 ?_
        refine wp_iload_n (j := 1) rfl q153_ok d153_44 ?_
        refine wp_bipush (v := 61) (by decide) q153_ok d153_45 ?_
        refine wp_icmp_ne q153_ok d153_47 (t := 55) rfl (fun h47 => ?_) (fun h47 => ?_)
        · refine wp_iload_n (j := 1) rfl q153_ok d153_55 ?_
          refine wp_bipush (v := 60) (by decide) q153_ok d153_56 ?_
          refine wp_icmp_ne q153_ok d153_58 (t := 66) rfl (fun h58 => ?_) (fun h58 => ?_)
          · refine wp_bipush (v := 8) (by decide) q153_ok d153_66 ?_
            refine wp_iconst (v := 0) (by decide) q153_ok d153_68 ?_
            refine wp_cV q153_ok d153_69 ml_11_142 rfl q144_ok (u := 11) rfl (by first | assumption | exact so0 hsh rfl) rfl (Nat.le_of_ble_eq_true rfl) (Nat.le_of_ble_eq_true rfl) (r_put hsh hr hk m3 (by first | exact tokV_61 h47 | exact tokV_60 h58 | exact tokV_62 (cmp_62of hc h47 h58))) (fun v69 μ69 hc => ?_)
            obtain ⟨rfl, d9, rfl, x9, m9⟩ := hc
            refine ⟨mm_le_same rfl, ?_⟩
            refine wp_vret q153_ok d153_72 rfl ?_
            refine ⟨rfl, d9, rfl, xf_trans (xf_trans (xf_trans xf_3 xf_3) x3) x9, ?_⟩
            unfold cmpS
            rw [if_neg hc]
            exact m9
          · have h58 := Classical.not_not.mp h58
            refine wp_bipush (v := 7) (by decide) q153_ok d153_61 ?_
            refine wp_goto (t := 68) rfl q153_ok d153_63 ?_
            refine wp_iconst (v := 0) (by decide) q153_ok d153_68 ?_
            refine wp_cV q153_ok d153_69 ml_11_142 rfl q144_ok (u := 11) rfl (by first | assumption | exact so0 hsh rfl) rfl (Nat.le_of_ble_eq_true rfl) (Nat.le_of_ble_eq_true rfl) (r_put hsh hr hk m3 (by first | exact tokV_61 h47 | exact tokV_60 h58 | exact tokV_62 (cmp_62of hc h47 h58))) (fun v69 μ69 hc => ?_)
            obtain ⟨rfl, d9, rfl, x9, m9⟩ := hc
            refine ⟨mm_le_same rfl, ?_⟩
            refine wp_vret q153_ok d153_72 rfl ?_
            refine ⟨rfl, d9, rfl, xf_trans (xf_trans (xf_trans xf_3 xf_3) x3) x9, ?_⟩
            unfold cmpS
            rw [if_neg hc]
            exact m9
        · have h47 := Classical.not_not.mp h47
          refine wp_bipush (v := 6) (by decide) q153_ok d153_50 ?_
          refine wp_goto (t := 68) rfl q153_ok d153_52 ?_
          refine wp_iconst (v := 0) (by decide) q153_ok d153_68 ?_
          refine wp_cV q153_ok d153_69 ml_11_142 rfl q144_ok (u := 11) rfl (by first | assumption | exact so0 hsh rfl) rfl (Nat.le_of_ble_eq_true rfl) (Nat.le_of_ble_eq_true rfl) (r_put hsh hr hk m3 (by first | exact tokV_61 h47 | exact tokV_60 h58 | exact tokV_62 (cmp_62of hc h47 h58))) (fun v69 μ69 hc => ?_)
          obtain ⟨rfl, d9, rfl, x9, m9⟩ := hc
          refine ⟨mm_le_same rfl, ?_⟩
          refine wp_vret q153_ok d153_72 rfl ?_
          refine ⟨rfl, d9, rfl, xf_trans (xf_trans (xf_trans xf_3 xf_3) x3) x9, ?_⟩
          unfold cmpS
          rw [if_neg hc]
          exact m9
      · have h21 := Classical.not_not.mp h21
        exact absurd h21 (by decide)
theorem r_unit {xs : List Int32} {ext : mm_X} {sh : mm_S} {g : mm_G} {r : mm_R} {L : wo_P} {t : Nat} (hsh : shp sh) (hr : rfx r) {n k : Nat} (hk : k ≤ 6) (hs : RMsum xs ext sh g r L t (n + 3) k) (hc : RMcmp xs ext sh g r L t (n + 3) k) (hu : ∀ k2, k = k2 + 1 → RMunit xs ext sh g r L t (n + 3) k2) (hd : ∀ k2, k = k2 + 1 → RMcon xs ext sh g r L t (n + 3) k2) : RMunit xs ext sh g r L t (n + 4) k := by
  intro d p s cs h
  have hpl := h.2.1.2
  have hwl := wsp_le L hpl
  have hwg := wsp_ge L p
  have hl := h.2.2.2.2.2.2.1
  have S1 := MS_at (s2 := s) h hwl (show cs.length + s ≤ wsp L p by omega)
  refine wp_aload_n (j := 0) rfl q154_ok d154_0 ?_
  refine wp_cV q154_ok d154_1 ml_11_132 rfl q141_ok (u := 11) rfl (by first | assumption | exact so0 hsh rfl) rfl (Nat.le_of_ble_eq_true rfl) (Nat.le_of_ble_eq_true rfl) (m_look hsh hr h.1 h.2.1.1 h.2.1.2) (fun v1 μ1 hc => ?_)
  obtain ⟨rfl, rfl⟩ := hc
  refine ⟨mm_le_same rfl, ?_⟩
  refine wp_istore_n (j := 1) (Nat.le_of_ble_eq_true rfl) (rfl : _ = [_, _]) q154_ok d154_4 ?_
  refine wp_iload_n (j := 1) rfl q154_ok d154_5 ?_
  refine wp_bipush (v := 33) (by decide) q154_ok d154_6 ?_
  refine wp_icmp_ne q154_ok d154_8 (t := 47) rfl (fun h8 => ?_) (fun h8 => ?_)
  · refine wp_iload_n (j := 1) rfl q154_ok d154_47 ?_
    refine wp_bipush (v := 40) (by decide) q154_ok d154_48 ?_
    refine wp_icmp_ne q154_ok d154_50 (t := 78) rfl (fun h50 => ?_) (fun h50 => ?_)
    · have er : unitK L k p = thn (sumK L k (wsp L p)) (cmpS L k) := by
        show unitS L k (unitO L k) p = _
        unfold unitS
        rw [if_neg h8, if_neg h50]
      refine wp_aload_n (j := 0) rfl q154_ok d154_78 ?_
      refine wp_cV q154_ok d154_79 ml_11_153 rfl q151_ok (u := 11) rfl (by first | assumption | exact so0 hsh rfl) rfl (Nat.le_of_ble_eq_true rfl) (Nat.le_of_ble_eq_true rfl) (hs _ _ _ _ S1) (fun v79 μ79 hc => ?_)
      obtain ⟨rfl, d3, rfl, x3, m3⟩ := hc
      refine ⟨mm_le_same rfl, ?_⟩
      cases e3 : sumK L k (wsp L p) with
      | inl w =>
        rw [e3] at m3
        have m3 : WS d3 L t w s (L.1 + k) := m3
        refine wp_aload_n (j := 0) rfl q154_ok d154_82 ?_
        refine wp_getI q154_ok d154_83 fl_11_120 rfl (by first | assumption | exact so0 hsh rfl) (by first | assumption | rfl) ?_
        refine wp_iconst (v := -1) (by decide) q154_ok d154_86 ?_
        refine wp_icmp_ne q154_ok d154_87 (t := 94) rfl (fun h87 => ?_) (fun h87 => ?_)
        · refine wp_vret q154_ok d154_94 rfl ?_
          exact mr_fail (xf_trans xf_3 x3) e3 (er.trans (thn_inl e3)) (by rw [e3]; exact m3)
        · have h87 := Classical.not_not.mp h87
          exact absurd h87 (WS_ne m3)
      | inr x =>
        rw [e3] at m3
        have m3 : MS d3 L t k x.1 s (cs ++ x.2) := m3
        refine wp_aload_n (j := 0) rfl q154_ok d154_82 ?_
        refine wp_getI q154_ok d154_83 fl_11_120 rfl (by first | assumption | exact so0 hsh rfl) m3.2.2.1 ?_
        refine wp_iconst (v := -1) (by decide) q154_ok d154_86 ?_
        refine wp_icmp_ne q154_ok d154_87 (t := 94) rfl (fun h87 => ?_) (fun h87 => ?_)
        · exact absurd rfl h87
        · have h87 := Classical.not_not.mp h87
          refine wp_aload_n (j := 0) rfl q154_ok d154_90 ?_
          refine wp_cV q154_ok d154_91 ml_11_175 rfl q153_ok (u := 11) rfl (by first | assumption | exact so0 hsh rfl) rfl (Nat.le_of_ble_eq_true rfl) (Nat.le_of_ble_eq_true rfl) (wp_post (hc _ _ _ _ m3) (fun v μ hm => mr_thn (xf_trans xf_3 x3) e3 er hm)) (fun v91 μ91 hc => ?_)
          obtain ⟨rfl, d5, rfl, x5, m5⟩ := hc
          refine ⟨mm_le_same rfl, ?_⟩
          refine wp_vret q154_ok d154_94 rfl ?_
          exact ⟨rfl, d5, rfl, x5, m5⟩
    · have h50 := Classical.not_not.mp h50
      have hc1 : bAt L (wsp L p) = 40 := h50
      have hql := bAt_lt hc1 (by decide)
      refine wp_aload_n (j := 0) rfl q154_ok d154_53 ?_
      refine wp_cV q154_ok d154_54 ml_11_150 rfl q146_ok (u := 11) rfl (by first | assumption | exact so0 hsh rfl) rfl (Nat.le_of_ble_eq_true rfl) (Nat.le_of_ble_eq_true rfl) (r_opens hsh hr hk S1 hql) (fun v54 μ54 hc => ?_)
      obtain ⟨rfl, d3, rfl, x3, o0, o1⟩ := hc
      refine ⟨mm_le_same rfl, ?_⟩
      cases k with
      | zero =>
        have W := o0 rfl
        refine wp_aload_n (j := 0) rfl q154_ok d154_57 ?_
        refine wp_getI q154_ok d154_58 fl_11_120 rfl (by first | assumption | exact so0 hsh rfl) (by first | assumption | rfl) ?_
        refine wp_iconst (v := -1) (by decide) q154_ok d154_61 ?_
        refine wp_icmp_ne q154_ok d154_62 (t := 94) rfl (fun h62 => ?_) (fun h62 => ?_)
        · refine wp_vret q154_ok d154_94 rfl ?_
          refine ⟨rfl, d3, rfl, xf_trans xf_3 x3, ?_⟩
          show mst L t 0 s d3 cs (unitS L 0 none p)
          unfold unitS
          rw [if_neg h8, if_pos hc1]
          exact WS_le W (Nat.le_add_right _ _)
        · have h62 := Classical.not_not.mp h62
          exact absurd h62 (WS_ne W)
      | succ k2 =>
        have S3 := o1 k2 rfl s (by omega)
        refine wp_aload_n (j := 0) rfl q154_ok d154_57 ?_
        refine wp_getI q154_ok d154_58 fl_11_120 rfl (by first | assumption | exact so0 hsh rfl) S3.2.2.1 ?_
        refine wp_iconst (v := -1) (by decide) q154_ok d154_61 ?_
        refine wp_icmp_ne q154_ok d154_62 (t := 94) rfl (fun h62 => ?_) (fun h62 => ?_)
        · exact absurd rfl h62
        · have h62 := Classical.not_not.mp h62
          refine wp_aload_n (j := 0) rfl q154_ok d154_65 ?_
          refine wp_cV q154_ok d154_66 ml_11_172 rfl q157_ok (u := 11) rfl (by first | assumption | exact so0 hsh rfl) rfl (Nat.le_of_ble_eq_true rfl) (Nat.le_of_ble_eq_true rfl) (hd k2 rfl _ _ _ _ S3) (fun v66 μ66 hc => ?_)
          obtain ⟨rfl, d4, rfl, x4, m4⟩ := hc
          refine ⟨mm_le_same rfl, ?_⟩
          refine wp_aload_n (j := 0) rfl q154_ok d154_69 ?_
          refine wp_bipush (v := 41) (by decide) q154_ok d154_70 ?_
          refine wp_cV q154_ok d154_72 ml_11_156 rfl q147_ok (u := 11) rfl (by first | assumption | exact so0 hsh rfl) rfl (Nat.le_of_ble_eq_true rfl) (Nat.le_of_ble_eq_true rfl) (r_closes hsh hr hk m4 (by decide)) (fun v72 μ72 hc => ?_)
          obtain ⟨rfl, d5, rfl, x5, m5⟩ := hc
          refine ⟨mm_le_same rfl, ?_⟩
          refine wp_goto (t := 94) rfl q154_ok d154_75 ?_
          refine wp_vret q154_ok d154_94 rfl ?_
          refine ⟨rfl, d5, rfl, xf_trans (xf_trans (xf_trans xf_3 x3) x4) x5, ?_⟩
          show mst L t (k2 + 1) s _ cs (unitS L (k2 + 1) (some (unitK L k2)) p)
          unfold unitS
          rw [if_neg h8, if_pos hc1]
          exact m5
  · have h8 := Classical.not_not.mp h8
    have hc1 : bAt L (wsp L p) = 33 := h8
    have hql := bAt_lt hc1 (by decide)
    refine wp_aload_n (j := 0) rfl q154_ok d154_11 ?_
    refine wp_cV q154_ok d154_12 ml_11_150 rfl q146_ok (u := 11) rfl (by first | assumption | exact so0 hsh rfl) rfl (Nat.le_of_ble_eq_true rfl) (Nat.le_of_ble_eq_true rfl) (r_opens hsh hr hk S1 hql) (fun v12 μ12 hc => ?_)
    obtain ⟨rfl, d3, rfl, x3, o0, o1⟩ := hc
    refine ⟨mm_le_same rfl, ?_⟩
    cases k with
    | zero =>
      have W := o0 rfl
      refine wp_aload_n (j := 0) rfl q154_ok d154_15 ?_
      refine wp_getI q154_ok d154_16 fl_11_120 rfl (by first | assumption | exact so0 hsh rfl) (by first | assumption | rfl) ?_
      refine wp_iconst (v := -1) (by decide) q154_ok d154_19 ?_
      refine wp_icmp_ne q154_ok d154_20 (t := 94) rfl (fun h20 => ?_) (fun h20 => ?_)
      · refine wp_vret q154_ok d154_94 rfl ?_
        refine ⟨rfl, d3, rfl, xf_trans xf_3 x3, ?_⟩
        show mst L t 0 s d3 cs (unitS L 0 none p)
        unfold unitS
        rw [if_pos hc1]
        exact WS_le W (Nat.le_add_right _ _)
      · have h20 := Classical.not_not.mp h20
        exact absurd h20 (WS_ne W)
    | succ k2 =>
      have S3 := o1 k2 rfl (s + 1) (by omega)
      refine wp_aload_n (j := 0) rfl q154_ok d154_15 ?_
      refine wp_getI q154_ok d154_16 fl_11_120 rfl (by first | assumption | exact so0 hsh rfl) S3.2.2.1 ?_
      refine wp_iconst (v := -1) (by decide) q154_ok d154_19 ?_
      refine wp_icmp_ne q154_ok d154_20 (t := 94) rfl (fun h20 => ?_) (fun h20 => ?_)
      · exact absurd rfl h20
      · have h20 := Classical.not_not.mp h20
        refine wp_aload_n (j := 0) rfl q154_ok d154_23 ?_
        refine wp_cV q154_ok d154_24 ml_11_169 rfl q154_ok (u := 11) rfl (by first | assumption | exact so0 hsh rfl) rfl (Nat.le_of_ble_eq_true rfl) (Nat.le_of_ble_eq_true rfl) (hu k2 rfl _ _ _ _ S3) (fun v24 μ24 hc => ?_)
        obtain ⟨rfl, d4, rfl, x4, m4⟩ := hc
        refine ⟨mm_le_same rfl, ?_⟩
        refine wp_aload_n (j := 0) rfl q154_ok d154_27 ?_
        refine wp_bipush (v := 9) (by decide) q154_ok d154_28 ?_
        refine wp_iconst (v := 0) (by decide) q154_ok d154_30 ?_
        refine wp_cV q154_ok d154_31 ml_11_142 rfl q144_ok (u := 11) rfl (by first | assumption | exact so0 hsh rfl) rfl (Nat.le_of_ble_eq_true rfl) (Nat.le_of_ble_eq_true rfl) (r_put hsh hr (by omega) m4 (tokV_op (x := -14) (by decide) (by decide) (by decide))) (fun v31 μ31 hc => ?_)
        obtain ⟨rfl, d9, rfl, x9, m9⟩ := hc
        refine ⟨mm_le_same rfl, ?_⟩
        refine wp_aload_n (j := 0) rfl q154_ok d154_34 ?_
        refine wp_dup rfl q154_ok d154_35 ?_
        refine wp_getI q154_ok d154_36 fl_11_126 rfl (by first | assumption | exact so0 hsh rfl) (by first | assumption | rfl) ?_
        refine wp_iconst (v := 1) (by decide) q154_ok d154_39 ?_
        refine wp_isub rfl q154_ok d154_40 ?_
        refine wp_putI q154_ok d154_41 fl_11_126 rfl (by first | assumption | exact so0 hsh rfl) (Or.inl rfl) ?_
        refine wp_goto (t := 94) rfl q154_ok d154_44 ?_
        refine wp_vret q154_ok d154_94 rfl ?_
        refine ⟨rfl, _, rfl, xf_trans (xf_trans (xf_trans (xf_trans xf_3 x3) x4) x9) xf_5, ?_⟩
        show mst L t (k2 + 1) s _ cs (unitS L (k2 + 1) (some (unitK L k2)) p)
        unfold unitS
        rw [if_pos hc1]
        exact mst_up hk m9
theorem r_and_w {xs : List Int32} {ext : mm_X} {sh : mm_S} {g : mm_G} {r : mm_R} (hsh : shp sh) (hr : rfx r) {n : Nat} {d : mm_D} (hw : ¬ d 250 4 = -1) : wp xs ext (n + 0) 155 0 [some (.ref 250)] [] (sh, d, g, r) (fun v μ => v = none ∧ μ = (sh, d, g, r)) := by
  refine wp_aload_n (j := 0) rfl q155_ok d155_0 ?_
  refine wp_getI q155_ok d155_1 fl_11_120 rfl (by first | assumption | exact so0 hsh rfl) (by first | assumption | rfl) ?_
  refine wp_iconst (v := -1) (by decide) q155_ok d155_4 ?_
  refine wp_icmp_ne q155_ok d155_5 (t := 41) rfl (fun h5 => ?_) (fun h5 => ?_)
  · refine wp_vret q155_ok d155_41 rfl ?_
    exact ⟨rfl, rfl⟩
  · have h5 := Classical.not_not.mp h5
    exact absurd h5 hw
theorem r_and_l {xs : List Int32} {ext : mm_X} {sh : mm_S} {g : mm_G} {r : mm_R} {L : wo_P} {t : Nat} (hsh : shp sh) (hr : rfx r) {n k : Nat} (hk : k ≤ 6) (h0 : RMunit xs ext sh g r L t (n + 2) k) : ∀ (z : Nat) (d : mm_D) (p s : Nat) (cs : List Int32), L.1 + 1 ≤ z + p → MS d L t k p s cs → wp xs ext (n + 3) 155 0 [some (.ref 250)] [] (sh, d, g, r) (mres sh g r L t k s d cs (mulS L (unitK L k) 38 (-13) z p)) := by
  have hb : bdS L (unitK L k) := unitK_bd L k
  intro z
  induction z with
  | zero =>
    intro d p s cs hz h
    have := h.2.1.2
    omega
  | succ z ih =>
    intro d p s cs hz h
    have hpl := h.2.1.2
    have hwl := wsp_le L hpl
    have hwg := wsp_ge L p
    have hl := h.2.2.2.2.2.2.1
    have S1 := MS_at (s2 := s) h hwl (show cs.length + s ≤ wsp L p by omega)
    refine wp_aload_n (j := 0) rfl q155_ok d155_0 ?_
    refine wp_getI q155_ok d155_1 fl_11_120 rfl (by first | assumption | exact so0 hsh rfl) h.2.2.1 ?_
    refine wp_iconst (v := -1) (by decide) q155_ok d155_4 ?_
    refine wp_icmp_ne q155_ok d155_5 (t := 41) rfl (fun h5 => ?_) (fun h5 => ?_)
    · exact absurd rfl h5
    · have h5 := Classical.not_not.mp h5
      refine wp_aload_n (j := 0) rfl q155_ok d155_8 ?_
      refine wp_cV q155_ok d155_9 ml_11_132 rfl q141_ok (u := 11) rfl (by first | assumption | exact so0 hsh rfl) rfl (Nat.le_of_ble_eq_true rfl) (Nat.le_of_ble_eq_true rfl) (m_look hsh hr h.1 h.2.1.1 h.2.1.2) (fun v9 μ9 hc => ?_)
      obtain ⟨rfl, rfl⟩ := hc
      refine ⟨mm_le_same rfl, ?_⟩
      refine wp_bipush (v := 38) (by decide) q155_ok d155_12 ?_
      refine wp_icmp_ne q155_ok d155_14 (t := 41) rfl (fun h14 => ?_) (fun h14 => ?_)
      · refine wp_vret q155_ok d155_41 rfl ?_
        refine ⟨rfl, _, rfl, xf_3, ?_⟩
        rw [mulS, if_neg h14]
        show MS _ L t k _ s (cs ++ [])
        rw [List.append_nil]
        exact S1
      · have h14 := Classical.not_not.mp h14
        have hc : bAt L (wsp L p) = 38 := h14
        have hql := bAt_lt hc (by decide)
        have S2 := MS_at (s2 := s + 1) S1 hql (show cs.length + (s + 1) ≤ wsp L p + 1 by omega)
        have er : mulS L (unitK L k) 38 (-13) (z + 1) p = thn (thc ((unitK L k) (wsp L p + 1)) (-13)) (mulS L (unitK L k) 38 (-13) z) := by rw [mulS, if_pos hc]
        refine wp_aload_n (j := 0) rfl q155_ok d155_17 ?_
        refine wp_dup rfl q155_ok d155_18 ?_
        refine wp_getI q155_ok d155_19 fl_11_113 rfl (by first | assumption | exact so0 hsh rfl) S1.2.1.1 ?_
        refine wp_iconst (v := 1) (by decide) q155_ok d155_22 ?_
        refine wp_iadd (nI_1 _) q155_ok d155_23 ?_
        refine wp_putI q155_ok d155_24 fl_11_113 rfl (by first | assumption | exact so0 hsh rfl) (Or.inl rfl) ?_
        refine wp_aload_n (j := 0) rfl q155_ok d155_27 ?_
        refine wp_cV q155_ok d155_28 ml_11_169 rfl q154_ok (u := 11) rfl (by first | assumption | exact so0 hsh rfl) rfl (Nat.le_of_ble_eq_true rfl) (Nat.le_of_ble_eq_true rfl) (h0 _ _ _ _ S2) (fun v28 μ28 hc => ?_)
        obtain ⟨rfl, d3, rfl, x3, m3⟩ := hc
        refine ⟨mm_le_same rfl, ?_⟩
        refine wp_aload_n (j := 0) rfl q155_ok d155_31 ?_
        refine wp_bipush (v := 10) (by decide) q155_ok d155_32 ?_
        refine wp_iconst (v := 0) (by decide) q155_ok d155_34 ?_
        refine wp_cV q155_ok d155_35 ml_11_142 rfl q144_ok (u := 11) rfl (by first | assumption | exact so0 hsh rfl) rfl (Nat.le_of_ble_eq_true rfl) (Nat.le_of_ble_eq_true rfl) (r_put hsh hr hk m3 (tokV_op (x := -13) (by decide) (by decide) (by decide))) (fun v35 μ35 hc => ?_)
        obtain ⟨rfl, d9, rfl, x9, m9⟩ := hc
        refine ⟨mm_le_same rfl, ?_⟩
        refine wp_goto (t := 0) rfl q155_ok d155_38 ?_
        have m9 : mst L t k s d9 cs (thc ((unitK L k) (wsp L p + 1)) (-13)) := m9
        cases e3 : (unitK L k) (wsp L p + 1) with
        | inl w =>
          rw [e3] at m9
          have m9 : WS d9 L t w s (L.1 + k) := m9
          refine wp_aload_n (j := 0) rfl q155_ok d155_0 ?_
          refine wp_getI q155_ok d155_1 fl_11_120 rfl (by first | assumption | exact so0 hsh rfl) (by first | assumption | rfl) ?_
          refine wp_iconst (v := -1) (by decide) q155_ok d155_4 ?_
          refine wp_icmp_ne q155_ok d155_5 (t := 41) rfl (fun h5 => ?_) (fun h5 => ?_)
          · refine wp_vret q155_ok d155_41 rfl ?_
            exact mr_fail (xf_trans (xf_trans (xf_trans xf_3 xf_3) x3) x9) (thc_inl (c := -13) e3) (er.trans (thn_inl (thc_inl e3))) (by rw [thc_inl (c := -13) e3]; exact m9)
          · have h5 := Classical.not_not.mp h5
            exact absurd h5 (WS_ne m9)
        | inr x =>
          have hbx := hb (wsp L p + 1) hql
          rw [e3] at m9 hbx
          have hbx : wsp L p + 1 + 1 ≤ x.1 ∧ x.1 ≤ L.1 := hbx
          have m9 : MS d9 L t k x.1 s (cs ++ (x.2 ++ [-13])) := m9
          exact wp_post (ih _ x.1 s _ (by omega) m9) (fun v μ hc => mr_thn (xf_trans (xf_trans (xf_trans xf_3 xf_3) x3) x9) (thc_inr e3) er hc)
theorem r_and {xs : List Int32} {ext : mm_X} {sh : mm_S} {g : mm_G} {r : mm_R} {L : wo_P} {t : Nat} (hsh : shp sh) (hr : rfx r) {n k : Nat} (hk : k ≤ 6) (h0 : RMunit xs ext sh g r L t (n + 2) k) : RMand xs ext sh g r L t (n + 3) k := by
  intro d s cs res h hp1
  cases res with
  | inl w =>
    exact wp_post (r_and_w hsh hr (WS_ne h)) (fun v μ hc => by
      obtain ⟨rfl, rfl⟩ := hc
      exact ⟨rfl, d, rfl, xf_refl t d, h⟩)
  | inr x =>
    have h : MS d L t k x.1 s (cs ++ x.2) := h
    have hx1 := hp1 x rfl
    have h160 := h.1.2.1
    exact wp_post (r_and_l hsh hr hk h0 160 d x.1 s _ (by omega) h) (fun v μ hc => mr_thn (xf_refl t d) rfl rfl hc)
theorem r_or_w {xs : List Int32} {ext : mm_X} {sh : mm_S} {g : mm_G} {r : mm_R} (hsh : shp sh) (hr : rfx r) {n : Nat} {d : mm_D} (hw : ¬ d 250 4 = -1) : wp xs ext (n + 0) 156 0 [some (.ref 250)] [] (sh, d, g, r) (fun v μ => v = none ∧ μ = (sh, d, g, r)) := by
  refine wp_aload_n (j := 0) rfl q156_ok d156_0 ?_
  refine wp_getI q156_ok d156_1 fl_11_120 rfl (by first | assumption | exact so0 hsh rfl) (by first | assumption | rfl) ?_
  refine wp_iconst (v := -1) (by decide) q156_ok d156_4 ?_
  refine wp_icmp_ne q156_ok d156_5 (t := 45) rfl (fun h5 => ?_) (fun h5 => ?_)
  · refine wp_vret q156_ok d156_45 rfl ?_
    exact ⟨rfl, rfl⟩
  · have h5 := Classical.not_not.mp h5
    exact absurd h5 hw
theorem r_or_l {xs : List Int32} {ext : mm_X} {sh : mm_S} {g : mm_G} {r : mm_R} {L : wo_P} {t : Nat} (hsh : shp sh) (hr : rfx r) {n k : Nat} (hk : k ≤ 6) (h0 : RMunit xs ext sh g r L t (n + 2) k) (h1 : RMand xs ext sh g r L t (n + 2) k) : ∀ (z : Nat) (d : mm_D) (p s : Nat) (cs : List Int32), L.1 + 1 ≤ z + p → MS d L t k p s cs → wp xs ext (n + 3) 156 0 [some (.ref 250)] [] (sh, d, g, r) (mres sh g r L t k s d cs (mulS L (truS L (unitK L k)) 124 (-12) z p)) := by
  have hb : bdS L (truS L (unitK L k)) := tru_bd (unitK_bd L k)
  intro z
  induction z with
  | zero =>
    intro d p s cs hz h
    have := h.2.1.2
    omega
  | succ z ih =>
    intro d p s cs hz h
    have hpl := h.2.1.2
    have hwl := wsp_le L hpl
    have hwg := wsp_ge L p
    have hl := h.2.2.2.2.2.2.1
    have S1 := MS_at (s2 := s) h hwl (show cs.length + s ≤ wsp L p by omega)
    refine wp_aload_n (j := 0) rfl q156_ok d156_0 ?_
    refine wp_getI q156_ok d156_1 fl_11_120 rfl (by first | assumption | exact so0 hsh rfl) h.2.2.1 ?_
    refine wp_iconst (v := -1) (by decide) q156_ok d156_4 ?_
    refine wp_icmp_ne q156_ok d156_5 (t := 45) rfl (fun h5 => ?_) (fun h5 => ?_)
    · exact absurd rfl h5
    · have h5 := Classical.not_not.mp h5
      refine wp_aload_n (j := 0) rfl q156_ok d156_8 ?_
      refine wp_cV q156_ok d156_9 ml_11_132 rfl q141_ok (u := 11) rfl (by first | assumption | exact so0 hsh rfl) rfl (Nat.le_of_ble_eq_true rfl) (Nat.le_of_ble_eq_true rfl) (m_look hsh hr h.1 h.2.1.1 h.2.1.2) (fun v9 μ9 hc => ?_)
      obtain ⟨rfl, rfl⟩ := hc
      refine ⟨mm_le_same rfl, ?_⟩
      refine wp_bipush (v := 124) (by decide) q156_ok d156_12 ?_
      refine wp_icmp_ne q156_ok d156_14 (t := 45) rfl (fun h14 => ?_) (fun h14 => ?_)
      · refine wp_vret q156_ok d156_45 rfl ?_
        refine ⟨rfl, _, rfl, xf_3, ?_⟩
        rw [mulS, if_neg h14]
        show MS _ L t k _ s (cs ++ [])
        rw [List.append_nil]
        exact S1
      · have h14 := Classical.not_not.mp h14
        have hc : bAt L (wsp L p) = 124 := h14
        have hql := bAt_lt hc (by decide)
        have S2 := MS_at (s2 := s + 1) S1 hql (show cs.length + (s + 1) ≤ wsp L p + 1 by omega)
        have er : mulS L (truS L (unitK L k)) 124 (-12) (z + 1) p = thn (thc ((truS L (unitK L k)) (wsp L p + 1)) (-12)) (mulS L (truS L (unitK L k)) 124 (-12) z) := by rw [mulS, if_pos hc]
        refine wp_aload_n (j := 0) rfl q156_ok d156_17 ?_
        refine wp_dup rfl q156_ok d156_18 ?_
        refine wp_getI q156_ok d156_19 fl_11_113 rfl (by first | assumption | exact so0 hsh rfl) S1.2.1.1 ?_
        refine wp_iconst (v := 1) (by decide) q156_ok d156_22 ?_
        refine wp_iadd (nI_1 _) q156_ok d156_23 ?_
        refine wp_putI q156_ok d156_24 fl_11_113 rfl (by first | assumption | exact so0 hsh rfl) (Or.inl rfl) ?_
        refine wp_aload_n (j := 0) rfl q156_ok d156_27 ?_
        refine wp_cV q156_ok d156_28 ml_11_169 rfl q154_ok (u := 11) rfl (by first | assumption | exact so0 hsh rfl) rfl (Nat.le_of_ble_eq_true rfl) (Nat.le_of_ble_eq_true rfl) (h0 _ _ _ _ S2) (fun v28 μ28 hc => ?_)
        obtain ⟨rfl, d3, rfl, x3, m3⟩ := hc
        refine ⟨mm_le_same rfl, ?_⟩
        refine wp_aload_n (j := 0) rfl q156_ok d156_31 ?_
        refine wp_cV q156_ok d156_32 ml_11_178 rfl q155_ok (u := 11) rfl (by first | assumption | exact so0 hsh rfl) rfl (Nat.le_of_ble_eq_true rfl) (Nat.le_of_ble_eq_true rfl) (h1 _ _ _ _ m3 (bd_1 (unitK_bd L k _ hql))) (fun v32 μ32 hc => ?_)
        obtain ⟨rfl, d4, rfl, x4, m4⟩ := hc
        refine ⟨mm_le_same rfl, ?_⟩
        refine wp_aload_n (j := 0) rfl q156_ok d156_35 ?_
        refine wp_bipush (v := 11) (by decide) q156_ok d156_36 ?_
        refine wp_iconst (v := 0) (by decide) q156_ok d156_38 ?_
        refine wp_cV q156_ok d156_39 ml_11_142 rfl q144_ok (u := 11) rfl (by first | assumption | exact so0 hsh rfl) rfl (Nat.le_of_ble_eq_true rfl) (Nat.le_of_ble_eq_true rfl) (r_put hsh hr hk m4 (tokV_op (x := -12) (by decide) (by decide) (by decide))) (fun v39 μ39 hc => ?_)
        obtain ⟨rfl, d9, rfl, x9, m9⟩ := hc
        refine ⟨mm_le_same rfl, ?_⟩
        refine wp_goto (t := 0) rfl q156_ok d156_42 ?_
        have m9 : mst L t k s d9 cs (thc ((truS L (unitK L k)) (wsp L p + 1)) (-12)) := m9
        cases e3 : (truS L (unitK L k)) (wsp L p + 1) with
        | inl w =>
          rw [e3] at m9
          have m9 : WS d9 L t w s (L.1 + k) := m9
          refine wp_aload_n (j := 0) rfl q156_ok d156_0 ?_
          refine wp_getI q156_ok d156_1 fl_11_120 rfl (by first | assumption | exact so0 hsh rfl) (by first | assumption | rfl) ?_
          refine wp_iconst (v := -1) (by decide) q156_ok d156_4 ?_
          refine wp_icmp_ne q156_ok d156_5 (t := 45) rfl (fun h5 => ?_) (fun h5 => ?_)
          · refine wp_vret q156_ok d156_45 rfl ?_
            exact mr_fail (xf_trans (xf_trans (xf_trans (xf_trans xf_3 xf_3) x3) x4) x9) (thc_inl (c := -12) e3) (er.trans (thn_inl (thc_inl e3))) (by rw [thc_inl (c := -12) e3]; exact m9)
          · have h5 := Classical.not_not.mp h5
            exact absurd h5 (WS_ne m9)
        | inr x =>
          have hbx := hb (wsp L p + 1) hql
          rw [e3] at m9 hbx
          have hbx : wsp L p + 1 + 1 ≤ x.1 ∧ x.1 ≤ L.1 := hbx
          have m9 : MS d9 L t k x.1 s (cs ++ (x.2 ++ [-12])) := m9
          exact wp_post (ih _ x.1 s _ (by omega) m9) (fun v μ hc => mr_thn (xf_trans (xf_trans (xf_trans (xf_trans xf_3 xf_3) x3) x4) x9) (thc_inr e3) er hc)
theorem r_or {xs : List Int32} {ext : mm_X} {sh : mm_S} {g : mm_G} {r : mm_R} {L : wo_P} {t : Nat} (hsh : shp sh) (hr : rfx r) {n k : Nat} (hk : k ≤ 6) (h0 : RMunit xs ext sh g r L t (n + 2) k) (h1 : RMand xs ext sh g r L t (n + 2) k) : RMor xs ext sh g r L t (n + 3) k := by
  intro d s cs res h hp1
  cases res with
  | inl w =>
    exact wp_post (r_or_w hsh hr (WS_ne h)) (fun v μ hc => by
      obtain ⟨rfl, rfl⟩ := hc
      exact ⟨rfl, d, rfl, xf_refl t d, h⟩)
  | inr x =>
    have h : MS d L t k x.1 s (cs ++ x.2) := h
    have hx1 := hp1 x rfl
    have h160 := h.1.2.1
    exact wp_post (r_or_l hsh hr hk h0 h1 160 d x.1 s _ (by omega) h) (fun v μ hc => mr_thn (xf_refl t d) rfl rfl hc)
theorem r_con {xs : List Int32} {ext : mm_X} {sh : mm_S} {g : mm_G} {r : mm_R} {L : wo_P} {t : Nat} (hsh : shp sh) (hr : rfx r) {n k : Nat} (hu : RMunit xs ext sh g r L t n k) (ha : RMand xs ext sh g r L t n k) (ho : RMor xs ext sh g r L t n k) : RMcon xs ext sh g r L t (n + 1) k := by
  intro d p s cs h
  refine wp_aload_n (j := 0) rfl q157_ok d157_0 ?_
  refine wp_cV q157_ok d157_1 ml_11_169 rfl q154_ok (u := 11) rfl (by first | assumption | exact so0 hsh rfl) rfl (Nat.le_of_ble_eq_true rfl) (Nat.le_of_ble_eq_true rfl) (hu _ _ _ _ h) (fun v1 μ1 hc => ?_)
  obtain ⟨rfl, d3, rfl, x3, m3⟩ := hc
  refine ⟨mm_le_same rfl, ?_⟩
  refine wp_aload_n (j := 0) rfl q157_ok d157_4 ?_
  refine wp_cV q157_ok d157_5 ml_11_178 rfl q155_ok (u := 11) rfl (by first | assumption | exact so0 hsh rfl) rfl (Nat.le_of_ble_eq_true rfl) (Nat.le_of_ble_eq_true rfl) (ha _ _ _ _ m3 (bd_1 (unitK_bd L k _ h.2.1.2))) (fun v5 μ5 hc => ?_)
  obtain ⟨rfl, d4, rfl, x4, m4⟩ := hc
  refine ⟨mm_le_same rfl, ?_⟩
  have m4 : mst L t k s d4 cs (truS L (unitK L k) p) := m4
  refine wp_aload_n (j := 0) rfl q157_ok d157_8 ?_
  refine wp_cV q157_ok d157_9 ml_11_181 rfl q156_ok (u := 11) rfl (by first | assumption | exact so0 hsh rfl) rfl (Nat.le_of_ble_eq_true rfl) (Nat.le_of_ble_eq_true rfl) (ho _ _ _ _ m4 (bd_1 (tru_bd (unitK_bd L k) _ h.2.1.2))) (fun v9 μ9 hc => ?_)
  obtain ⟨rfl, d5, rfl, x5, m5⟩ := hc
  refine ⟨mm_le_same rfl, ?_⟩
  refine wp_vret q157_ok d157_12 rfl ?_
  exact ⟨rfl, d5, rfl, xf_trans (xf_trans x3 x4) x5, m5⟩
theorem r_units {xs : List Int32} {ext : mm_X} {sh : mm_S} {g : mm_G} {r : mm_R} {L : wo_P} {t : Nat} (hsh : shp sh) (hr : rfx r) : ∀ (k n : Nat), k ≤ 6 → RMunit xs ext sh g r L t (n + (4 * k + 7)) k
  | 0, n, hk => by
    have hs : RMsum xs ext sh g r L t (n + 3 + 3) 0 := r_sums hsh hr 0 (n + 1) hk
    exact r_unit (n := n + 3) hsh hr hk hs (r_cmp (n := n + 4) hsh hr hk (r_sums hsh hr 0 n hk)) (fun k2 e => absurd e (by omega)) (fun k2 e => absurd e (by omega))
  | k + 1, n, hk => by
    have hs : RMsum xs ext sh g r L t (n + (4 * k + 7) + 3) (k + 1) := by
      have := r_sums (xs := xs) (ext := ext) (g := g) (L := L) (t := t) hsh hr (k + 1) (n + k + 2) hk
      rw [show n + k + 2 + (3 * (k + 1) + 5) = n + (4 * k + 7) + 3 by omega] at this
      exact this
    have hs2 : RMsum xs ext sh g r L t (n + (4 * k + 7) + 1 + 1) (k + 1) := by
      have := r_sums (xs := xs) (ext := ext) (g := g) (L := L) (t := t) hsh hr (k + 1) (n + k + 1) hk
      rw [show n + k + 1 + (3 * (k + 1) + 5) = n + (4 * k + 7) + 1 + 1 by omega] at this
      exact this
    have hu : ∀ m, RMunit xs ext sh g r L t (n + m + (4 * k + 7)) k := fun m => r_units hsh hr k (n + m) (by omega)
    have u0 : RMunit xs ext sh g r L t (n + (4 * k + 7)) k := hu 0
    have u1 : RMunit xs ext sh g r L t (n + (4 * k + 7) + 1) k := by
      have := hu 1
      rw [show n + 1 + (4 * k + 7) = n + (4 * k + 7) + 1 by omega] at this
      exact this
    have u2 : RMunit xs ext sh g r L t (n + (4 * k + 7) + 2) k := by
      have := hu 2
      rw [show n + 2 + (4 * k + 7) = n + (4 * k + 7) + 2 by omega] at this
      exact this
    have u3 : RMunit xs ext sh g r L t (n + (4 * k + 7) + 3) k := by
      have := hu 3
      rw [show n + 3 + (4 * k + 7) = n + (4 * k + 7) + 3 by omega] at this
      exact this
    have a1 : RMand xs ext sh g r L t (n + (4 * k + 5) + 3) k := r_and (n := n + (4 * k + 5)) hsh hr (by omega) u0
    have a2 : RMand xs ext sh g r L t (n + (4 * k + 6) + 3) k := r_and (n := n + (4 * k + 6)) hsh hr (by omega) u1
    have o2 : RMor xs ext sh g r L t (n + (4 * k + 6) + 3) k := r_or (n := n + (4 * k + 6)) hsh hr (by omega) u1 a1
    have c3 : RMcon xs ext sh g r L t (n + (4 * k + 7) + 3) k := r_con (n := n + (4 * k + 7) + 2) hsh hr u2 a2 o2
    rw [show n + (4 * (k + 1) + 7) = n + (4 * k + 7) + 4 by omega]
    exact r_unit (n := n + (4 * k + 7)) hsh hr hk hs (r_cmp (n := n + (4 * k + 7) + 1) hsh hr hk hs2) (fun k2 e => by
      have e2 : k2 = k := by omega
      subst e2
      exact u3) (fun k2 e => by
      have e2 : k2 = k := by omega
      subst e2
      exact c3)
