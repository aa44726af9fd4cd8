/-! ===== the model reads sums ===== -/
theorem wspS_no (L : wo_P) : ∀ z k, z + k = L.1 → wspS L z k < L.1 → ¬ L.2 (wspS L z k) = 32
  | 0, k, h, h2 => by
    have h2 : k < L.1 := h2
    omega
  | z + 1, k, h, h2 => by
    rw [wspS] at h2 ⊢
    by_cases q : L.2 k = 32
    · rw [if_pos q] at h2 ⊢
      exact wspS_no L z (k + 1) (by omega) h2
    · rw [if_neg q]
      exact q
theorem wsp_at {L : wo_P} {q : Nat} (h : ¬ L.2 q = 32) : wsp L q = q := by
  unfold wsp
  cases e : L.1 - q with
  | zero => rfl
  | succ z => rw [wspS, if_neg h]
theorem wsp_id {L : wo_P} {p : Nat} (hp : p ≤ L.1) : wsp L (wsp L p) = wsp L p := by
  by_cases q : wsp L p < L.1
  · refine wsp_at (wspS_no L (L.1 - p) p (by omega) q)
  · have := wsp_le L hp
    unfold wsp
    rw [show L.1 - wspS L (L.1 - p) p = 0 by unfold wsp at q; omega]
    rfl
theorem isD_no {c : Int32} (h : isD c) : ¬ c = 91 ∧ ltr c = -1 := by
  refine ⟨fun e => by rw [e] at h; exact absurd h (by decide), ?_⟩
  unfold ltr
  rw [if_neg (fun e => by rw [e] at h; exact absurd h (by decide)), if_neg (fun e => by rw [e] at h; exact absurd h (by decide)), if_neg (fun e => by rw [e] at h; exact absurd h (by decide)), if_neg (fun e => by rw [e] at h; exact absurd h (by decide)), if_neg (fun e => by rw [e] at h; exact absurd h (by decide)), if_neg (fun e => by rw [e] at h; exact absurd h (by decide))]
theorem ltr_06 {c : Int32} (h : ¬ ltr c = -1) : ltr c = 0 ∨ ltr c = 1 ∨ ltr c = 2 ∨ ltr c = 3 ∨ ltr c = 4 ∨ ltr c = 5 := by
  unfold ltr at h ⊢
  by_cases h1 : c = 116
  · rw [if_pos h1]; exact Or.inl rfl
  rw [if_neg h1] at h ⊢
  by_cases h2 : c = 104
  · rw [if_pos h2]; exact Or.inr (Or.inl rfl)
  rw [if_neg h2] at h ⊢
  by_cases h3 : c = 109
  · rw [if_pos h3]; exact Or.inr (Or.inr (Or.inl rfl))
  rw [if_neg h3] at h ⊢
  by_cases h4 : c = 111
  · rw [if_pos h4]; exact Or.inr (Or.inr (Or.inr (Or.inl rfl)))
  rw [if_neg h4] at h ⊢
  by_cases h5 : c = 100
  · rw [if_pos h5]; exact Or.inr (Or.inr (Or.inr (Or.inr (Or.inl rfl))))
  rw [if_neg h5] at h ⊢
  by_cases h6 : c = 112
  · rw [if_pos h6]; exact Or.inr (Or.inr (Or.inr (Or.inr (Or.inr rfl))))
  rw [if_neg h6] at h
  exact absurd rfl h
theorem tokV_ltr {c : Int32} (h : ¬ ltr c = -1) : tokV 1 (ltr c) (-2 - ltr c) := by
  rcases ltr_06 h with e | e | e | e | e | e <;> rw [e] <;> exact ⟨fun q => absurd q (by decide), fun _ _ => ⟨rfl, by decide⟩, fun _ q => absurd (by decide) q⟩
theorem tokV_num {v : Int32} (h : 0 ≤ v) : tokV 0 v v := ⟨fun _ => ⟨rfl, rfl⟩, fun q => absurd h q, fun q => absurd h q⟩
theorem numL_pos {L : wo_P} {q : Nat} (h : ¬ dgt L q = -1) : 0 ≤ (numL L 3 (q + 1) (dgt L q)).2 := by
  obtain ⟨h0, h9⟩ := dgt09 h
  have he := nI_ofn h0
  have hl : (dgt L q).toNatClampNeg ≤ 9 := by
    rw [he] at h9
    refine (nI_leI ?_ (by decide)).mp (show nI (dgt L q).toNatClampNeg ≤ nI 9 from h9)
    have b := Int32.toInt_lt (dgt L q)
    unfold Int32.toNatClampNeg
    omega
  obtain ⟨m2, h1, h2⟩ := numL_nI (L := L) 3 (q + 1) (dgt L q).toNatClampNeg
  rw [← he] at h2
  rw [h2]
  have : ((dgt L q).toNatClampNeg + 1) * 10 ^ 3 ≤ 10 * 10 ^ 3 := Nat.mul_le_mul_right _ (by omega)
  exact nI_pos' (by omega)
def RMsum (xs : List Int32) (ext : mm_X) (sh : mm_S) (g : mm_G) (r : mm_R) (L : wo_P) (t n k : Nat) : Prop := ∀ (d : mm_D) (p s : Nat) (cs : List Int32), MS d L t k p s cs → wp xs ext n 151 0 [some (.ref 250), none] [] (sh, d, g, r) (mres sh g r L t k s d cs (sumK L k p))
def RMterm (xs : List Int32) (ext : mm_X) (sh : mm_S) (g : mm_G) (r : mm_R) (L : wo_P) (t n k : Nat) : Prop := ∀ (d : mm_D) (p s : Nat) (cs : List Int32), MS d L t k p s cs → wp xs ext n 150 0 [some (.ref 250), none] [] (sh, d, g, r) (mres sh g r L t k s d cs (termS L (sumO L k) p))
def RMatom (xs : List Int32) (ext : mm_X) (sh : mm_S) (g : mm_G) (r : mm_R) (L : wo_P) (t n k : Nat) : Prop := ∀ (d : mm_D) (p s : Nat) (cs : List Int32), MS d L t k p s cs → wp xs ext n 149 0 [some (.ref 250), none] [] (sh, d, g, r) (mres sh g r L t k s d cs (atomS L (sumO L k) p))
theorem r_atom {xs : List Int32} {ext : mm_X} {sh : mm_S} {g : mm_G} {r : mm_R} {L : wo_P} {t : Nat} (hsh : shp sh) (hr : rfx r) {n k : Nat} (hk : k ≤ 6) (hsub : ∀ k2, k = k2 + 1 → RMsum xs ext sh g r L t (n + 2) k2) : RMatom xs ext sh g r L t (n + 3) k := by
  intro d p s cs h
  have hpl := h.2.1.2
  have hwl := wsp_le L hpl
  have hwg := wsp_ge L p
  have hl := h.2.2.2.2.2.2.1
  have hid := wsp_id hpl
  have S1 := MS_at (s2 := s) h hwl (show cs.length + s ≤ wsp L p by omega)
  refine wp_aload_n (j := 0) rfl q149_ok d149_0 ?_
  refine wp_cV q149_ok d149_1 ml_11_132 rfl q141_ok (u := 11) rfl (by first | assumption | exact so0 hsh rfl) rfl (Nat.le_of_ble_eq_true rfl) (Nat.le_of_ble_eq_true rfl) (m_look hsh hr h.1 h.2.1.1 h.2.1.2) (fun v1 μ1 hc => ?_)
  obtain ⟨rfl, rfl⟩ := hc
  refine ⟨mm_le_same rfl, ?_⟩
  refine wp_istore_n (j := 1) (Nat.le_of_ble_eq_true rfl) (rfl : _ = [_, _]) q149_ok d149_4 ?_
  refine wp_iload_n (j := 1) rfl q149_ok d149_5 ?_
  refine wp_cS q149_ok d149_6 ml_11_135 rfl q143_ok rfl rfl rfl (Nat.le_of_ble_eq_true rfl) (Nat.le_of_ble_eq_true rfl) (m_isDigit _) (fun v6 μ6 hc => ?_)
  obtain ⟨rfl, rfl⟩ := hc
  refine ⟨mm_le_same rfl, ?_⟩
  by_cases cD : isD (bAt L (wsp L p))
  · rw [if_pos cD]
    obtain ⟨h91, hltr⟩ := isD_no cD
    have hdg := (dgt_is cD).2
    have hql := dgt_lt hdg
    have hne := numL_le (L := L) 3 (wsp L p + 1) (dgt L (wsp L p)) hql
    have hsp : atomS L (sumO L k) p = thc (if dgt L (numL L 3 (wsp L p + 1) (dgt L (wsp L p))).1 = -1 then .inr ((numL L 3 (wsp L p + 1) (dgt L (wsp L p))).1, []) else .inl (numL L 3 (wsp L p + 1) (dgt L (wsp L p))).1) (numL L 3 (wsp L p + 1) (dgt L (wsp L p))).2 := by
      unfold atomS
      rw [if_neg h91, if_pos hltr]
      unfold numS
      rw [hid, if_neg hdg]
      by_cases q : dgt L (numL L 3 (wsp L p + 1) (dgt L (wsp L p))).1 = -1
      · rw [if_pos q, if_pos q]; rfl
      · rw [if_neg q, if_neg q]; rfl
    rw [hsp]
    have hst : mst L t k (s + 1) (endD (mm_up d 250 3 (nI (wsp L p))) L (numL L 3 (wsp L p + 1) (dgt L (wsp L p))).1) cs (if dgt L (numL L 3 (wsp L p + 1) (dgt L (wsp L p))).1 = -1 then .inr ((numL L 3 (wsp L p + 1) (dgt L (wsp L p))).1, []) else .inl (numL L 3 (wsp L p + 1) (dgt L (wsp L p))).1) := by
      have S2 := MS_at (s2 := s + 1) S1 hne.2 (show cs.length + (s + 1) ≤ (numL L 3 (wsp L p + 1) (dgt L (wsp L p))).1 by omega)
      unfold endD
      by_cases q : dgt L (numL L 3 (wsp L p + 1) (dgt L (wsp L p))).1 = -1
      · rw [if_pos q, if_pos q]
        show MS _ L t k _ (s + 1) (cs ++ [])
        rw [List.append_nil]
        exact S2
      · rw [if_neg q, if_neg q]
        exact WS_bad S2 (by omega)
    have hxe : xf t (mm_up d 250 3 (nI (wsp L p))) (endD (mm_up d 250 3 (nI (wsp L p))) L (numL L 3 (wsp L p + 1) (dgt L (wsp L p))).1) := by
      unfold endD
      split
      · exact xf_3
      · exact xf_trans xf_3 xf_4
    refine wp_if_eq q149_ok d149_9 (t := 24) rfl (fun h9 => ?_) (fun h9 => ?_)
    · exact absurd h9 (by decide)
    · refine wp_aload_n (j := 0) rfl q149_ok d149_12 ?_
      refine wp_iconst (v := 0) (by decide) q149_ok d149_13 ?_
      refine wp_aload_n (j := 0) rfl q149_ok d149_14 ?_
      refine wp_cV q149_ok d149_15 ml_11_139 rfl q148_ok (u := 11) rfl (by first | assumption | exact so0 hsh rfl) rfl (Nat.le_of_ble_eq_true rfl) (Nat.le_of_ble_eq_true rfl) (m_plain hsh hr S1.1 S1.2.2.1 S1.2.1.1 hdg) (fun v15 μ15 hc => ?_)
      obtain ⟨rfl, rfl⟩ := hc
      refine ⟨mm_le_same rfl, ?_⟩
      refine wp_cV q149_ok d149_18 ml_11_142 rfl q144_ok (u := 11) rfl (by first | assumption | exact so0 hsh rfl) rfl (Nat.le_of_ble_eq_true rfl) (Nat.le_of_ble_eq_true rfl) (r_put hsh hr hk hst (tokV_num (numL_pos hdg))) (fun v18 μ18 hc => ?_)
      obtain ⟨rfl, d9, rfl, x9, m9⟩ := hc
      refine ⟨mm_le_same rfl, ?_⟩
      refine wp_goto (t := 89) rfl q149_ok d149_21 ?_
      refine wp_vret q149_ok d149_89 rfl ?_
      exact ⟨rfl, d9, rfl, xf_trans (xf_trans xf_3 hxe) x9, m9⟩
  · rw [if_neg cD]
    refine wp_if_eq q149_ok d149_9 (t := 24) rfl (fun h9 => ?_) (fun h9 => ?_)
    · refine wp_iload_n (j := 1) rfl q149_ok d149_24 ?_
      refine wp_cS q149_ok d149_25 ml_11_146 rfl q145_ok rfl rfl rfl (Nat.le_of_ble_eq_true rfl) (Nat.le_of_ble_eq_true rfl) (m_ltr _) (fun v25 μ25 hc => ?_)
      obtain ⟨rfl, rfl⟩ := hc
      refine ⟨mm_le_same rfl, ?_⟩
      refine wp_iconst (v := -1) (by decide) q149_ok d149_28 ?_
      refine wp_icmp_eq q149_ok d149_29 (t := 54) rfl (fun h29 => ?_) (fun h29 => ?_)
      · refine wp_iload_n (j := 1) rfl q149_ok d149_54 ?_
        refine wp_bipush (v := 91) (by decide) q149_ok d149_55 ?_
        refine wp_icmp_ne q149_ok d149_57 (t := 85) rfl (fun h57 => ?_) (fun h57 => ?_)
        · have hltr : ltr (bAt L (wsp L p)) = -1 := h29
          have h91 : ¬ bAt L (wsp L p) = 91 := h57
          refine wp_aload_n (j := 0) rfl q149_ok d149_85 ?_
          refine wp_cV q149_ok d149_86 ml_11_129 rfl q142_ok (u := 11) rfl (by first | assumption | exact so0 hsh rfl) rfl (Nat.le_of_ble_eq_true rfl) (Nat.le_of_ble_eq_true rfl) (m_bad0 hsh hr S1.2.2.1 S1.2.1.1) (fun v86 μ86 hc => ?_)
          obtain ⟨rfl, rfl⟩ := hc
          refine ⟨mm_le_same rfl, ?_⟩
          refine wp_vret q149_ok d149_89 rfl ?_
          refine ⟨rfl, _, rfl, xf_trans xf_3 xf_4, ?_⟩
          unfold atomS
          rw [if_neg h91, if_pos hltr]
          unfold numS
          rw [hid, if_pos (dgt_not cD)]
          exact WS_bad S1 (by omega)
        · have h57 := Classical.not_not.mp h57
          have h91 : bAt L (wsp L p) = 91 := h57
          have hql := bAt_lt h91 (by decide)
          refine wp_aload_n (j := 0) rfl q149_ok d149_60 ?_
          refine wp_cV q149_ok d149_61 ml_11_150 rfl q146_ok (u := 11) rfl (by first | assumption | exact so0 hsh rfl) rfl (Nat.le_of_ble_eq_true rfl) (Nat.le_of_ble_eq_true rfl) (r_opens hsh hr hk S1 hql) (fun v61 μ61 hc => ?_)
          obtain ⟨rfl, d3, rfl, x3, o0, o1⟩ := hc
          refine ⟨mm_le_same rfl, ?_⟩
          cases k with
          | zero =>
            have W := o0 rfl
            refine wp_aload_n (j := 0) rfl q149_ok d149_64 ?_
            refine wp_getI q149_ok d149_65 fl_11_120 rfl (by first | assumption | exact so0 hsh rfl) (by first | assumption | rfl) ?_
            refine wp_iconst (v := -1) (by decide) q149_ok d149_68 ?_
            refine wp_icmp_ne q149_ok d149_69 (t := 89) rfl (fun h69 => ?_) (fun h69 => ?_)
            · refine wp_vret q149_ok d149_89 rfl ?_
              refine ⟨rfl, d3, rfl, xf_trans xf_3 x3, ?_⟩
              unfold atomS
              rw [if_pos h91]
              exact WS_le W (Nat.le_add_right _ _)
            · have h69 := Classical.not_not.mp h69
              exact absurd h69 (WS_ne W)
          | succ k2 =>
            have S3 := o1 k2 rfl s (by omega)
            refine wp_aload_n (j := 0) rfl q149_ok d149_64 ?_
            refine wp_getI q149_ok d149_65 fl_11_120 rfl (by first | assumption | exact so0 hsh rfl) S3.2.2.1 ?_
            refine wp_iconst (v := -1) (by decide) q149_ok d149_68 ?_
            refine wp_icmp_ne q149_ok d149_69 (t := 89) rfl (fun h69 => ?_) (fun h69 => ?_)
            · exact absurd rfl h69
            · have h69 := Classical.not_not.mp h69
              refine wp_aload_n (j := 0) rfl q149_ok d149_72 ?_
              refine wp_cV q149_ok d149_73 ml_11_153 rfl q151_ok (u := 11) rfl (by first | assumption | exact so0 hsh rfl) rfl (Nat.le_of_ble_eq_true rfl) (Nat.le_of_ble_eq_true rfl) (hsub k2 rfl _ _ _ _ S3) (fun v73 μ73 hc => ?_)
              obtain ⟨rfl, d4, rfl, x4, m4⟩ := hc
              refine ⟨mm_le_same rfl, ?_⟩
              refine wp_aload_n (j := 0) rfl q149_ok d149_76 ?_
              refine wp_bipush (v := 93) (by decide) q149_ok d149_77 ?_
              refine wp_cV q149_ok d149_79 ml_11_156 rfl q147_ok (u := 11) rfl (by first | assumption | exact so0 hsh rfl) rfl (Nat.le_of_ble_eq_true rfl) (Nat.le_of_ble_eq_true rfl) (r_closes hsh hr hk m4 (by decide)) (fun v79 μ79 hc => ?_)
              obtain ⟨rfl, d5, rfl, x5, m5⟩ := hc
              refine ⟨mm_le_same rfl, ?_⟩
              refine wp_goto (t := 89) rfl q149_ok d149_82 ?_
              refine wp_vret q149_ok d149_89 rfl ?_
              refine ⟨rfl, d5, rfl, xf_trans (xf_trans (xf_trans xf_3 x3) x4) x5, ?_⟩
              unfold atomS
              rw [if_pos h91]
              exact m5
      · have hltr : ¬ ltr (bAt L (wsp L p)) = -1 := h29
        have h91 : ¬ bAt L (wsp L p) = 91 := fun e => hltr (by rw [e]; decide)
        have hql := ltr_lt hltr
        have S2 := MS_at (s2 := s + 1) S1 hql (show cs.length + (s + 1) ≤ wsp L p + 1 by omega)
        have hst : mst L t k (s + 1) (mm_up (mm_up d 250 3 (nI (wsp L p))) 250 3 (nI (wsp L p + 1))) cs (.inr (wsp L p + 1, [])) := by
          show MS _ L t k _ (s + 1) (cs ++ [])
          rw [List.append_nil]
          exact S2
        refine wp_aload_n (j := 0) rfl q149_ok d149_32 ?_
        refine wp_dup rfl q149_ok d149_33 ?_
        refine wp_getI q149_ok d149_34 fl_11_113 rfl (by first | assumption | exact so0 hsh rfl) S1.2.1.1 ?_
        refine wp_iconst (v := 1) (by decide) q149_ok d149_37 ?_
        refine wp_iadd (nI_1 _) q149_ok d149_38 ?_
        refine wp_putI q149_ok d149_39 fl_11_113 rfl (by first | assumption | exact so0 hsh rfl) (Or.inl rfl) ?_
        refine wp_aload_n (j := 0) rfl q149_ok d149_42 ?_
        refine wp_iconst (v := 1) (by decide) q149_ok d149_43 ?_
        refine wp_iload_n (j := 1) rfl q149_ok d149_44 ?_
        refine wp_cS q149_ok d149_45 ml_11_146 rfl q145_ok rfl rfl rfl (Nat.le_of_ble_eq_true rfl) (Nat.le_of_ble_eq_true rfl) (m_ltr _) (fun v45 μ45 hc => ?_)
        obtain ⟨rfl, rfl⟩ := hc
        refine ⟨mm_le_same rfl, ?_⟩
        refine wp_cV q149_ok d149_48 ml_11_142 rfl q144_ok (u := 11) rfl (by first | assumption | exact so0 hsh rfl) rfl (Nat.le_of_ble_eq_true rfl) (Nat.le_of_ble_eq_true rfl) (r_put hsh hr hk hst (tokV_ltr hltr)) (fun v48 μ48 hc => ?_)
        obtain ⟨rfl, d9, rfl, x9, m9⟩ := hc
        refine ⟨mm_le_same rfl, ?_⟩
        refine wp_goto (t := 89) rfl q149_ok d149_51 ?_
        refine wp_vret q149_ok d149_89 rfl ?_
        refine ⟨rfl, d9, rfl, xf_trans (xf_trans xf_3 xf_3) x9, ?_⟩
        unfold atomS
        rw [if_neg h91, if_neg hltr]
        exact m9
    · exact absurd rfl h9
theorem r_term_l {xs : List Int32} {ext : mm_X} {sh : mm_S} {g : mm_G} {r : mm_R} {L : wo_P} {t : Nat} (hsh : shp sh) (hr : rfx r) {n k : Nat} (hk : k ≤ 6) (hi : RMatom xs ext sh g r L t n k) (hb : bdS L (atomS L (sumO L k))) (hn : 2 ≤ n) : ∀ (z : Nat) (d : mm_D) (p s : Nat) (cs : List Int32), L.1 + 1 ≤ z + p → MS d L t k (wsp L p) s cs → wp xs ext (n + 1) 150 21 [some (.ref 250), some (.int (bAt L (wsp L p)))] [] (sh, d, g, r) (mres sh g r L t k s d cs (lopS L (atomS L (sumO L k)) 42 47 (-20) (-21) z p)) := by
  obtain ⟨n, rfl⟩ : ∃ n2, n = n2 + 2 := ⟨n - 2, by omega⟩
  intro z
  induction z with
  | zero =>
    intro d p s cs hz h
    have := h.2.1.2
    have := wsp_ge L p
    omega
  | succ z ih =>
    intro d p s cs hz h
    have hpl := h.2.1.2
    have hwg := wsp_ge L p
    have hl := h.2.2.2.2.2.2.1
    refine wp_iload_n (j := 1) rfl q150_ok d150_21 ?_
    refine wp_bipush (v := 42) (by decide) q150_ok d150_22 ?_
    refine wp_icmp_eq q150_ok d150_24 (t := 33) rfl (fun h24 => ?_) (fun h24 => ?_)
    · have hc : bAt L (wsp L p) = 42 := h24
      have hql := bAt_lt hc (by decide)
      have S2 := MS_at (s2 := s + 1) h hql (show cs.length + (s + 1) ≤ wsp L p + 1 by omega)
      have er : lopS L (atomS L (sumO L k)) 42 47 (-20) (-21) (z + 1) p = thn (thc ((atomS L (sumO L k)) (wsp L p + 1)) (-20)) (lopS L (atomS L (sumO L k)) 42 47 (-20) (-21) z) := by rw [lopS, if_pos (show bAt L (wsp L p) = 42 from h24)]
      refine wp_aload_n (j := 0) rfl q150_ok d150_33 ?_
      refine wp_dup rfl q150_ok d150_34 ?_
      refine wp_getI q150_ok d150_35 fl_11_113 rfl (by first | assumption | exact so0 hsh rfl) h.2.1.1 ?_
      refine wp_iconst (v := 1) (by decide) q150_ok d150_38 ?_
      refine wp_iadd (nI_1 _) q150_ok d150_39 ?_
      refine wp_putI q150_ok d150_40 fl_11_113 rfl (by first | assumption | exact so0 hsh rfl) (Or.inl rfl) ?_
      refine wp_aload_n (j := 0) rfl q150_ok d150_43 ?_
      refine wp_cV q150_ok d150_44 ml_11_160 rfl q149_ok (u := 11) rfl (by first | assumption | exact so0 hsh rfl) rfl (Nat.le_of_ble_eq_true rfl) (Nat.le_of_ble_eq_true rfl) (hi _ _ _ _ S2) (fun v44 μ44 hc => ?_)
      obtain ⟨rfl, d3, rfl, x3, m3⟩ := hc
      refine ⟨mm_le_same rfl, ?_⟩
      refine wp_aload_n (j := 0) rfl q150_ok d150_47 ?_
      refine wp_iload_n (j := 1) rfl q150_ok d150_48 ?_
      refine wp_bipush (v := 42) (by decide) q150_ok d150_49 ?_
      refine wp_icmp_ne q150_ok d150_51 (t := 58) rfl (fun h51 => ?_) (fun h51 => ?_)
      · exact absurd hc h51
      · have h51 := Classical.not_not.mp h51
        refine wp_iconst (v := 4) (by decide) q150_ok d150_54 ?_
        refine wp_goto (t := 59) rfl q150_ok d150_55 ?_
        refine wp_iconst (v := 0) (by decide) q150_ok d150_59 ?_
        refine wp_cV q150_ok d150_60 ml_11_142 rfl q144_ok (u := 11) rfl (by first | assumption | exact so0 hsh rfl) rfl (Nat.le_of_ble_eq_true rfl) (Nat.le_of_ble_eq_true rfl) (r_put hsh hr hk m3 (tokV_op (x := -20) (by decide) (by decide) (by decide))) (fun v60 μ60 hc => ?_)
        obtain ⟨rfl, d9, rfl, x9, m9⟩ := hc
        refine ⟨mm_le_same rfl, ?_⟩
        cases e3 : (atomS L (sumO L k)) (wsp L p + 1) with
        | inl w =>
          rw [e3] at m9
          have m9 : WS d9 L t w s (L.1 + k) := m9
          refine wp_aload_n (j := 0) rfl q150_ok d150_63 ?_
          refine wp_getI q150_ok d150_64 fl_11_120 rfl (by first | assumption | exact so0 hsh rfl) (by first | assumption | rfl) ?_
          refine wp_iconst (v := -1) (by decide) q150_ok d150_67 ?_
          refine wp_icmp_ne q150_ok d150_68 (t := 78) rfl (fun h68 => ?_) (fun h68 => ?_)
          · refine wp_iconst (v := -1) (by decide) q150_ok d150_78 ?_
            refine wp_istore_n (j := 1) (Nat.le_of_ble_eq_true rfl) (rfl : _ = [_, _]) q150_ok d150_79 ?_
            refine wp_goto (t := 21) rfl q150_ok d150_80 ?_
            refine wp_iload_n (j := 1) rfl q150_ok d150_21 ?_
            refine wp_bipush (v := 42) (by decide) q150_ok d150_22 ?_
            refine wp_icmp_eq q150_ok d150_24 (t := 33) rfl (fun h24 => ?_) (fun h24 => ?_)
            · exact absurd h24 (by decide)
            · refine wp_iload_n (j := 1) rfl q150_ok d150_27 ?_
              refine wp_bipush (v := 47) (by decide) q150_ok d150_28 ?_
              refine wp_icmp_ne q150_ok d150_30 (t := 83) rfl (fun h30 => ?_) (fun h30 => ?_)
              · refine wp_vret q150_ok d150_83 rfl ?_
                exact mr_fail (xf_trans (xf_trans xf_3 x3) x9) (thc_inl (c := -20) e3) (er.trans (thn_inl (thc_inl e3))) (by rw [thc_inl (c := -20) e3]; exact m9)
              · have h30 := Classical.not_not.mp h30
                exact absurd h30 (by decide)
          · have h68 := Classical.not_not.mp h68
            exact absurd h68 (WS_ne m9)
        | inr x =>
          have hbx := hb (wsp L p + 1) hql
          rw [e3] at m9 hbx
          have hbx : wsp L p + 1 + 1 ≤ x.1 ∧ x.1 ≤ L.1 := hbx
          have m9 : MS d9 L t k x.1 s (cs ++ (x.2 ++ [-20])) := m9
          refine wp_aload_n (j := 0) rfl q150_ok d150_63 ?_
          refine wp_getI q150_ok d150_64 fl_11_120 rfl (by first | assumption | exact so0 hsh rfl) m9.2.2.1 ?_
          refine wp_iconst (v := -1) (by decide) q150_ok d150_67 ?_
          refine wp_icmp_ne q150_ok d150_68 (t := 78) rfl (fun h68 => ?_) (fun h68 => ?_)
          · exact absurd rfl h68
          · have h68 := Classical.not_not.mp h68
            refine wp_aload_n (j := 0) rfl q150_ok d150_71 ?_
            refine wp_cV q150_ok d150_72 ml_11_132 rfl q141_ok (u := 11) rfl (by first | assumption | exact so0 hsh rfl) rfl (Nat.le_of_ble_eq_true rfl) (Nat.le_of_ble_eq_true rfl) (m_look hsh hr m9.1 m9.2.1.1 m9.2.1.2) (fun v72 μ72 hc => ?_)
            obtain ⟨rfl, rfl⟩ := hc
            refine ⟨mm_le_same rfl, ?_⟩
            refine wp_goto (t := 79) rfl q150_ok d150_75 ?_
            refine wp_istore_n (j := 1) (Nat.le_of_ble_eq_true rfl) (rfl : _ = [_, _]) q150_ok d150_79 ?_
            refine wp_goto (t := 21) rfl q150_ok d150_80 ?_
            have S4 := MS_at (s2 := s) m9 (wsp_le L hbx.2) (by have := wsp_ge L x.1; have := m9.2.2.2.2.2.2.1; omega)
            exact wp_post (ih _ x.1 s _ (by omega) S4) (fun v μ hc => mr_thn (xf_trans (xf_trans (xf_trans xf_3 x3) x9) xf_3) (thc_inr e3) er hc)
    · refine wp_iload_n (j := 1) rfl q150_ok d150_27 ?_
      refine wp_bipush (v := 47) (by decide) q150_ok d150_28 ?_
      refine wp_icmp_ne q150_ok d150_30 (t := 83) rfl (fun h30 => ?_) (fun h30 => ?_)
      · refine wp_vret q150_ok d150_83 rfl ?_
        refine ⟨rfl, d, rfl, xf_refl t d, ?_⟩
        rw [lopS, if_neg (show ¬ bAt L (wsp L p) = 42 from h24), if_neg (show ¬ bAt L (wsp L p) = 47 from h30)]
        show MS d L t k _ s (cs ++ [])
        rw [List.append_nil]
        exact h
      · have h30 := Classical.not_not.mp h30
        have hc : bAt L (wsp L p) = 47 := h30
        have hql := bAt_lt hc (by decide)
        have S2 := MS_at (s2 := s + 1) h hql (show cs.length + (s + 1) ≤ wsp L p + 1 by omega)
        have er : lopS L (atomS L (sumO L k)) 42 47 (-20) (-21) (z + 1) p = thn (thc ((atomS L (sumO L k)) (wsp L p + 1)) (-21)) (lopS L (atomS L (sumO L k)) 42 47 (-20) (-21) z) := by rw [lopS, if_neg (show ¬ bAt L (wsp L p) = 42 from h24), if_pos (show bAt L (wsp L p) = 47 from h30)]
        refine wp_aload_n (j := 0) rfl q150_ok d150_33 ?_
        refine wp_dup rfl q150_ok d150_34 ?_
        refine wp_getI q150_ok d150_35 fl_11_113 rfl (by first | assumption | exact so0 hsh rfl) h.2.1.1 ?_
        refine wp_iconst (v := 1) (by decide) q150_ok d150_38 ?_
        refine wp_iadd (nI_1 _) q150_ok d150_39 ?_
        refine wp_putI q150_ok d150_40 fl_11_113 rfl (by first | assumption | exact so0 hsh rfl) (Or.inl rfl) ?_
        refine wp_aload_n (j := 0) rfl q150_ok d150_43 ?_
        refine wp_cV q150_ok d150_44 ml_11_160 rfl q149_ok (u := 11) rfl (by first | assumption | exact so0 hsh rfl) rfl (Nat.le_of_ble_eq_true rfl) (Nat.le_of_ble_eq_true rfl) (hi _ _ _ _ S2) (fun v44 μ44 hc => ?_)
        obtain ⟨rfl, d3, rfl, x3, m3⟩ := hc
        refine ⟨mm_le_same rfl, ?_⟩
        refine wp_aload_n (j := 0) rfl q150_ok d150_47 ?_
        refine wp_iload_n (j := 1) rfl q150_ok d150_48 ?_
        refine wp_bipush (v := 42) (by decide) q150_ok d150_49 ?_
        refine wp_icmp_ne q150_ok d150_51 (t := 58) rfl (fun h51 => ?_) (fun h51 => ?_)
        · refine wp_iconst (v := 5) (by decide) q150_ok d150_58 ?_
          refine wp_iconst (v := 0) (by decide) q150_ok d150_59 ?_
          refine wp_cV q150_ok d150_60 ml_11_142 rfl q144_ok (u := 11) rfl (by first | assumption | exact so0 hsh rfl) rfl (Nat.le_of_ble_eq_true rfl) (Nat.le_of_ble_eq_true rfl) (r_put hsh hr hk m3 (tokV_op (x := -21) (by decide) (by decide) (by decide))) (fun v60 μ60 hc => ?_)
          obtain ⟨rfl, d9, rfl, x9, m9⟩ := hc
          refine ⟨mm_le_same rfl, ?_⟩
          cases e3 : (atomS L (sumO L k)) (wsp L p + 1) with
          | inl w =>
            rw [e3] at m9
            have m9 : WS d9 L t w s (L.1 + k) := m9
            refine wp_aload_n (j := 0) rfl q150_ok d150_63 ?_
            refine wp_getI q150_ok d150_64 fl_11_120 rfl (by first | assumption | exact so0 hsh rfl) (by first | assumption | rfl) ?_
            refine wp_iconst (v := -1) (by decide) q150_ok d150_67 ?_
            refine wp_icmp_ne q150_ok d150_68 (t := 78) rfl (fun h68 => ?_) (fun h68 => ?_)
            · refine wp_iconst (v := -1) (by decide) q150_ok d150_78 ?_
              refine wp_istore_n (j := 1) (Nat.le_of_ble_eq_true rfl) (rfl : _ = [_, _]) q150_ok d150_79 ?_
              refine wp_goto (t := 21) rfl q150_ok d150_80 ?_
              refine wp_iload_n (j := 1) rfl q150_ok d150_21 ?_
              refine wp_bipush (v := 42) (by decide) q150_ok d150_22 ?_
              refine wp_icmp_eq q150_ok d150_24 (t := 33) rfl (fun h24 => ?_) (fun h24 => ?_)
              · exact absurd h24 (by decide)
              · refine wp_iload_n (j := 1) rfl q150_ok d150_27 ?_
                refine wp_bipush (v := 47) (by decide) q150_ok d150_28 ?_
                refine wp_icmp_ne q150_ok d150_30 (t := 83) rfl (fun h30 => ?_) (fun h30 => ?_)
                · refine wp_vret q150_ok d150_83 rfl ?_
                  exact mr_fail (xf_trans (xf_trans xf_3 x3) x9) (thc_inl (c := -21) e3) (er.trans (thn_inl (thc_inl e3))) (by rw [thc_inl (c := -21) e3]; exact m9)
                · have h30 := Classical.not_not.mp h30
                  exact absurd h30 (by decide)
            · have h68 := Classical.not_not.mp h68
              exact absurd h68 (WS_ne m9)
          | inr x =>
            have hbx := hb (wsp L p + 1) hql
            rw [e3] at m9 hbx
            have hbx : wsp L p + 1 + 1 ≤ x.1 ∧ x.1 ≤ L.1 := hbx
            have m9 : MS d9 L t k x.1 s (cs ++ (x.2 ++ [-21])) := m9
            refine wp_aload_n (j := 0) rfl q150_ok d150_63 ?_
            refine wp_getI q150_ok d150_64 fl_11_120 rfl (by first | assumption | exact so0 hsh rfl) m9.2.2.1 ?_
            refine wp_iconst (v := -1) (by decide) q150_ok d150_67 ?_
            refine wp_icmp_ne q150_ok d150_68 (t := 78) rfl (fun h68 => ?_) (fun h68 => ?_)
            · exact absurd rfl h68
            · have h68 := Classical.not_not.mp h68
              refine wp_aload_n (j := 0) rfl q150_ok d150_71 ?_
              refine wp_cV q150_ok d150_72 ml_11_132 rfl q141_ok (u := 11) rfl (by first | assumption | exact so0 hsh rfl) rfl (Nat.le_of_ble_eq_true rfl) (Nat.le_of_ble_eq_true rfl) (m_look hsh hr m9.1 m9.2.1.1 m9.2.1.2) (fun v72 μ72 hc => ?_)
              obtain ⟨rfl, rfl⟩ := hc
              refine ⟨mm_le_same rfl, ?_⟩
              refine wp_goto (t := 79) rfl q150_ok d150_75 ?_
              refine wp_istore_n (j := 1) (Nat.le_of_ble_eq_true rfl) (rfl : _ = [_, _]) q150_ok d150_79 ?_
              refine wp_goto (t := 21) rfl q150_ok d150_80 ?_
              have S4 := MS_at (s2 := s) m9 (wsp_le L hbx.2) (by have := wsp_ge L x.1; have := m9.2.2.2.2.2.2.1; omega)
              exact wp_post (ih _ x.1 s _ (by omega) S4) (fun v μ hc => mr_thn (xf_trans (xf_trans (xf_trans xf_3 x3) x9) xf_3) (thc_inr e3) er hc)
        · have h51 := Classical.not_not.mp h51
          exact absurd h51 h24
theorem r_term {xs : List Int32} {ext : mm_X} {sh : mm_S} {g : mm_G} {r : mm_R} {L : wo_P} {t : Nat} (hsh : shp sh) (hr : rfx r) {n k : Nat} (hk : k ≤ 6) (hi : RMatom xs ext sh g r L t (n + 2) k) (hb : bdS L (atomS L (sumO L k))) : RMterm xs ext sh g r L t (n + 3) k := by
  intro d p s cs h
  have hpl := h.2.1.2
  have h160 := h.1.2.1
  refine wp_aload_n (j := 0) rfl q150_ok d150_0 ?_
  refine wp_cV q150_ok d150_1 ml_11_160 rfl q149_ok (u := 11) rfl (by first | assumption | exact so0 hsh rfl) rfl (Nat.le_of_ble_eq_true rfl) (Nat.le_of_ble_eq_true rfl) (hi _ _ _ _ h) (fun v1 μ1 hc => ?_)
  obtain ⟨rfl, d3, rfl, x3, m3⟩ := hc
  refine ⟨mm_le_same rfl, ?_⟩
  cases e3 : (atomS L (sumO L k)) p with
  | inl w =>
    rw [e3] at m3
    have m3 : WS d3 L t w s (L.1 + k) := m3
    refine wp_aload_n (j := 0) rfl q150_ok d150_4 ?_
    refine wp_getI q150_ok d150_5 fl_11_120 rfl (by first | assumption | exact so0 hsh rfl) (by first | assumption | rfl) ?_
    refine wp_iconst (v := -1) (by decide) q150_ok d150_8 ?_
    refine wp_icmp_ne q150_ok d150_9 (t := 19) rfl (fun h9 => ?_) (fun h9 => ?_)
    · refine wp_iconst (v := -1) (by decide) q150_ok d150_19 ?_
      refine wp_istore_n (j := 1) (Nat.le_of_ble_eq_true rfl) (rfl : _ = [_, _]) q150_ok d150_20 ?_
      refine wp_iload_n (j := 1) rfl q150_ok d150_21 ?_
      refine wp_bipush (v := 42) (by decide) q150_ok d150_22 ?_
      refine wp_icmp_eq q150_ok d150_24 (t := 33) rfl (fun h24 => ?_) (fun h24 => ?_)
      · exact absurd h24 (by decide)
      · refine wp_iload_n (j := 1) rfl q150_ok d150_27 ?_
        refine wp_bipush (v := 47) (by decide) q150_ok d150_28 ?_
        refine wp_icmp_ne q150_ok d150_30 (t := 83) rfl (fun h30 => ?_) (fun h30 => ?_)
        · refine wp_vret q150_ok d150_83 rfl ?_
          exact mr_fail x3 e3 (thn_inl e3) (by rw [e3]; exact m3)
        · have h30 := Classical.not_not.mp h30
          exact absurd h30 (by decide)
    · have h9 := Classical.not_not.mp h9
      exact absurd h9 (WS_ne m3)
  | inr x =>
    have hbx := hb p hpl
    rw [e3] at m3 hbx
    have hbx : p + 1 ≤ x.1 ∧ x.1 ≤ L.1 := hbx
    have m3 : MS d3 L t k x.1 s (cs ++ x.2) := m3
    refine wp_aload_n (j := 0) rfl q150_ok d150_4 ?_
    refine wp_getI q150_ok d150_5 fl_11_120 rfl (by first | assumption | exact so0 hsh rfl) m3.2.2.1 ?_
    refine wp_iconst (v := -1) (by decide) q150_ok d150_8 ?_
    refine wp_icmp_ne q150_ok d150_9 (t := 19) rfl (fun h9 => ?_) (fun h9 => ?_)
    · exact absurd rfl h9
    · have h9 := Classical.not_not.mp h9
      refine wp_aload_n (j := 0) rfl q150_ok d150_12 ?_
      refine wp_cV q150_ok d150_13 ml_11_132 rfl q141_ok (u := 11) rfl (by first | assumption | exact so0 hsh rfl) rfl (Nat.le_of_ble_eq_true rfl) (Nat.le_of_ble_eq_true rfl) (m_look hsh hr m3.1 m3.2.1.1 m3.2.1.2) (fun v13 μ13 hc => ?_)
      obtain ⟨rfl, rfl⟩ := hc
      refine ⟨mm_le_same rfl, ?_⟩
      refine wp_goto (t := 20) rfl q150_ok d150_16 ?_
      refine wp_istore_n (j := 1) (Nat.le_of_ble_eq_true rfl) (rfl : _ = [_, _]) q150_ok d150_20 ?_
      have S4 := MS_at (s2 := s) m3 (wsp_le L hbx.2) (by have := wsp_ge L x.1; have := m3.2.2.2.2.2.2.1; omega)
      exact wp_post (r_term_l hsh hr hk hi hb (by omega) 160 _ x.1 s _ (by omega) S4) (fun v μ hc => mr_thn (xf_trans x3 xf_3) e3 rfl hc)
theorem r_sum_l {xs : List Int32} {ext : mm_X} {sh : mm_S} {g : mm_G} {r : mm_R} {L : wo_P} {t : Nat} (hsh : shp sh) (hr : rfx r) {n k : Nat} (hk : k ≤ 6) (hi : RMterm xs ext sh g r L t n k) (hb : bdS L (termS L (sumO L k))) (hn : 2 ≤ n) : ∀ (z : Nat) (d : mm_D) (p s : Nat) (cs : List Int32), L.1 + 1 ≤ z + p → MS d L t k (wsp L p) s cs → wp xs ext (n + 1) 151 21 [some (.ref 250), some (.int (bAt L (wsp L p)))] [] (sh, d, g, r) (mres sh g r L t k s d cs (lopS L (termS L (sumO L k)) 43 45 (-18) (-19) z p)) := by
  obtain ⟨n, rfl⟩ : ∃ n2, n = n2 + 2 := ⟨n - 2, by omega⟩
  intro z
  induction z with
  | zero =>
    intro d p s cs hz h
    have := h.2.1.2
    have := wsp_ge L p
    omega
  | succ z ih =>
    intro d p s cs hz h
    have hpl := h.2.1.2
    have hwg := wsp_ge L p
    have hl := h.2.2.2.2.2.2.1
    refine wp_iload_n (j := 1) rfl q151_ok d151_21 ?_
    refine wp_bipush (v := 43) (by decide) q151_ok d151_22 ?_
    refine wp_icmp_eq q151_ok d151_24 (t := 33) rfl (fun h24 => ?_) (fun h24 => ?_)
    · have hc : bAt L (wsp L p) = 43 := h24
      have hql := bAt_lt hc (by decide)
      have S2 := MS_at (s2 := s + 1) h hql (show cs.length + (s + 1) ≤ wsp L p + 1 by omega)
      have er : lopS L (termS L (sumO L k)) 43 45 (-18) (-19) (z + 1) p = thn (thc ((termS L (sumO L k)) (wsp L p + 1)) (-18)) (lopS L (termS L (sumO L k)) 43 45 (-18) (-19) z) := by rw [lopS, if_pos (show bAt L (wsp L p) = 43 from h24)]
      refine wp_aload_n (j := 0) rfl q151_ok d151_33 ?_
      refine wp_dup rfl q151_ok d151_34 ?_
      refine wp_getI q151_ok d151_35 fl_11_113 rfl (by first | assumption | exact so0 hsh rfl) h.2.1.1 ?_
      refine wp_iconst (v := 1) (by decide) q151_ok d151_38 ?_
      refine wp_iadd (nI_1 _) q151_ok d151_39 ?_
      refine wp_putI q151_ok d151_40 fl_11_113 rfl (by first | assumption | exact so0 hsh rfl) (Or.inl rfl) ?_
      refine wp_aload_n (j := 0) rfl q151_ok d151_43 ?_
      refine wp_cV q151_ok d151_44 ml_11_163 rfl q150_ok (u := 11) rfl (by first | assumption | exact so0 hsh rfl) rfl (Nat.le_of_ble_eq_true rfl) (Nat.le_of_ble_eq_true rfl) (hi _ _ _ _ S2) (fun v44 μ44 hc => ?_)
      obtain ⟨rfl, d3, rfl, x3, m3⟩ := hc
      refine ⟨mm_le_same rfl, ?_⟩
      refine wp_aload_n (j := 0) rfl q151_ok d151_47 ?_
      refine wp_iload_n (j := 1) rfl q151_ok d151_48 ?_
      refine wp_bipush (v := 43) (by decide) q151_ok d151_49 ?_
      refine wp_icmp_ne q151_ok d151_51 (t := 58) rfl (fun h51 => ?_) (fun h51 => ?_)
      · exact absurd hc h51
      · have h51 := Classical.not_not.mp h51
        refine wp_iconst (v := 2) (by decide) q151_ok d151_54 ?_
        refine wp_goto (t := 59) rfl q151_ok d151_55 ?_
        refine wp_iconst (v := 0) (by decide) q151_ok d151_59 ?_
        refine wp_cV q151_ok d151_60 ml_11_142 rfl q144_ok (u := 11) rfl (by first | assumption | exact so0 hsh rfl) rfl (Nat.le_of_ble_eq_true rfl) (Nat.le_of_ble_eq_true rfl) (r_put hsh hr hk m3 (tokV_op (x := -18) (by decide) (by decide) (by decide))) (fun v60 μ60 hc => ?_)
        obtain ⟨rfl, d9, rfl, x9, m9⟩ := hc
        refine ⟨mm_le_same rfl, ?_⟩
        cases e3 : (termS L (sumO L k)) (wsp L p + 1) with
        | inl w =>
          rw [e3] at m9
          have m9 : WS d9 L t w s (L.1 + k) := m9
          refine wp_aload_n (j := 0) rfl q151_ok d151_63 ?_
          refine wp_getI q151_ok d151_64 fl_11_120 rfl (by first | assumption | exact so0 hsh rfl) (by first | assumption | rfl) ?_
          refine wp_iconst (v := -1) (by decide) q151_ok d151_67 ?_
          refine wp_icmp_ne q151_ok d151_68 (t := 78) rfl (fun h68 => ?_) (fun h68 => ?_)
          · refine wp_iconst (v := -1) (by decide) q151_ok d151_78 ?_
            refine wp_istore_n (j := 1) (Nat.le_of_ble_eq_true rfl) (rfl : _ = [_, _]) q151_ok d151_79 ?_
            refine wp_goto (t := 21) rfl q151_ok d151_80 ?_
            refine wp_iload_n (j := 1) rfl q151_ok d151_21 ?_
            refine wp_bipush (v := 43) (by decide) q151_ok d151_22 ?_
            refine wp_icmp_eq q151_ok d151_24 (t := 33) rfl (fun h24 => ?_) (fun h24 => ?_)
            · exact absurd h24 (by decide)
            · refine wp_iload_n (j := 1) rfl q151_ok d151_27 ?_
              refine wp_bipush (v := 45) (by decide) q151_ok d151_28 ?_
              refine wp_icmp_ne q151_ok d151_30 (t := 83) rfl (fun h30 => ?_) (fun h30 => ?_)
              · refine wp_vret q151_ok d151_83 rfl ?_
                exact mr_fail (xf_trans (xf_trans xf_3 x3) x9) (thc_inl (c := -18) e3) (er.trans (thn_inl (thc_inl e3))) (by rw [thc_inl (c := -18) e3]; exact m9)
              · have h30 := Classical.not_not.mp h30
                exact absurd h30 (by decide)
          · have h68 := Classical.not_not.mp h68
            exact absurd h68 (WS_ne m9)
        | inr x =>
          have hbx := hb (wsp L p + 1) hql
          rw [e3] at m9 hbx
          have hbx : wsp L p + 1 + 1 ≤ x.1 ∧ x.1 ≤ L.1 := hbx
          have m9 : MS d9 L t k x.1 s (cs ++ (x.2 ++ [-18])) := m9
          refine wp_aload_n (j := 0) rfl q151_ok d151_63 ?_
          refine wp_getI q151_ok d151_64 fl_11_120 rfl (by first | assumption | exact so0 hsh rfl) m9.2.2.1 ?_
          refine wp_iconst (v := -1) (by decide) q151_ok d151_67 ?_
          refine wp_icmp_ne q151_ok d151_68 (t := 78) rfl (fun h68 => ?_) (fun h68 => ?_)
          · exact absurd rfl h68
          · have h68 := Classical.not_not.mp h68
            refine wp_aload_n (j := 0) rfl q151_ok d151_71 ?_
            refine wp_cV q151_ok d151_72 ml_11_132 rfl q141_ok (u := 11) rfl (by first | assumption | exact so0 hsh rfl) rfl (Nat.le_of_ble_eq_true rfl) (Nat.le_of_ble_eq_true rfl) (m_look hsh hr m9.1 m9.2.1.1 m9.2.1.2) (fun v72 μ72 hc => ?_)
            obtain ⟨rfl, rfl⟩ := hc
            refine ⟨mm_le_same rfl, ?_⟩
            refine wp_goto (t := 79) rfl q151_ok d151_75 ?_
            refine wp_istore_n (j := 1) (Nat.le_of_ble_eq_true rfl) (rfl : _ = [_, _]) q151_ok d151_79 ?_
            refine wp_goto (t := 21) rfl q151_ok d151_80 ?_
            have S4 := MS_at (s2 := s) m9 (wsp_le L hbx.2) (by have := wsp_ge L x.1; have := m9.2.2.2.2.2.2.1; omega)
            exact wp_post (ih _ x.1 s _ (by omega) S4) (fun v μ hc => mr_thn (xf_trans (xf_trans (xf_trans xf_3 x3) x9) xf_3) (thc_inr e3) er hc)
    · refine wp_iload_n (j := 1) rfl q151_ok d151_27 ?_
      refine wp_bipush (v := 45) (by decide) q151_ok d151_28 ?_
      refine wp_icmp_ne q151_ok d151_30 (t := 83) rfl (fun h30 => ?_) (fun h30 => ?_)
      · refine wp_vret q151_ok d151_83 rfl ?_
        refine ⟨rfl, d, rfl, xf_refl t d, ?_⟩
        rw [lopS, if_neg (show ¬ bAt L (wsp L p) = 43 from h24), if_neg (show ¬ bAt L (wsp L p) = 45 from h30)]
        show MS d L t k _ s (cs ++ [])
        rw [List.append_nil]
        exact h
      · have h30 := Classical.not_not.mp h30
        have hc : bAt L (wsp L p) = 45 := h30
        have hql := bAt_lt hc (by decide)
        have S2 := MS_at (s2 := s + 1) h hql (show cs.length + (s + 1) ≤ wsp L p + 1 by omega)
        have er : lopS L (termS L (sumO L k)) 43 45 (-18) (-19) (z + 1) p = thn (thc ((termS L (sumO L k)) (wsp L p + 1)) (-19)) (lopS L (termS L (sumO L k)) 43 45 (-18) (-19) z) := by rw [lopS, if_neg (show ¬ bAt L (wsp L p) = 43 from h24), if_pos (show bAt L (wsp L p) = 45 from h30)]
        refine wp_aload_n (j := 0) rfl q151_ok d151_33 ?_
        refine wp_dup rfl q151_ok d151_34 ?_
        refine wp_getI q151_ok d151_35 fl_11_113 rfl (by first | assumption | exact so0 hsh rfl) h.2.1.1 ?_
        refine wp_iconst (v := 1) (by decide) q151_ok d151_38 ?_
        refine wp_iadd (nI_1 _) q151_ok d151_39 ?_
        refine wp_putI q151_ok d151_40 fl_11_113 rfl (by first | assumption | exact so0 hsh rfl) (Or.inl rfl) ?_
        refine wp_aload_n (j := 0) rfl q151_ok d151_43 ?_
        refine wp_cV q151_ok d151_44 ml_11_163 rfl q150_ok (u := 11) rfl (by first | assumption | exact so0 hsh rfl) rfl (Nat.le_of_ble_eq_true rfl) (Nat.le_of_ble_eq_true rfl) (hi _ _ _ _ S2) (fun v44 μ44 hc => ?_)
        obtain ⟨rfl, d3, rfl, x3, m3⟩ := hc
        refine ⟨mm_le_same rfl, ?_⟩
        refine wp_aload_n (j := 0) rfl q151_ok d151_47 ?_
        refine wp_iload_n (j := 1) rfl q151_ok d151_48 ?_
        refine wp_bipush (v := 43) (by decide) q151_ok d151_49 ?_
        refine wp_icmp_ne q151_ok d151_51 (t := 58) rfl (fun h51 => ?_) (fun h51 => ?_)
        · refine wp_iconst (v := 3) (by decide) q151_ok d151_58 ?_
          refine wp_iconst (v := 0) (by decide) q151_ok d151_59 ?_
          refine wp_cV q151_ok d151_60 ml_11_142 rfl q144_ok (u := 11) rfl (by first | assumption | exact so0 hsh rfl) rfl (Nat.le_of_ble_eq_true rfl) (Nat.le_of_ble_eq_true rfl) (r_put hsh hr hk m3 (tokV_op (x := -19) (by decide) (by decide) (by decide))) (fun v60 μ60 hc => ?_)
          obtain ⟨rfl, d9, rfl, x9, m9⟩ := hc
          refine ⟨mm_le_same rfl, ?_⟩
          cases e3 : (termS L (sumO L k)) (wsp L p + 1) with
          | inl w =>
            rw [e3] at m9
            have m9 : WS d9 L t w s (L.1 + k) := m9
            refine wp_aload_n (j := 0) rfl q151_ok d151_63 ?_
            refine wp_getI q151_ok d151_64 fl_11_120 rfl (by first | assumption | exact so0 hsh rfl) (by first | assumption | rfl) ?_
            refine wp_iconst (v := -1) (by decide) q151_ok d151_67 ?_
            refine wp_icmp_ne q151_ok d151_68 (t := 78) rfl (fun h68 => ?_) (fun h68 => ?_)
            · refine wp_iconst (v := -1) (by decide) q151_ok d151_78 ?_
              refine wp_istore_n (j := 1) (Nat.le_of_ble_eq_true rfl) (rfl : _ = [_, _]) q151_ok d151_79 ?_
              refine wp_goto (t := 21) rfl q151_ok d151_80 ?_
              refine wp_iload_n (j := 1) rfl q151_ok d151_21 ?_
              refine wp_bipush (v := 43) (by decide) q151_ok d151_22 ?_
              refine wp_icmp_eq q151_ok d151_24 (t := 33) rfl (fun h24 => ?_) (fun h24 => ?_)
              · exact absurd h24 (by decide)
              · refine wp_iload_n (j := 1) rfl q151_ok d151_27 ?_
                refine wp_bipush (v := 45) (by decide) q151_ok d151_28 ?_
                refine wp_icmp_ne q151_ok d151_30 (t := 83) rfl (fun h30 => ?_) (fun h30 => ?_)
                · refine wp_vret q151_ok d151_83 rfl ?_
                  exact mr_fail (xf_trans (xf_trans xf_3 x3) x9) (thc_inl (c := -19) e3) (er.trans (thn_inl (thc_inl e3))) (by rw [thc_inl (c := -19) e3]; exact m9)
                · have h30 := Classical.not_not.mp h30
                  exact absurd h30 (by decide)
            · have h68 := Classical.not_not.mp h68
              exact absurd h68 (WS_ne m9)
          | inr x =>
            have hbx := hb (wsp L p + 1) hql
            rw [e3] at m9 hbx
            have hbx : wsp L p + 1 + 1 ≤ x.1 ∧ x.1 ≤ L.1 := hbx
            have m9 : MS d9 L t k x.1 s (cs ++ (x.2 ++ [-19])) := m9
            refine wp_aload_n (j := 0) rfl q151_ok d151_63 ?_
            refine wp_getI q151_ok d151_64 fl_11_120 rfl (by first | assumption | exact so0 hsh rfl) m9.2.2.1 ?_
            refine wp_iconst (v := -1) (by decide) q151_ok d151_67 ?_
            refine wp_icmp_ne q151_ok d151_68 (t := 78) rfl (fun h68 => ?_) (fun h68 => ?_)
            · exact absurd rfl h68
            · have h68 := Classical.not_not.mp h68
              refine wp_aload_n (j := 0) rfl q151_ok d151_71 ?_
              refine wp_cV q151_ok d151_72 ml_11_132 rfl q141_ok (u := 11) rfl (by first | assumption | exact so0 hsh rfl) rfl (Nat.le_of_ble_eq_true rfl) (Nat.le_of_ble_eq_true rfl) (m_look hsh hr m9.1 m9.2.1.1 m9.2.1.2) (fun v72 μ72 hc => ?_)
              obtain ⟨rfl, rfl⟩ := hc
              refine ⟨mm_le_same rfl, ?_⟩
              refine wp_goto (t := 79) rfl q151_ok d151_75 ?_
              refine wp_istore_n (j := 1) (Nat.le_of_ble_eq_true rfl) (rfl : _ = [_, _]) q151_ok d151_79 ?_
              refine wp_goto (t := 21) rfl q151_ok d151_80 ?_
              have S4 := MS_at (s2 := s) m9 (wsp_le L hbx.2) (by have := wsp_ge L x.1; have := m9.2.2.2.2.2.2.1; omega)
              exact wp_post (ih _ x.1 s _ (by omega) S4) (fun v μ hc => mr_thn (xf_trans (xf_trans (xf_trans xf_3 x3) x9) xf_3) (thc_inr e3) er hc)
        · have h51 := Classical.not_not.mp h51
          exact absurd h51 h24
theorem r_sum {xs : List Int32} {ext : mm_X} {sh : mm_S} {g : mm_G} {r : mm_R} {L : wo_P} {t : Nat} (hsh : shp sh) (hr : rfx r) {n k : Nat} (hk : k ≤ 6) (hi : RMterm xs ext sh g r L t (n + 2) k) (hb : bdS L (termS L (sumO L k))) : RMsum xs ext sh g r L t (n + 3) k := by
  intro d p s cs h
  have hpl := h.2.1.2
  have h160 := h.1.2.1
  refine wp_aload_n (j := 0) rfl q151_ok d151_0 ?_
  refine wp_cV q151_ok d151_1 ml_11_163 rfl q150_ok (u := 11) rfl (by first | assumption | exact so0 hsh rfl) rfl (Nat.le_of_ble_eq_true rfl) (Nat.le_of_ble_eq_true rfl) (hi _ _ _ _ h) (fun v1 μ1 hc => ?_)
  obtain ⟨rfl, d3, rfl, x3, m3⟩ := hc
  refine ⟨mm_le_same rfl, ?_⟩
  cases e3 : (termS L (sumO L k)) p with
  | inl w =>
    rw [e3] at m3
    have m3 : WS d3 L t w s (L.1 + k) := m3
    refine wp_aload_n (j := 0) rfl q151_ok d151_4 ?_
    refine wp_getI q151_ok d151_5 fl_11_120 rfl (by first | assumption | exact so0 hsh rfl) (by first | assumption | rfl) ?_
    refine wp_iconst (v := -1) (by decide) q151_ok d151_8 ?_
    refine wp_icmp_ne q151_ok d151_9 (t := 19) rfl (fun h9 => ?_) (fun h9 => ?_)
    · refine wp_iconst (v := -1) (by decide) q151_ok d151_19 ?_
      refine wp_istore_n (j := 1) (Nat.le_of_ble_eq_true rfl) (rfl : _ = [_, _]) q151_ok d151_20 ?_
      refine wp_iload_n (j := 1) rfl q151_ok d151_21 ?_
      refine wp_bipush (v := 43) (by decide) q151_ok d151_22 ?_
      refine wp_icmp_eq q151_ok d151_24 (t := 33) rfl (fun h24 => ?_) (fun h24 => ?_)
      · exact absurd h24 (by decide)
      · refine wp_iload_n (j := 1) rfl q151_ok d151_27 ?_
        refine wp_bipush (v := 45) (by decide) q151_ok d151_28 ?_
        refine wp_icmp_ne q151_ok d151_30 (t := 83) rfl (fun h30 => ?_) (fun h30 => ?_)
        · refine wp_vret q151_ok d151_83 rfl ?_
          exact mr_fail x3 e3 (thn_inl e3) (by rw [e3]; exact m3)
        · have h30 := Classical.not_not.mp h30
          exact absurd h30 (by decide)
    · have h9 := Classical.not_not.mp h9
      exact absurd h9 (WS_ne m3)
  | inr x =>
    have hbx := hb p hpl
    rw [e3] at m3 hbx
    have hbx : p + 1 ≤ x.1 ∧ x.1 ≤ L.1 := hbx
    have m3 : MS d3 L t k x.1 s (cs ++ x.2) := m3
    refine wp_aload_n (j := 0) rfl q151_ok d151_4 ?_
    refine wp_getI q151_ok d151_5 fl_11_120 rfl (by first | assumption | exact so0 hsh rfl) m3.2.2.1 ?_
    refine wp_iconst (v := -1) (by decide) q151_ok d151_8 ?_
    refine wp_icmp_ne q151_ok d151_9 (t := 19) rfl (fun h9 => ?_) (fun h9 => ?_)
    · exact absurd rfl h9
    · have h9 := Classical.not_not.mp h9
      refine wp_aload_n (j := 0) rfl q151_ok d151_12 ?_
      refine wp_cV q151_ok d151_13 ml_11_132 rfl q141_ok (u := 11) rfl (by first | assumption | exact so0 hsh rfl) rfl (Nat.le_of_ble_eq_true rfl) (Nat.le_of_ble_eq_true rfl) (m_look hsh hr m3.1 m3.2.1.1 m3.2.1.2) (fun v13 μ13 hc => ?_)
      obtain ⟨rfl, rfl⟩ := hc
      refine ⟨mm_le_same rfl, ?_⟩
      refine wp_goto (t := 20) rfl q151_ok d151_16 ?_
      refine wp_istore_n (j := 1) (Nat.le_of_ble_eq_true rfl) (rfl : _ = [_, _]) q151_ok d151_20 ?_
      have S4 := MS_at (s2 := s) m3 (wsp_le L hbx.2) (by have := wsp_ge L x.1; have := m3.2.2.2.2.2.2.1; omega)
      exact wp_post (r_sum_l hsh hr hk hi hb (by omega) 160 _ x.1 s _ (by omega) S4) (fun v μ hc => mr_thn (xf_trans x3 xf_3) e3 rfl hc)
theorem r_sums {xs : List Int32} {ext : mm_X} {sh : mm_S} {g : mm_G} {r : mm_R} {L : wo_P} {t : Nat} (hsh : shp sh) (hr : rfx r) : ∀ (k n : Nat), k ≤ 6 → RMsum xs ext sh g r L t (n + (3 * k + 5)) k
  | 0, n, hk => r_sum hsh hr hk (r_term hsh hr hk (r_atom (n := n) hsh hr hk (fun k2 e => absurd e (by omega))) (atom_bd (fun s e => sumO_bd L 0 s e))) (term_bd (fun s e => sumO_bd L 0 s e))
  | k + 1, n, hk => by
    have h : RMsum xs ext sh g r L t (n + (3 * k + 3) + 3 + 1 + 1) (k + 1) := r_sum hsh hr hk (r_term hsh hr hk (r_atom (n := n + (3 * k + 3)) hsh hr hk (fun k2 e => by
      have e2 : k2 = k := by omega
      subst e2
      exact r_sums hsh hr k2 n (by omega))) (atom_bd (fun s e => sumO_bd L (k + 1) s e))) (term_bd (fun s e => sumO_bd L (k + 1) s e))
    rw [show n + (3 * (k + 1) + 5) = n + (3 * k + 3) + 3 + 1 + 1 by omega]
    exact h
