/-! ===== peak, free, ears of the model ===== -/
def pkBM (T : wo_T) (o : wo_O) (B : wo_A) (b : Nat) : Nat → Int32
  | 0 => -1
  | k + 1 => if (aN T o B (k + 1)).2.1 b ≤ pkMA T o B b k then pkBM T o B b k else nI (k + 1)
theorem pkB_m {T : wo_T} {o : wo_O} {B : wo_A} {b : Nat} (h : ¬ (aN T o B 1).2.1 b ≤ -1) : ∀ k, pkBM T o B b (k + 1) = pkBA T o B b (k + 1)
  | 0 => by
    rw [pkBM, pkBA, show pkMA T o B b 0 = -1 from rfl, if_neg h, if_neg h]
    exact (nI_1 0).symm
  | k + 1 => by
    have ih := pkB_m h k
    rw [pkBM, pkBA, ih]
    by_cases q : (aN T o B (k + 1 + 1)).2.1 b ≤ pkMA T o B b (k + 1)
    · rw [if_pos q, if_pos q]
    · rw [if_neg q, if_neg q]
      exact (nI_1 (k + 1)).symm
theorem m_peak_l {xs : List Int32} {ext : mm_X} {n : Nat} {sh : mm_S} {d : mm_D} {g : mm_G} {r : mm_R} {T : wo_T} {o : wo_O} {B : wo_A} (hsh : shp sh) (hr : rfx r) (hR : MR d T o) (hSd : hS d B) {N b : Nat} (w : Int32) (hN : N < 2 ^ 30) (hb : b < 2) : ∀ (z k : Nat) (d1 : mm_D) , z + k = N → pf d d1 → hM d1 (aN T o B k) → wp xs ext (n + 9) 211 40 [some (.ref 250), some (.int (nI b)), some (.int (nI N)), some (.int w), some (.int (pkMA T o B b k)), some (.int (pkBM T o B b k)), some (.int (nI (k + 1)))] [] (sh, d1, g, r) (fun v μ => v = some (.int (if w = 0 then pkMA T o B b N else pkBM T o B b N)) ∧ ∃ d2, μ = (sh, d2, g, r) ∧ qf d d2 ∧ hM d2 B) := by
  have hnb2 := hR.2.1
  intro z
  induction z with
  | zero =>
    intro k d1 hz p1 hM1
    have hvb : N = k := by omega
    subst hvb
    have hR1 := MR_pf hR p1
    refine wp_iload (j := 6) rfl q211_ok d211_40 ?_
    refine wp_iload_n (j := 2) rfl q211_ok d211_42 ?_
    refine wp_icmp_gt q211_ok d211_43 (t := 90) rfl (fun h43 => ?_) (fun h43 => ?_)
    · refine wp_aload_n (j := 0) rfl q211_ok d211_90 ?_
      refine wp_cV q211_ok d211_91 ml_11_362 rfl q196_ok (u := 11) rfl (by first | assumption | exact so0 hsh rfl) rfl (Nat.le_of_ble_eq_true rfl) (Nat.le_of_ble_eq_true rfl) (m_back hsh hr (hS_pf hSd p1)) (fun v91 μ91 hc => ?_)
      obtain ⟨rfl, d9, rfl, q9, hM9⟩ := hc
      refine ⟨mm_le_same rfl, ?_⟩
      refine wp_iload_n (j := 3) rfl q211_ok d211_94 ?_
      refine wp_if_ne q211_ok d211_95 (t := 103) rfl (fun h95 => ?_) (fun h95 => ?_)
      · refine wp_iload (j := 5) rfl q211_ok d211_103 ?_
        refine wp_iret q211_ok d211_105 rfl ?_
        exact ⟨by rw [if_neg h95], d9, rfl, qf_trans (qf_pf p1) q9, hM9⟩
      · have h95 := Classical.not_not.mp h95
        refine wp_iload (j := 4) rfl q211_ok d211_98 ?_
        refine wp_goto (t := 105) rfl q211_ok d211_100 ?_
        refine wp_iret q211_ok d211_105 rfl ?_
        exact ⟨by rw [if_pos h95], d9, rfl, qf_trans (qf_pf p1) q9, hM9⟩
    · exact absurd ((nI_ltI (by omega) (by omega)).mpr (Nat.lt_succ_self _)) h43
  | succ z ih =>
    intro k d1 hz p1 hM1
    have hlt : k < N := by omega
    have hR1 := MR_pf hR p1
    refine wp_iload (j := 6) rfl q211_ok d211_40 ?_
    refine wp_iload_n (j := 2) rfl q211_ok d211_42 ?_
    refine wp_icmp_gt q211_ok d211_43 (t := 90) rfl (fun h43 => ?_) (fun h43 => ?_)
    · exact absurd ((nI_ltI (by omega) (by omega)).mp h43) (by omega)
    · refine wp_aload_n (j := 0) rfl q211_ok d211_46 ?_
      refine wp_iconst (v := 0) (by decide) q211_ok d211_47 ?_
      refine wp_cV q211_ok d211_48 ml_11_349 rfl q184_ok (u := 11) rfl (by first | assumption | exact so0 hsh rfl) rfl (Nat.le_of_ble_eq_true rfl) (Nat.le_of_ble_eq_true rfl) (m_pass (n := n) hsh hr hR1 hM1 0) (fun v48 μ48 hc => ?_)
      obtain ⟨rfl, d2, rfl, f2, hM2, rg2, sn2⟩ := hc
      refine ⟨mm_le_same rfl, ?_⟩
      rw [sgM0] at hM2 rg2 sn2
      have hM2 : hM d2 (aN T o B (k + 1)) := hM2
      have p2 := pf_trans p1 f2
      refine wp_aload_n (j := 0) rfl q211_ok d211_51 ?_
      refine wp_getR q211_ok d211_52 fl_11_61 rfl (by first | assumption | exact so0 hsh rfl) (by first | assumption | exact hr _ _ _ rfl) ?_
      refine wp_iload_n (j := 1) rfl q211_ok d211_55 ?_
      refine wp_iald (m := 2) q211_ok d211_56 (by first | assumption | exact so0 hsh rfl) (shl hsh (m := 2) (Nat.le_of_ble_eq_true rfl) rfl) (ixn_nI hb) (hM2.2 b hb).1 ?_ (shK hsh)
      refine wp_iload (j := 4) rfl q211_ok d211_57 ?_
      refine wp_icmp_le q211_ok d211_59 (t := 67) rfl (fun h59 => ?_) (fun h59 => ?_)
      · refine wp_iload (j := 5) rfl q211_ok d211_67 ?_
        refine wp_istore (j := 5) (Nat.le_of_ble_eq_true rfl) (rfl : _ = [_, _, _, _, _, _, _]) q211_ok d211_69 ?_
        refine wp_iload (j := 4) rfl q211_ok d211_71 ?_
        refine wp_aload_n (j := 0) rfl q211_ok d211_73 ?_
        refine wp_getR q211_ok d211_74 fl_11_61 rfl (by first | assumption | exact so0 hsh rfl) (by first | assumption | exact hr _ _ _ rfl) ?_
        refine wp_iload_n (j := 1) rfl q211_ok d211_77 ?_
        refine wp_iald (m := 2) q211_ok d211_78 (by first | assumption | exact so0 hsh rfl) (shl hsh (m := 2) (Nat.le_of_ble_eq_true rfl) rfl) (ixn_nI hb) (hM2.2 b hb).1 ?_ (shK hsh)
        refine wp_cS q211_ok d211_79 ml_11_368 rfl q227_ok rfl rfl rfl (Nat.le_of_ble_eq_true rfl) (Nat.le_of_ble_eq_true rfl) (c_max _ _) (fun v79 μ79 hc => ?_)
        obtain ⟨rfl, rfl⟩ := hc
        refine ⟨mm_le_same rfl, ?_⟩
        refine wp_istore (j := 4) (Nat.le_of_ble_eq_true rfl) (rfl : _ = [_, _, _, _, _, _, _]) q211_ok d211_82 ?_
        refine wp_iinc (j := 6) rfl (by first | exact inc1 | rfl) (rfl : _ = [_, _, _, _, _, _, _]) q211_ok d211_84 ?_
        refine wp_goto (t := 40) rfl q211_ok d211_87 ?_
        have em : (if pkMA T o B b k < (aN T o B (k + 1)).2.1 b then (aN T o B (k + 1)).2.1 b else pkMA T o B b k) = pkMA T o B b (k + 1) := by rw [pkMA, if_pos h59, if_neg (Int32.not_lt.mpr h59)]
        rw [em]
        have this := ih (k + 1) d2 (by omega) p2 hM2
        rw [pkBM, if_pos h59] at this
        exact this
      · refine wp_iload (j := 6) rfl q211_ok d211_62 ?_
        refine wp_goto (t := 69) rfl q211_ok d211_64 ?_
        refine wp_istore (j := 5) (Nat.le_of_ble_eq_true rfl) (rfl : _ = [_, _, _, _, _, _, _]) q211_ok d211_69 ?_
        refine wp_iload (j := 4) rfl q211_ok d211_71 ?_
        refine wp_aload_n (j := 0) rfl q211_ok d211_73 ?_
        refine wp_getR q211_ok d211_74 fl_11_61 rfl (by first | assumption | exact so0 hsh rfl) (by first | assumption | exact hr _ _ _ rfl) ?_
        refine wp_iload_n (j := 1) rfl q211_ok d211_77 ?_
        refine wp_iald (m := 2) q211_ok d211_78 (by first | assumption | exact so0 hsh rfl) (shl hsh (m := 2) (Nat.le_of_ble_eq_true rfl) rfl) (ixn_nI hb) (hM2.2 b hb).1 ?_ (shK hsh)
        refine wp_cS q211_ok d211_79 ml_11_368 rfl q227_ok rfl rfl rfl (Nat.le_of_ble_eq_true rfl) (Nat.le_of_ble_eq_true rfl) (c_max _ _) (fun v79 μ79 hc => ?_)
        obtain ⟨rfl, rfl⟩ := hc
        refine ⟨mm_le_same rfl, ?_⟩
        refine wp_istore (j := 4) (Nat.le_of_ble_eq_true rfl) (rfl : _ = [_, _, _, _, _, _, _]) q211_ok d211_82 ?_
        refine wp_iinc (j := 6) rfl (by first | exact inc1 | rfl) (rfl : _ = [_, _, _, _, _, _, _]) q211_ok d211_84 ?_
        refine wp_goto (t := 40) rfl q211_ok d211_87 ?_
        have em : (if pkMA T o B b k < (aN T o B (k + 1)).2.1 b then (aN T o B (k + 1)).2.1 b else pkMA T o B b k) = pkMA T o B b (k + 1) := by rw [pkMA, if_neg h59, if_pos (Int32.not_le.mp h59)]
        rw [em]
        have this := ih (k + 1) d2 (by omega) p2 hM2
        rw [pkBM, if_neg h59] at this
        exact this
theorem m_peak {xs : List Int32} {ext : mm_X} {n : Nat} {sh : mm_S} {d : mm_D} {g : mm_G} {r : mm_R} {T : wo_T} {B : wo_A} (hsh : shp sh) (hr : rfx r) (hR : MR d T (o0 T)) (hB : hM d B) (hbn : tnb T ≠ 0 → tnp T ≠ 0) (how : ∀ b, b < tnb T → ¬ (aN T (o0 T) B 1).2.1 b ≤ -1) (i n1 w : Int32) : wp xs ext (n + 10) 211 0 [some (.ref 250), some (.int i), some (.int n1), some (.int w), none, none, none] [] (sh, d, g, r) (fun v μ => v = some (.int (peakQ T B i n1 w)) ∧ ∃ d2, μ = (sh, d2, g, r) ∧ qf d d2 ∧ hM d2 B) := by
  refine wp_aload_n (j := 0) rfl q211_ok d211_0 ?_
  refine wp_iload_n (j := 1) rfl q211_ok d211_1 ?_
  refine wp_cV q211_ok d211_2 ml_11_327 rfl q178_ok (u := 11) rfl (by first | assumption | exact so0 hsh rfl) rfl (Nat.le_of_ble_eq_true rfl) (Nat.le_of_ble_eq_true rfl) (m_isBell hsh hr _) (fun v2 μ2 hc => ?_)
  obtain ⟨rfl, rfl⟩ := hc
  refine ⟨mm_le_same rfl, ?_⟩
  rw [mbel_v hR i]
  by_cases c0 : belT T i
  · rw [if_pos c0]
    have hh : hasT T := hbn (by have := bel_lt c0 hR.2.1; omega)
    refine wp_if_eq q211_ok d211_5 (t := 25) rfl (fun h5 => ?_) (fun h5 => ?_)
    · exact absurd h5 (by decide)
    · refine wp_aload_n (j := 0) rfl q211_ok d211_8 ?_
      refine wp_iload_n (j := 2) rfl q211_ok d211_9 ?_
      refine wp_cV q211_ok d211_10 ml_11_337 rfl q192_ok (u := 11) rfl (by first | assumption | exact so0 hsh rfl) rfl (Nat.le_of_ble_eq_true rfl) (Nat.le_of_ble_eq_true rfl) (m_are hsh hr _) (fun v10 μ10 hc => ?_)
      obtain ⟨rfl, rfl⟩ := hc
      refine ⟨mm_le_same rfl, ?_⟩
      rw [mare_v hR n1]
      by_cases c1 : ahdT n1
      · rw [if_pos ⟨hh, c1⟩]
        refine wp_if_eq q211_ok d211_13 (t := 25) rfl (fun h13 => ?_) (fun h13 => ?_)
        · exact absurd h13 (by decide)
        · refine wp_iload_n (j := 3) rfl q211_ok d211_16 ?_
          refine wp_iconst (v := 0) (by decide) q211_ok d211_17 ?_
          refine wp_iconst (v := 1) (by decide) q211_ok d211_18 ?_
          refine wp_cS q211_ok d211_19 ml_11_218 rfl q133_ok rfl rfl rfl (Nat.le_of_ble_eq_true rfl) (Nat.le_of_ble_eq_true rfl) (m_in _ _ _) (fun v19 μ19 hc => ?_)
          obtain ⟨rfl, rfl⟩ := hc
          refine ⟨mm_le_same rfl, ?_⟩
          by_cases c2 : whT w
          · rw [if_pos c2]
            refine wp_if_ne q211_ok d211_22 (t := 27) rfl (fun h22 => ?_) (fun h22 => ?_)
            · have hib : i.toNatClampNeg < tnb T := bel_lt c0 hR.2.1
              have hie := nI_ofn c0.1
              generalize hic : i.toNatClampNeg = b at hib hie
              obtain ⟨N, hN1, hN, hNe⟩ := ahd_of (fun e => (ahd_T n1).mp e c1)
              have hNc : n1.toNatClampNeg = N := by rw [hNe]; exact nI_clamp (by omega)
              subst hNe
              subst hie
              have hb2 : b < 2 := by have := hR.2.1; omega
              have hq := how b hib
              obtain ⟨N2, rfl⟩ : ∃ N2, N = N2 + 1 := ⟨N - 1, by omega⟩
              refine wp_aload_n (j := 0) rfl q211_ok d211_27 ?_
              refine wp_cV q211_ok d211_28 ml_11_356 rfl q195_ok (u := 11) rfl (by first | assumption | exact so0 hsh rfl) rfl (Nat.le_of_ble_eq_true rfl) (Nat.le_of_ble_eq_true rfl) (m_put hsh hr hB) (fun v28 μ28 hc => ?_)
              obtain ⟨rfl, d1, rfl, q1, hM1, hS1⟩ := hc
              refine ⟨mm_le_same rfl, ?_⟩
              refine wp_iconst (v := -1) (by decide) q211_ok d211_31 ?_
              refine wp_istore (j := 4) (Nat.le_of_ble_eq_true rfl) (rfl : _ = [_, _, _, _, _, _, _]) q211_ok d211_32 ?_
              refine wp_iconst (v := -1) (by decide) q211_ok d211_34 ?_
              refine wp_istore (j := 5) (Nat.le_of_ble_eq_true rfl) (rfl : _ = [_, _, _, _, _, _, _]) q211_ok d211_35 ?_
              refine wp_iconst (v := 1) (by decide) q211_ok d211_37 ?_
              refine wp_istore (j := 6) (Nat.le_of_ble_eq_true rfl) (rfl : _ = [_, _, _, _, _, _, _]) q211_ok d211_38 ?_
              refine wp_post (m_peak_l hsh hr (MR_qf hR q1) hS1 w (show N2 + 1 < 2 ^ 30 by omega) hb2 (N2 + 1) 0 d1 (by omega) (pf_refl d1) hM1) (fun v μ hc => ?_)
              obtain ⟨rfl, d9, rfl, q9, hM9⟩ := hc
              exact ⟨by unfold peakQ; rw [if_pos c0, if_pos c1, if_pos c2, hic, hNc, pkB_m hq], d9, rfl, qf_trans q1 q9, hM9⟩
            · have h22 := Classical.not_not.mp h22
              exact absurd h22 (by decide)
          · rw [if_neg c2]
            refine wp_if_ne q211_ok d211_22 (t := 27) rfl (fun h22 => ?_) (fun h22 => ?_)
            · exact absurd rfl h22
            · have h22 := Classical.not_not.mp h22
              refine wp_iconst (v := -1) (by decide) q211_ok d211_25 ?_
              refine wp_iret q211_ok d211_26 rfl ?_
              exact ⟨by unfold peakQ; rw [if_pos c0, if_pos c1, if_neg c2], d, rfl, qf_refl d, hB⟩
      · rw [if_neg (fun q => c1 q.2)]
        refine wp_if_eq q211_ok d211_13 (t := 25) rfl (fun h13 => ?_) (fun h13 => ?_)
        · refine wp_iconst (v := -1) (by decide) q211_ok d211_25 ?_
          refine wp_iret q211_ok d211_26 rfl ?_
          exact ⟨by unfold peakQ; rw [if_pos c0, if_neg c1], d, rfl, qf_refl d, hB⟩
        · exact absurd rfl h13
  · rw [if_neg c0]
    refine wp_if_eq q211_ok d211_5 (t := 25) rfl (fun h5 => ?_) (fun h5 => ?_)
    · refine wp_iconst (v := -1) (by decide) q211_ok d211_25 ?_
      refine wp_iret q211_ok d211_26 rfl ?_
      exact ⟨by unfold peakQ; rw [if_neg c0], d, rfl, qf_refl d, hB⟩
    · exact absurd rfl h5
theorem m_free_fin {xs : List Int32} {ext : mm_X} {n : Nat} {sh : mm_S} {d : mm_D} {g : mm_G} {r : mm_R} {T : wo_T} {o : wo_O} {B : wo_A} (hsh : shp sh) (hr : rfx r) (hSd : hS d B) (i f y : Int32) (hf : ¬ f = -1) : wp xs ext (n + 9) 212 18 [some (.ref 250), some (.int i), some (.int f), some (.int y)] [] (sh, d, g, r) (fun v μ => v = some (.int f) ∧ ∃ d2, μ = (sh, d2, g, r) ∧ qf d d2 ∧ hM d2 B) := by
  refine wp_iload_n (j := 3) rfl q212_ok d212_18 ?_
  refine wp_sipush (v := 240) (by decide) q212_ok d212_19 ?_
  refine wp_icmp_gt q212_ok d212_22 (t := 56) rfl (fun h22 => ?_) (fun h22 => ?_)
  · refine wp_aload_n (j := 0) rfl q212_ok d212_56 ?_
    refine wp_cV q212_ok d212_57 ml_11_362 rfl q196_ok (u := 11) rfl (by first | assumption | exact so0 hsh rfl) rfl (Nat.le_of_ble_eq_true rfl) (Nat.le_of_ble_eq_true rfl) (m_back hsh hr hSd) (fun v57 μ57 hc => ?_)
    obtain ⟨rfl, d9, rfl, q9, hM9⟩ := hc
    refine ⟨mm_le_same rfl, ?_⟩
    refine wp_iload_n (j := 2) rfl q212_ok d212_60 ?_
    refine wp_iret q212_ok d212_61 rfl ?_
    exact ⟨rfl, d9, rfl, q9, hM9⟩
  · refine wp_iload_n (j := 2) rfl q212_ok d212_25 ?_
    refine wp_iconst (v := -1) (by decide) q212_ok d212_26 ?_
    refine wp_icmp_ne q212_ok d212_27 (t := 56) rfl (fun h27 => ?_) (fun h27 => ?_)
    · refine wp_aload_n (j := 0) rfl q212_ok d212_56 ?_
      refine wp_cV q212_ok d212_57 ml_11_362 rfl q196_ok (u := 11) rfl (by first | assumption | exact so0 hsh rfl) rfl (Nat.le_of_ble_eq_true rfl) (Nat.le_of_ble_eq_true rfl) (m_back hsh hr hSd) (fun v57 μ57 hc => ?_)
      obtain ⟨rfl, d9, rfl, q9, hM9⟩ := hc
      refine ⟨mm_le_same rfl, ?_⟩
      refine wp_iload_n (j := 2) rfl q212_ok d212_60 ?_
      refine wp_iret q212_ok d212_61 rfl ?_
      exact ⟨rfl, d9, rfl, q9, hM9⟩
    · have h27 := Classical.not_not.mp h27
      exact absurd h27 hf
theorem m_free_l {xs : List Int32} {ext : mm_X} {n : Nat} {sh : mm_S} {d : mm_D} {g : mm_G} {r : mm_R} {T : wo_T} {o : wo_O} {B : wo_A} (hsh : shp sh) (hr : rfx r) (hR : MR d T o) (hSd : hS d B) {b : Nat} (hb : b < 2) : ∀ (z k : Nat) (d1 : mm_D) , z + k = 240 → pf d d1 → hM d1 (aN T o B k) → wp xs ext (n + 9) 212 18 [some (.ref 250), some (.int (nI b)), some (.int (-1)), some (.int (nI (k + 1)))] [] (sh, d1, g, r) (fun v μ => v = some (.int (freA T o B b z k)) ∧ ∃ d2, μ = (sh, d2, g, r) ∧ qf d d2 ∧ hM d2 B) := by
  have hnb2 := hR.2.1
  intro z
  induction z with
  | zero =>
    intro k d1 hz p1 hM1
    have hvb : k = 240 := by omega
    subst hvb
    have hR1 := MR_pf hR p1
    refine wp_iload_n (j := 3) rfl q212_ok d212_18 ?_
    refine wp_sipush (v := 240) (by decide) q212_ok d212_19 ?_
    refine wp_icmp_gt q212_ok d212_22 (t := 56) rfl (fun h22 => ?_) (fun h22 => ?_)
    · refine wp_aload_n (j := 0) rfl q212_ok d212_56 ?_
      refine wp_cV q212_ok d212_57 ml_11_362 rfl q196_ok (u := 11) rfl (by first | assumption | exact so0 hsh rfl) rfl (Nat.le_of_ble_eq_true rfl) (Nat.le_of_ble_eq_true rfl) (m_back hsh hr (hS_pf hSd p1)) (fun v57 μ57 hc => ?_)
      obtain ⟨rfl, d9, rfl, q9, hM9⟩ := hc
      refine ⟨mm_le_same rfl, ?_⟩
      refine wp_iload_n (j := 2) rfl q212_ok d212_60 ?_
      refine wp_iret q212_ok d212_61 rfl ?_
      exact ⟨rfl, d9, rfl, qf_trans (qf_pf p1) q9, hM9⟩
    · exact absurd (show nI 240 < nI (240 + 1) from (nI_ltI (by decide) (by decide)).mpr (by decide)) h22
  | succ z ih =>
    intro k d1 hz p1 hM1
    have hlt : k < 240 := by omega
    have hR1 := MR_pf hR p1
    refine wp_iload_n (j := 3) rfl q212_ok d212_18 ?_
    refine wp_sipush (v := 240) (by decide) q212_ok d212_19 ?_
    refine wp_icmp_gt q212_ok d212_22 (t := 56) rfl (fun h22 => ?_) (fun h22 => ?_)
    · exact absurd ((nI_ltI (by decide) (by omega)).mp (show nI 240 < nI (k + 1) from h22)) (by omega)
    · refine wp_iload_n (j := 2) rfl q212_ok d212_25 ?_
      refine wp_iconst (v := -1) (by decide) q212_ok d212_26 ?_
      refine wp_icmp_ne q212_ok d212_27 (t := 56) rfl (fun h27 => ?_) (fun h27 => ?_)
      · exact absurd rfl h27
      · have h27 := Classical.not_not.mp h27
        refine wp_aload_n (j := 0) rfl q212_ok d212_30 ?_
        refine wp_iconst (v := 0) (by decide) q212_ok d212_31 ?_
        refine wp_cV q212_ok d212_32 ml_11_349 rfl q184_ok (u := 11) rfl (by first | assumption | exact so0 hsh rfl) rfl (Nat.le_of_ble_eq_true rfl) (Nat.le_of_ble_eq_true rfl) (m_pass (n := n) hsh hr hR1 hM1 0) (fun v32 μ32 hc => ?_)
        obtain ⟨rfl, d2, rfl, f2, hM2, rg2, sn2⟩ := hc
        refine ⟨mm_le_same rfl, ?_⟩
        rw [sgM0] at hM2 rg2 sn2
        have hM2 : hM d2 (aN T o B (k + 1)) := hM2
        have p2 := pf_trans p1 f2
        refine wp_aload_n (j := 0) rfl q212_ok d212_35 ?_
        refine wp_getR q212_ok d212_36 fl_11_61 rfl (by first | assumption | exact so0 hsh rfl) (by first | assumption | exact hr _ _ _ rfl) ?_
        refine wp_iload_n (j := 1) rfl q212_ok d212_39 ?_
        refine wp_iald (m := 2) q212_ok d212_40 (by first | assumption | exact so0 hsh rfl) (shl hsh (m := 2) (Nat.le_of_ble_eq_true rfl) rfl) (ixn_nI hb) (hM2.2 b hb).1 ?_ (shK hsh)
        refine wp_if_ne q212_ok d212_41 (t := 48) rfl (fun h41 => ?_) (fun h41 => ?_)
        · refine wp_iconst (v := -1) (by decide) q212_ok d212_48 ?_
          refine wp_istore_n (j := 2) (Nat.le_of_ble_eq_true rfl) (rfl : _ = [_, _, _, _]) q212_ok d212_49 ?_
          refine wp_iinc (j := 3) rfl (by first | exact inc1 | rfl) (rfl : _ = [_, _, _, _]) q212_ok d212_50 ?_
          refine wp_goto (t := 18) rfl q212_ok d212_53 ?_
          have this := ih (k + 1) d2 (by omega) p2 hM2
          rw [freA, if_neg h41]
          exact this
        · have h41 := Classical.not_not.mp h41
          refine wp_iload_n (j := 3) rfl q212_ok d212_44 ?_
          refine wp_goto (t := 49) rfl q212_ok d212_45 ?_
          refine wp_istore_n (j := 2) (Nat.le_of_ble_eq_true rfl) (rfl : _ = [_, _, _, _]) q212_ok d212_49 ?_
          refine wp_iinc (j := 3) rfl (by first | exact inc1 | rfl) (rfl : _ = [_, _, _, _]) q212_ok d212_50 ?_
          refine wp_goto (t := 18) rfl q212_ok d212_53 ?_
          rw [freA, if_pos h41]
          refine wp_post (m_free_fin (T := T) (o := o) hsh hr (hS_pf hSd p2) _ (nI (k + 1)) _ (nI_nm1 (by omega))) (fun v μ hc => ?_)
          obtain ⟨rfl, d9, rfl, q9, hM9⟩ := hc
          exact ⟨rfl, d9, rfl, qf_trans (qf_pf p2) q9, hM9⟩
theorem m_free {xs : List Int32} {ext : mm_X} {n : Nat} {sh : mm_S} {d : mm_D} {g : mm_G} {r : mm_R} {T : wo_T} {B : wo_A} (hsh : shp sh) (hr : rfx r) (hR : MR d T (o0 T)) (hB : hM d B) (hbn : tnb T ≠ 0 → tnp T ≠ 0) (i : Int32) : wp xs ext (n + 10) 212 0 [some (.ref 250), some (.int i), none, none] [] (sh, d, g, r) (fun v μ => v = some (.int (freeQ T B i)) ∧ ∃ d2, μ = (sh, d2, g, r) ∧ qf d d2 ∧ hM d2 B) := by
  refine wp_aload_n (j := 0) rfl q212_ok d212_0 ?_
  refine wp_iload_n (j := 1) rfl q212_ok d212_1 ?_
  refine wp_cV q212_ok d212_2 ml_11_327 rfl q178_ok (u := 11) rfl (by first | assumption | exact so0 hsh rfl) rfl (Nat.le_of_ble_eq_true rfl) (Nat.le_of_ble_eq_true rfl) (m_isBell hsh hr _) (fun v2 μ2 hc => ?_)
  obtain ⟨rfl, rfl⟩ := hc
  refine ⟨mm_le_same rfl, ?_⟩
  rw [mbel_v hR i]
  by_cases c0 : belT T i
  · rw [if_pos c0]
    have hh : hasT T := hbn (by have := bel_lt c0 hR.2.1; omega)
    refine wp_if_ne q212_ok d212_5 (t := 10) rfl (fun h5 => ?_) (fun h5 => ?_)
    · have hib : i.toNatClampNeg < tnb T := bel_lt c0 hR.2.1
      have hie := nI_ofn c0.1
      generalize hic : i.toNatClampNeg = b at hib hie
      subst hie
      refine wp_aload_n (j := 0) rfl q212_ok d212_10 ?_
      refine wp_cV q212_ok d212_11 ml_11_356 rfl q195_ok (u := 11) rfl (by first | assumption | exact so0 hsh rfl) rfl (Nat.le_of_ble_eq_true rfl) (Nat.le_of_ble_eq_true rfl) (m_put hsh hr hB) (fun v11 μ11 hc => ?_)
      obtain ⟨rfl, d1, rfl, q1, hM1, hS1⟩ := hc
      refine ⟨mm_le_same rfl, ?_⟩
      refine wp_iconst (v := -1) (by decide) q212_ok d212_14 ?_
      refine wp_istore_n (j := 2) (Nat.le_of_ble_eq_true rfl) (rfl : _ = [_, _, _, _]) q212_ok d212_15 ?_
      refine wp_iconst (v := 1) (by decide) q212_ok d212_16 ?_
      refine wp_istore_n (j := 3) (Nat.le_of_ble_eq_true rfl) (rfl : _ = [_, _, _, _]) q212_ok d212_17 ?_
      refine wp_post (m_free_l hsh hr (MR_qf hR q1) hS1 (show b < 2 by have := hR.2.1; omega) 240 0 d1 (by omega) (pf_refl d1) hM1) (fun v μ hc => ?_)
      obtain ⟨rfl, d9, rfl, q9, hM9⟩ := hc
      exact ⟨by unfold freeQ; rw [if_pos c0, hic], d9, rfl, qf_trans q1 q9, hM9⟩
    · have h5 := Classical.not_not.mp h5
      exact absurd h5 (by decide)
  · rw [if_neg c0]
    refine wp_if_ne q212_ok d212_5 (t := 10) rfl (fun h5 => ?_) (fun h5 => ?_)
    · exact absurd rfl h5
    · have h5 := Classical.not_not.mp h5
      refine wp_iconst (v := -1) (by decide) q212_ok d212_8 ?_
      refine wp_iret q212_ok d212_9 rfl ?_
      exact ⟨by unfold freeQ; rw [if_neg c0], d, rfl, qf_refl d, hB⟩
