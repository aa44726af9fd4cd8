/-! ===== the model's questions of one pass ===== -/
theorem m_all_l {xs : List Int32} {ext : mm_X} {n : Nat} {sh : mm_S} {d : mm_D} {g : mm_G} {r : mm_R} {T : wo_T} {o : wo_O} {B : wo_A} (hsh : shp sh) (hr : rfx r) (hR : MR d T o) {N : Nat} (hN : N < 2 ^ 31) : ∀ (z k : Nat) (d1 : mm_D), z + k = N → pf d d1 → hM d1 (aN T o B k) → wp xs ext (n + 9) 197 2 [some (.ref 250), some (.int (nI N)), some (.int (nI k))] [] (sh, d1, g, r) (fun v μ => v = none ∧ ∃ d2, μ = (sh, d2, g, r) ∧ pf d d2 ∧ hM d2 (aN T o B N)) := by
  intro z
  induction z with
  | zero =>
    intro k d1 hz p1 hM1
    have hvb : N = k := by omega
    subst hvb
    refine wp_iload_n (j := 2) rfl q197_ok d197_2 ?_
    refine wp_iload_n (j := 1) rfl q197_ok d197_3 ?_
    refine wp_icmp_ge q197_ok d197_4 (t := 18) rfl (fun h4 => ?_) (fun h4 => ?_)
    · refine wp_vret q197_ok d197_18 rfl ?_
      exact ⟨rfl, d1, rfl, p1, hM1⟩
    · exact absurd (nI_le (Nat.le_refl _) (by omega)) h4
  | succ z ih =>
    intro k d1 hz p1 hM1
    have hlt : k < N := by omega
    have hR1 := MR_pf hR p1
    refine wp_iload_n (j := 2) rfl q197_ok d197_2 ?_
    refine wp_iload_n (j := 1) rfl q197_ok d197_3 ?_
    refine wp_icmp_ge q197_ok d197_4 (t := 18) rfl (fun h4 => ?_) (fun h4 => ?_)
    · exact absurd h4 (nI_ge hlt (by omega))
    · refine wp_aload_n (j := 0) rfl q197_ok d197_7 ?_
      refine wp_iconst (v := 0) (by decide) q197_ok d197_8 ?_
      refine wp_cV q197_ok d197_9 ml_11_349 rfl q184_ok (u := 11) rfl (by first | assumption | exact so0 hsh rfl) rfl (Nat.le_of_ble_eq_true rfl) (Nat.le_of_ble_eq_true rfl) (m_pass (n := n) hsh hr hR1 hM1 0) (fun v9 μ9 hc => ?_)
      obtain ⟨rfl, d2, rfl, f2, hM2, rg2, sn2⟩ := hc
      refine ⟨mm_le_same rfl, ?_⟩
      rw [sgM0] at hM2 rg2 sn2
      have hM2 : hM d2 (aN T o B (k + 1)) := hM2
      have p2 := pf_trans p1 f2
      refine wp_iinc (j := 2) rfl (by first | exact inc1 | rfl) (rfl : _ = [_, _, _]) q197_ok d197_12 ?_
      refine wp_goto (t := 2) rfl q197_ok d197_15 ?_
      exact ih (k + 1) d2 (by omega) p2 hM2
theorem m_all {xs : List Int32} {ext : mm_X} {n : Nat} {sh : mm_S} {d : mm_D} {g : mm_G} {r : mm_R} {T : wo_T} {o : wo_O} {B : wo_A} (hsh : shp sh) (hr : rfx r) (hR : MR d T o) (hB : hM d B) {N : Nat} (hN : N < 2 ^ 31) : wp xs ext (n + 9) 197 0 [some (.ref 250), some (.int (nI N)), none] [] (sh, d, g, r) (fun v μ => v = none ∧ ∃ d2, μ = (sh, d2, g, r) ∧ pf d d2 ∧ hM d2 (aN T o B N)) := by
  refine wp_iconst (v := 0) (by decide) q197_ok d197_0 ?_
  refine wp_istore_n (j := 2) (Nat.le_of_ble_eq_true rfl) (rfl : _ = [_, _, _]) q197_ok d197_1 ?_
  exact m_all_l hsh hr hR hN N 0 d (by omega) (pf_refl d) hB
theorem m_late_l {xs : List Int32} {ext : mm_X} {n : Nat} {sh : mm_S} {d : mm_D} {g : mm_G} {r : mm_R} {T : wo_T} {o : wo_O} {B : wo_A} (hsh : shp sh) (hr : rfx r) (hR : MR d T o) (hSd : hS d B) {N b : Nat} (hN : N < 2 ^ 31) (hb : b < 2) : ∀ (z k : Nat) (d1 : mm_D) , z + k = N → pf d d1 → hM d1 (aN T o B k) → wp xs ext (n + 9) 200 9 [some (.ref 250), some (.int (nI b)), some (.int (nI N)), some (.int (lateA T o B b k)), some (.int (nI k))] [] (sh, d1, g, r) (fun v μ => v = some (.int (lateA T o B b N)) ∧ ∃ d2, μ = (sh, d2, g, r) ∧ qf d d2 ∧ hM d2 B) := by
  have hnb2 := hR.2.1
  intro z
  induction z with
  | zero =>
    intro k d1 hz p1 hM1
    have hvb : N = k := by omega
    subst hvb
    have hR1 := MR_pf hR p1
    refine wp_iload (j := 4) rfl q200_ok d200_9 ?_
    refine wp_iload_n (j := 2) rfl q200_ok d200_11 ?_
    refine wp_icmp_ge q200_ok d200_12 (t := 35) rfl (fun h12 => ?_) (fun h12 => ?_)
    · refine wp_aload_n (j := 0) rfl q200_ok d200_35 ?_
      refine wp_cV q200_ok d200_36 ml_11_362 rfl q196_ok (u := 11) rfl (by first | assumption | exact so0 hsh rfl) rfl (Nat.le_of_ble_eq_true rfl) (Nat.le_of_ble_eq_true rfl) (m_back hsh hr (hS_pf hSd p1)) (fun v36 μ36 hc => ?_)
      obtain ⟨rfl, d9, rfl, q9, hM9⟩ := hc
      refine ⟨mm_le_same rfl, ?_⟩
      refine wp_iload_n (j := 3) rfl q200_ok d200_39 ?_
      refine wp_iret q200_ok d200_40 rfl ?_
      exact ⟨rfl, d9, rfl, qf_trans (qf_pf p1) q9, hM9⟩
    · exact absurd (nI_le (Nat.le_refl _) (by omega)) h12
  | succ z ih =>
    intro k d1 hz p1 hM1
    have hlt : k < N := by omega
    have hR1 := MR_pf hR p1
    refine wp_iload (j := 4) rfl q200_ok d200_9 ?_
    refine wp_iload_n (j := 2) rfl q200_ok d200_11 ?_
    refine wp_icmp_ge q200_ok d200_12 (t := 35) rfl (fun h12 => ?_) (fun h12 => ?_)
    · exact absurd h12 (nI_ge hlt (by omega))
    · refine wp_aload_n (j := 0) rfl q200_ok d200_15 ?_
      refine wp_iconst (v := 0) (by decide) q200_ok d200_16 ?_
      refine wp_cV q200_ok d200_17 ml_11_349 rfl q184_ok (u := 11) rfl (by first | assumption | exact so0 hsh rfl) rfl (Nat.le_of_ble_eq_true rfl) (Nat.le_of_ble_eq_true rfl) (m_pass (n := n) hsh hr hR1 hM1 0) (fun v17 μ17 hc => ?_)
      obtain ⟨rfl, d2, rfl, f2, hM2, rg2, sn2⟩ := hc
      refine ⟨mm_le_same rfl, ?_⟩
      rw [sgM0] at hM2 rg2 sn2
      have hM2 : hM d2 (aN T o B (k + 1)) := hM2
      have p2 := pf_trans p1 f2
      refine wp_iload_n (j := 3) rfl q200_ok d200_20 ?_
      refine wp_aload_n (j := 0) rfl q200_ok d200_21 ?_
      refine wp_getR q200_ok d200_22 fl_11_61 rfl (by first | assumption | exact so0 hsh rfl) (by first | assumption | exact hr _ _ _ rfl) ?_
      refine wp_iload_n (j := 1) rfl q200_ok d200_25 ?_
      refine wp_iald (m := 2) q200_ok d200_26 (by first | assumption | exact so0 hsh rfl) (shl hsh (m := 2) (Nat.le_of_ble_eq_true rfl) rfl) (by first | assumption | exact ixn_nI (by omega)) (hM2.2 b hb).1 ?_ (shK hsh)
      refine wp_iadd rfl q200_ok d200_27 ?_
      refine wp_istore_n (j := 3) (Nat.le_of_ble_eq_true rfl) (rfl : _ = [_, _, _, _, _]) q200_ok d200_28 ?_
      refine wp_iinc (j := 4) rfl (by first | exact inc1 | rfl) (rfl : _ = [_, _, _, _, _]) q200_ok d200_29 ?_
      refine wp_goto (t := 9) rfl q200_ok d200_32 ?_
      have this := ih (k + 1) d2 (by omega) p2 hM2
      rw [lateA] at this
      exact this
theorem m_lateOf {xs : List Int32} {ext : mm_X} {n : Nat} {sh : mm_S} {d : mm_D} {g : mm_G} {r : mm_R} {T : wo_T} {o : wo_O} {B : wo_A} (hsh : shp sh) (hr : rfx r) (hR : MR d T o) (hB : hM d B) {N b : Nat} (hN : N < 2 ^ 31) (hb : b < 2) : wp xs ext (n + 9) 200 0 [some (.ref 250), some (.int (nI b)), some (.int (nI N)), none, none] [] (sh, d, g, r) (fun v μ => v = some (.int (lateA T o B b N)) ∧ ∃ d2, μ = (sh, d2, g, r) ∧ qf d d2 ∧ hM d2 B) := by
  refine wp_aload_n (j := 0) rfl q200_ok d200_0 ?_
  refine wp_cV q200_ok d200_1 ml_11_356 rfl q195_ok (u := 11) rfl (by first | assumption | exact so0 hsh rfl) rfl (Nat.le_of_ble_eq_true rfl) (Nat.le_of_ble_eq_true rfl) (m_put hsh hr hB) (fun v1 μ1 hc => ?_)
  obtain ⟨rfl, d1, rfl, q1, hM1, hS1⟩ := hc
  refine ⟨mm_le_same rfl, ?_⟩
  refine wp_iconst (v := 0) (by decide) q200_ok d200_4 ?_
  refine wp_istore_n (j := 3) (Nat.le_of_ble_eq_true rfl) (rfl : _ = [_, _, _, _, _]) q200_ok d200_5 ?_
  refine wp_iconst (v := 0) (by decide) q200_ok d200_6 ?_
  refine wp_istore (j := 4) (Nat.le_of_ble_eq_true rfl) (rfl : _ = [_, _, _, _, _]) q200_ok d200_7 ?_
  refine wp_post (m_late_l hsh hr (MR_qf hR q1) hS1 hN hb N 0 d1 (by omega) (pf_refl d1) hM1) (fun v μ hc => ?_)
  obtain ⟨rfl, d9, rfl, q9, hM9⟩ := hc
  exact ⟨rfl, d9, rfl, qf_trans q1 q9, hM9⟩
theorem le_sub1 {i : Int32} {n : Nat} (h : n ≤ 6) : i ≤ nI n - 1 ↔ i < nI n := by
  have e : ∀ n, n ≤ 6 → (nI n - 1).toInt = n - 1 ∧ (nI n).toInt = n := by decide
  obtain ⟨e1, e2⟩ := e n h
  rw [Int32.le_iff_toInt_le, Int32.lt_iff_toInt_lt, e1, e2]
  omega
theorem mper_T {d : mm_D} {T : wo_T} {o : wo_O} (hR : MR d T o) (i : Int32) : (0 ≤ i ∧ i ≤ d 250 26 - 1) ↔ perT T i := by
  unfold perT
  rw [hR.2.2.2.1, le_sub1 hR.1]
theorem mbel_T {d : mm_D} {T : wo_T} {o : wo_O} (hR : MR d T o) (i : Int32) : (0 ≤ i ∧ i ≤ d 250 27 - 1) ↔ belT T i := by
  unfold belT
  rw [hR.2.2.2.2.1, le_sub1 (by have := hR.2.1; omega)]
theorem mare_T {d : mm_D} {T : wo_T} {o : wo_O} (hR : MR d T o) (i : Int32) : (¬ d 250 26 ≤ 0 ∧ (1 ≤ i ∧ i ≤ 240)) ↔ (hasT T ∧ ahdT i) := by
  unfold hasT ahdT
  rw [hR.2.2.2.1, nI_le0 (by have := hR.1; omega)]
theorem mper_v {d : mm_D} {T : wo_T} {o : wo_O} (hR : MR d T o) (i : Int32) : (if 0 ≤ i ∧ i ≤ d 250 26 - 1 then (1 : Int32) else 0) = if perT T i then 1 else 0 := by
  by_cases q : perT T i
  · rw [if_pos q, if_pos ((mper_T hR i).mpr q)]
  · rw [if_neg q, if_neg (fun w => q ((mper_T hR i).mp w))]
theorem mbel_v {d : mm_D} {T : wo_T} {o : wo_O} (hR : MR d T o) (i : Int32) : (if 0 ≤ i ∧ i ≤ d 250 27 - 1 then (1 : Int32) else 0) = if belT T i then 1 else 0 := by
  by_cases q : belT T i
  · rw [if_pos q, if_pos ((mbel_T hR i).mpr q)]
  · rw [if_neg q, if_neg (fun w => q ((mbel_T hR i).mp w))]
theorem mare_v {d : mm_D} {T : wo_T} {o : wo_O} (hR : MR d T o) (i : Int32) : (if ¬ d 250 26 ≤ 0 ∧ (1 ≤ i ∧ i ≤ 240) then (1 : Int32) else 0) = if hasT T ∧ ahdT i then 1 else 0 := by
  by_cases q : hasT T ∧ ahdT i
  · rw [if_pos q, if_pos ((mare_T hR i).mpr q)]
  · rw [if_neg q, if_neg (fun w => q ((mare_T hR i).mp w))]
theorem m_late {xs : List Int32} {ext : mm_X} {n : Nat} {sh : mm_S} {d : mm_D} {g : mm_G} {r : mm_R} {T : wo_T} {B : wo_A} (hsh : shp sh) (hr : rfx r) (hR : MR d T (o0 T)) (hB : hM d B) (hbn : tnb T ≠ 0 → tnp T ≠ 0) (i n1 : Int32) : wp xs ext (n + 10) 201 0 [some (.ref 250), some (.int i), some (.int n1)] [] (sh, d, g, r) (fun v μ => v = some (.int (lateQ T B i n1)) ∧ ∃ d2, μ = (sh, d2, g, r) ∧ qf d d2 ∧ hM d2 B) := by
  refine wp_aload_n (j := 0) rfl q201_ok d201_0 ?_
  refine wp_iload_n (j := 1) rfl q201_ok d201_1 ?_
  refine wp_cV q201_ok d201_2 ml_11_327 rfl q178_ok (u := 11) rfl (by first | assumption | exact so0 hsh rfl) rfl (Nat.le_of_ble_eq_true rfl) (Nat.le_of_ble_eq_true rfl) (m_isBell hsh hr _) (fun v2 μ2 hc => ?_)
  obtain ⟨rfl, rfl⟩ := hc
  refine ⟨mm_le_same rfl, ?_⟩
  rw [mbel_v hR i]
  by_cases c1 : belT T i
  · rw [if_pos c1]
    have hlt := bel_lt c1 hR.2.1
    have hh : hasT T := hbn (by omega)
    refine wp_if_eq q201_ok d201_5 (t := 25) rfl (fun h5 => ?_) (fun h5 => ?_)
    · exact absurd h5 (by decide)
    · refine wp_aload_n (j := 0) rfl q201_ok d201_8 ?_
      refine wp_iload_n (j := 2) rfl q201_ok d201_9 ?_
      refine wp_cV q201_ok d201_10 ml_11_337 rfl q192_ok (u := 11) rfl (by first | assumption | exact so0 hsh rfl) rfl (Nat.le_of_ble_eq_true rfl) (Nat.le_of_ble_eq_true rfl) (m_are hsh hr _) (fun v10 μ10 hc => ?_)
      obtain ⟨rfl, rfl⟩ := hc
      refine ⟨mm_le_same rfl, ?_⟩
      rw [mare_v hR n1]
      by_cases c2 : ahdT n1
      · rw [if_pos ⟨hh, c2⟩]
        have hie := nI_ofn c1.1
        obtain ⟨N, hN1, hN, hNe⟩ := ahd_of (fun e => (ahd_T n1).mp e c2)
        have hNc : n1.toNatClampNeg = N := by rw [hNe]; exact nI_clamp (by omega)
        refine wp_if_eq q201_ok d201_13 (t := 25) rfl (fun h13 => ?_) (fun h13 => ?_)
        · exact absurd h13 (by decide)
        · refine wp_aload_n (j := 0) rfl q201_ok d201_16 ?_
          refine wp_iload_n (j := 1) rfl q201_ok d201_17 ?_
          refine wp_iload_n (j := 2) rfl q201_ok d201_18 ?_
          have hgo := m_lateOf (xs := xs) (ext := ext) (n := n) (g := g) hsh hr hR hB (N := N) (b := i.toNatClampNeg) (by omega) (by have := hR.2.1; omega)
          rw [← hNe, ← hie] at hgo
          refine wp_cV q201_ok d201_19 ml_11_365 rfl q200_ok (u := 11) rfl (by first | assumption | exact so0 hsh rfl) rfl (Nat.le_of_ble_eq_true rfl) (Nat.le_of_ble_eq_true rfl) (hgo) (fun v19 μ19 hc => ?_)
          obtain ⟨rfl, d9, rfl, q9, hM9⟩ := hc
          refine ⟨mm_le_same rfl, ?_⟩
          refine wp_goto (t := 26) rfl q201_ok d201_22 ?_
          refine wp_iret q201_ok d201_26 rfl ?_
          exact ⟨by unfold lateQ; rw [if_pos c1, if_pos c2, hNc], d9, rfl, q9, hM9⟩
      · rw [if_neg (fun q => c2 q.2)]
        refine wp_if_eq q201_ok d201_13 (t := 25) rfl (fun h13 => ?_) (fun h13 => ?_)
        · refine wp_iconst (v := -1) (by decide) q201_ok d201_25 ?_
          refine wp_iret q201_ok d201_26 rfl ?_
          exact ⟨by unfold lateQ; rw [if_pos c1, if_neg c2], d, rfl, qf_refl d, hB⟩
        · exact absurd rfl h13
  · rw [if_neg c1]
    refine wp_if_eq q201_ok d201_5 (t := 25) rfl (fun h5 => ?_) (fun h5 => ?_)
    · refine wp_iconst (v := -1) (by decide) q201_ok d201_25 ?_
      refine wp_iret q201_ok d201_26 rfl ?_
      exact ⟨by unfold lateQ; rw [if_neg c1], d, rfl, qf_refl d, hB⟩
    · exact absurd rfl h5
