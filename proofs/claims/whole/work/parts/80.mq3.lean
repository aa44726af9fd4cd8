/-! ===== ears, strike, lovers of the model ===== -/
theorem rung_s {T : wo_T} {o : wo_O} {B : wo_A} {b k : Nat} (hb : b < tnb T) : (aN T o B (k + 1)).2.2 b = if rrA T o B b k = 0 then (aN T o B k).2.2 b else (aN T o B k).2.2 b + 1 := by
  show (if b < tnb T then (if rrA T o B b k = 0 then (aN T o B k).2.2 b else (aN T o B k).2.2 b + 1) else (aN T o B k).2.2 b) = _
  rw [if_pos hb]
theorem i32_as (x y : Int32) : x + 1 - y = x - y + 1 := by grind
theorem nI_lt1 {c : Nat} {i : Int32} (hc : c < 2 ^ 30) (h : nI c ≤ i) (hn : ¬ nI c = i) : nI (c + 1) ≤ i := by
  have e := nI_ofn (Int32.le_trans (nI_pos' (show c < 2 ^ 31 by omega)) h)
  have hl : i.toNatClampNeg < 2 ^ 31 := by
    have := Int32.toInt_lt i
    unfold Int32.toNatClampNeg
    omega
  generalize i.toNatClampNeg = m at e hl
  subst e
  have h1 := (nI_leI (by omega) hl).mp h
  refine (nI_leI (by omega) hl).mpr ?_
  have : ¬ c = m := fun q => hn (by rw [q])
  omega
theorem m_ears_l {xs : List Int32} {ext : mm_X} {n : Nat} {sh : mm_S} {d : mm_D} {g : mm_G} {r : mm_R} {T : wo_T} {o : wo_O} {B : wo_A} (hsh : shp sh) (hr : rfx r) (hR : MR d T o) (hSd : hS d B) {N p : Nat} (hp : p < tnp T) (hMd : hM d (aN T o B N)) : ∀ (z b : Nat), z + b = tnb T → wp xs ext (n + 9) 203 32 [some (.ref 250), some (.int (nI p)), some (.int (nI N)), some (.int (earA T o B p N b)), some (.int (nI b))] [] (sh, d, g, r) (fun v μ => v = some (.int (earA T o B p N (tnb T))) ∧ ∃ d2, μ = (sh, d2, g, r) ∧ qf d d2 ∧ hM d2 B) := by
  have hnb2 := hR.2.1
  have hnp6 := hR.1
  have hbm := hR.2.2.2.2.1
  have hfar := hR.2.2.2.2.2.2.2.2.2.1 p hp
  intro z
  induction z with
  | zero =>
    intro b hz
    have hvb : b = tnb T := by omega
    subst hvb
    refine wp_iload (j := 4) rfl q203_ok d203_32 ?_
    refine wp_aload_n (j := 0) rfl q203_ok d203_34 ?_
    refine wp_getI q203_ok d203_35 fl_11_268 rfl (by first | assumption | exact so0 hsh rfl) (by first | assumption | rfl) ?_
    refine wp_icmp_ge q203_ok d203_38 (t := 93) rfl (fun h38 => ?_) (fun h38 => ?_)
    · refine wp_aload_n (j := 0) rfl q203_ok d203_93 ?_
      refine wp_cV q203_ok d203_94 ml_11_362 rfl q196_ok (u := 11) rfl (by first | assumption | exact so0 hsh rfl) rfl (Nat.le_of_ble_eq_true rfl) (Nat.le_of_ble_eq_true rfl) (m_back hsh hr hSd) (fun v94 μ94 hc => ?_)
      obtain ⟨rfl, d9, rfl, q9, hM9⟩ := hc
      refine ⟨mm_le_same rfl, ?_⟩
      refine wp_iload_n (j := 3) rfl q203_ok d203_97 ?_
      refine wp_iret q203_ok d203_98 rfl ?_
      exact ⟨rfl, d9, rfl, q9, hM9⟩
    · exact absurd (nI_le (Nat.le_refl _) (by omega)) h38
  | succ z ih =>
    intro b hz
    have hlt : b < tnb T := by omega
    have hrec := (hR.2.2.2.2.2.2.2.2.2.2.1 b hlt).2.2.1
    refine wp_iload (j := 4) rfl q203_ok d203_32 ?_
    refine wp_aload_n (j := 0) rfl q203_ok d203_34 ?_
    refine wp_getI q203_ok d203_35 fl_11_268 rfl (by first | assumption | exact so0 hsh rfl) (by first | assumption | rfl) ?_
    refine wp_icmp_ge q203_ok d203_38 (t := 93) rfl (fun h38 => ?_) (fun h38 => ?_)
    · exact absurd h38 (nI_ge hlt (by omega))
    · refine wp_iload_n (j := 3) rfl q203_ok d203_41 ?_
      refine wp_aload_n (j := 0) rfl q203_ok d203_42 ?_
      refine wp_getR q203_ok d203_43 fl_11_49 rfl (by first | assumption | exact so0 hsh rfl) (by first | assumption | exact hr _ _ _ rfl) ?_
      refine wp_iconst (v := 4) (by decide) q203_ok d203_46 ?_
      refine wp_iload_n (j := 1) rfl q203_ok d203_47 ?_
      refine wp_imul rfl q203_ok d203_48 ?_
      refine wp_iconst (v := 3) (by decide) q203_ok d203_49 ?_
      refine wp_iadd rfl q203_ok d203_50 ?_
      refine wp_iald (m := 24) q203_ok d203_51 (by first | assumption | exact so0 hsh rfl) (shl hsh (m := 24) (Nat.le_of_ble_eq_true rfl) rfl) (show ixn (4 * nI p + 3) (4 * p + 3) 24 from by rw [show (4 : Int32) * nI p + 3 = nI (4 * p + 3) from nI_4 p 3]; exact ixn_nI (by omega)) hfar ?_ (shK hsh)
      refine wp_aload_n (j := 0) rfl q203_ok d203_52 ?_
      refine wp_getR q203_ok d203_53 fl_11_55 rfl (by first | assumption | exact so0 hsh rfl) (by first | assumption | exact hr _ _ _ rfl) ?_
      refine wp_iconst (v := 3) (by decide) q203_ok d203_56 ?_
      refine wp_iload (j := 4) rfl q203_ok d203_57 ?_
      refine wp_imul rfl q203_ok d203_59 ?_
      refine wp_iconst (v := 2) (by decide) q203_ok d203_60 ?_
      refine wp_iadd rfl q203_ok d203_61 ?_
      refine wp_iald (m := 6) q203_ok d203_62 (by first | assumption | exact so0 hsh rfl) (shl hsh (m := 6) (Nat.le_of_ble_eq_true rfl) rfl) (show ixn (3 * nI b + 2) (3 * b + 2) 6 from by rw [show (3 : Int32) * nI b + 2 = nI (3 * b + 2) from nI_3 b 2]; exact ixn_nI (by omega)) hrec ?_ (shK hsh)
      refine wp_icmp_gt q203_ok d203_63 (t := 84) rfl (fun h63 => ?_) (fun h63 => ?_)
      · refine wp_iconst (v := 0) (by decide) q203_ok d203_84 ?_
        refine wp_iadd rfl q203_ok d203_85 ?_
        refine wp_istore_n (j := 3) (Nat.le_of_ble_eq_true rfl) (rfl : _ = [_, _, _, _, _]) q203_ok d203_86 ?_
        refine wp_iinc (j := 4) rfl (by first | exact inc1 | rfl) (rfl : _ = [_, _, _, _, _]) q203_ok d203_87 ?_
        refine wp_goto (t := 32) rfl q203_ok d203_90 ?_
        have this := ih (b + 1) (by omega)
        rw [earA, if_neg (Int32.not_le.mpr h63)] at this
        exact this
      · refine wp_aload_n (j := 0) rfl q203_ok d203_66 ?_
        refine wp_getR q203_ok d203_67 fl_11_64 rfl (by first | assumption | exact so0 hsh rfl) (by first | assumption | exact hr _ _ _ rfl) ?_
        refine wp_iload (j := 4) rfl q203_ok d203_70 ?_
        refine wp_iald (m := 2) q203_ok d203_72 (by first | assumption | exact so0 hsh rfl) (shl hsh (m := 2) (Nat.le_of_ble_eq_true rfl) rfl) (ixn_nI (show b < 2 by omega)) (hMd.2 b (by omega)).2 ?_ (shK hsh)
        refine wp_aload_n (j := 0) rfl q203_ok d203_73 ?_
        refine wp_getR q203_ok d203_74 fl_11_84 rfl (by first | assumption | exact so0 hsh rfl) (by first | assumption | exact hr _ _ _ rfl) ?_
        refine wp_iload (j := 4) rfl q203_ok d203_77 ?_
        refine wp_iald (m := 2) q203_ok d203_79 (by first | assumption | exact so0 hsh rfl) (shl hsh (m := 2) (Nat.le_of_ble_eq_true rfl) rfl) (ixn_nI (show b < 2 by omega)) (hSd.2 b (by omega)).2 ?_ (shK hsh)
        refine wp_isub rfl q203_ok d203_80 ?_
        refine wp_goto (t := 85) rfl q203_ok d203_81 ?_
        refine wp_iadd rfl q203_ok d203_85 ?_
        refine wp_istore_n (j := 3) (Nat.le_of_ble_eq_true rfl) (rfl : _ = [_, _, _, _, _]) q203_ok d203_86 ?_
        refine wp_iinc (j := 4) rfl (by first | exact inc1 | rfl) (rfl : _ = [_, _, _, _, _]) q203_ok d203_87 ?_
        refine wp_goto (t := 32) rfl q203_ok d203_90 ?_
        have this := ih (b + 1) (by omega)
        rw [earA, if_pos (Int32.not_lt.mp h63)] at this
        exact this
theorem m_ears {xs : List Int32} {ext : mm_X} {n : Nat} {sh : mm_S} {d : mm_D} {g : mm_G} {r : mm_R} {T : wo_T} {B : wo_A} (hsh : shp sh) (hr : rfx r) (hR : MR d T (o0 T)) (hB : hM d B) (hbn : tnb T ≠ 0 → tnp T ≠ 0) (i n1 : Int32) : wp xs ext (n + 10) 203 0 [some (.ref 250), some (.int i), some (.int n1), none, none] [] (sh, d, g, r) (fun v μ => v = some (.int (earsQ T B i n1)) ∧ ∃ d2, μ = (sh, d2, g, r) ∧ qf d d2 ∧ hM d2 B) := by
  refine wp_aload_n (j := 0) rfl q203_ok d203_0 ?_
  refine wp_iload_n (j := 1) rfl q203_ok d203_1 ?_
  refine wp_cV q203_ok d203_2 ml_11_324 rfl q177_ok (u := 11) rfl (by first | assumption | exact so0 hsh rfl) rfl (Nat.le_of_ble_eq_true rfl) (Nat.le_of_ble_eq_true rfl) (m_isPerson hsh hr _) (fun v2 μ2 hc => ?_)
  obtain ⟨rfl, rfl⟩ := hc
  refine ⟨mm_le_same rfl, ?_⟩
  rw [mper_v hR i]
  by_cases c0 : perT T i
  · rw [if_pos c0]
    have hh : hasT T := by have := per_lt c0 hR.1; intro q; omega
    refine wp_if_eq q203_ok d203_5 (t := 16) rfl (fun h5 => ?_) (fun h5 => ?_)
    · exact absurd h5 (by decide)
    · refine wp_aload_n (j := 0) rfl q203_ok d203_8 ?_
      refine wp_iload_n (j := 2) rfl q203_ok d203_9 ?_
      refine wp_cV q203_ok d203_10 ml_11_337 rfl q192_ok (u := 11) rfl (by first | assumption | exact so0 hsh rfl) rfl (Nat.le_of_ble_eq_true rfl) (Nat.le_of_ble_eq_true rfl) (m_are hsh hr _) (fun v10 μ10 hc => ?_)
      obtain ⟨rfl, rfl⟩ := hc
      refine ⟨mm_le_same rfl, ?_⟩
      rw [mare_v hR n1]
      by_cases c1 : ahdT n1
      · rw [if_pos ⟨hh, c1⟩]
        refine wp_if_ne q203_ok d203_13 (t := 18) rfl (fun h13 => ?_) (fun h13 => ?_)
        · have hip : i.toNatClampNeg < tnp T := per_lt c0 hR.1
          have hie := nI_ofn c0.1
          generalize hic : i.toNatClampNeg = p at hip hie
          obtain ⟨N, hN1, hN, hNe⟩ := ahd_of (fun e => (ahd_T n1).mp e c1)
          have hNc : n1.toNatClampNeg = N := by rw [hNe]; exact nI_clamp (by omega)
          subst hNe
          subst hie
          refine wp_aload_n (j := 0) rfl q203_ok d203_18 ?_
          refine wp_cV q203_ok d203_19 ml_11_356 rfl q195_ok (u := 11) rfl (by first | assumption | exact so0 hsh rfl) rfl (Nat.le_of_ble_eq_true rfl) (Nat.le_of_ble_eq_true rfl) (m_put hsh hr hB) (fun v19 μ19 hc => ?_)
          obtain ⟨rfl, d1, rfl, q1, hM1, hS1⟩ := hc
          refine ⟨mm_le_same rfl, ?_⟩
          refine wp_aload_n (j := 0) rfl q203_ok d203_22 ?_
          refine wp_iload_n (j := 2) rfl q203_ok d203_23 ?_
          refine wp_cV q203_ok d203_24 ml_11_359 rfl q197_ok (u := 11) rfl (by first | assumption | exact so0 hsh rfl) rfl (Nat.le_of_ble_eq_true rfl) (Nat.le_of_ble_eq_true rfl) (m_all (n := n) hsh hr (MR_qf hR q1) hM1 (show N < 2 ^ 31 by omega)) (fun v24 μ24 hc => ?_)
          obtain ⟨rfl, d2, rfl, f2, hM2⟩ := hc
          refine ⟨mm_le_same rfl, ?_⟩
          refine wp_iconst (v := 0) (by decide) q203_ok d203_27 ?_
          refine wp_istore_n (j := 3) (Nat.le_of_ble_eq_true rfl) (rfl : _ = [_, _, _, _, _]) q203_ok d203_28 ?_
          refine wp_iconst (v := 0) (by decide) q203_ok d203_29 ?_
          refine wp_istore (j := 4) (Nat.le_of_ble_eq_true rfl) (rfl : _ = [_, _, _, _, _]) q203_ok d203_30 ?_
          have q2 := qf_trans q1 (qf_pf f2)
          refine wp_post (m_ears_l hsh hr (MR_qf hR q2) (hS_pf hS1 f2) hip hM2 (tnb T) 0 (by omega)) (fun v μ hc => ?_)
          obtain ⟨rfl, d9, rfl, q9, hM9⟩ := hc
          exact ⟨by unfold earsQ; rw [if_pos c0, if_pos c1, hic, hNc], d9, rfl, qf_trans q2 q9, hM9⟩
        · have h13 := Classical.not_not.mp h13
          exact absurd h13 (by decide)
      · rw [if_neg (fun q => c1 q.2)]
        refine wp_if_ne q203_ok d203_13 (t := 18) rfl (fun h13 => ?_) (fun h13 => ?_)
        · exact absurd rfl h13
        · have h13 := Classical.not_not.mp h13
          refine wp_iconst (v := -1) (by decide) q203_ok d203_16 ?_
          refine wp_iret q203_ok d203_17 rfl ?_
          exact ⟨by unfold earsQ; rw [if_pos c0, if_neg c1], d, rfl, qf_refl d, hB⟩
  · rw [if_neg c0]
    refine wp_if_eq q203_ok d203_5 (t := 16) rfl (fun h5 => ?_) (fun h5 => ?_)
    · refine wp_iconst (v := -1) (by decide) q203_ok d203_16 ?_
      refine wp_iret q203_ok d203_17 rfl ?_
      exact ⟨by unfold earsQ; rw [if_neg c0], d, rfl, qf_refl d, hB⟩
    · exact absurd rfl h5
theorem m_str_fin {xs : List Int32} {ext : mm_X} {n : Nat} {sh : mm_S} {d : mm_D} {g : mm_G} {r : mm_R} {B : wo_A} (hsh : shp sh) (hr : rfx r) (hSd : hS d B) (i w m f y : Int32) (hf : ¬ f = -1) : wp xs ext (n + 9) 199 26 [some (.ref 250), some (.int i), some (.int w), some (.int m), some (.int f), some (.int y)] [] (sh, d, g, r) (fun v μ => v = some (.int f) ∧ ∃ d2, μ = (sh, d2, g, r) ∧ qf d d2 ∧ hM d2 B) := by
  refine wp_iload (j := 5) rfl q199_ok d199_26 ?_
  refine wp_sipush (v := 240) (by decide) q199_ok d199_28 ?_
  refine wp_icmp_ge q199_ok d199_31 (t := 76) rfl (fun h31 => ?_) (fun h31 => ?_)
  · refine wp_aload_n (j := 0) rfl q199_ok d199_76 ?_
    refine wp_cV q199_ok d199_77 ml_11_362 rfl q196_ok (u := 11) rfl (by first | assumption | exact so0 hsh rfl) rfl (Nat.le_of_ble_eq_true rfl) (Nat.le_of_ble_eq_true rfl) (m_back hsh hr hSd) (fun v77 μ77 hc => ?_)
    obtain ⟨rfl, d9, rfl, q9, hM9⟩ := hc
    refine ⟨mm_le_same rfl, ?_⟩
    refine wp_iload (j := 4) rfl q199_ok d199_80 ?_
    refine wp_iret q199_ok d199_82 rfl ?_
    exact ⟨rfl, d9, rfl, q9, hM9⟩
  · refine wp_iload (j := 4) rfl q199_ok d199_34 ?_
    refine wp_iconst (v := -1) (by decide) q199_ok d199_36 ?_
    refine wp_icmp_ne q199_ok d199_37 (t := 76) rfl (fun h37 => ?_) (fun h37 => ?_)
    · refine wp_aload_n (j := 0) rfl q199_ok d199_76 ?_
      refine wp_cV q199_ok d199_77 ml_11_362 rfl q196_ok (u := 11) rfl (by first | assumption | exact so0 hsh rfl) rfl (Nat.le_of_ble_eq_true rfl) (Nat.le_of_ble_eq_true rfl) (m_back hsh hr hSd) (fun v77 μ77 hc => ?_)
      obtain ⟨rfl, d9, rfl, q9, hM9⟩ := hc
      refine ⟨mm_le_same rfl, ?_⟩
      refine wp_iload (j := 4) rfl q199_ok d199_80 ?_
      refine wp_iret q199_ok d199_82 rfl ?_
      exact ⟨rfl, d9, rfl, q9, hM9⟩
    · have h37 := Classical.not_not.mp h37
      exact absurd h37 hf
theorem m_str_l {xs : List Int32} {ext : mm_X} {n : Nat} {sh : mm_S} {d : mm_D} {g : mm_G} {r : mm_R} {T : wo_T} {o : wo_O} {B : wo_A} (hsh : shp sh) (hr : rfx r) (hR : MR d T o) (hSd : hS d B) {b : Nat} (w : Int32) (hb : b < tnb T) : ∀ (z k : Nat) (d1 : mm_D) (c : Nat) (hc : c ≤ k ∧ nI c ≤ w ∧ (aN T o B k).2.2 b - B.2.2 b = nI c), z + k = 240 → pf d d1 → hM d1 (aN T o B k) → wp xs ext (n + 9) 199 26 [some (.ref 250), some (.int (nI b)), some (.int w), some (.int (nI c)), some (.int (-1)), some (.int (nI k))] [] (sh, d1, g, r) (fun v μ => v = some (.int (strA T o B b w z k)) ∧ ∃ d2, μ = (sh, d2, g, r) ∧ qf d d2 ∧ hM d2 B) := by
  have hnb2 := hR.2.1
  intro z
  induction z with
  | zero =>
    intro k d1 c hc hz p1 hM1
    have hvb : k = 240 := by omega
    subst hvb
    have hR1 := MR_pf hR p1
    refine wp_iload (j := 5) rfl q199_ok d199_26 ?_
    refine wp_sipush (v := 240) (by decide) q199_ok d199_28 ?_
    refine wp_icmp_ge q199_ok d199_31 (t := 76) rfl (fun h31 => ?_) (fun h31 => ?_)
    · refine wp_aload_n (j := 0) rfl q199_ok d199_76 ?_
      refine wp_cV q199_ok d199_77 ml_11_362 rfl q196_ok (u := 11) rfl (by first | assumption | exact so0 hsh rfl) rfl (Nat.le_of_ble_eq_true rfl) (Nat.le_of_ble_eq_true rfl) (m_back hsh hr (hS_pf hSd p1)) (fun v77 μ77 hc => ?_)
      obtain ⟨rfl, d9, rfl, q9, hM9⟩ := hc
      refine ⟨mm_le_same rfl, ?_⟩
      refine wp_iload (j := 4) rfl q199_ok d199_80 ?_
      refine wp_iret q199_ok d199_82 rfl ?_
      exact ⟨rfl, d9, rfl, qf_trans (qf_pf p1) q9, hM9⟩
    · exact absurd (nI_le (Nat.le_refl _) (by decide)) h31
  | succ z ih =>
    intro k d1 c hc hz p1 hM1
    have hlt : k < 240 := by omega
    have hR1 := MR_pf hR p1
    refine wp_iload (j := 5) rfl q199_ok d199_26 ?_
    refine wp_sipush (v := 240) (by decide) q199_ok d199_28 ?_
    refine wp_icmp_ge q199_ok d199_31 (t := 76) rfl (fun h31 => ?_) (fun h31 => ?_)
    · exact absurd h31 (nI_ge hlt (by decide))
    · refine wp_iload (j := 4) rfl q199_ok d199_34 ?_
      refine wp_iconst (v := -1) (by decide) q199_ok d199_36 ?_
      refine wp_icmp_ne q199_ok d199_37 (t := 76) rfl (fun h37 => ?_) (fun h37 => ?_)
      · exact absurd rfl h37
      · have h37 := Classical.not_not.mp h37
        refine wp_aload_n (j := 0) rfl q199_ok d199_40 ?_
        refine wp_iconst (v := 0) (by decide) q199_ok d199_41 ?_
        refine wp_cV q199_ok d199_42 ml_11_349 rfl q184_ok (u := 11) rfl (by first | assumption | exact so0 hsh rfl) rfl (Nat.le_of_ble_eq_true rfl) (Nat.le_of_ble_eq_true rfl) (m_pass (n := n) hsh hr hR1 hM1 0) (fun v42 μ42 hc => ?_)
        obtain ⟨rfl, d2, rfl, f2, hM2, rg2, sn2⟩ := hc
        refine ⟨mm_le_same rfl, ?_⟩
        rw [sgM0] at hM2 rg2 sn2
        have hM2 : hM d2 (aN T o B (k + 1)) := hM2
        have p2 := pf_trans p1 f2
        refine wp_aload_n (j := 0) rfl q199_ok d199_45 ?_
        refine wp_getR q199_ok d199_46 fl_11_67 rfl (by first | assumption | exact so0 hsh rfl) (by first | assumption | exact hr _ _ _ rfl) ?_
        refine wp_iload_n (j := 1) rfl q199_ok d199_49 ?_
        refine wp_bald (m := 2) q199_ok d199_50 (by first | assumption | exact so0 hsh rfl) (shl hsh (m := 2) (Nat.le_of_ble_eq_true rfl) rfl) (ixn_nI (show b < 2 by omega)) (rg2 b hb) ?_
        refine wp_if_eq q199_ok d199_51 (t := 70) rfl (fun h51 => ?_) (fun h51 => ?_)
        · refine wp_iinc (j := 5) rfl (by first | exact inc1 | rfl) (rfl : _ = [_, _, _, _, _, _]) q199_ok d199_70 ?_
          refine wp_goto (t := 26) rfl q199_ok d199_73 ?_
          have er : (aN T o B (k + 1)).2.2 b = (aN T o B k).2.2 b := (rung_s hb).trans (if_pos h51)
          have this := ih (k + 1) d2 c ⟨by omega, hc.2.1, by rw [er]; exact hc.2.2⟩ (by omega) p2 hM2
          rw [strA, if_pos (by rw [er, hc.2.2]; exact hc.2.1)]
          exact this
        · refine wp_iload_n (j := 3) rfl q199_ok d199_54 ?_
          refine wp_iload_n (j := 2) rfl q199_ok d199_55 ?_
          refine wp_icmp_ne q199_ok d199_56 (t := 64) rfl (fun h56 => ?_) (fun h56 => ?_)
          · refine wp_iconst (v := -1) (by decide) q199_ok d199_64 ?_
            refine wp_istore (j := 4) (Nat.le_of_ble_eq_true rfl) (rfl : _ = [_, _, _, _, _, _]) q199_ok d199_65 ?_
            refine wp_iinc (j := 3) rfl (by first | exact inc1 | rfl) (rfl : _ = [_, _, _, _, _, _]) q199_ok d199_67 ?_
            refine wp_iinc (j := 5) rfl (by first | exact inc1 | rfl) (rfl : _ = [_, _, _, _, _, _]) q199_ok d199_70 ?_
            refine wp_goto (t := 26) rfl q199_ok d199_73 ?_
            have er : (aN T o B (k + 1)).2.2 b = (aN T o B k).2.2 b + 1 := (rung_s hb).trans (if_neg h51)
            have e1 : (aN T o B (k + 1)).2.2 b - B.2.2 b = nI (c + 1) := by rw [er, i32_as, hc.2.2]; exact nI_1 c
            have hl := nI_lt1 (by omega) hc.2.1 h56
            have this := ih (k + 1) d2 (c + 1) ⟨by omega, hl, e1⟩ (by omega) p2 hM2
            rw [strA, if_pos (by rw [e1]; exact hl)]
            exact this
          · have h56 := Classical.not_not.mp h56
            refine wp_iload (j := 5) rfl q199_ok d199_59 ?_
            refine wp_goto (t := 65) rfl q199_ok d199_61 ?_
            refine wp_istore (j := 4) (Nat.le_of_ble_eq_true rfl) (rfl : _ = [_, _, _, _, _, _]) q199_ok d199_65 ?_
            refine wp_iinc (j := 3) rfl (by first | exact inc1 | rfl) (rfl : _ = [_, _, _, _, _, _]) q199_ok d199_67 ?_
            refine wp_iinc (j := 5) rfl (by first | exact inc1 | rfl) (rfl : _ = [_, _, _, _, _, _]) q199_ok d199_70 ?_
            refine wp_goto (t := 26) rfl q199_ok d199_73 ?_
            have er : (aN T o B (k + 1)).2.2 b = (aN T o B k).2.2 b + 1 := (rung_s hb).trans (if_neg h51)
            have e1 : (aN T o B (k + 1)).2.2 b - B.2.2 b = nI (c + 1) := by rw [er, i32_as, hc.2.2]; exact nI_1 c
            rw [strA, if_neg (by rw [e1, ← h56]; exact fun q => absurd ((nI_leI (by omega) (by omega)).mp q) (by omega))]
            refine wp_post (m_str_fin hsh hr (hS_pf hSd p2) _ _ _ (nI k) _ (nI_nm1 (by omega))) (fun v μ hc => ?_)
            obtain ⟨rfl, d9, rfl, q9, hM9⟩ := hc
            exact ⟨rfl, d9, rfl, qf_trans (qf_pf p2) q9, hM9⟩
theorem m_strike {xs : List Int32} {ext : mm_X} {n : Nat} {sh : mm_S} {d : mm_D} {g : mm_G} {r : mm_R} {T : wo_T} {B : wo_A} (hsh : shp sh) (hr : rfx r) (hR : MR d T (o0 T)) (hB : hM d B) (hbn : tnb T ≠ 0 → tnp T ≠ 0) (i n1 : Int32) : wp xs ext (n + 10) 199 0 [some (.ref 250), some (.int i), some (.int n1), none, none, none] [] (sh, d, g, r) (fun v μ => v = some (.int (strikeQ T B i n1)) ∧ ∃ d2, μ = (sh, d2, g, r) ∧ qf d d2 ∧ hM d2 B) := by
  refine wp_aload_n (j := 0) rfl q199_ok d199_0 ?_
  refine wp_iload_n (j := 1) rfl q199_ok d199_1 ?_
  refine wp_cV q199_ok d199_2 ml_11_327 rfl q178_ok (u := 11) rfl (by first | assumption | exact so0 hsh rfl) rfl (Nat.le_of_ble_eq_true rfl) (Nat.le_of_ble_eq_true rfl) (m_isBell hsh hr _) (fun v2 μ2 hc => ?_)
  obtain ⟨rfl, rfl⟩ := hc
  refine ⟨mm_le_same rfl, ?_⟩
  rw [mbel_v hR i]
  by_cases c0 : belT T i
  · rw [if_pos c0]
    have hh : hasT T := hbn (by have := bel_lt c0 hR.2.1; omega)
    refine wp_if_eq q199_ok d199_5 (t := 12) rfl (fun h5 => ?_) (fun h5 => ?_)
    · exact absurd h5 (by decide)
    · refine wp_iload_n (j := 2) rfl q199_ok d199_8 ?_
      refine wp_if_ge q199_ok d199_9 (t := 14) rfl (fun h9 => ?_) (fun h9 => ?_)
      · have c1 : 0 ≤ n1 := Int32.not_lt.mp (Int32.not_lt.mpr h9)
        have hib : i.toNatClampNeg < tnb T := bel_lt c0 hR.2.1
        have hie := nI_ofn c0.1
        generalize hic : i.toNatClampNeg = b at hib hie
        subst hie
        refine wp_aload_n (j := 0) rfl q199_ok d199_14 ?_
        refine wp_cV q199_ok d199_15 ml_11_356 rfl q195_ok (u := 11) rfl (by first | assumption | exact so0 hsh rfl) rfl (Nat.le_of_ble_eq_true rfl) (Nat.le_of_ble_eq_true rfl) (m_put hsh hr hB) (fun v15 μ15 hc => ?_)
        obtain ⟨rfl, d1, rfl, q1, hM1, hS1⟩ := hc
        refine ⟨mm_le_same rfl, ?_⟩
        refine wp_iconst (v := 0) (by decide) q199_ok d199_18 ?_
        refine wp_istore_n (j := 3) (Nat.le_of_ble_eq_true rfl) (rfl : _ = [_, _, _, _, _, _]) q199_ok d199_19 ?_
        refine wp_iconst (v := -1) (by decide) q199_ok d199_20 ?_
        refine wp_istore (j := 4) (Nat.le_of_ble_eq_true rfl) (rfl : _ = [_, _, _, _, _, _]) q199_ok d199_21 ?_
        refine wp_iconst (v := 0) (by decide) q199_ok d199_23 ?_
        refine wp_istore (j := 5) (Nat.le_of_ble_eq_true rfl) (rfl : _ = [_, _, _, _, _, _]) q199_ok d199_24 ?_
        refine wp_post (m_str_l hsh hr (MR_qf hR q1) hS1 n1 hib 240 0 d1 0 ⟨Nat.le_refl _, c1, Int32.sub_self _⟩ (by omega) (pf_refl d1) hM1) (fun v μ hc => ?_)
        obtain ⟨rfl, d9, rfl, q9, hM9⟩ := hc
        exact ⟨by unfold strikeQ; rw [if_pos c0, if_pos c1, hic], d9, rfl, qf_trans q1 q9, hM9⟩
      · refine wp_iconst (v := -1) (by decide) q199_ok d199_12 ?_
        refine wp_iret q199_ok d199_13 rfl ?_
        exact ⟨by unfold strikeQ; rw [if_pos c0, if_neg (fun q => h9 q)], d, rfl, qf_refl d, hB⟩
  · rw [if_neg c0]
    refine wp_if_eq q199_ok d199_5 (t := 12) rfl (fun h5 => ?_) (fun h5 => ?_)
    · refine wp_iconst (v := -1) (by decide) q199_ok d199_12 ?_
      refine wp_iret q199_ok d199_13 rfl ?_
      exact ⟨by unfold strikeQ; rw [if_neg c0], d, rfl, qf_refl d, hB⟩
    · exact absurd rfl h5
theorem m_lov_l {xs : List Int32} {ext : mm_X} {n : Nat} {sh : mm_S} {d : mm_D} {g : mm_G} {r : mm_R} {T : wo_T} {o : wo_O} {B : wo_A} (hsh : shp sh) (hr : rfx r) (hR : MR d T o) (hSd : hS d B) {N p q : Nat} (w : Int32) (hN : N < 2 ^ 31) (hp : p < tnp T) (hq : q < tnp T) : ∀ (z k : Nat) (d1 : mm_D) , z + k = N → pf d d1 → hM d1 (aN T o B k) → wp xs ext (n + 9) 208 56 [some (.ref 250), some (.int (nI p)), some (.int (nI q)), some (.int (nI N)), some (.int w), some (.int (lovMA T o B p q k)), some (.int (lovFA T o B p q k)), some (.int (nI k))] [] (sh, d1, g, r) (fun v μ => v = some (.int (if w = 0 then lovFA T o B p q N else lovMA T o B p q N)) ∧ ∃ d2, μ = (sh, d2, g, r) ∧ qf d d2 ∧ hM d2 B) := by
  have hnb2 := hR.2.1
  intro z
  induction z with
  | zero =>
    intro k d1 hz p1 hM1
    have hvb : N = k := by omega
    subst hvb
    have hR1 := MR_pf hR p1
    refine wp_iload (j := 7) rfl q208_ok d208_56 ?_
    refine wp_iload_n (j := 3) rfl q208_ok d208_58 ?_
    refine wp_icmp_ge q208_ok d208_59 (t := 106) rfl (fun h59 => ?_) (fun h59 => ?_)
    · refine wp_aload_n (j := 0) rfl q208_ok d208_106 ?_
      refine wp_cV q208_ok d208_107 ml_11_362 rfl q196_ok (u := 11) rfl (by first | assumption | exact so0 hsh rfl) rfl (Nat.le_of_ble_eq_true rfl) (Nat.le_of_ble_eq_true rfl) (m_back hsh hr (hS_pf hSd p1)) (fun v107 μ107 hc => ?_)
      obtain ⟨rfl, d9, rfl, q9, hM9⟩ := hc
      refine ⟨mm_le_same rfl, ?_⟩
      refine wp_iload (j := 4) rfl q208_ok d208_110 ?_
      refine wp_if_ne q208_ok d208_112 (t := 120) rfl (fun h112 => ?_) (fun h112 => ?_)
      · refine wp_iload (j := 5) rfl q208_ok d208_120 ?_
        refine wp_iret q208_ok d208_122 rfl ?_
        exact ⟨by rw [if_neg h112], d9, rfl, qf_trans (qf_pf p1) q9, hM9⟩
      · have h112 := Classical.not_not.mp h112
        refine wp_iload (j := 6) rfl q208_ok d208_115 ?_
        refine wp_goto (t := 122) rfl q208_ok d208_117 ?_
        refine wp_iret q208_ok d208_122 rfl ?_
        exact ⟨by rw [if_pos h112], d9, rfl, qf_trans (qf_pf p1) q9, hM9⟩
    · exact absurd (nI_le (Nat.le_refl _) (by omega)) h59
  | succ z ih =>
    intro k d1 hz p1 hM1
    have hlt : k < N := by omega
    have hR1 := MR_pf hR p1
    refine wp_iload (j := 7) rfl q208_ok d208_56 ?_
    refine wp_iload_n (j := 3) rfl q208_ok d208_58 ?_
    refine wp_icmp_ge q208_ok d208_59 (t := 106) rfl (fun h59 => ?_) (fun h59 => ?_)
    · exact absurd h59 (nI_ge hlt (by omega))
    · refine wp_aload_n (j := 0) rfl q208_ok d208_62 ?_
      refine wp_iload_n (j := 1) rfl q208_ok d208_63 ?_
      refine wp_cV q208_ok d208_64 ml_11_308 rfl q180_ok (u := 11) rfl (by first | assumption | exact so0 hsh rfl) rfl (Nat.le_of_ble_eq_true rfl) (Nat.le_of_ble_eq_true rfl) (m_looks (n := n + 3) hsh hr hR1 hM1 hp) (fun v64 μ64 hc => ?_)
      obtain ⟨rfl, da, rfl, fa⟩ := hc
      refine ⟨mm_le_same rfl, ?_⟩
      have hRn := MR_lf hR1 fa
      have hMn := hM_lf hM1 fa
      have pn := pf_trans p1 (pf_lf fa)
      refine wp_if_ne q208_ok d208_67 (t := 95) rfl (fun h67 => ?_) (fun h67 => ?_)
      · refine wp_aload_n (j := 0) rfl q208_ok d208_95 ?_
        refine wp_iconst (v := 0) (by decide) q208_ok d208_96 ?_
        refine wp_cV q208_ok d208_97 ml_11_349 rfl q184_ok (u := 11) rfl (by first | assumption | exact so0 hsh rfl) rfl (Nat.le_of_ble_eq_true rfl) (Nat.le_of_ble_eq_true rfl) (m_pass (n := n) hsh hr hRn hMn 0) (fun v97 μ97 hc => ?_)
        obtain ⟨rfl, d2, rfl, f2, hM2, rg2, sn2⟩ := hc
        refine ⟨mm_le_same rfl, ?_⟩
        rw [sgM0] at hM2 rg2 sn2
        have hM2 : hM d2 (aN T o B (k + 1)) := hM2
        have p2 := pf_trans pn f2
        refine wp_iinc (j := 7) rfl (by first | exact inc1 | rfl) (rfl : _ = [_, _, _, _, _, _, _, _]) q208_ok d208_100 ?_
        refine wp_goto (t := 56) rfl q208_ok d208_103 ?_
        have e0 : ¬ (llA T o B p k = 0 ∧ llA T o B q k = 0) := fun x => h67 x.1
        have this := ih (k + 1) d2 (by omega) p2 hM2
        rw [lovMA, lovFA, if_neg e0, if_neg e0] at this
        exact this
      · have h67 := Classical.not_not.mp h67
        refine wp_aload_n (j := 0) rfl q208_ok d208_70 ?_
        refine wp_iload_n (j := 2) rfl q208_ok d208_71 ?_
        refine wp_cV q208_ok d208_72 ml_11_308 rfl q180_ok (u := 11) rfl (by first | assumption | exact so0 hsh rfl) rfl (Nat.le_of_ble_eq_true rfl) (Nat.le_of_ble_eq_true rfl) (m_looks (n := n + 3) hsh hr hRn hMn hq) (fun v72 μ72 hc => ?_)
        obtain ⟨rfl, db, rfl, fb⟩ := hc
        refine ⟨mm_le_same rfl, ?_⟩
        have hRn := MR_lf hRn fb
        have hMn := hM_lf hMn fb
        have pn := pf_trans pn (pf_lf fb)
        refine wp_if_ne q208_ok d208_75 (t := 95) rfl (fun h75 => ?_) (fun h75 => ?_)
        · refine wp_aload_n (j := 0) rfl q208_ok d208_95 ?_
          refine wp_iconst (v := 0) (by decide) q208_ok d208_96 ?_
          refine wp_cV q208_ok d208_97 ml_11_349 rfl q184_ok (u := 11) rfl (by first | assumption | exact so0 hsh rfl) rfl (Nat.le_of_ble_eq_true rfl) (Nat.le_of_ble_eq_true rfl) (m_pass (n := n) hsh hr hRn hMn 0) (fun v97 μ97 hc => ?_)
          obtain ⟨rfl, d2, rfl, f2, hM2, rg2, sn2⟩ := hc
          refine ⟨mm_le_same rfl, ?_⟩
          rw [sgM0] at hM2 rg2 sn2
          have hM2 : hM d2 (aN T o B (k + 1)) := hM2
          have p2 := pf_trans pn f2
          refine wp_iinc (j := 7) rfl (by first | exact inc1 | rfl) (rfl : _ = [_, _, _, _, _, _, _, _]) q208_ok d208_100 ?_
          refine wp_goto (t := 56) rfl q208_ok d208_103 ?_
          have e0 : ¬ (llA T o B p k = 0 ∧ llA T o B q k = 0) := fun x => h75 x.2
          have this := ih (k + 1) d2 (by omega) p2 hM2
          rw [lovMA, lovFA, if_neg e0, if_neg e0] at this
          exact this
        · have h75 := Classical.not_not.mp h75
          refine wp_iload (j := 5) rfl q208_ok d208_78 ?_
          refine wp_if_ne q208_ok d208_80 (t := 88) rfl (fun h80 => ?_) (fun h80 => ?_)
          · refine wp_iload (j := 6) rfl q208_ok d208_88 ?_
            refine wp_istore (j := 6) (Nat.le_of_ble_eq_true rfl) (rfl : _ = [_, _, _, _, _, _, _, _]) q208_ok d208_90 ?_
            refine wp_iinc (j := 5) rfl (by first | exact inc1 | rfl) (rfl : _ = [_, _, _, _, _, _, _, _]) q208_ok d208_92 ?_
            refine wp_aload_n (j := 0) rfl q208_ok d208_95 ?_
            refine wp_iconst (v := 0) (by decide) q208_ok d208_96 ?_
            refine wp_cV q208_ok d208_97 ml_11_349 rfl q184_ok (u := 11) rfl (by first | assumption | exact so0 hsh rfl) rfl (Nat.le_of_ble_eq_true rfl) (Nat.le_of_ble_eq_true rfl) (m_pass (n := n) hsh hr hRn hMn 0) (fun v97 μ97 hc => ?_)
            obtain ⟨rfl, d2, rfl, f2, hM2, rg2, sn2⟩ := hc
            refine ⟨mm_le_same rfl, ?_⟩
            rw [sgM0] at hM2 rg2 sn2
            have hM2 : hM d2 (aN T o B (k + 1)) := hM2
            have p2 := pf_trans pn f2
            refine wp_iinc (j := 7) rfl (by first | exact inc1 | rfl) (rfl : _ = [_, _, _, _, _, _, _, _]) q208_ok d208_100 ?_
            refine wp_goto (t := 56) rfl q208_ok d208_103 ?_
            have e0 : (llA T o B p k = 0 ∧ llA T o B q k = 0) := ⟨h67, h75⟩
            have this := ih (k + 1) d2 (by omega) p2 hM2
            rw [lovMA, lovFA, if_pos e0, if_pos e0, if_neg h80] at this
            exact this
          · have h80 := Classical.not_not.mp h80
            refine wp_iload (j := 7) rfl q208_ok d208_83 ?_
            refine wp_goto (t := 90) rfl q208_ok d208_85 ?_
            refine wp_istore (j := 6) (Nat.le_of_ble_eq_true rfl) (rfl : _ = [_, _, _, _, _, _, _, _]) q208_ok d208_90 ?_
            refine wp_iinc (j := 5) rfl (by first | exact inc1 | rfl) (rfl : _ = [_, _, _, _, _, _, _, _]) q208_ok d208_92 ?_
            refine wp_aload_n (j := 0) rfl q208_ok d208_95 ?_
            refine wp_iconst (v := 0) (by decide) q208_ok d208_96 ?_
            refine wp_cV q208_ok d208_97 ml_11_349 rfl q184_ok (u := 11) rfl (by first | assumption | exact so0 hsh rfl) rfl (Nat.le_of_ble_eq_true rfl) (Nat.le_of_ble_eq_true rfl) (m_pass (n := n) hsh hr hRn hMn 0) (fun v97 μ97 hc => ?_)
            obtain ⟨rfl, d2, rfl, f2, hM2, rg2, sn2⟩ := hc
            refine ⟨mm_le_same rfl, ?_⟩
            rw [sgM0] at hM2 rg2 sn2
            have hM2 : hM d2 (aN T o B (k + 1)) := hM2
            have p2 := pf_trans pn f2
            refine wp_iinc (j := 7) rfl (by first | exact inc1 | rfl) (rfl : _ = [_, _, _, _, _, _, _, _]) q208_ok d208_100 ?_
            refine wp_goto (t := 56) rfl q208_ok d208_103 ?_
            have e0 : (llA T o B p k = 0 ∧ llA T o B q k = 0) := ⟨h67, h75⟩
            have this := ih (k + 1) d2 (by omega) p2 hM2
            rw [lovMA, lovFA, if_pos e0, if_pos e0, if_pos h80] at this
            exact this
theorem m_lovers {xs : List Int32} {ext : mm_X} {n : Nat} {sh : mm_S} {d : mm_D} {g : mm_G} {r : mm_R} {T : wo_T} {B : wo_A} (hsh : shp sh) (hr : rfx r) (hR : MR d T (o0 T)) (hB : hM d B) (hbn : tnb T ≠ 0 → tnp T ≠ 0) (i j n1 w : Int32) : wp xs ext (n + 10) 208 0 [some (.ref 250), some (.int i), some (.int j), some (.int n1), some (.int w), none, none, none] [] (sh, d, g, r) (fun v μ => v = some (.int (loversQ T B i j n1 w)) ∧ ∃ d2, μ = (sh, d2, g, r) ∧ qf d d2 ∧ hM d2 B) := by
  refine wp_aload_n (j := 0) rfl q208_ok d208_0 ?_
  refine wp_iload_n (j := 1) rfl q208_ok d208_1 ?_
  refine wp_cV q208_ok d208_2 ml_11_324 rfl q177_ok (u := 11) rfl (by first | assumption | exact so0 hsh rfl) rfl (Nat.le_of_ble_eq_true rfl) (Nat.le_of_ble_eq_true rfl) (m_isPerson hsh hr _) (fun v2 μ2 hc => ?_)
  obtain ⟨rfl, rfl⟩ := hc
  refine ⟨mm_le_same rfl, ?_⟩
  rw [mper_v hR i]
  by_cases c0 : perT T i
  · rw [if_pos c0]
    have hh : hasT T := by have := per_lt c0 hR.1; intro q; omega
    refine wp_if_eq q208_ok d208_5 (t := 39) rfl (fun h5 => ?_) (fun h5 => ?_)
    · exact absurd h5 (by decide)
    · refine wp_aload_n (j := 0) rfl q208_ok d208_8 ?_
      refine wp_iload_n (j := 2) rfl q208_ok d208_9 ?_
      refine wp_cV q208_ok d208_10 ml_11_324 rfl q177_ok (u := 11) rfl (by first | assumption | exact so0 hsh rfl) rfl (Nat.le_of_ble_eq_true rfl) (Nat.le_of_ble_eq_true rfl) (m_isPerson hsh hr _) (fun v10 μ10 hc => ?_)
      obtain ⟨rfl, rfl⟩ := hc
      refine ⟨mm_le_same rfl, ?_⟩
      rw [mper_v hR j]
      by_cases c1 : perT T j
      · rw [if_pos c1]
        refine wp_if_eq q208_ok d208_13 (t := 39) rfl (fun h13 => ?_) (fun h13 => ?_)
        · exact absurd h13 (by decide)
        · refine wp_iload_n (j := 1) rfl q208_ok d208_16 ?_
          refine wp_iload_n (j := 2) rfl q208_ok d208_17 ?_
          refine wp_icmp_eq q208_ok d208_18 (t := 39) rfl (fun h18 => ?_) (fun h18 => ?_)
          · refine wp_ldc_w kc_11_378 q208_ok d208_39 ?_
            refine wp_iret q208_ok d208_42 rfl ?_
            exact ⟨by unfold loversQ; rw [if_pos c0, if_pos c1, if_neg (fun x => x h18)], d, rfl, qf_refl d, hB⟩
          · have c2 : ¬ i = j := h18
            refine wp_aload_n (j := 0) rfl q208_ok d208_21 ?_
            refine wp_iload_n (j := 3) rfl q208_ok d208_22 ?_
            refine wp_cV q208_ok d208_23 ml_11_337 rfl q192_ok (u := 11) rfl (by first | assumption | exact so0 hsh rfl) rfl (Nat.le_of_ble_eq_true rfl) (Nat.le_of_ble_eq_true rfl) (m_are hsh hr _) (fun v23 μ23 hc => ?_)
            obtain ⟨rfl, rfl⟩ := hc
            refine ⟨mm_le_same rfl, ?_⟩
            rw [mare_v hR n1]
            by_cases c3 : ahdT n1
            · rw [if_pos ⟨hh, c3⟩]
              refine wp_if_eq q208_ok d208_26 (t := 39) rfl (fun h26 => ?_) (fun h26 => ?_)
              · exact absurd h26 (by decide)
              · refine wp_iload (j := 4) rfl q208_ok d208_29 ?_
                refine wp_iconst (v := 0) (by decide) q208_ok d208_31 ?_
                refine wp_iconst (v := 1) (by decide) q208_ok d208_32 ?_
                refine wp_cS q208_ok d208_33 ml_11_218 rfl q133_ok rfl rfl rfl (Nat.le_of_ble_eq_true rfl) (Nat.le_of_ble_eq_true rfl) (m_in _ _ _) (fun v33 μ33 hc => ?_)
                obtain ⟨rfl, rfl⟩ := hc
                refine ⟨mm_le_same rfl, ?_⟩
                by_cases c4 : whT w
                · rw [if_pos c4]
                  refine wp_if_ne q208_ok d208_36 (t := 43) rfl (fun h36 => ?_) (fun h36 => ?_)
                  · have hip : i.toNatClampNeg < tnp T := per_lt c0 hR.1
                    have hie := nI_ofn c0.1
                    generalize hic : i.toNatClampNeg = p at hip hie
                    have hjq : j.toNatClampNeg < tnp T := per_lt c1 hR.1
                    have hje := nI_ofn c1.1
                    generalize hjc : j.toNatClampNeg = q at hjq hje
                    obtain ⟨N, hN1, hN, hNe⟩ := ahd_of (fun e => (ahd_T n1).mp e c3)
                    have hNc : n1.toNatClampNeg = N := by rw [hNe]; exact nI_clamp (by omega)
                    subst hNe
                    subst hie
                    subst hje
                    refine wp_aload_n (j := 0) rfl q208_ok d208_43 ?_
                    refine wp_cV q208_ok d208_44 ml_11_356 rfl q195_ok (u := 11) rfl (by first | assumption | exact so0 hsh rfl) rfl (Nat.le_of_ble_eq_true rfl) (Nat.le_of_ble_eq_true rfl) (m_put hsh hr hB) (fun v44 μ44 hc => ?_)
                    obtain ⟨rfl, d1, rfl, q1, hM1, hS1⟩ := hc
                    refine ⟨mm_le_same rfl, ?_⟩
                    refine wp_iconst (v := 0) (by decide) q208_ok d208_47 ?_
                    refine wp_istore (j := 5) (Nat.le_of_ble_eq_true rfl) (rfl : _ = [_, _, _, _, _, _, _, _]) q208_ok d208_48 ?_
                    refine wp_iconst (v := -1) (by decide) q208_ok d208_50 ?_
                    refine wp_istore (j := 6) (Nat.le_of_ble_eq_true rfl) (rfl : _ = [_, _, _, _, _, _, _, _]) q208_ok d208_51 ?_
                    refine wp_iconst (v := 0) (by decide) q208_ok d208_53 ?_
                    refine wp_istore (j := 7) (Nat.le_of_ble_eq_true rfl) (rfl : _ = [_, _, _, _, _, _, _, _]) q208_ok d208_54 ?_
                    refine wp_post (m_lov_l hsh hr (MR_qf hR q1) hS1 w (show N < 2 ^ 31 by omega) hip hjq N 0 d1 (by omega) (pf_refl d1) hM1) (fun v μ hc => ?_)
                    obtain ⟨rfl, d9, rfl, q9, hM9⟩ := hc
                    exact ⟨by unfold loversQ; rw [if_pos c0, if_pos c1, if_pos c2, if_pos c3, if_pos c4, hic, hjc, hNc], d9, rfl, qf_trans q1 q9, hM9⟩
                  · have h36 := Classical.not_not.mp h36
                    exact absurd h36 (by decide)
                · rw [if_neg c4]
                  refine wp_if_ne q208_ok d208_36 (t := 43) rfl (fun h36 => ?_) (fun h36 => ?_)
                  · exact absurd rfl h36
                  · have h36 := Classical.not_not.mp h36
                    refine wp_ldc_w kc_11_378 q208_ok d208_39 ?_
                    refine wp_iret q208_ok d208_42 rfl ?_
                    exact ⟨by unfold loversQ; rw [if_pos c0, if_pos c1, if_pos c2, if_pos c3, if_neg c4], d, rfl, qf_refl d, hB⟩
            · rw [if_neg (fun q => c3 q.2)]
              refine wp_if_eq q208_ok d208_26 (t := 39) rfl (fun h26 => ?_) (fun h26 => ?_)
              · refine wp_ldc_w kc_11_378 q208_ok d208_39 ?_
                refine wp_iret q208_ok d208_42 rfl ?_
                exact ⟨by unfold loversQ; rw [if_pos c0, if_pos c1, if_pos c2, if_neg c3], d, rfl, qf_refl d, hB⟩
              · exact absurd rfl h26
      · rw [if_neg c1]
        refine wp_if_eq q208_ok d208_13 (t := 39) rfl (fun h13 => ?_) (fun h13 => ?_)
        · refine wp_ldc_w kc_11_378 q208_ok d208_39 ?_
          refine wp_iret q208_ok d208_42 rfl ?_
          exact ⟨by unfold loversQ; rw [if_pos c0, if_neg c1], d, rfl, qf_refl d, hB⟩
        · exact absurd rfl h13
  · rw [if_neg c0]
    refine wp_if_eq q208_ok d208_5 (t := 39) rfl (fun h5 => ?_) (fun h5 => ?_)
    · refine wp_ldc_w kc_11_378 q208_ok d208_39 ?_
      refine wp_iret q208_ok d208_42 rfl ?_
      exact ⟨by unfold loversQ; rw [if_neg c0], d, rfl, qf_refl d, hB⟩
    · exact absurd rfl h5
