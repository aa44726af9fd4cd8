/-! ===== ears, strike, lovers of the model ===== -/
theorem rung_s {T : wo_T} {o : wo_O} {B : wo_A} {b k : Nat} (hb : b < tnb T) : (aN T o B (k + 1)).2.2 b = if rrA T o B b k = 0 then (aN T o B k).2.2 b else (aN T o B k).2.2 b + 1 := by
  show (if b < tnb T then (if rrA T o B b k = 0 then (aN T o B k).2.2 b else (aN T o B k).2.2 b + 1) else (aN T o B k).2.2 b) = _
  rw [if_pos hb]
theorem i32_as (x y : Int32) : x + 1 - y = x - y + 1 := by grind
theorem nI_lt1 {c : Nat} {i : Int32} (hc : c < 2 ^ 30) (h : nI c ≤ i) (hn : ¬ nI c = i) : nI (c + 1) ≤ i := by
  have e := nI_ofn (Int32.le_trans (nI_pos' (show c < 2 ^ 31 by omega)) h)
  have hl : i.toNatClampNeg < 2 ^ 31 := by
    have := Int32.toInt_lt i
    unfold Int32.toNatClampNeg
    omega
  generalize i.toNatClampNeg = m at e hl
  subst e
  have h1 := (nI_leI (by omega) hl).mp h
  refine (nI_leI (by omega) hl).mpr ?_
  have : ¬ c = m := fun q => hn (by rw [q])
  omega
theorem m_ears_l {xs : List Int32} {ext : mm_X} {n : Nat} {sh : mm_S} {d : mm_D} {g : mm_G} {r : mm_R} {T : wo_T} {o : wo_O} {B : wo_A} (hsh : shp sh) (hr : rfx r) (hR : MR d T o) (hSd : hS d B) {N p : Nat} (hp : p < tnp T) (hMd : hM d (aN T o B N)) : ∀ (z b : Nat), z + b = tnb T → wp xs ext (n + 9) 201 32 [some (.ref 250), some (.int (nI p)), some (.int (nI N)), some (.int (earA T o B p N b)), some (.int (nI b))] [] (sh, d, g, r) (fun v μ => v = some (.int (earA T o B p N (tnb T))) ∧ ∃ d2, μ = (sh, d2, g, r) ∧ qf d d2 ∧ hM d2 B) := by
  have hnb2 := hR.2.1
  have hnp6 := hR.1
  have hbm := hR.2.2.2.2.1
  have hfar := hR.2.2.2.2.2.2.2.2.2.1 p hp
  intro z
  induction z with
  | zero =>
    intro b hz
    have hvb : b = tnb T := by omega
    subst hvb
    refine wp_iload (j := 4) rfl q201_ok d201_32 ?_
    refine wp_aload_n (j := 0) rfl q201_ok d201_34 ?_
    refine wp_getI q201_ok d201_35 fl_11_268 rfl (by first | assumption | exact so0 hsh rfl) (by first | assumption | rfl) ?_
    refine wp_icmp_ge q201_ok d201_38 (t := 93) rfl (fun h38 => ?_) (fun h38 => ?_)
    · refine wp_aload_n (j := 0) rfl q201_ok d201_93 ?_
      refine wp_cV q201_ok d201_94 ml_11_362 rfl q194_ok (u := 11) rfl (by first | assumption | exact so0 hsh rfl) rfl (Nat.le_of_ble_eq_true rfl) (Nat.le_of_ble_eq_true rfl) (m_back hsh hr hSd) (fun v94 μ94 hc => ?_)
      obtain ⟨rfl, d9, rfl, q9, hM9⟩ := hc
      refine ⟨mm_le_same rfl, ?_⟩
      refine wp_iload_n (j := 3) rfl q201_ok d201_97 ?_
      refine wp_iret q201_ok d201_98 rfl ?_
      exact ⟨rfl, d9, rfl, q9, hM9⟩
    · exact absurd (nI_le (Nat.le_refl _) (by omega)) h38
  | succ z ih =>
    intro b hz
    have hlt : b < tnb T := by omega
    have hrec := (hR.2.2.2.2.2.2.2.2.2.2.1 b hlt).2.2.1
    refine wp_iload (j := 4) rfl q201_ok d201_32 ?_
    refine wp_aload_n (j := 0) rfl q201_ok d201_34 ?_
    refine wp_getI q201_ok d201_35 fl_11_268 rfl (by first | assumption | exact so0 hsh rfl) (by first | assumption | rfl) ?_
    refine wp_icmp_ge q201_ok d201_38 (t := 93) rfl (fun h38 => ?_) (fun h38 => ?_)
    · exact absurd h38 (nI_ge hlt (by omega))
    · refine wp_iload_n (j := 3) rfl q201_ok d201_41 ?_
      refine wp_aload_n (j := 0) rfl q201_ok d201_42 ?_
      refine wp_getR q201_ok d201_43 fl_11_49 rfl (by first | assumption | exact so0 hsh rfl) (by first | assumption | exact hr _ _ _ rfl) ?_
      refine wp_iconst (v := 4) (by decide) q201_ok d201_46 ?_
      refine wp_iload_n (j := 1) rfl q201_ok d201_47 ?_
      refine wp_imul rfl q201_ok d201_48 ?_
      refine wp_iconst (v := 3) (by decide) q201_ok d201_49 ?_
      refine wp_iadd rfl q201_ok d201_50 ?_
      refine wp_iald (m := 24) q201_ok d201_51 (by first | assumption | exact so0 hsh rfl) (shl hsh (m := 24) (Nat.le_of_ble_eq_true rfl) rfl) (show ixn (4 * nI p + 3) (4 * p + 3) 24 from by rw [show (4 : Int32) * nI p + 3 = nI (4 * p + 3) from nI_4 p 3]; exact ixn_nI (by omega)) hfar ?_ (shK hsh)
      refine wp_aload_n (j := 0) rfl q201_ok d201_52 ?_
      refine wp_getR q201_ok d201_53 fl_11_55 rfl (by first | assumption | exact so0 hsh rfl) (by first | assumption | exact hr _ _ _ rfl) ?_
      refine wp_iconst (v := 3) (by decide) q201_ok d201_56 ?_
      refine wp_iload (j := 4) rfl q201_ok d201_57 ?_
      refine wp_imul rfl q201_ok d201_59 ?_
      refine wp_iconst (v := 2) (by decide) q201_ok d201_60 ?_
      refine wp_iadd rfl q201_ok d201_61 ?_
      refine wp_iald (m := 6) q201_ok d201_62 (by first | assumption | exact so0 hsh rfl) (shl hsh (m := 6) (Nat.le_of_ble_eq_true rfl) rfl) (show ixn (3 * nI b + 2) (3 * b + 2) 6 from by rw [show (3 : Int32) * nI b + 2 = nI (3 * b + 2) from nI_3 b 2]; exact ixn_nI (by omega)) hrec ?_ (shK hsh)
      refine wp_icmp_gt q201_ok d201_63 (t := 84) rfl (fun h63 => ?_) (fun h63 => ?_)
      · refine wp_iconst (v := 0) (by decide) q201_ok d201_84 ?_
        refine wp_iadd rfl q201_ok d201_85 ?_
        refine wp_istore_n (j := 3) (Nat.le_of_ble_eq_true rfl) (rfl : _ = [_, _, _, _, _]) q201_ok d201_86 ?_
        refine wp_iinc (j := 4) rfl (by first | exact inc1 | rfl) (rfl : _ = [_, _, _, _, _]) q201_ok d201_87 ?_
        refine wp_goto (t := 32) rfl q201_ok d201_90 ?_
        have this := ih (b + 1) (by omega)
        rw [earA, if_neg (Int32.not_le.mpr h63)] at this
        exact this
      · refine wp_aload_n (j := 0) rfl q201_ok d201_66 ?_
        refine wp_getR q201_ok d201_67 fl_11_64 rfl (by first | assumption | exact so0 hsh rfl) (by first | assumption | exact hr _ _ _ rfl) ?_
        refine wp_iload (j := 4) rfl q201_ok d201_70 ?_
        refine wp_iald (m := 2) q201_ok d201_72 (by first | assumption | exact so0 hsh rfl) (shl hsh (m := 2) (Nat.le_of_ble_eq_true rfl) rfl) (ixn_nI (show b < 2 by omega)) (hMd.2 b (by omega)).2 ?_ (shK hsh)
        refine wp_aload_n (j := 0) rfl q201_ok d201_73 ?_
        refine wp_getR q201_ok d201_74 fl_11_84 rfl (by first | assumption | exact so0 hsh rfl) (by first | assumption | exact hr _ _ _ rfl) ?_
        refine wp_iload (j := 4) rfl q201_ok d201_77 ?_
        refine wp_iald (m := 2) q201_ok d201_79 (by first | assumption | exact so0 hsh rfl) (shl hsh (m := 2) (Nat.le_of_ble_eq_true rfl) rfl) (ixn_nI (show b < 2 by omega)) (hSd.2 b (by omega)).2 ?_ (shK hsh)
        refine wp_isub rfl q201_ok d201_80 ?_
        refine wp_goto (t := 85) rfl q201_ok d201_81 ?_
        refine wp_iadd rfl q201_ok d201_85 ?_
        refine wp_istore_n (j := 3) (Nat.le_of_ble_eq_true rfl) (rfl : _ = [_, _, _, _, _]) q201_ok d201_86 ?_
        refine wp_iinc (j := 4) rfl (by first | exact inc1 | rfl) (rfl : _ = [_, _, _, _, _]) q201_ok d201_87 ?_
        refine wp_goto (t := 32) rfl q201_ok d201_90 ?_
        have this := ih (b + 1) (by omega)
        rw [earA, if_pos (Int32.not_lt.mp h63)] at this
        exact this
theorem m_ears {xs : List Int32} {ext : mm_X} {n : Nat} {sh : mm_S} {d : mm_D} {g : mm_G} {r : mm_R} {T : wo_T} {B : wo_A} (hsh : shp sh) (hr : rfx r) (hR : MR d T (o0 T)) (hB : hM d B) (hbn : tnb T ≠ 0 → tnp T ≠ 0) (i n1 : Int32) : wp xs ext (n + 10) 201 0 [some (.ref 250), some (.int i), some (.int n1), none, none] [] (sh, d, g, r) (fun v μ => v = some (.int (earsQ T B i n1)) ∧ ∃ d2, μ = (sh, d2, g, r) ∧ qf d d2 ∧ hM d2 B) := by
  refine wp_aload_n (j := 0) rfl q201_ok d201_0 ?_
  refine wp_iload_n (j := 1) rfl q201_ok d201_1 ?_
  refine wp_cV q201_ok d201_2 ml_11_324 rfl q175_ok (u := 11) rfl (by first | assumption | exact so0 hsh rfl) rfl (Nat.le_of_ble_eq_true rfl) (Nat.le_of_ble_eq_true rfl) (m_isPerson hsh hr _) (fun v2 μ2 hc => ?_)
  obtain ⟨rfl, rfl⟩ := hc
  refine ⟨mm_le_same rfl, ?_⟩
  rw [mper_v hR i]
  by_cases c0 : perT T i
  · rw [if_pos c0]
    have hh : hasT T := by have := per_lt c0 hR.1; intro q; omega
    refine wp_if_eq q201_ok d201_5 (t := 16) rfl (fun h5 => ?_) (fun h5 => ?_)
    · exact absurd h5 (by decide)
    · refine wp_aload_n (j := 0) rfl q201_ok d201_8 ?_
      refine wp_iload_n (j := 2) rfl q201_ok d201_9 ?_
      refine wp_cV q201_ok d201_10 ml_11_337 rfl q190_ok (u := 11) rfl (by first | assumption | exact so0 hsh rfl) rfl (Nat.le_of_ble_eq_true rfl) (Nat.le_of_ble_eq_true rfl) (m_are hsh hr _) (fun v10 μ10 hc => ?_)
      obtain ⟨rfl, rfl⟩ := hc
      refine ⟨mm_le_same rfl, ?_⟩
      rw [mare_v hR n1]
      by_cases c1 : ahdT n1
      · rw [if_pos ⟨hh, c1⟩]
        refine wp_if_ne q201_ok d201_13 (t := 18) rfl (fun h13 => ?_) (fun h13 => ?_)
        · have hip : i.toNatClampNeg < tnp T := per_lt c0 hR.1
          have hie := nI_ofn c0.1
          generalize hic : i.toNatClampNeg = p at hip hie
          obtain ⟨N, hN1, hN, hNe⟩ := ahd_of (fun e => (ahd_T n1).mp e c1)
          have hNc : n1.toNatClampNeg = N := by rw [hNe]; exact nI_clamp (by omega)
          subst hNe
          subst hie
          refine wp_aload_n (j := 0) rfl q201_ok d201_18 ?_
          refine wp_cV q201_ok d201_19 ml_11_356 rfl q193_ok (u := 11) rfl (by first | assumption | exact so0 hsh rfl) rfl (Nat.le_of_ble_eq_true rfl) (Nat.le_of_ble_eq_true rfl) (m_put hsh hr hB) (fun v19 μ19 hc => ?_)
          obtain ⟨rfl, d1, rfl, q1, hM1, hS1⟩ := hc
          refine ⟨mm_le_same rfl, ?_⟩
          refine wp_aload_n (j := 0) rfl q201_ok d201_22 ?_
          refine wp_iload_n (j := 2) rfl q201_ok d201_23 ?_
          refine wp_cV q201_ok d201_24 ml_11_359 rfl q195_ok (u := 11) rfl (by first | assumption | exact so0 hsh rfl) rfl (Nat.le_of_ble_eq_true rfl) (Nat.le_of_ble_eq_true rfl) (m_all (n := n) hsh hr (MR_qf hR q1) hM1 (show N < 2 ^ 31 by omega)) (fun v24 μ24 hc => ?_)
          obtain ⟨rfl, d2, rfl, f2, hM2⟩ := hc
          refine ⟨mm_le_same rfl, ?_⟩
          refine wp_iconst (v := 0) (by decide) q201_ok d201_27 ?_
          refine wp_istore_n (j := 3) (Nat.le_of_ble_eq_true rfl) (rfl : _ = [_, _, _, _, _]) q201_ok d201_28 ?_
          refine wp_iconst (v := 0) (by decide) q201_ok d201_29 ?_
          refine wp_istore (j := 4) (Nat.le_of_ble_eq_true rfl) (rfl : _ = [_, _, _, _, _]) q201_ok d201_30 ?_
          have q2 := qf_trans q1 (qf_pf f2)
          refine wp_post (m_ears_l hsh hr (MR_qf hR q2) (hS_pf hS1 f2) hip hM2 (tnb T) 0 (by omega)) (fun v μ hc => ?_)
          obtain ⟨rfl, d9, rfl, q9, hM9⟩ := hc
          exact ⟨by unfold earsQ; rw [if_pos c0, if_pos c1, hic, hNc], d9, rfl, qf_trans q2 q9, hM9⟩
        · have h13 := Classical.not_not.mp h13
          exact absurd h13 (by decide)
      · rw [if_neg (fun q => c1 q.2)]
        refine wp_if_ne q201_ok d201_13 (t := 18) rfl (fun h13 => ?_) (fun h13 => ?_)
        · exact absurd rfl h13
        · have h13 := Classical.not_not.mp h13
          refine wp_iconst (v := -1) (by decide) q201_ok d201_16 ?_
          refine wp_iret q201_ok d201_17 rfl ?_
          exact ⟨by unfold earsQ; rw [if_pos c0, if_neg c1], d, rfl, qf_refl d, hB⟩
  · rw [if_neg c0]
    refine wp_if_eq q201_ok d201_5 (t := 16) rfl (fun h5 => ?_) (fun h5 => ?_)
    · refine wp_iconst (v := -1) (by decide) q201_ok d201_16 ?_
      refine wp_iret q201_ok d201_17 rfl ?_
      exact ⟨by unfold earsQ; rw [if_neg c0], d, rfl, qf_refl d, hB⟩
    · exact absurd rfl h5
theorem m_str_fin {xs : List Int32} {ext : mm_X} {n : Nat} {sh : mm_S} {d : mm_D} {g : mm_G} {r : mm_R} {B : wo_A} (hsh : shp sh) (hr : rfx r) (hSd : hS d B) (i w m f y : Int32) (hf : ¬ f = -1) : wp xs ext (n + 9) 197 26 [some (.ref 250), some (.int i), some (.int w), some (.int m), some (.int f), some (.int y)] [] (sh, d, g, r) (fun v μ => v = some (.int f) ∧ ∃ d2, μ = (sh, d2, g, r) ∧ qf d d2 ∧ hM d2 B) := by
  refine wp_iload (j := 5) rfl q197_ok d197_26 ?_
  refine wp_sipush (v := 240) (by decide) q197_ok d197_28 ?_
  refine wp_icmp_ge q197_ok d197_31 (t := 76) rfl (fun h31 => ?_) (fun h31 => ?_)
  · refine wp_aload_n (j := 0) rfl q197_ok d197_76 ?_
    refine wp_cV q197_ok d197_77 ml_11_362 rfl q194_ok (u := 11) rfl (by first | assumption | exact so0 hsh rfl) rfl (Nat.le_of_ble_eq_true rfl) (Nat.le_of_ble_eq_true rfl) (m_back hsh hr hSd) (fun v77 μ77 hc => ?_)
    obtain ⟨rfl, d9, rfl, q9, hM9⟩ := hc
    refine ⟨mm_le_same rfl, ?_⟩
    refine wp_iload (j := 4) rfl q197_ok d197_80 ?_
    refine wp_iret q197_ok d197_82 rfl ?_
    exact ⟨rfl, d9, rfl, q9, hM9⟩
  · refine wp_iload (j := 4) rfl q197_ok d197_34 ?_
    refine wp_iconst (v := -1) (by decide) q197_ok d197_36 ?_
    refine wp_icmp_ne q197_ok d197_37 (t := 76) rfl (fun h37 => ?_) (fun h37 => ?_)
    · refine wp_aload_n (j := 0) rfl q197_ok d197_76 ?_
      refine wp_cV q197_ok d197_77 ml_11_362 rfl q194_ok (u := 11) rfl (by first | assumption | exact so0 hsh rfl) rfl (Nat.le_of_ble_eq_true rfl) (Nat.le_of_ble_eq_true rfl) (m_back hsh hr hSd) (fun v77 μ77 hc => ?_)
      obtain ⟨rfl, d9, rfl, q9, hM9⟩ := hc
      refine ⟨mm_le_same rfl, ?_⟩
      refine wp_iload (j := 4) rfl q197_ok d197_80 ?_
      refine wp_iret q197_ok d197_82 rfl ?_
      exact ⟨rfl, d9, rfl, q9, hM9⟩
    · have h37 := Classical.not_not.mp h37
      exact absurd h37 hf
theorem m_str_l {xs : List Int32} {ext : mm_X} {n : Nat} {sh : mm_S} {d : mm_D} {g : mm_G} {r : mm_R} {T : wo_T} {o : wo_O} {B : wo_A} (hsh : shp sh) (hr : rfx r) (hR : MR d T o) (hSd : hS d B) {b : Nat} (w : Int32) (hb : b < tnb T) : ∀ (z k : Nat) (d1 : mm_D) (c : Nat) (hc : c ≤ k ∧ nI c ≤ w ∧ (aN T o B k).2.2 b - B.2.2 b = nI c), z + k = 240 → pf d d1 → hM d1 (aN T o B k) → wp xs ext (n + 9) 197 26 [some (.ref 250), some (.int (nI b)), some (.int w), some (.int (nI c)), some (.int (-1)), some (.int (nI k))] [] (sh, d1, g, r) (fun v μ => v = some (.int (strA T o B b w z k)) ∧ ∃ d2, μ = (sh, d2, g, r) ∧ qf d d2 ∧ hM d2 B) := by
  have hnb2 := hR.2.1
  intro z
  induction z with
  | zero =>
    intro k d1 c hc hz p1 hM1
    have hvb : k = 240 := by omega
    subst hvb
    have hR1 := MR_pf hR p1
    refine wp_iload (j := 5) rfl q197_ok d197_26 ?_
    refine wp_sipush (v := 240) (by decide) q197_ok d197_28 ?_
    refine wp_icmp_ge q197_ok d197_31 (t := 76) rfl (fun h31 => ?_) (fun h31 => ?_)
    · refine wp_aload_n (j := 0) rfl q197_ok d197_76 ?_
      refine wp_cV q197_ok d197_77 ml_11_362 rfl q194_ok (u := 11) rfl (by first | assumption | exact so0 hsh rfl) rfl (Nat.le_of_ble_eq_true rfl) (Nat.le_of_ble_eq_true rfl) (m_back hsh hr (hS_pf hSd p1)) (fun v77 μ77 hc => ?_)
      obtain ⟨rfl, d9, rfl, q9, hM9⟩ := hc
      refine ⟨mm_le_same rfl, ?_⟩
      refine wp_iload (j := 4) rfl q197_ok d197_80 ?_
      refine wp_iret q197_ok d197_82 rfl ?_
      exact ⟨rfl, d9, rfl, qf_trans (qf_pf p1) q9, hM9⟩
    · exact absurd (nI_le (Nat.le_refl _) (by decide)) h31
  | succ z ih =>
    intro k d1 c hc hz p1 hM1
    have hlt : k < 240 := by omega
    have hR1 := MR_pf hR p1
    refine wp_iload (j := 5) rfl q197_ok d197_26 ?_
    refine wp_sipush (v := 240) (by decide) q197_ok d197_28 ?_
    refine wp_icmp_ge q197_ok d197_31 (t := 76) rfl (fun h31 => ?_) (fun h31 => ?_)
    · exact absurd h31 (nI_ge hlt (by decide))
    · refine wp_iload (j := 4) rfl q197_ok d197_34 ?_
      refine wp_iconst (v := -1) (by decide) q197_ok d197_36 ?_
      refine wp_icmp_ne q197_ok d197_37 (t := 76) rfl (fun h37 => ?_) (fun h37 => ?_)
      · exact absurd rfl h37
      · have h37 := Classical.not_not.mp h37
        refine wp_aload_n (j := 0) rfl q197_ok d197_40 ?_
        refine wp_iconst (v := 0) (by decide) q197_ok d197_41 ?_
        refine wp_cV q197_ok d197_42 ml_11_349 rfl q182_ok (u := 11) rfl (by first | assumption | exact so0 hsh rfl) rfl (Nat.le_of_ble_eq_true rfl) (Nat.le_of_ble_eq_true rfl) (m_pass (n := n) hsh hr hR1 hM1 0) (fun v42 μ42 hc => ?_)
        obtain ⟨rfl, d2, rfl, f2, hM2, rg2, sn2⟩ := hc
        refine ⟨mm_le_same rfl, ?_⟩
        rw [sgM0] at hM2 rg2 sn2
        have hM2 : hM d2 (aN T o B (k + 1)) := hM2
        have p2 := pf_trans p1 f2
        refine wp_aload_n (j := 0) rfl q197_ok d197_45 ?_
        refine wp_getR q197_ok d197_46 fl_11_67 rfl (by first | assumption | exact so0 hsh rfl) (by first | assumption | exact hr _ _ _ rfl) ?_
        refine wp_iload_n (j := 1) rfl q197_ok d197_49 ?_
        refine wp_bald (m := 2) q197_ok d197_50 (by first | assumption | exact so0 hsh rfl) (shl hsh (m := 2) (Nat.le_of_ble_eq_true rfl) rfl) (ixn_nI (show b < 2 by omega)) (rg2 b hb) ?_
        refine wp_if_eq q197_ok d197_51 (t := 70) rfl (fun h51 => ?_) (fun h51 => ?_)
        · refine wp_iinc (j := 5) rfl (by first | exact inc1 | rfl) (rfl : _ = [_, _, _, _, _, _]) q197_ok d197_70 ?_
          refine wp_goto (t := 26) rfl q197_ok d197_73 ?_
          have er : (aN T o B (k + 1)).2.2 b = (aN T o B k).2.2 b := (rung_s hb).trans (if_pos h51)
          have this := ih (k + 1) d2 c ⟨by omega, hc.2.1, by rw [er]; exact hc.2.2⟩ (by omega) p2 hM2
          rw [strA, if_pos (by rw [er, hc.2.2]; exact hc.2.1)]
          exact this
        · refine wp_iload_n (j := 3) rfl q197_ok d197_54 ?_
          refine wp_iload_n (j := 2) rfl q197_ok d197_55 ?_
          refine wp_icmp_ne q197_ok d197_56 (t := 64) rfl (fun h56 => ?_) (fun h56 => ?_)
          · refine wp_iconst (v := -1) (by decide) q197_ok d197_64 ?_
            refine wp_istore (j := 4) (Nat.le_of_ble_eq_true rfl) (rfl : _ = [_, _, _, _, _, _]) q197_ok d197_65 ?_
            refine wp_iinc (j := 3) rfl (by first | exact inc1 | rfl) (rfl : _ = [_, _, _, _, _, _]) q197_ok d197_67 ?_
            refine wp_iinc (j := 5) rfl (by first | exact inc1 | rfl) (rfl : _ = [_, _, _, _, _, _]) q197_ok d197_70 ?_
            refine wp_goto (t := 26) rfl q197_ok d197_73 ?_
            have er : (aN T o B (k + 1)).2.2 b = (aN T o B k).2.2 b + 1 := (rung_s hb).trans (if_neg h51)
            have e1 : (aN T o B (k + 1)).2.2 b - B.2.2 b = nI (c + 1) := by rw [er, i32_as, hc.2.2]; exact nI_1 c
            have hl := nI_lt1 (by omega) hc.2.1 h56
            have this := ih (k + 1) d2 (c + 1) ⟨by omega, hl, e1⟩ (by omega) p2 hM2
            rw [strA, if_pos (by rw [e1]; exact hl)]
            exact this
          · have h56 := Classical.not_not.mp h56
            refine wp_iload (j := 5) rfl q197_ok d197_59 ?_
            refine wp_goto (t := 65) rfl q197_ok d197_61 ?_
            refine wp_istore (j := 4) (Nat.le_of_ble_eq_true rfl) (rfl : _ = [_, _, _, _, _, _]) q197_ok d197_65 ?_
            refine wp_iinc (j := 3) rfl (by first | exact inc1 | rfl) (rfl : _ = [_, _, _, _, _, _]) q197_ok d197_67 ?_
            refine wp_iinc (j := 5) rfl (by first | exact inc1 | rfl) (rfl : _ = [_, _, _, _, _, _]) q197_ok d197_70 ?_
            refine wp_goto (t := 26) rfl q197_ok d197_73 ?_
            have er : (aN T o B (k + 1)).2.2 b = (aN T o B k).2.2 b + 1 := (rung_s hb).trans (if_neg h51)
            have e1 : (aN T o B (k + 1)).2.2 b - B.2.2 b = nI (c + 1) := by rw [er, i32_as, hc.2.2]; exact nI_1 c
            rw [strA, if_neg (by rw [e1, ← h56]; exact fun q => absurd ((nI_leI (by omega) (by omega)).mp q) (by omega))]
            refine wp_post (m_str_fin hsh hr (hS_pf hSd p2) _ _ _ (nI k) _ (nI_nm1 (by omega))) (fun v μ hc => ?_)
            obtain ⟨rfl, d9, rfl, q9, hM9⟩ := hc
            exact ⟨rfl, d9, rfl, qf_trans (qf_pf p2) q9, hM9⟩
theorem m_strike {xs : List Int32} {ext : mm_X} {n : Nat} {sh : mm_S} {d : mm_D} {g : mm_G} {r : mm_R} {T : wo_T} {B : wo_A} (hsh : shp sh) (hr : rfx r) (hR : MR d T (o0 T)) (hB : hM d B) (hbn : tnb T ≠ 0 → tnp T ≠ 0) (i n1 : Int32) : wp xs ext (n + 10) 197 0 [some (.ref 250), some (.int i), some (.int n1), none, none, none] [] (sh, d, g, r) (fun v μ => v = some (.int (strikeQ T B i n1)) ∧ ∃ d2, μ = (sh, d2, g, r) ∧ qf d d2 ∧ hM d2 B) := by
  refine wp_aload_n (j := 0) rfl q197_ok d197_0 ?_
  refine wp_iload_n (j := 1) rfl q197_ok d197_1 ?_
  refine wp_cV q197_ok d197_2 ml_11_327 rfl q176_ok (u := 11) rfl (by first | assumption | exact so0 hsh rfl) rfl (Nat.le_of_ble_eq_true rfl) (Nat.le_of_ble_eq_true rfl) (m_isBell hsh hr _) (fun v2 μ2 hc => ?_)
  obtain ⟨rfl, rfl⟩ := hc
  refine ⟨mm_le_same rfl, ?_⟩
  rw [mbel_v hR i]
  by_cases c0 : belT T i
  · rw [if_pos c0]
    have hh : hasT T := hbn (by have := bel_lt c0 hR.2.1; omega)
    refine wp_if_eq q197_ok d197_5 (t := 12) rfl (fun h5 => ?_) (fun h5 => ?_)
    · exact absurd h5 (by decide)
    · refine wp_iload_n (j := 2) rfl q197_ok d197_8 ?_
      refine wp_if_ge q197_ok d197_9 (t := 14) rfl (fun h9 => ?_) (fun h9 => ?_)
      · have c1 : 0 ≤ n1 := Int32.not_lt.mp (Int32.not_lt.mpr h9)
        have hib : i.toNatClampNeg < tnb T := bel_lt c0 hR.2.1
        have hie := nI_ofn c0.1
        generalize hic : i.toNatClampNeg = b at hib hie
        subst hie
        refine wp_aload_n (j := 0) rfl q197_ok d197_14 ?_
        refine wp_cV q197_ok d197_15 ml_11_356 rfl q193_ok (u := 11) rfl (by first | assumption | exact so0 hsh rfl) rfl (Nat.le_of_ble_eq_true rfl) (Nat.le_of_ble_eq_true rfl) (m_put hsh hr hB) (fun v15 μ15 hc => ?_)
        obtain ⟨rfl, d1, rfl, q1, hM1, hS1⟩ := hc
        refine ⟨mm_le_same rfl, ?_⟩
        refine wp_iconst (v := 0) (by decide) q197_ok d197_18 ?_
        refine wp_istore_n (j := 3) (Nat.le_of_ble_eq_true rfl) (rfl : _ = [_, _, _, _, _, _]) q197_ok d197_19 ?_
        refine wp_iconst (v := -1) (by decide) q197_ok d197_20 ?_
        refine wp_istore (j := 4) (Nat.le_of_ble_eq_true rfl) (rfl : _ = [_, _, _, _, _, _]) q197_ok d197_21 ?_
        refine wp_iconst (v := 0) (by decide) q197_ok d197_23 ?_
        refine wp_istore (j := 5) (Nat.le_of_ble_eq_true rfl) (rfl : _ = [_, _, _, _, _, _]) q197_ok d197_24 ?_
        refine wp_post (m_str_l hsh hr (MR_qf hR q1) hS1 n1 hib 240 0 d1 0 ⟨Nat.le_refl _, c1, Int32.sub_self _⟩ (by omega) (pf_refl d1) hM1) (fun v μ hc => ?_)
        obtain ⟨rfl, d9, rfl, q9, hM9⟩ := hc
        exact ⟨by unfold strikeQ; rw [if_pos c0, if_pos c1, hic], d9, rfl, qf_trans q1 q9, hM9⟩
      · refine wp_iconst (v := -1) (by decide) q197_ok d197_12 ?_
        refine wp_iret q197_ok d197_13 rfl ?_
        exact ⟨by unfold strikeQ; rw [if_pos c0, if_neg (fun q => h9 q)], d, rfl, qf_refl d, hB⟩
  · rw [if_neg c0]
    refine wp_if_eq q197_ok d197_5 (t := 12) rfl (fun h5 => ?_) (fun h5 => ?_)
    · refine wp_iconst (v := -1) (by decide) q197_ok d197_12 ?_
      refine wp_iret q197_ok d197_13 rfl ?_
      exact ⟨by unfold strikeQ; rw [if_neg c0], d, rfl, qf_refl d, hB⟩
    · exact absurd rfl h5
theorem m_lov_l {xs : List Int32} {ext : mm_X} {n : Nat} {sh : mm_S} {d : mm_D} {g : mm_G} {r : mm_R} {T : wo_T} {o : wo_O} {B : wo_A} (hsh : shp sh) (hr : rfx r) (hR : MR d T o) (hSd : hS d B) {N p q : Nat} (w : Int32) (hN : N < 2 ^ 31) (hp : p < tnp T) (hq : q < tnp T) : ∀ (z k : Nat) (d1 : mm_D) , z + k = N → pf d d1 → hM d1 (aN T o B k) → wp xs ext (n + 9) 206 56 [some (.ref 250), some (.int (nI p)), some (.int (nI q)), some (.int (nI N)), some (.int w), some (.int (lovMA T o B p q k)), some (.int (lovFA T o B p q k)), some (.int (nI k))] [] (sh, d1, g, r) (fun v μ => v = some (.int (if w = 0 then lovFA T o B p q N else lovMA T o B p q N)) ∧ ∃ d2, μ = (sh, d2, g, r) ∧ qf d d2 ∧ hM d2 B) := by
  have hnb2 := hR.2.1
  intro z
  induction z with
  | zero =>
    intro k d1 hz p1 hM1
    have hvb : N = k := by omega
    subst hvb
    have hR1 := MR_pf hR p1
    refine wp_iload (j := 7) rfl q206_ok d206_56 ?_
    refine wp_iload_n (j := 3) rfl q206_ok d206_58 ?_
    refine wp_icmp_ge q206_ok d206_59 (t := 106) rfl (fun h59 => ?_) (fun h59 => ?_)
    · refine wp_aload_n (j := 0) rfl q206_ok d206_106 ?_
      refine wp_cV q206_ok d206_107 ml_11_362 rfl q194_ok (u := 11) rfl (by first | assumption | exact so0 hsh rfl) rfl (Nat.le_of_ble_eq_true rfl) (Nat.le_of_ble_eq_true rfl) (m_back hsh hr (hS_pf hSd p1)) (fun v107 μ107 hc => ?_)
      obtain ⟨rfl, d9, rfl, q9, hM9⟩ := hc
      refine ⟨mm_le_same rfl, ?_⟩
      refine wp_iload (j := 4) rfl q206_ok d206_110 ?_
      refine wp_if_ne q206_ok d206_112 (t := 120) rfl (fun h112 => ?_) (fun h112 => ?_)
      · refine wp_iload (j := 5) rfl q206_ok d206_120 ?_
        refine wp_iret q206_ok d206_122 rfl ?_
        exact ⟨by rw [if_neg h112], d9, rfl, qf_trans (qf_pf p1) q9, hM9⟩
      · have h112 := Classical.not_not.mp h112
        refine wp_iload (j := 6) rfl q206_ok d206_115 ?_
        refine wp_goto (t := 122) rfl q206_ok d206_117 ?_
        refine wp_iret q206_ok d206_122 rfl ?_
        exact ⟨by rw [if_pos h112], d9, rfl, qf_trans (qf_pf p1) q9, hM9⟩
    · exact absurd (nI_le (Nat.le_refl _) (by omega)) h59
  | succ z ih =>
    intro k d1 hz p1 hM1
    have hlt : k < N := by omega
    have hR1 := MR_pf hR p1
    refine wp_iload (j := 7) rfl q206_ok d206_56 ?_
    refine wp_iload_n (j := 3) rfl q206_ok d206_58 ?_
    refine wp_icmp_ge q206_ok d206_59 (t := 106) rfl (fun h59 => ?_) (fun h59 => ?_)
    · exact absurd h59 (nI_ge hlt (by omega))
    · refine wp_aload_n (j := 0) rfl q206_ok d206_62 ?_
      refine wp_iload_n (j := 1) rfl q206_ok d206_63 ?_
      refine wp_cV q206_ok d206_64 ml_11_308 rfl q178_ok (u := 11) rfl (by first | assumption | exact so0 hsh rfl) rfl (Nat.le_of_ble_eq_true rfl) (Nat.le_of_ble_eq_true rfl) (m_looks (n := n + 3) hsh hr hR1 hM1 hp) (fun v64 μ64 hc => ?_)
      obtain ⟨rfl, da, rfl, fa⟩ := hc
      refine ⟨mm_le_same rfl, ?_⟩
      have hRn := MR_lf hR1 fa
      have hMn := hM_lf hM1 fa
      have pn := pf_trans p1 (pf_lf fa)
      refine wp_if_ne q206_ok d206_67 (t := 95) rfl (fun h67 => ?_) (fun h67 => ?_)
      · refine wp_aload_n (j := 0) rfl q206_ok d206_95 ?_
        refine wp_iconst (v := 0) (by decide) q206_ok d206_96 ?_
        refine wp_cV q206_ok d206_97 ml_11_349 rfl q182_ok (u := 11) rfl (by first | assumption | exact so0 hsh rfl) rfl (Nat.le_of_ble_eq_true rfl) (Nat.le_of_ble_eq_true rfl) (m_pass (n := n) hsh hr hRn hMn 0) (fun v97 μ97 hc => ?_)
        obtain ⟨rfl, d2, rfl, f2, hM2, rg2, sn2⟩ := hc
        refine ⟨mm_le_same rfl, ?_⟩
        rw [sgM0] at hM2 rg2 sn2
        have hM2 : hM d2 (aN T o B (k + 1)) := hM2
        have p2 := pf_trans pn f2
        refine wp_iinc (j := 7) rfl (by first | exact inc1 | rfl) (rfl : _ = [_, _, _, _, _, _, _, _]) q206_ok d206_100 ?_
        refine wp_goto (t := 56) rfl q206_ok d206_103 ?_
        have e0 : ¬ (llA T o B p k = 0 ∧ llA T o B q k = 0) := fun x => h67 x.1
        have this := ih (k + 1) d2 (by omega) p2 hM2
        rw [lovMA, lovFA, if_neg e0, if_neg e0] at this
        exact this
      · have h67 := Classical.not_not.mp h67
        refine wp_aload_n (j := 0) rfl q206_ok d206_70 ?_
        refine wp_iload_n (j := 2) rfl q206_ok d206_71 ?_
        refine wp_cV q206_ok d206_72 ml_11_308 rfl q178_ok (u := 11) rfl (by first | assumption | exact so0 hsh rfl) rfl (Nat.le_of_ble_eq_true rfl) (Nat.le_of_ble_eq_true rfl) (m_looks (n := n + 3) hsh hr hRn hMn hq) (fun v72 μ72 hc => ?_)
        obtain ⟨rfl, db, rfl, fb⟩ := hc
        refine ⟨mm_le_same rfl, ?_⟩
        have hRn := MR_lf hRn fb
        have hMn := hM_lf hMn fb
        have pn := pf_trans pn (pf_lf fb)
        refine wp_if_ne q206_ok d206_75 (t := 95) rfl (fun h75 => ?_) (fun h75 => ?_)
        · refine wp_aload_n (j := 0) rfl q206_ok d206_95 ?_
          refine wp_iconst (v := 0) (by decide) q206_ok d206_96 ?_
          refine wp_cV q206_ok d206_97 ml_11_349 rfl q182_ok (u := 11) rfl (by first | assumption | exact so0 hsh rfl) rfl (Nat.le_of_ble_eq_true rfl) (Nat.le_of_ble_eq_true rfl) (m_pass (n := n) hsh hr hRn hMn 0) (fun v97 μ97 hc => ?_)
          obtain ⟨rfl, d2, rfl, f2, hM2, rg2, sn2⟩ := hc
          refine ⟨mm_le_same rfl, ?_⟩
          rw [sgM0] at hM2 rg2 sn2
          have hM2 : hM d2 (aN T o B (k + 1)) := hM2
          have p2 := pf_trans pn f2
          refine wp_iinc (j := 7) rfl (by first | exact inc1 | rfl) (rfl : _ = [_, _, _, _, _, _, _, _]) q206_ok d206_100 ?_
          refine wp_goto (t := 56) rfl q206_ok d206_103 ?_
          have e0 : ¬ (llA T o B p k = 0 ∧ llA T o B q k = 0) := fun x => h75 x.2
          have this := ih (k + 1) d2 (by omega) p2 hM2
          rw [lovMA, lovFA, if_neg e0, if_neg e0] at this
          exact this
        · have h75 := Classical.not_not.mp h75
          refine wp_iload (j := 5) rfl q206_ok d206_78 ?_
          refine wp_if_ne q206_ok d206_80 (t := 88) rfl (fun h80 => ?_) (fun h80 => ?_)
          · refine wp_iload (j := 6) rfl q206_ok d206_88 ?_
            refine wp_istore (j := 6) (Nat.le_of_ble_eq_true rfl) (rfl : _ = [_, _, _, _, _, _, _, _]) q206_ok d206_90 ?_
            refine wp_iinc (j := 5) rfl (by first | exact inc1 | rfl) (rfl : _ = [_, _, _, _, _, _, _, _]) q206_ok d206_92 ?_
            refine wp_aload_n (j := 0) rfl q206_ok d206_95 ?_
            refine wp_iconst (v := 0) (by decide) q206_ok d206_96 ?_
            refine wp_cV q206_ok d206_97 ml_11_349 rfl q182_ok (u := 11) rfl (by first | assumption | exact so0 hsh rfl) rfl (Nat.le_of_ble_eq_true rfl) (Nat.le_of_ble_eq_true rfl) (m_pass (n := n) hsh hr hRn hMn 0) (fun v97 μ97 hc => ?_)
            obtain ⟨rfl, d2, rfl, f2, hM2, rg2, sn2⟩ := hc
            refine ⟨mm_le_same rfl, ?_⟩
            rw [sgM0] at hM2 rg2 sn2
            have hM2 : hM d2 (aN T o B (k + 1)) := hM2
            have p2 := pf_trans pn f2
            refine wp_iinc (j := 7) rfl (by first | exact inc1 | rfl) (rfl : _ = [_, _, _, _, _, _, _, _]) q206_ok d206_100 ?_
            refine wp_goto (t := 56) rfl q206_ok d206_103 ?_
            have e0 : (llA T o B p k = 0 ∧ llA T o B q k = 0) := ⟨h67, h75⟩
            have this := ih (k + 1) d2 (by omega) p2 hM2
            rw [lovMA, lovFA, if_pos e0, if_pos e0, if_neg h80] at this
            exact this
          · have h80 := Classical.not_not.mp h80
            refine wp_iload (j := 7) rfl q206_ok d206_83 ?_
            refine wp_goto (t := 90) rfl q206_ok d206_85 ?_
            refine wp_istore (j := 6) (Nat.le_of_ble_eq_true rfl) (rfl : _ = [_, _, _, _, _, _, _, _]) q206_ok d206_90 ?_
            refine wp_iinc (j := 5) rfl (by first | exact inc1 | rfl) (rfl : _ = [_, _, _, _, _, _, _, _]) q206_ok d206_92 ?_
            refine wp_aload_n (j := 0) rfl q206_ok d206_95 ?_
            refine wp_iconst (v := 0) (by decide) q206_ok d206_96 ?_
            refine wp_cV q206_ok d206_97 ml_11_349 rfl q182_ok (u := 11) rfl (by first | assumption | exact so0 hsh rfl) rfl (Nat.le_of_ble_eq_true rfl) (Nat.le_of_ble_eq_true rfl) (m_pass (n := n) hsh hr hRn hMn 0) (fun v97 μ97 hc => ?_)
            obtain ⟨rfl, d2, rfl, f2, hM2, rg2, sn2⟩ := hc
            refine ⟨mm_le_same rfl, ?_⟩
            rw [sgM0] at hM2 rg2 sn2
            have hM2 : hM d2 (aN T o B (k + 1)) := hM2
            have p2 := pf_trans pn f2
            refine wp_iinc (j := 7) rfl (by first | exact inc1 | rfl) (rfl : _ = [_, _, _, _, _, _, _, _]) q206_ok d206_100 ?_
            refine wp_goto (t := 56) rfl q206_ok d206_103 ?_
            have e0 : (llA T o B p k = 0 ∧ llA T o B q k = 0) := ⟨h67, h75⟩
            have this := ih (k + 1) d2 (by omega) p2 hM2
            rw [lovMA, lovFA, if_pos e0, if_pos e0, if_pos h80] at this
            exact this
theorem m_lovers {xs : List Int32} {ext : mm_X} {n : Nat} {sh : mm_S} {d : mm_D} {g : mm_G} {r : mm_R} {T : wo_T} {B : wo_A} (hsh : shp sh) (hr : rfx r) (hR : MR d T (o0 T)) (hB : hM d B) (hbn : tnb T ≠ 0 → tnp T ≠ 0) (i j n1 w : Int32) : wp xs ext (n + 10) 206 0 [some (.ref 250), some (.int i), some (.int j), some (.int n1), some (.int w), none, none, none] [] (sh, d, g, r) (fun v μ => v = some (.int (loversQ T B i j n1 w)) ∧ ∃ d2, μ = (sh, d2, g, r) ∧ qf d d2 ∧ hM d2 B) := by
  refine wp_aload_n (j := 0) rfl q206_ok d206_0 ?_
  refine wp_iload_n (j := 1) rfl q206_ok d206_1 ?_
  refine wp_cV q206_ok d206_2 ml_11_324 rfl q175_ok (u := 11) rfl (by first | assumption | exact so0 hsh rfl) rfl (Nat.le_of_ble_eq_true rfl) (Nat.le_of_ble_eq_true rfl) (m_isPerson hsh hr _) (fun v2 μ2 hc => ?_)
  obtain ⟨rfl, rfl⟩ := hc
  refine ⟨mm_le_same rfl, ?_⟩
  rw [mper_v hR i]
  by_cases c0 : perT T i
  · rw [if_pos c0]
    have hh : hasT T := by have := per_lt c0 hR.1; intro q; omega
    refine wp_if_eq q206_ok d206_5 (t := 39) rfl (fun h5 => ?_) (fun h5 => ?_)
    · exact absurd h5 (by decide)
    · refine wp_aload_n (j := 0) rfl q206_ok d206_8 ?_
      refine wp_iload_n (j := 2) rfl q206_ok d206_9 ?_
      refine wp_cV q206_ok d206_10 ml_11_324 rfl q175_ok (u := 11) rfl (by first | assumption | exact so0 hsh rfl) rfl (Nat.le_of_ble_eq_true rfl) (Nat.le_of_ble_eq_true rfl) (m_isPerson hsh hr _) (fun v10 μ10 hc => ?_)
      obtain ⟨rfl, rfl⟩ := hc
      refine ⟨mm_le_same rfl, ?_⟩
      rw [mper_v hR j]
      by_cases c1 : perT T j
      · rw [if_pos c1]
        refine wp_if_eq q206_ok d206_13 (t := 39) rfl (fun h13 => ?_) (fun h13 => ?_)
        · exact absurd h13 (by decide)
        · refine wp_iload_n (j := 1) rfl q206_ok d206_16 ?_
          refine wp_iload_n (j := 2) rfl q206_ok d206_17 ?_
          refine wp_icmp_eq q206_ok d206_18 (t := 39) rfl (fun h18 => ?_) (fun h18 => ?_)
          · refine wp_ldc_w kc_11_378 q206_ok d206_39 ?_
            refine wp_iret q206_ok d206_42 rfl ?_
            exact ⟨by unfold loversQ; rw [if_pos c0, if_pos c1, if_neg (fun x => x h18)], d, rfl, qf_refl d, hB⟩
          · have c2 : ¬ i = j := h18
            refine wp_aload_n (j := 0) rfl q206_ok d206_21 ?_
            refine wp_iload_n (j := 3) rfl q206_ok d206_22 ?_
            refine wp_cV q206_ok d206_23 ml_11_337 rfl q190_ok (u := 11) rfl (by first | assumption | exact so0 hsh rfl) rfl (Nat.le_of_ble_eq_true rfl) (Nat.le_of_ble_eq_true rfl) (m_are hsh hr _) (fun v23 μ23 hc => ?_)
            obtain ⟨rfl, rfl⟩ := hc
            refine ⟨mm_le_same rfl, ?_⟩
            rw [mare_v hR n1]
            by_cases c3 : ahdT n1
            · rw [if_pos ⟨hh, c3⟩]
              refine wp_if_eq q206_ok d206_26 (t := 39) rfl (fun h26 => ?_) (fun h26 => ?_)
              · exact absurd h26 (by decide)
              · refine wp_iload (j := 4) rfl q206_ok d206_29 ?_
                refine wp_iconst (v := 0) (by decide) q206_ok d206_31 ?_
                refine wp_iconst (v := 1) (by decide) q206_ok d206_32 ?_
                refine wp_cS q206_ok d206_33 ml_11_218 rfl q131_ok rfl rfl rfl (Nat.le_of_ble_eq_true rfl) (Nat.le_of_ble_eq_true rfl) (m_in _ _ _) (fun v33 μ33 hc => ?_)
                obtain ⟨rfl, rfl⟩ := hc
                refine ⟨mm_le_same rfl, ?_⟩
                by_cases c4 : whT w
                · rw [if_pos c4]
                  refine wp_if_ne q206_ok d206_36 (t := 43) rfl (fun h36 => ?_) (fun h36 => ?_)
                  · have hip : i.toNatClampNeg < tnp T := per_lt c0 hR.1
                    have hie := nI_ofn c0.1
                    generalize hic : i.toNatClampNeg = p at hip hie
                    have hjq : j.toNatClampNeg < tnp T := per_lt c1 hR.1
                    have hje := nI_ofn c1.1
                    generalize hjc : j.toNatClampNeg = q at hjq hje
                    obtain ⟨N, hN1, hN, hNe⟩ := ahd_of (fun e => (ahd_T n1).mp e c3)
                    have hNc : n1.toNatClampNeg = N := by rw [hNe]; exact nI_clamp (by omega)
                    subst hNe
                    subst hie
                    subst hje
                    refine wp_aload_n (j := 0) rfl q206_ok d206_43 ?_
                    refine wp_cV q206_ok d206_44 ml_11_356 rfl q193_ok (u := 11) rfl (by first | assumption | exact so0 hsh rfl) rfl (Nat.le_of_ble_eq_true rfl) (Nat.le_of_ble_eq_true rfl) (m_put hsh hr hB) (fun v44 μ44 hc => ?_)
                    obtain ⟨rfl, d1, rfl, q1, hM1, hS1⟩ := hc
                    refine ⟨mm_le_same rfl, ?_⟩
                    refine wp_iconst (v := 0) (by decide) q206_ok d206_47 ?_
                    refine wp_istore (j := 5) (Nat.le_of_ble_eq_true rfl) (rfl : _ = [_, _, _, _, _, _, _, _]) q206_ok d206_48 ?_
                    refine wp_iconst (v := -1) (by decide) q206_ok d206_50 ?_
                    refine wp_istore (j := 6) (Nat.le_of_ble_eq_true rfl) (rfl : _ = [_, _, _, _, _, _, _, _]) q206_ok d206_51 ?_
                    refine wp_iconst (v := 0) (by decide) q206_ok d206_53 ?_
                    refine wp_istore (j := 7) (Nat.le_of_ble_eq_true rfl) (rfl : _ = [_, _, _, _, _, _, _, _]) q206_ok d206_54 ?_
                    refine wp_post (m_lov_l hsh hr (MR_qf hR q1) hS1 w (show N < 2 ^ 31 by omega) hip hjq N 0 d1 (by omega) (pf_refl d1) hM1) (fun v μ hc => ?_)
                    obtain ⟨rfl, d9, rfl, q9, hM9⟩ := hc
                    exact ⟨by unfold loversQ; rw [if_pos c0, if_pos c1, if_pos c2, if_pos c3, if_pos c4, hic, hjc, hNc], d9, rfl, qf_trans q1 q9, hM9⟩
                  · have h36 := Classical.not_not.mp h36
                    exact absurd h36 (by decide)
                · rw [if_neg c4]
                  refine wp_if_ne q206_ok d206_36 (t := 43) rfl (fun h36 => ?_) (fun h36 => ?_)
                  · exact absurd rfl h36
                  · have h36 := Classical.not_not.mp h36
                    refine wp_ldc_w kc_11_378 q206_ok d206_39 ?_
                    refine wp_iret q206_ok d206_42 rfl ?_
                    exact ⟨by unfold loversQ; rw [if_pos c0, if_pos c1, if_pos c2, if_pos c3, if_neg c4], d, rfl, qf_refl d, hB⟩
            · rw [if_neg (fun q => c3 q.2)]
              refine wp_if_eq q206_ok d206_26 (t := 39) rfl (fun h26 => ?_) (fun h26 => ?_)
              · refine wp_ldc_w kc_11_378 q206_ok d206_39 ?_
                refine wp_iret q206_ok d206_42 rfl ?_
                exact ⟨by unfold loversQ; rw [if_pos c0, if_pos c1, if_pos c2, if_neg c3], d, rfl, qf_refl d, hB⟩
              · exact absurd rfl h26
      · rw [if_neg c1]
        refine wp_if_eq q206_ok d206_13 (t := 39) rfl (fun h13 => ?_) (fun h13 => ?_)
        · refine wp_ldc_w kc_11_378 q206_ok d206_39 ?_
          refine wp_iret q206_ok d206_42 rfl ?_
          exact ⟨by unfold loversQ; rw [if_pos c0, if_neg c1], d, rfl, qf_refl d, hB⟩
        · exact absurd rfl h13
  · rw [if_neg c0]
    refine wp_if_eq q206_ok d206_5 (t := 39) rfl (fun h5 => ?_) (fun h5 => ?_)
    · refine wp_ldc_w kc_11_378 q206_ok d206_39 ?_
      refine wp_iret q206_ok d206_42 rfl ?_
      exact ⟨by unfold loversQ; rw [if_neg c0], d, rfl, qf_refl d, hB⟩
    · exact absurd rfl h5
