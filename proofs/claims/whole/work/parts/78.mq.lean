/-! ===== bunch, ahead, seen, peak, free of the model ===== -/
theorem m_bunch_l {xs : List Int32} {ext : mm_X} {n : Nat} {sh : mm_S} {d : mm_D} {g : mm_G} {r : mm_R} {T : wo_T} {o : wo_O} {B : wo_A} (hsh : shp sh) (hr : rfx r) (hR : MR d T o) (hSd : hS d B) {N b : Nat} (hN : N < 2 ^ 31) (hb : b < tnb T) : ∀ (z k : Nat) (d1 : mm_D) , z + k = N → pf d d1 → hM d1 (aN T o B k) → wp xs ext (n + 9) 202 30 [some (.ref 250), some (.int (nI b)), some (.int (nI N)), some (.int (bunBA T o B b k)), some (.int (bunKA T o B b k)), some (.int (nI k))] [] (sh, d1, g, r) (fun v μ => v = some (.int (bunBA T o B b N)) ∧ ∃ d2, μ = (sh, d2, g, r) ∧ qf d d2 ∧ hM d2 B) := by
  have hnb2 := hR.2.1
  intro z
  induction z with
  | zero =>
    intro k d1 hz p1 hM1
    have hvb : N = k := by omega
    subst hvb
    have hR1 := MR_pf hR p1
    refine wp_iload (j := 5) rfl q202_ok d202_30 ?_
    refine wp_iload_n (j := 2) rfl q202_ok d202_32 ?_
    refine wp_icmp_ge q202_ok d202_33 (t := 73) rfl (fun h33 => ?_) (fun h33 => ?_)
    · refine wp_aload_n (j := 0) rfl q202_ok d202_73 ?_
      refine wp_cV q202_ok d202_74 ml_11_362 rfl q196_ok (u := 11) rfl (by first | assumption | exact so0 hsh rfl) rfl (Nat.le_of_ble_eq_true rfl) (Nat.le_of_ble_eq_true rfl) (m_back hsh hr (hS_pf hSd p1)) (fun v74 μ74 hc => ?_)
      obtain ⟨rfl, d9, rfl, q9, hM9⟩ := hc
      refine ⟨mm_le_same rfl, ?_⟩
      refine wp_iload_n (j := 3) rfl q202_ok d202_77 ?_
      refine wp_iret q202_ok d202_78 rfl ?_
      exact ⟨rfl, d9, rfl, qf_trans (qf_pf p1) q9, hM9⟩
    · exact absurd (nI_le (Nat.le_refl _) (by omega)) h33
  | succ z ih =>
    intro k d1 hz p1 hM1
    have hlt : k < N := by omega
    have hR1 := MR_pf hR p1
    refine wp_iload (j := 5) rfl q202_ok d202_30 ?_
    refine wp_iload_n (j := 2) rfl q202_ok d202_32 ?_
    refine wp_icmp_ge q202_ok d202_33 (t := 73) rfl (fun h33 => ?_) (fun h33 => ?_)
    · exact absurd h33 (nI_ge hlt (by omega))
    · refine wp_aload_n (j := 0) rfl q202_ok d202_36 ?_
      refine wp_iconst (v := 0) (by decide) q202_ok d202_37 ?_
      refine wp_cV q202_ok d202_38 ml_11_349 rfl q184_ok (u := 11) rfl (by first | assumption | exact so0 hsh rfl) rfl (Nat.le_of_ble_eq_true rfl) (Nat.le_of_ble_eq_true rfl) (m_pass (n := n) hsh hr hR1 hM1 0) (fun v38 μ38 hc => ?_)
      obtain ⟨rfl, d2, rfl, f2, hM2, rg2, sn2⟩ := hc
      refine ⟨mm_le_same rfl, ?_⟩
      rw [sgM0] at hM2 rg2 sn2
      have hM2 : hM d2 (aN T o B (k + 1)) := hM2
      have p2 := pf_trans p1 f2
      refine wp_aload_n (j := 0) rfl q202_ok d202_41 ?_
      refine wp_getR q202_ok d202_42 fl_11_67 rfl (by first | assumption | exact so0 hsh rfl) (by first | assumption | exact hr _ _ _ rfl) ?_
      refine wp_iload_n (j := 1) rfl q202_ok d202_45 ?_
      refine wp_bald (m := 2) q202_ok d202_46 (by first | assumption | exact so0 hsh rfl) (shl hsh (m := 2) (Nat.le_of_ble_eq_true rfl) rfl) (ixn_nI (show b < 2 by omega)) (rg2 b hb) ?_
      refine wp_if_eq q202_ok d202_47 (t := 57) rfl (fun h47 => ?_) (fun h47 => ?_)
      · refine wp_iconst (v := 0) (by decide) q202_ok d202_57 ?_
        refine wp_istore (j := 4) (Nat.le_of_ble_eq_true rfl) (rfl : _ = [_, _, _, _, _, _]) q202_ok d202_58 ?_
        refine wp_iload_n (j := 3) rfl q202_ok d202_60 ?_
        refine wp_iload (j := 4) rfl q202_ok d202_61 ?_
        refine wp_cS q202_ok d202_63 ml_11_368 rfl q227_ok rfl rfl rfl (Nat.le_of_ble_eq_true rfl) (Nat.le_of_ble_eq_true rfl) (c_max _ _) (fun v63 μ63 hc => ?_)
        obtain ⟨rfl, rfl⟩ := hc
        refine ⟨mm_le_same rfl, ?_⟩
        refine wp_istore_n (j := 3) (Nat.le_of_ble_eq_true rfl) (rfl : _ = [_, _, _, _, _, _]) q202_ok d202_66 ?_
        refine wp_iinc (j := 5) rfl (by first | exact inc1 | rfl) (rfl : _ = [_, _, _, _, _, _]) q202_ok d202_67 ?_
        refine wp_goto (t := 30) rfl q202_ok d202_70 ?_
        have this := ih (k + 1) d2 (by omega) p2 hM2
        rw [bunBA, bunKA, show rrA T o B b k = rgA T (aN T o B k) (snA T o (aN T o B k)) b from rfl, if_pos h47] at this
        exact this
      · refine wp_iload (j := 4) rfl q202_ok d202_50 ?_
        refine wp_iconst (v := 1) (by decide) q202_ok d202_52 ?_
        refine wp_iadd rfl q202_ok d202_53 ?_
        refine wp_goto (t := 58) rfl q202_ok d202_54 ?_
        refine wp_istore (j := 4) (Nat.le_of_ble_eq_true rfl) (rfl : _ = [_, _, _, _, _, _]) q202_ok d202_58 ?_
        refine wp_iload_n (j := 3) rfl q202_ok d202_60 ?_
        refine wp_iload (j := 4) rfl q202_ok d202_61 ?_
        refine wp_cS q202_ok d202_63 ml_11_368 rfl q227_ok rfl rfl rfl (Nat.le_of_ble_eq_true rfl) (Nat.le_of_ble_eq_true rfl) (c_max _ _) (fun v63 μ63 hc => ?_)
        obtain ⟨rfl, rfl⟩ := hc
        refine ⟨mm_le_same rfl, ?_⟩
        refine wp_istore_n (j := 3) (Nat.le_of_ble_eq_true rfl) (rfl : _ = [_, _, _, _, _, _]) q202_ok d202_66 ?_
        refine wp_iinc (j := 5) rfl (by first | exact inc1 | rfl) (rfl : _ = [_, _, _, _, _, _]) q202_ok d202_67 ?_
        refine wp_goto (t := 30) rfl q202_ok d202_70 ?_
        have this := ih (k + 1) d2 (by omega) p2 hM2
        rw [bunBA, bunKA, show rrA T o B b k = rgA T (aN T o B k) (snA T o (aN T o B k)) b from rfl, if_neg h47] at this
        exact this
theorem m_bunch {xs : List Int32} {ext : mm_X} {n : Nat} {sh : mm_S} {d : mm_D} {g : mm_G} {r : mm_R} {T : wo_T} {B : wo_A} (hsh : shp sh) (hr : rfx r) (hR : MR d T (o0 T)) (hB : hM d B) (hbn : tnb T ≠ 0 → tnp T ≠ 0) (i n1 : Int32) : wp xs ext (n + 10) 202 0 [some (.ref 250), some (.int i), some (.int n1), none, none, none] [] (sh, d, g, r) (fun v μ => v = some (.int (bunQ T B i n1)) ∧ ∃ d2, μ = (sh, d2, g, r) ∧ qf d d2 ∧ hM d2 B) := by
  refine wp_aload_n (j := 0) rfl q202_ok d202_0 ?_
  refine wp_iload_n (j := 1) rfl q202_ok d202_1 ?_
  refine wp_cV q202_ok d202_2 ml_11_327 rfl q178_ok (u := 11) rfl (by first | assumption | exact so0 hsh rfl) rfl (Nat.le_of_ble_eq_true rfl) (Nat.le_of_ble_eq_true rfl) (m_isBell hsh hr _) (fun v2 μ2 hc => ?_)
  obtain ⟨rfl, rfl⟩ := hc
  refine ⟨mm_le_same rfl, ?_⟩
  rw [mbel_v hR i]
  by_cases c0 : belT T i
  · rw [if_pos c0]
    have hh : hasT T := hbn (by have := bel_lt c0 hR.2.1; omega)
    refine wp_if_eq q202_ok d202_5 (t := 16) rfl (fun h5 => ?_) (fun h5 => ?_)
    · exact absurd h5 (by decide)
    · refine wp_aload_n (j := 0) rfl q202_ok d202_8 ?_
      refine wp_iload_n (j := 2) rfl q202_ok d202_9 ?_
      refine wp_cV q202_ok d202_10 ml_11_337 rfl q192_ok (u := 11) rfl (by first | assumption | exact so0 hsh rfl) rfl (Nat.le_of_ble_eq_true rfl) (Nat.le_of_ble_eq_true rfl) (m_are hsh hr _) (fun v10 μ10 hc => ?_)
      obtain ⟨rfl, rfl⟩ := hc
      refine ⟨mm_le_same rfl, ?_⟩
      rw [mare_v hR n1]
      by_cases c1 : ahdT n1
      · rw [if_pos ⟨hh, c1⟩]
        refine wp_if_ne q202_ok d202_13 (t := 18) rfl (fun h13 => ?_) (fun h13 => ?_)
        · have hib : i.toNatClampNeg < tnb T := bel_lt c0 hR.2.1
          have hie := nI_ofn c0.1
          generalize hic : i.toNatClampNeg = b at hib hie
          obtain ⟨N, hN1, hN, hNe⟩ := ahd_of (fun e => (ahd_T n1).mp e c1)
          have hNc : n1.toNatClampNeg = N := by rw [hNe]; exact nI_clamp (by omega)
          subst hNe
          subst hie
          refine wp_aload_n (j := 0) rfl q202_ok d202_18 ?_
          refine wp_cV q202_ok d202_19 ml_11_356 rfl q195_ok (u := 11) rfl (by first | assumption | exact so0 hsh rfl) rfl (Nat.le_of_ble_eq_true rfl) (Nat.le_of_ble_eq_true rfl) (m_put hsh hr hB) (fun v19 μ19 hc => ?_)
          obtain ⟨rfl, d1, rfl, q1, hM1, hS1⟩ := hc
          refine ⟨mm_le_same rfl, ?_⟩
          refine wp_iconst (v := 0) (by decide) q202_ok d202_22 ?_
          refine wp_istore_n (j := 3) (Nat.le_of_ble_eq_true rfl) (rfl : _ = [_, _, _, _, _, _]) q202_ok d202_23 ?_
          refine wp_iconst (v := 0) (by decide) q202_ok d202_24 ?_
          refine wp_istore (j := 4) (Nat.le_of_ble_eq_true rfl) (rfl : _ = [_, _, _, _, _, _]) q202_ok d202_25 ?_
          refine wp_iconst (v := 0) (by decide) q202_ok d202_27 ?_
          refine wp_istore (j := 5) (Nat.le_of_ble_eq_true rfl) (rfl : _ = [_, _, _, _, _, _]) q202_ok d202_28 ?_
          refine wp_post (m_bunch_l hsh hr (MR_qf hR q1) hS1 (show N < 2 ^ 31 by omega) hib N 0 d1 (by omega) (pf_refl d1) hM1) (fun v μ hc => ?_)
          obtain ⟨rfl, d9, rfl, q9, hM9⟩ := hc
          exact ⟨by unfold bunQ; rw [if_pos c0, if_pos c1, hic, hNc], d9, rfl, qf_trans q1 q9, hM9⟩
        · have h13 := Classical.not_not.mp h13
          exact absurd h13 (by decide)
      · rw [if_neg (fun q => c1 q.2)]
        refine wp_if_ne q202_ok d202_13 (t := 18) rfl (fun h13 => ?_) (fun h13 => ?_)
        · exact absurd rfl h13
        · have h13 := Classical.not_not.mp h13
          refine wp_iconst (v := -1) (by decide) q202_ok d202_16 ?_
          refine wp_iret q202_ok d202_17 rfl ?_
          exact ⟨by unfold bunQ; rw [if_pos c0, if_neg c1], d, rfl, qf_refl d, hB⟩
  · rw [if_neg c0]
    refine wp_if_eq q202_ok d202_5 (t := 16) rfl (fun h5 => ?_) (fun h5 => ?_)
    · refine wp_iconst (v := -1) (by decide) q202_ok d202_16 ?_
      refine wp_iret q202_ok d202_17 rfl ?_
      exact ⟨by unfold bunQ; rw [if_neg c0], d, rfl, qf_refl d, hB⟩
    · exact absurd rfl h5
theorem m_seen_l {xs : List Int32} {ext : mm_X} {n : Nat} {sh : mm_S} {d : mm_D} {g : mm_G} {r : mm_R} {T : wo_T} {o : wo_O} {B : wo_A} (hsh : shp sh) (hr : rfx r) (hR : MR d T o) (hSd : hS d B) {N : Nat} (w : Int32) (hN : N < 2 ^ 31) : ∀ (z k : Nat) (d1 : mm_D) , z + k = N → pf d d1 → hM d1 (aN T o B k) → wp xs ext (n + 9) 204 34 [some (.ref 250), some (.int (nI N)), some (.int w), some (.int (senBA T o B k)), some (.int (senMA T o B k)), some (.int (senDA T o B k)), some (.int (nI k))] [] (sh, d1, g, r) (fun v μ => v = some (.int (if w = 0 then senBA T o B N else senMA T o B N)) ∧ ∃ d2, μ = (sh, d2, g, r) ∧ qf d d2 ∧ hM d2 B) := by
  have hnb2 := hR.2.1
  intro z
  induction z with
  | zero =>
    intro k d1 hz p1 hM1
    have hvb : N = k := by omega
    subst hvb
    have hR1 := MR_pf hR p1
    refine wp_iload (j := 6) rfl q204_ok d204_34 ?_
    refine wp_iload_n (j := 1) rfl q204_ok d204_36 ?_
    refine wp_icmp_ge q204_ok d204_37 (t := 92) rfl (fun h37 => ?_) (fun h37 => ?_)
    · refine wp_aload_n (j := 0) rfl q204_ok d204_92 ?_
      refine wp_cV q204_ok d204_93 ml_11_362 rfl q196_ok (u := 11) rfl (by first | assumption | exact so0 hsh rfl) rfl (Nat.le_of_ble_eq_true rfl) (Nat.le_of_ble_eq_true rfl) (m_back hsh hr (hS_pf hSd p1)) (fun v93 μ93 hc => ?_)
      obtain ⟨rfl, d9, rfl, q9, hM9⟩ := hc
      refine ⟨mm_le_same rfl, ?_⟩
      refine wp_iload_n (j := 2) rfl q204_ok d204_96 ?_
      refine wp_if_ne q204_ok d204_97 (t := 104) rfl (fun h97 => ?_) (fun h97 => ?_)
      · refine wp_iload (j := 4) rfl q204_ok d204_104 ?_
        refine wp_iret q204_ok d204_106 rfl ?_
        exact ⟨by rw [if_neg h97], d9, rfl, qf_trans (qf_pf p1) q9, hM9⟩
      · have h97 := Classical.not_not.mp h97
        refine wp_iload_n (j := 3) rfl q204_ok d204_100 ?_
        refine wp_goto (t := 106) rfl q204_ok d204_101 ?_
        refine wp_iret q204_ok d204_106 rfl ?_
        exact ⟨by rw [if_pos h97], d9, rfl, qf_trans (qf_pf p1) q9, hM9⟩
    · exact absurd (nI_le (Nat.le_refl _) (by omega)) h37
  | succ z ih =>
    intro k d1 hz p1 hM1
    have hlt : k < N := by omega
    have hR1 := MR_pf hR p1
    refine wp_iload (j := 6) rfl q204_ok d204_34 ?_
    refine wp_iload_n (j := 1) rfl q204_ok d204_36 ?_
    refine wp_icmp_ge q204_ok d204_37 (t := 92) rfl (fun h37 => ?_) (fun h37 => ?_)
    · exact absurd h37 (nI_ge hlt (by omega))
    · refine wp_aload_n (j := 0) rfl q204_ok d204_40 ?_
      refine wp_iconst (v := 0) (by decide) q204_ok d204_41 ?_
      refine wp_cV q204_ok d204_42 ml_11_349 rfl q184_ok (u := 11) rfl (by first | assumption | exact so0 hsh rfl) rfl (Nat.le_of_ble_eq_true rfl) (Nat.le_of_ble_eq_true rfl) (m_pass (n := n) hsh hr hR1 hM1 0) (fun v42 μ42 hc => ?_)
      obtain ⟨rfl, d2, rfl, f2, hM2, rg2, sn2⟩ := hc
      refine ⟨mm_le_same rfl, ?_⟩
      rw [sgM0] at hM2 rg2 sn2
      have hM2 : hM d2 (aN T o B (k + 1)) := hM2
      have p2 := pf_trans p1 f2
      refine wp_iload_n (j := 3) rfl q204_ok d204_45 ?_
      refine wp_aload_n (j := 0) rfl q204_ok d204_46 ?_
      refine wp_getZ q204_ok d204_47 fl_11_321 rfl (by first | assumption | exact so0 hsh rfl) sn2 ?_
      refine wp_if_eq q204_ok d204_50 (t := 57) rfl (fun h50 => ?_) (fun h50 => ?_)
      · refine wp_iconst (v := 0) (by decide) q204_ok d204_57 ?_
        refine wp_iadd rfl q204_ok d204_58 ?_
        refine wp_istore_n (j := 3) (Nat.le_of_ble_eq_true rfl) (rfl : _ = [_, _, _, _, _, _, _]) q204_ok d204_59 ?_
        refine wp_aload_n (j := 0) rfl q204_ok d204_60 ?_
        refine wp_getZ q204_ok d204_61 fl_11_321 rfl (by first | assumption | exact so0 hsh rfl) sn2 ?_
        refine wp_if_eq q204_ok d204_64 (t := 71) rfl (fun h64 => ?_) (fun h64 => ?_)
        · refine wp_iload (j := 5) rfl q204_ok d204_71 ?_
          refine wp_iconst (v := 1) (by decide) q204_ok d204_73 ?_
          refine wp_iadd rfl q204_ok d204_74 ?_
          refine wp_istore (j := 5) (Nat.le_of_ble_eq_true rfl) (rfl : _ = [_, _, _, _, _, _, _]) q204_ok d204_75 ?_
          refine wp_iload (j := 4) rfl q204_ok d204_77 ?_
          refine wp_iload (j := 5) rfl q204_ok d204_79 ?_
          refine wp_cS q204_ok d204_81 ml_11_368 rfl q227_ok rfl rfl rfl (Nat.le_of_ble_eq_true rfl) (Nat.le_of_ble_eq_true rfl) (c_max _ _) (fun v81 μ81 hc => ?_)
          obtain ⟨rfl, rfl⟩ := hc
          refine ⟨mm_le_same rfl, ?_⟩
          refine wp_istore (j := 4) (Nat.le_of_ble_eq_true rfl) (rfl : _ = [_, _, _, _, _, _, _]) q204_ok d204_84 ?_
          refine wp_iinc (j := 6) rfl (by first | exact inc1 | rfl) (rfl : _ = [_, _, _, _, _, _, _]) q204_ok d204_86 ?_
          refine wp_goto (t := 34) rfl q204_ok d204_89 ?_
          have e0 : ssA T o B k = 0 := Classical.byContradiction (fun q => by have h := h50; unfold snA b01 at h; rw [if_neg (show ¬ seB T o (aN T o B k).1 ((aN T o B k).2.1 0) = 0 from q)] at h; exact absurd h (by decide))
          have this := ih (k + 1) d2 (by omega) p2 hM2
          rw [senBA, senMA, senDA, if_pos e0, if_pos e0] at this
          exact this
        · exact absurd (h50) h64
      · refine wp_iconst (v := 1) (by decide) q204_ok d204_53 ?_
        refine wp_goto (t := 58) rfl q204_ok d204_54 ?_
        refine wp_iadd rfl q204_ok d204_58 ?_
        refine wp_istore_n (j := 3) (Nat.le_of_ble_eq_true rfl) (rfl : _ = [_, _, _, _, _, _, _]) q204_ok d204_59 ?_
        refine wp_aload_n (j := 0) rfl q204_ok d204_60 ?_
        refine wp_getZ q204_ok d204_61 fl_11_321 rfl (by first | assumption | exact so0 hsh rfl) sn2 ?_
        refine wp_if_eq q204_ok d204_64 (t := 71) rfl (fun h64 => ?_) (fun h64 => ?_)
        · exact absurd h64 h50
        · refine wp_iconst (v := 0) (by decide) q204_ok d204_67 ?_
          refine wp_goto (t := 75) rfl q204_ok d204_68 ?_
          refine wp_istore (j := 5) (Nat.le_of_ble_eq_true rfl) (rfl : _ = [_, _, _, _, _, _, _]) q204_ok d204_75 ?_
          refine wp_iload (j := 4) rfl q204_ok d204_77 ?_
          refine wp_iload (j := 5) rfl q204_ok d204_79 ?_
          refine wp_cS q204_ok d204_81 ml_11_368 rfl q227_ok rfl rfl rfl (Nat.le_of_ble_eq_true rfl) (Nat.le_of_ble_eq_true rfl) (c_max _ _) (fun v81 μ81 hc => ?_)
          obtain ⟨rfl, rfl⟩ := hc
          refine ⟨mm_le_same rfl, ?_⟩
          refine wp_istore (j := 4) (Nat.le_of_ble_eq_true rfl) (rfl : _ = [_, _, _, _, _, _, _]) q204_ok d204_84 ?_
          refine wp_iinc (j := 6) rfl (by first | exact inc1 | rfl) (rfl : _ = [_, _, _, _, _, _, _]) q204_ok d204_86 ?_
          refine wp_goto (t := 34) rfl q204_ok d204_89 ?_
          have e0 : ¬ ssA T o B k = 0 := fun q => h50 (by unfold snA b01; rw [if_pos (show seB T o (aN T o B k).1 ((aN T o B k).2.1 0) = 0 from q)])
          have this := ih (k + 1) d2 (by omega) p2 hM2
          rw [senBA, senMA, senDA, if_neg e0, if_neg e0] at this
          exact this
theorem m_seen {xs : List Int32} {ext : mm_X} {n : Nat} {sh : mm_S} {d : mm_D} {g : mm_G} {r : mm_R} {T : wo_T} {B : wo_A} (hsh : shp sh) (hr : rfx r) (hR : MR d T (o0 T)) (hB : hM d B) (hbn : tnb T ≠ 0 → tnp T ≠ 0) (n1 w : Int32) : wp xs ext (n + 10) 204 0 [some (.ref 250), some (.int n1), some (.int w), none, none, none, none] [] (sh, d, g, r) (fun v μ => v = some (.int (seenQ T B n1 w)) ∧ ∃ d2, μ = (sh, d2, g, r) ∧ qf d d2 ∧ hM d2 B) := by
  refine wp_aload_n (j := 0) rfl q204_ok d204_0 ?_
  refine wp_iload_n (j := 1) rfl q204_ok d204_1 ?_
  refine wp_cV q204_ok d204_2 ml_11_337 rfl q192_ok (u := 11) rfl (by first | assumption | exact so0 hsh rfl) rfl (Nat.le_of_ble_eq_true rfl) (Nat.le_of_ble_eq_true rfl) (m_are hsh hr _) (fun v2 μ2 hc => ?_)
  obtain ⟨rfl, rfl⟩ := hc
  refine ⟨mm_le_same rfl, ?_⟩
  rw [mare_v hR n1]
  by_cases hh : hasT T
  · skip
    by_cases c0 : ahdT n1
    · rw [if_pos ⟨hh, c0⟩]
      refine wp_if_eq q204_ok d204_5 (t := 17) rfl (fun h5 => ?_) (fun h5 => ?_)
      · exact absurd h5 (by decide)
      · refine wp_iload_n (j := 2) rfl q204_ok d204_8 ?_
        refine wp_iconst (v := 0) (by decide) q204_ok d204_9 ?_
        refine wp_iconst (v := 1) (by decide) q204_ok d204_10 ?_
        refine wp_cS q204_ok d204_11 ml_11_218 rfl q133_ok rfl rfl rfl (Nat.le_of_ble_eq_true rfl) (Nat.le_of_ble_eq_true rfl) (m_in _ _ _) (fun v11 μ11 hc => ?_)
        obtain ⟨rfl, rfl⟩ := hc
        refine ⟨mm_le_same rfl, ?_⟩
        by_cases c1 : whT w
        · rw [if_pos c1]
          refine wp_if_ne q204_ok d204_14 (t := 19) rfl (fun h14 => ?_) (fun h14 => ?_)
          · obtain ⟨N, hN1, hN, hNe⟩ := ahd_of (fun e => (ahd_T n1).mp e c0)
            have hNc : n1.toNatClampNeg = N := by rw [hNe]; exact nI_clamp (by omega)
            subst hNe
            refine wp_aload_n (j := 0) rfl q204_ok d204_19 ?_
            refine wp_cV q204_ok d204_20 ml_11_356 rfl q195_ok (u := 11) rfl (by first | assumption | exact so0 hsh rfl) rfl (Nat.le_of_ble_eq_true rfl) (Nat.le_of_ble_eq_true rfl) (m_put hsh hr hB) (fun v20 μ20 hc => ?_)
            obtain ⟨rfl, d1, rfl, q1, hM1, hS1⟩ := hc
            refine ⟨mm_le_same rfl, ?_⟩
            refine wp_iconst (v := 0) (by decide) q204_ok d204_23 ?_
            refine wp_istore_n (j := 3) (Nat.le_of_ble_eq_true rfl) (rfl : _ = [_, _, _, _, _, _, _]) q204_ok d204_24 ?_
            refine wp_iconst (v := 0) (by decide) q204_ok d204_25 ?_
            refine wp_istore (j := 4) (Nat.le_of_ble_eq_true rfl) (rfl : _ = [_, _, _, _, _, _, _]) q204_ok d204_26 ?_
            refine wp_iconst (v := 0) (by decide) q204_ok d204_28 ?_
            refine wp_istore (j := 5) (Nat.le_of_ble_eq_true rfl) (rfl : _ = [_, _, _, _, _, _, _]) q204_ok d204_29 ?_
            refine wp_iconst (v := 0) (by decide) q204_ok d204_31 ?_
            refine wp_istore (j := 6) (Nat.le_of_ble_eq_true rfl) (rfl : _ = [_, _, _, _, _, _, _]) q204_ok d204_32 ?_
            refine wp_post (m_seen_l hsh hr (MR_qf hR q1) hS1 w (show N < 2 ^ 31 by omega) N 0 d1 (by omega) (pf_refl d1) hM1) (fun v μ hc => ?_)
            obtain ⟨rfl, d9, rfl, q9, hM9⟩ := hc
            exact ⟨by unfold seenQ; rw [if_pos hh, if_pos c0, if_pos c1, hNc], d9, rfl, qf_trans q1 q9, hM9⟩
          · have h14 := Classical.not_not.mp h14
            exact absurd h14 (by decide)
        · rw [if_neg c1]
          refine wp_if_ne q204_ok d204_14 (t := 19) rfl (fun h14 => ?_) (fun h14 => ?_)
          · exact absurd rfl h14
          · have h14 := Classical.not_not.mp h14
            refine wp_iconst (v := -1) (by decide) q204_ok d204_17 ?_
            refine wp_iret q204_ok d204_18 rfl ?_
            exact ⟨by unfold seenQ; rw [if_pos hh, if_pos c0, if_neg c1], d, rfl, qf_refl d, hB⟩
    · rw [if_neg (fun q => c0 q.2)]
      refine wp_if_eq q204_ok d204_5 (t := 17) rfl (fun h5 => ?_) (fun h5 => ?_)
      · refine wp_iconst (v := -1) (by decide) q204_ok d204_17 ?_
        refine wp_iret q204_ok d204_18 rfl ?_
        exact ⟨by unfold seenQ; rw [if_pos hh, if_neg c0], d, rfl, qf_refl d, hB⟩
      · exact absurd rfl h5
  · rw [if_neg (fun q => hh q.1)]
    refine wp_if_eq q204_ok d204_5 (t := 17) rfl (fun h5 => ?_) (fun h5 => ?_)
    · refine wp_iconst (v := -1) (by decide) q204_ok d204_17 ?_
      refine wp_iret q204_ok d204_18 rfl ?_
      exact ⟨by unfold seenQ; rw [if_neg hh], d, rfl, qf_refl d, hB⟩
    · exact absurd rfl h5
theorem m_ahead {xs : List Int32} {ext : mm_X} {n : Nat} {sh : mm_S} {d : mm_D} {g : mm_G} {r : mm_R} {T : wo_T} {B : wo_A} (hsh : shp sh) (hr : rfx r) (hR : MR d T (o0 T)) (hB : hM d B) (hbn : tnb T ≠ 0 → tnp T ≠ 0) (i n1 w : Int32) : wp xs ext (n + 10) 198 0 [some (.ref 250), some (.int i), some (.int n1), some (.int w), none] [] (sh, d, g, r) (fun v μ => v = some (.int (aheadQ T B i n1 w)) ∧ ∃ d2, μ = (sh, d2, g, r) ∧ qf d d2 ∧ hM d2 B) := by
  refine wp_aload_n (j := 0) rfl q198_ok d198_0 ?_
  refine wp_iload_n (j := 1) rfl q198_ok d198_1 ?_
  refine wp_cV q198_ok d198_2 ml_11_327 rfl q178_ok (u := 11) rfl (by first | assumption | exact so0 hsh rfl) rfl (Nat.le_of_ble_eq_true rfl) (Nat.le_of_ble_eq_true rfl) (m_isBell hsh hr _) (fun v2 μ2 hc => ?_)
  obtain ⟨rfl, rfl⟩ := hc
  refine ⟨mm_le_same rfl, ?_⟩
  rw [mbel_v hR i]
  by_cases c0 : belT T i
  · rw [if_pos c0]
    have hh : hasT T := hbn (by have := bel_lt c0 hR.2.1; omega)
    refine wp_if_eq q198_ok d198_5 (t := 25) rfl (fun h5 => ?_) (fun h5 => ?_)
    · exact absurd h5 (by decide)
    · refine wp_aload_n (j := 0) rfl q198_ok d198_8 ?_
      refine wp_iload_n (j := 2) rfl q198_ok d198_9 ?_
      refine wp_cV q198_ok d198_10 ml_11_337 rfl q192_ok (u := 11) rfl (by first | assumption | exact so0 hsh rfl) rfl (Nat.le_of_ble_eq_true rfl) (Nat.le_of_ble_eq_true rfl) (m_are hsh hr _) (fun v10 μ10 hc => ?_)
      obtain ⟨rfl, rfl⟩ := hc
      refine ⟨mm_le_same rfl, ?_⟩
      rw [mare_v hR n1]
      by_cases c1 : ahdT n1
      · rw [if_pos ⟨hh, c1⟩]
        refine wp_if_eq q198_ok d198_13 (t := 25) rfl (fun h13 => ?_) (fun h13 => ?_)
        · exact absurd h13 (by decide)
        · refine wp_iload_n (j := 3) rfl q198_ok d198_16 ?_
          refine wp_iconst (v := 0) (by decide) q198_ok d198_17 ?_
          refine wp_iconst (v := 1) (by decide) q198_ok d198_18 ?_
          refine wp_cS q198_ok d198_19 ml_11_218 rfl q133_ok rfl rfl rfl (Nat.le_of_ble_eq_true rfl) (Nat.le_of_ble_eq_true rfl) (m_in _ _ _) (fun v19 μ19 hc => ?_)
          obtain ⟨rfl, rfl⟩ := hc
          refine ⟨mm_le_same rfl, ?_⟩
          by_cases c2 : whT w
          · rw [if_pos c2]
            refine wp_if_ne q198_ok d198_22 (t := 27) rfl (fun h22 => ?_) (fun h22 => ?_)
            · have hib : i.toNatClampNeg < tnb T := bel_lt c0 hR.2.1
              have hie := nI_ofn c0.1
              generalize hic : i.toNatClampNeg = b at hib hie
              obtain ⟨N, hN1, hN, hNe⟩ := ahd_of (fun e => (ahd_T n1).mp e c1)
              have hNc : n1.toNatClampNeg = N := by rw [hNe]; exact nI_clamp (by omega)
              subst hNe
              subst hie
              have hb2 : b < 2 := by have := hR.2.1; omega
              refine wp_aload_n (j := 0) rfl q198_ok d198_27 ?_
              refine wp_cV q198_ok d198_28 ml_11_356 rfl q195_ok (u := 11) rfl (by first | assumption | exact so0 hsh rfl) rfl (Nat.le_of_ble_eq_true rfl) (Nat.le_of_ble_eq_true rfl) (m_put hsh hr hB) (fun v28 μ28 hc => ?_)
              obtain ⟨rfl, d1, rfl, q1, hM1, hS1⟩ := hc
              refine ⟨mm_le_same rfl, ?_⟩
              refine wp_aload_n (j := 0) rfl q198_ok d198_31 ?_
              refine wp_iload_n (j := 2) rfl q198_ok d198_32 ?_
              refine wp_cV q198_ok d198_33 ml_11_359 rfl q197_ok (u := 11) rfl (by first | assumption | exact so0 hsh rfl) rfl (Nat.le_of_ble_eq_true rfl) (Nat.le_of_ble_eq_true rfl) (m_all (n := n) hsh hr (MR_qf hR q1) hM1 (show N < 2 ^ 31 by omega)) (fun v33 μ33 hc => ?_)
              obtain ⟨rfl, d2, rfl, f2, hM2⟩ := hc
              refine ⟨mm_le_same rfl, ?_⟩
              refine wp_iload_n (j := 3) rfl q198_ok d198_36 ?_
              refine wp_if_ne q198_ok d198_37 (t := 49) rfl (fun h37 => ?_) (fun h37 => ?_)
              · refine wp_aload_n (j := 0) rfl q198_ok d198_49 ?_
                refine wp_getR q198_ok d198_50 fl_11_64 rfl (by first | assumption | exact so0 hsh rfl) (by first | assumption | exact hr _ _ _ rfl) ?_
                refine wp_iload_n (j := 1) rfl q198_ok d198_53 ?_
                refine wp_iald (m := 2) q198_ok d198_54 (by first | assumption | exact so0 hsh rfl) (shl hsh (m := 2) (Nat.le_of_ble_eq_true rfl) rfl) (ixn_nI (show b < 2 by have := hR.2.1; omega)) (hM2.2 b hb2).2 ?_ (shK hsh)
                refine wp_aload_n (j := 0) rfl q198_ok d198_55 ?_
                refine wp_getR q198_ok d198_56 fl_11_84 rfl (by first | assumption | exact so0 hsh rfl) (by first | assumption | exact hr _ _ _ rfl) ?_
                refine wp_iload_n (j := 1) rfl q198_ok d198_59 ?_
                refine wp_iald (m := 2) q198_ok d198_60 (by first | assumption | exact so0 hsh rfl) (shl hsh (m := 2) (Nat.le_of_ble_eq_true rfl) rfl) (ixn_nI (show b < 2 by have := hR.2.1; omega)) ((hS_pf hS1 f2).2 b hb2).2 ?_ (shK hsh)
                refine wp_isub rfl q198_ok d198_61 ?_
                refine wp_istore (j := 4) (Nat.le_of_ble_eq_true rfl) (rfl : _ = [_, _, _, _, _]) q198_ok d198_62 ?_
                refine wp_aload_n (j := 0) rfl q198_ok d198_64 ?_
                refine wp_cV q198_ok d198_65 ml_11_362 rfl q196_ok (u := 11) rfl (by first | assumption | exact so0 hsh rfl) rfl (Nat.le_of_ble_eq_true rfl) (Nat.le_of_ble_eq_true rfl) (m_back hsh hr (hS_pf hS1 f2)) (fun v65 μ65 hc => ?_)
                obtain ⟨rfl, d9, rfl, q9, hM9⟩ := hc
                refine ⟨mm_le_same rfl, ?_⟩
                refine wp_iload (j := 4) rfl q198_ok d198_68 ?_
                refine wp_iret q198_ok d198_70 rfl ?_
                exact ⟨by unfold aheadQ; rw [if_pos c0, if_pos c1, if_pos c2, hic, hNc, if_neg h37], d9, rfl, qf_trans q1 (qf_trans (qf_pf f2) q9), hM9⟩
              · have h37 := Classical.not_not.mp h37
                refine wp_aload_n (j := 0) rfl q198_ok d198_40 ?_
                refine wp_getR q198_ok d198_41 fl_11_61 rfl (by first | assumption | exact so0 hsh rfl) (by first | assumption | exact hr _ _ _ rfl) ?_
                refine wp_iload_n (j := 1) rfl q198_ok d198_44 ?_
                refine wp_iald (m := 2) q198_ok d198_45 (by first | assumption | exact so0 hsh rfl) (shl hsh (m := 2) (Nat.le_of_ble_eq_true rfl) rfl) (ixn_nI (show b < 2 by have := hR.2.1; omega)) (hM2.2 b hb2).1 ?_ (shK hsh)
                refine wp_goto (t := 62) rfl q198_ok d198_46 ?_
                refine wp_istore (j := 4) (Nat.le_of_ble_eq_true rfl) (rfl : _ = [_, _, _, _, _]) q198_ok d198_62 ?_
                refine wp_aload_n (j := 0) rfl q198_ok d198_64 ?_
                refine wp_cV q198_ok d198_65 ml_11_362 rfl q196_ok (u := 11) rfl (by first | assumption | exact so0 hsh rfl) rfl (Nat.le_of_ble_eq_true rfl) (Nat.le_of_ble_eq_true rfl) (m_back hsh hr (hS_pf hS1 f2)) (fun v65 μ65 hc => ?_)
                obtain ⟨rfl, d9, rfl, q9, hM9⟩ := hc
                refine ⟨mm_le_same rfl, ?_⟩
                refine wp_iload (j := 4) rfl q198_ok d198_68 ?_
                refine wp_iret q198_ok d198_70 rfl ?_
                exact ⟨by unfold aheadQ; rw [if_pos c0, if_pos c1, if_pos c2, hic, hNc, if_pos h37], d9, rfl, qf_trans q1 (qf_trans (qf_pf f2) q9), hM9⟩
            · have h22 := Classical.not_not.mp h22
              exact absurd h22 (by decide)
          · rw [if_neg c2]
            refine wp_if_ne q198_ok d198_22 (t := 27) rfl (fun h22 => ?_) (fun h22 => ?_)
            · exact absurd rfl h22
            · have h22 := Classical.not_not.mp h22
              refine wp_iconst (v := -1) (by decide) q198_ok d198_25 ?_
              refine wp_iret q198_ok d198_26 rfl ?_
              exact ⟨by unfold aheadQ; rw [if_pos c0, if_pos c1, if_neg c2], d, rfl, qf_refl d, hB⟩
      · rw [if_neg (fun q => c1 q.2)]
        refine wp_if_eq q198_ok d198_13 (t := 25) rfl (fun h13 => ?_) (fun h13 => ?_)
        · refine wp_iconst (v := -1) (by decide) q198_ok d198_25 ?_
          refine wp_iret q198_ok d198_26 rfl ?_
          exact ⟨by unfold aheadQ; rw [if_pos c0, if_neg c1], d, rfl, qf_refl d, hB⟩
        · exact absurd rfl h13
  · rw [if_neg c0]
    refine wp_if_eq q198_ok d198_5 (t := 25) rfl (fun h5 => ?_) (fun h5 => ?_)
    · refine wp_iconst (v := -1) (by decide) q198_ok d198_25 ?_
      refine wp_iret q198_ok d198_26 rfl ?_
      exact ⟨by unfold aheadQ; rw [if_neg c0], d, rfl, qf_refl d, hB⟩
    · exact absurd rfl h5
