/-! ===== times, whose, odds ===== -/
def timF (fit : Nat → Int32) (i : Int32) : Nat → Nat → Int32 → Int32
  | 0, _, c => if i = -1 then c else -1
  | z + 1, k, c => if fit k = 0 then timF fit i z (k + 1) c else if c = i then nI k else timF fit i z (k + 1) (c + Int32.ofInt 1)
theorem timF_ext {fit fit' : Nat → Int32} (i : Int32) : ∀ z k c, (∀ j, j < k + z → k ≤ j → fit j = fit' j) → timF fit i z k c = timF fit' i z k c
  | 0, _, _, _ => rfl
  | z + 1, k, c, h => by rw [timF, timF, h k (by omega) (Nat.le_refl _), timF_ext i z (k + 1) c (fun j h1 h2 => h j (by omega) (by omega)), timF_ext i z (k + 1) (c + Int32.ofInt 1) (fun j h1 h2 => h j (by omega) (by omega))]
def rgB (T : wo_T) (o : wo_O) (A : wo_A) (j : Nat) : Int32 := b01 (rbA T o (aN T o A j) &&& 1)
theorem ntR_eq {d d' : mm_D} {len : Nat} {mt : Nat → Nat} {rs : Nat → Int32} (h : ntR d len mt rs) (e9 : d' 229 = d 229) (e0 : d' 230 = d 230) (e1 : d' 231 = d 231) : ntR d' len mt rs := by
  unfold ntR
  rw [e9, e0, e1]
  exact h
theorem tw41 {sh : mm_S} {r : mm_R} (hsh : shp sh) (hr : rfx r) : tw sh r 41 := ⟨so0 hsh rfl, so0 hsh rfl, shl hsh (Nat.le_of_ble_eq_true rfl) rfl, so0 hsh rfl, shl hsh (Nat.le_of_ble_eq_true rfl) rfl, hr _ _ _ rfl, hr _ _ _ rfl⟩
theorem ntw41 : ntw 41 := by unfold ntw scr; decide
theorem c_times_l {xs : List Int32} {ext : mm_X} {n : Nat} {sh : mm_S} {d : mm_D} {g : mm_G} {r : mm_R} (hsh : shp sh) (hr : rfx r) {len : Nat} (h229 : d 229 2 = nI len) (hl : len ≤ 20) (i w : Int32) : ∀ (z k : Nat) (c : Int32), z + k = 480 → wp xs ext (n + 7) 115 43 [some (.ref 0), some (.int i), some (.int w), some (.int c), some (.int (nI k))] [] (sh, d, g, r) (fun v μ => v = some (.int (timF (fun f => fitC (d 237) (d 230) (d 231) (nI f) len 0) i z k c)) ∧ μ = (sh, d, g, r)) := by
  intro z
  induction z with
  | zero =>
    intro k c hm
    have hvb : k = 480 := by omega
    subst hvb
    refine wp_iload (j := 4) rfl q115_ok d115_43 ?_
    refine wp_sipush (v := 480) (by decide) q115_ok d115_45 ?_
    refine wp_icmp_ge q115_ok d115_48 (t := 87) rfl (fun h48 => ?_) (fun h48 => ?_)
    · refine wp_iload_n (j := 1) rfl q115_ok d115_87 ?_
      refine wp_iconst (v := -1) (by decide) q115_ok d115_88 ?_
      refine wp_icmp_ne q115_ok d115_89 (t := 96) rfl (fun h89 => ?_) (fun h89 => ?_)
      · refine wp_iconst (v := -1) (by decide) q115_ok d115_96 ?_
        refine wp_iret q115_ok d115_97 rfl ?_
        exact ⟨by rw [timF, if_neg (show ¬ i = -1 from h89)], rfl⟩
      · have h89 := Classical.not_not.mp h89
        refine wp_iload_n (j := 3) rfl q115_ok d115_92 ?_
        refine wp_goto (t := 97) rfl q115_ok d115_93 ?_
        refine wp_iret q115_ok d115_97 rfl ?_
        exact ⟨by rw [timF, if_pos (show i = -1 from h89)], rfl⟩
    · exact absurd (nI_le (Nat.le_refl _) (by decide)) h48
  | succ z ih =>
    intro k c hm
    have hlt : k < 480 := by omega
    refine wp_iload (j := 4) rfl q115_ok d115_43 ?_
    refine wp_sipush (v := 480) (by decide) q115_ok d115_45 ?_
    refine wp_icmp_ge q115_ok d115_48 (t := 87) rfl (fun h48 => ?_) (fun h48 => ?_)
    · exact absurd h48 (nI_ge hlt (by decide))
    · refine wp_aload_n (j := 0) rfl q115_ok d115_51 ?_
      refine wp_getR q115_ok d115_52 fl_10_89 rfl (by first | assumption | exact so0 hsh rfl) (by first | assumption | exact hr _ _ _ rfl) ?_
      refine wp_aload_n (j := 0) rfl q115_ok d115_55 ?_
      refine wp_getR q115_ok d115_56 fl_10_98 rfl (by first | assumption | exact so0 hsh rfl) (by first | assumption | exact hr _ _ _ rfl) ?_
      refine wp_getR q115_ok d115_59 fl_10_298 rfl (by first | assumption | exact so0 hsh rfl) (by first | assumption | exact hr _ _ _ rfl) ?_
      refine wp_iload (j := 4) rfl q115_ok d115_62 ?_
      refine wp_cV q115_ok d115_64 ml_10_302 rfl q28_ok (u := 2) rfl (by first | assumption | exact so0 hsh rfl) rfl (Nat.le_of_ble_eq_true rfl) (Nat.le_of_ble_eq_true rfl) (c_fit hsh hr h229 hl _) (fun v64 μ64 hc => ?_)
      obtain ⟨rfl, rfl⟩ := hc
      refine ⟨mm_le_same rfl, ?_⟩
      refine wp_if_eq q115_ok d115_67 (t := 81) rfl (fun h67 => ?_) (fun h67 => ?_)
      · refine wp_iinc (j := 4) rfl (by first | exact inc1 | rfl) (rfl : _ = [_, _, _, _, _]) q115_ok d115_81 ?_
        refine wp_goto (t := 43) rfl q115_ok d115_84 ?_
        have this := ih (k + 1) c (by omega)
        refine wp_post this (fun v μ hc => ?_)
        rw [timF, if_pos h67]
        exact hc
      · refine wp_iload_n (j := 3) rfl q115_ok d115_70 ?_
        refine wp_iload_n (j := 1) rfl q115_ok d115_71 ?_
        refine wp_icmp_ne q115_ok d115_72 (t := 78) rfl (fun h72 => ?_) (fun h72 => ?_)
        · refine wp_iinc (j := 3) rfl (by first | exact inc1 | rfl) (rfl : _ = [_, _, _, _, _]) q115_ok d115_78 ?_
          refine wp_iinc (j := 4) rfl (by first | exact inc1 | rfl) (rfl : _ = [_, _, _, _, _]) q115_ok d115_81 ?_
          refine wp_goto (t := 43) rfl q115_ok d115_84 ?_
          have this := ih (k + 1) (c + Int32.ofInt 1) (by omega)
          refine wp_post this (fun v μ hc => ?_)
          rw [timF, if_neg h67, if_neg h72]
          exact hc
        · have h72 := Classical.not_not.mp h72
          refine wp_iload (j := 4) rfl q115_ok d115_75 ?_
          refine wp_iret q115_ok d115_77 rfl ?_
          exact ⟨by rw [timF, if_neg h67, if_pos h72], rfl⟩
def timesQ (T : wo_T) (A : wo_A) (len : Nat) (mt : Nat → Nat) (rs : Nat → Int32) (i : Int32) : Int32 := if hasT T then if -1 ≤ i then timF (fun f => fitN (rgB T (o0 T) A) mt rs f len 0) i 480 0 0 else -1 else -1
theorem c_timesT {xs : List Int32} {ext : mm_X} {n : Nat} {sh : mm_S} {d : mm_D} {g : mm_G} {r : mm_R} (hsh : shp sh) (hr : rfx r) {T : wo_T} {A : wo_A} (hT : rpC d r T) (hA0 : hA d 41 A) {len : Nat} {mt : Nat → Nat} {rs : Nat → Int32} (hnt : ntR d len mt rs) (i : Int32) : wp xs ext (n + 7) 115 0 [some (.ref 0), some (.int i), none, none, none] [] (sh, d, g, r) (fun v μ => v = some (.int (timesQ T A len mt rs i)) ∧ ∃ d2 g2 r2, μ = (sh, d2, g2, r2) ∧ fr d g r d2 g2 r2) := by
  have hr' : rfx (mm_up r 232 2 (some 41)) := rfx_up hr rfl _
  have hT' := rpC_38 (t := 41) hT
  have hs' : mm_up r 232 2 (some 41) 232 2 = some 41 := (mm_up_at 2).trans (if_pos rfl)
  have hsm := sm_prep (n := 540) hT' hA0 (Nat.le_refl _) (show 41 + 2 < 232 by decide)
  have hTC := TC_rdy hsm.2.1 hs' (so0 hsh rfl) ntw41.1
  have hpr := (rdy_prep hT' (show 540 ≤ 540 by omega) (show 41 + 2 < 232 by decide)).2.2.2
  have hps := prp_stp (r' := mm_up r 232 2 (some 41)) (s := 41) (np := tnp T) (nb := tnb T) hpr 540
  refine wp_aload_n (j := 0) rfl q115_ok d115_0 ?_
  refine wp_cV q115_ok d115_1 ml_10_189 rfl q128_ok (u := 10) rfl (by first | assumption | exact so0 hsh rfl) rfl (Nat.le_of_ble_eq_true rfl) (Nat.le_of_ble_eq_true rfl) (c_hasTown hsh hr) (fun v1 μ1 hc => ?_)
  obtain ⟨rfl, rfl⟩ := hc
  refine ⟨mm_le_same rfl, ?_⟩
  refine wp_if_eq q115_ok d115_4 (t := 12) rfl (fun h4 => ?_) (fun h4 => ?_)
  · refine wp_iconst (v := -1) (by decide) q115_ok d115_12 ?_
    refine wp_iret q115_ok d115_13 rfl ?_
    exact ⟨by unfold timesQ; rw [if_neg ((has_T hT).mp h4)], d, g, r, rfl, fr_refl⟩
  · refine wp_iload_n (j := 1) rfl q115_ok d115_7 ?_
    refine wp_iconst (v := -1) (by decide) q115_ok d115_8 ?_
    refine wp_icmp_ge q115_ok d115_9 (t := 14) rfl (fun h9 => ?_) (fun h9 => ?_)
    · refine wp_sipush (v := 540) (by decide) q115_ok d115_14 ?_
      refine wp_istore_n (j := 2) (Nat.le_of_ble_eq_true rfl) (rfl : _ = [_, _, _, _, _]) q115_ok d115_17 ?_
      refine wp_aload_n (j := 0) rfl q115_ok d115_18 ?_
      refine wp_getR q115_ok d115_19 fl_10_98 rfl (by first | assumption | exact so0 hsh rfl) (by first | assumption | exact hr _ _ _ rfl) ?_
      refine wp_aload_n (j := 0) rfl q115_ok d115_22 ?_
      refine wp_getR q115_ok d115_23 fl_10_73 rfl (by first | assumption | exact so0 hsh rfl) (by first | assumption | exact hr _ _ _ rfl) ?_
      refine wp_iload_n (j := 2) rfl q115_ok d115_26 ?_
      refine wp_cV q115_ok d115_27 ml_10_163 rfl q78_ok (u := 9) rfl (by first | assumption | exact so0 hsh rfl) rfl (Nat.le_of_ble_eq_true rfl) (Nat.le_of_ble_eq_true rfl) (c_prepare (d := d) hsh hr (tw41 hsh hr) (by decide) ntw41 hT.1.1 hT.1.2.1 hT.1.2.2.2.2 (show 540 ≤ 540 by omega) d (ag_refl d)) (fun v27 μ27 hc => ?_)
      obtain ⟨rfl, d3, rfl, ha3⟩ := hc
      refine ⟨mm_le_same rfl, ?_⟩
      refine wp_aload_n (j := 0) rfl q115_ok d115_30 ?_
      refine wp_getR q115_ok d115_31 fl_10_98 rfl (by first | assumption | exact so0 hsh rfl) (by first | assumption | exact hr _ _ _ rfl) ?_
      refine wp_iload_n (j := 2) rfl q115_ok d115_34 ?_
      refine wp_cV q115_ok d115_35 ml_10_244 rfl q83_ok (u := 9) rfl (by first | assumption | exact so0 hsh rfl) rfl (Nat.le_of_ble_eq_true rfl) (Nat.le_of_ble_eq_true rfl) (c_run hsh hr' (show 540 < 2 ^ 31 by decide) hTC d3 ha3) (fun v35 μ35 hc => ?_)
      obtain ⟨rfl, d4, rfl, ha4⟩ := hc
      refine ⟨mm_le_same rfl, ?_⟩
      refine wp_iconst (v := 0) (by decide) q115_ok d115_38 ?_
      refine wp_istore_n (j := 3) (Nat.le_of_ble_eq_true rfl) (rfl : _ = [_, _, _, _, _]) q115_ok d115_39 ?_
      refine wp_iconst (v := 0) (by decide) q115_ok d115_40 ?_
      refine wp_istore (j := 4) (Nat.le_of_ble_eq_true rfl) (rfl : _ = [_, _, _, _, _]) q115_ok d115_41 ?_
      have e9 : d4 229 = d 229 := (ha4 _ (by unfold scr; decide)).trans (hps.1 229 (by omega))
      have e0 : d4 230 = d 230 := (ha4 _ (by unfold scr; decide)).trans (hps.1 230 (by omega))
      have e1 : d4 231 = d 231 := (ha4 _ (by unfold scr; decide)).trans (hps.1 231 (by omega))
      have hn4 := ntR_eq hnt e9 e0 e1
      refine wp_post (c_times_l hsh hr' hn4.1 hn4.2.1 i _ 480 0 0 (by omega)) (fun v μ hc => ?_)
      obtain ⟨rfl, rfl⟩ := hc
      refine ⟨?_, _, _, _, rfl, fr_prp (fun c hc => mm_up_ne hc) ha4 hps⟩
      unfold timesQ
      rw [if_pos (iff_nn (has_T hT) h4), if_pos h9]
      refine congrArg (fun x => some (Value.int x)) (timF_ext i 480 0 0 (fun j h1 h2 => ?_))
      refine fit_c hn4 (d4 237) (rgB T (o0 T) A) (by omega) (fun q hq => ?_) len 0 (by omega)
      rw [ha4 237 (by unfold scr; decide)]
      exact sm_rang hsm (Nat.le_refl _) (by have := (hnt.2.2 q hq).1; omega)
    · refine wp_iconst (v := -1) (by decide) q115_ok d115_12 ?_
      refine wp_iret q115_ok d115_13 rfl ?_
      exact ⟨by unfold timesQ; rw [if_pos (iff_nn (has_T hT) h4), if_neg h9], d, g, r, rfl, fr_refl⟩
theorem c_whose_l {xs : List Int32} {ext : mm_X} {n : Nat} {sh : mm_S} {d : mm_D} {g : mm_G} {r : mm_R} (hsh : shp sh) (hr : rfx r) {T : wo_T} {A : wo_A} (hT : rpC d r T) (hA0 : hA d 38 A) (hs : r 232 2 = some 38) {len : Nat} {mt : Nat → Nat} {rs : Nat → Int32} (hnt : ntR d len mt rs) {p : Nat} (hpp : p < tnp T) (i : Int32) : ∀ (z k : Nat) (c : Int32) (d1 : mm_D) (g1 : mm_G) (m : mm_D), z + k = 60 → (∀ c, c ≠ 233 → g1 c = g c) → ag m d1 → prp d r T 38 (nnN mt len) m → wp xs ext (n + 7) 116 43 [some (.ref 0), some (.int (nI p)), some (.int i), some (.int (nI (nnN mt len))), some (.int c), some (.int (nI k))] [] (sh, d1, g1, r) (fun v μ => v = some (.int (timF (fun f => fitN (rgB T (mvO T p (nI f)) A) mt rs 0 len 0) i z k c)) ∧ ∃ d2 g2 m2, μ = (sh, d2, g2, r) ∧ (∀ c, c ≠ 233 → g2 c = g c) ∧ ag m2 d2 ∧ prp d r T 38 (nnN mt len) m2) := by
  have hnp6 : tnp T ≤ 6 := hT.1.2.1
  have hN : nnN mt len ≤ 540 := Nat.le_trans (nnN_le len (fun i hi => (hnt.2.2 i hi).1)) (by decide)
  intro z
  induction z with
  | zero =>
    intro k c d1 g1 m hm hg ha hp
    have hvb : k = 60 := by omega
    subst hvb
    refine wp_iload (j := 5) rfl q116_ok d116_43 ?_
    refine wp_bipush (v := 60) (by decide) q116_ok d116_45 ?_
    refine wp_icmp_ge q116_ok d116_47 (t := 111) rfl (fun h47 => ?_) (fun h47 => ?_)
    · refine wp_iload_n (j := 2) rfl q116_ok d116_111 ?_
      refine wp_iconst (v := -1) (by decide) q116_ok d116_112 ?_
      refine wp_icmp_ne q116_ok d116_113 (t := 121) rfl (fun h113 => ?_) (fun h113 => ?_)
      · refine wp_iconst (v := -1) (by decide) q116_ok d116_121 ?_
        refine wp_iret q116_ok d116_122 rfl ?_
        exact ⟨by rw [timF, if_neg (show ¬ i = -1 from h113)], d1, g1, m, rfl, hg, ha, hp⟩
      · have h113 := Classical.not_not.mp h113
        refine wp_iload (j := 4) rfl q116_ok d116_116 ?_
        refine wp_goto (t := 122) rfl q116_ok d116_118 ?_
        refine wp_iret q116_ok d116_122 rfl ?_
        exact ⟨by rw [timF, if_pos (show i = -1 from h113)], d1, g1, m, rfl, hg, ha, hp⟩
    · exact absurd (nI_le (Nat.le_refl _) (by decide)) h47
  | succ z ih =>
    intro k c d1 g1 m hm hg ha hp
    have hlt : k < 60 := by omega
    have hp4 : m 4 5 = nI (tnp T) := by rw [hp.1 4 (by omega)]; exact hT.1.1
    have hsm := sm_move (sm_rst hT hA0 hp hN) hpp (nI k)
    have hTC := TC_rdy hsm.2.1 hs (so0 hsh rfl) ntw38.1
    have hps : prp d r T 38 (nnN mt len) (stpN (mm_up (mm_up (rstD m 38 (tnp T)) 232 9 (nI p)) 232 10 (nI k)) r 38 (tnp T) (tnb T) (nnN mt len)) := prp_stp (prp_up (prp_up (prp_rst hp) (by decide) _) (by decide) _) _
    refine wp_iload (j := 5) rfl q116_ok d116_43 ?_
    refine wp_bipush (v := 60) (by decide) q116_ok d116_45 ?_
    refine wp_icmp_ge q116_ok d116_47 (t := 111) rfl (fun h47 => ?_) (fun h47 => ?_)
    · exact absurd h47 (nI_ge hlt (by decide))
    · refine wp_aload_n (j := 0) rfl q116_ok d116_50 ?_
      refine wp_getR q116_ok d116_51 fl_10_98 rfl (by first | assumption | exact so0 hsh rfl) (by first | assumption | exact hr _ _ _ rfl) ?_
      refine wp_cV q116_ok d116_54 ml_10_270 rfl q79_ok (u := 9) rfl (by first | assumption | exact so0 hsh rfl) rfl (Nat.le_of_ble_eq_true rfl) (Nat.le_of_ble_eq_true rfl) (c_restart (d := m) hsh hr hs (tw38 hsh hr) ntw38 hp4 hnp6 d1 ha) (fun v54 μ54 hc => ?_)
      obtain ⟨rfl, d2, rfl, ha2⟩ := hc
      refine ⟨mm_le_same rfl, ?_⟩
      refine wp_aload_n (j := 0) rfl q116_ok d116_57 ?_
      refine wp_getR q116_ok d116_58 fl_10_98 rfl (by first | assumption | exact so0 hsh rfl) (by first | assumption | exact hr _ _ _ rfl) ?_
      refine wp_iload_n (j := 1) rfl q116_ok d116_61 ?_
      refine wp_iload (j := 5) rfl q116_ok d116_62 ?_
      refine wp_cV q116_ok d116_64 ml_10_291 rfl q80_ok (u := 9) rfl (by first | assumption | exact so0 hsh rfl) rfl (Nat.le_of_ble_eq_true rfl) (Nat.le_of_ble_eq_true rfl) (c_move hsh hr _ _) (fun v64 μ64 hc => ?_)
      obtain ⟨rfl, rfl⟩ := hc
      refine ⟨mm_le_same rfl, ?_⟩
      refine wp_aload_n (j := 0) rfl q116_ok d116_67 ?_
      refine wp_getR q116_ok d116_68 fl_10_98 rfl (by first | assumption | exact so0 hsh rfl) (by first | assumption | exact hr _ _ _ rfl) ?_
      refine wp_iload_n (j := 3) rfl q116_ok d116_71 ?_
      refine wp_cV q116_ok d116_72 ml_10_244 rfl q83_ok (u := 9) rfl (by first | assumption | exact so0 hsh rfl) rfl (Nat.le_of_ble_eq_true rfl) (Nat.le_of_ble_eq_true rfl) (c_run (d := mm_up (mm_up (rstD m 38 (tnp T)) 232 9 (nI p)) 232 10 (nI k)) hsh hr (show nnN mt len < 2 ^ 31 by omega) hTC _ (ag_up (ag_up ha2 _ _ _) _ _ _)) (fun v72 μ72 hc => ?_)
      obtain ⟨rfl, d3, rfl, ha3⟩ := hc
      refine ⟨mm_le_same rfl, ?_⟩
      have e9 : d3 229 = d 229 := (ha3 _ (by unfold scr; decide)).trans (hps.1 229 (by omega))
      have e0 : d3 230 = d 230 := (ha3 _ (by unfold scr; decide)).trans (hps.1 230 (by omega))
      have e1 : d3 231 = d 231 := (ha3 _ (by unfold scr; decide)).trans (hps.1 231 (by omega))
      have hn3 := ntR_eq hnt e9 e0 e1
      have hfit : fitC (d3 237) (d3 230) (d3 231) 0 len 0 = (fun f => fitN (rgB T (mvO T p (nI f)) A) mt rs 0 len 0) k := fit_c hn3 (d3 237) _ (show 0 ≤ 479 by omega) (fun q hq => by rw [ha3 237 (by unfold scr; decide)]; exact sm_rang hsm (Nat.le_refl _) (by rw [Nat.zero_add]; exact nnN_gt len q hq)) len 0 (by omega)
      refine wp_aload_n (j := 0) rfl q116_ok d116_75 ?_
      refine wp_getR q116_ok d116_76 fl_10_89 rfl (by first | assumption | exact so0 hsh rfl) (by first | assumption | exact hr _ _ _ rfl) ?_
      refine wp_aload_n (j := 0) rfl q116_ok d116_79 ?_
      refine wp_getR q116_ok d116_80 fl_10_98 rfl (by first | assumption | exact so0 hsh rfl) (by first | assumption | exact hr _ _ _ rfl) ?_
      refine wp_getR q116_ok d116_83 fl_10_298 rfl (by first | assumption | exact so0 hsh rfl) (by first | assumption | exact hr _ _ _ rfl) ?_
      refine wp_iconst (v := 0) (by decide) q116_ok d116_86 ?_
      refine wp_cV q116_ok d116_87 ml_10_302 rfl q28_ok (u := 2) rfl (by first | assumption | exact so0 hsh rfl) rfl (Nat.le_of_ble_eq_true rfl) (Nat.le_of_ble_eq_true rfl) (c_fit hsh hr hn3.1 hn3.2.1 _) (fun v87 μ87 hc => ?_)
      obtain ⟨rfl, rfl⟩ := hc
      refine ⟨mm_le_same rfl, ?_⟩
      rw [hfit]
      refine wp_if_eq q116_ok d116_90 (t := 105) rfl (fun h90 => ?_) (fun h90 => ?_)
      · refine wp_iinc (j := 5) rfl (by first | exact inc1 | rfl) (rfl : _ = [_, _, _, _, _, _]) q116_ok d116_105 ?_
        refine wp_goto (t := 43) rfl q116_ok d116_108 ?_
        have this := ih (k + 1) c _ (mm_up g1 233 3 (g1 38 3)) _ (by omega) (fun c hc => (mm_up_ne hc).trans (hg c hc)) ha3 hps
        refine wp_post this (fun v μ hc => ?_)
        rw [timF, if_pos h90]
        exact hc
      · refine wp_iload (j := 4) rfl q116_ok d116_93 ?_
        refine wp_iload_n (j := 2) rfl q116_ok d116_95 ?_
        refine wp_icmp_ne q116_ok d116_96 (t := 102) rfl (fun h96 => ?_) (fun h96 => ?_)
        · refine wp_iinc (j := 4) rfl (by first | exact inc1 | rfl) (rfl : _ = [_, _, _, _, _, _]) q116_ok d116_102 ?_
          refine wp_iinc (j := 5) rfl (by first | exact inc1 | rfl) (rfl : _ = [_, _, _, _, _, _]) q116_ok d116_105 ?_
          refine wp_goto (t := 43) rfl q116_ok d116_108 ?_
          have this := ih (k + 1) (c + Int32.ofInt 1) _ (mm_up g1 233 3 (g1 38 3)) _ (by omega) (fun c hc => (mm_up_ne hc).trans (hg c hc)) ha3 hps
          refine wp_post this (fun v μ hc => ?_)
          rw [timF, if_neg h90, if_neg h96]
          exact hc
        · have h96 := Classical.not_not.mp h96
          refine wp_iload (j := 5) rfl q116_ok d116_99 ?_
          refine wp_iret q116_ok d116_101 rfl ?_
          exact ⟨by rw [timF, if_neg h90, if_pos h96], _, _, _, rfl, fun c hc => (mm_up_ne hc).trans (hg c hc), ha3, hps⟩
def whoseQ (T : wo_T) (A : wo_A) (fr : Nat → Bool) (len : Nat) (mt : Nat → Nat) (rs : Nat → Int32) (i j : Int32) : Int32 := if spT T fr i then if -1 ≤ j then timF (fun f => fitN (rgB T (mvO T i.toNatClampNeg (nI f)) A) mt rs 0 len 0) j 60 0 0 else -1 else -1
theorem c_whoseT {xs : List Int32} {ext : mm_X} {n : Nat} {sh : mm_S} {d : mm_D} {g : mm_G} {r : mm_R} (hsh : shp sh) (hr : rfx r) {T : wo_T} {A : wo_A} (hT : rpC d r T) (hA0 : hA d 38 A) {len : Nat} {mt : Nat → Nat} {rs : Nat → Int32} (hnt : ntR d len mt rs) (i j : Int32) : wp xs ext (n + 7) 116 0 [some (.ref 0), some (.int i), some (.int j), none, none, none] [] (sh, d, g, r) (fun v μ => v = some (.int (whoseQ T A (frC r) len mt rs i j)) ∧ ∃ d2 g2 r2, μ = (sh, d2, g2, r2) ∧ fr d g r d2 g2 r2) := by
  have hr' : rfx (mm_up r 232 2 (some 38)) := rfx_up hr rfl _
  have hT' := rpC_38 (t := 38) hT
  have hnb := hT.1.2.2.2.1
  have hnp := hT.1.2.1
  have hs' : mm_up r 232 2 (some 38) 232 2 = some 38 := (mm_up_at 2).trans (if_pos rfl)
  refine wp_aload_n (j := 0) rfl q116_ok d116_0 ?_
  refine wp_iload_n (j := 1) rfl q116_ok d116_1 ?_
  refine wp_cV q116_ok d116_2 ml_10_288 rfl q130_ok (u := 10) rfl (by first | assumption | exact so0 hsh rfl) rfl (Nat.le_of_ble_eq_true rfl) (Nat.le_of_ble_eq_true rfl) (c_span hsh hr hT _) (fun v2 μ2 hc => ?_)
  obtain ⟨rfl, rfl⟩ := hc
  refine ⟨mm_le_same rfl, ?_⟩
  refine wp_if_eq q116_ok d116_5 (t := 13) rfl (fun h5 => ?_) (fun h5 => ?_)
  · refine wp_iconst (v := -1) (by decide) q116_ok d116_13 ?_
    refine wp_iret q116_ok d116_14 rfl ?_
    exact ⟨by unfold whoseQ; rw [if_neg ((span_T hT i).mp h5)], d, g, r, rfl, fr_refl⟩
  · refine wp_iload_n (j := 2) rfl q116_ok d116_8 ?_
    refine wp_iconst (v := -1) (by decide) q116_ok d116_9 ?_
    refine wp_icmp_ge q116_ok d116_10 (t := 15) rfl (fun h10 => ?_) (fun h10 => ?_)
    · have hmt : ∀ i, i < len → mt i ≤ 60 ∧ d 230 i = nI (mt i) := fun i hi => ⟨(hnt.2.2 i hi).1, (hnt.2.2 i hi).2.1⟩
      have hN : nnN mt len ≤ 540 := Nat.le_trans (nnN_le len (fun i hi => (hmt i hi).1)) (by decide)
      have hS := iff_nn (span_T hT i) h5
      obtain ⟨p, hpp, hie⟩ : ∃ p, p < tnp T ∧ i = nI p := ⟨_, per_lt hS.1 hnp, nI_ofn hS.1.1⟩
      subst hie
      have hp0 : (nI p).toNatClampNeg = p := nI_clamp (by omega)
      refine wp_aload_n (j := 0) rfl q116_ok d116_15 ?_
      refine wp_getR q116_ok d116_16 fl_10_89 rfl (by first | assumption | exact so0 hsh rfl) (by first | assumption | exact hr _ _ _ rfl) ?_
      refine wp_cV q116_ok d116_19 ml_10_306 rfl q27_ok (u := 2) rfl (by first | assumption | exact so0 hsh rfl) rfl (Nat.le_of_ble_eq_true rfl) (Nat.le_of_ble_eq_true rfl) (c_fur hsh hr hnt.1 hnt.2.1) (fun v19 μ19 hc => ?_)
      obtain ⟨rfl, rfl⟩ := hc
      refine ⟨mm_le_same rfl, ?_⟩
      refine wp_iconst (v := 1) (by decide) q116_ok d116_22 ?_
      refine wp_iadd (fur1 hmt) q116_ok d116_23 ?_
      refine wp_istore_n (j := 3) (Nat.le_of_ble_eq_true rfl) (rfl : _ = [_, _, _, _, _, _]) q116_ok d116_24 ?_
      refine wp_aload_n (j := 0) rfl q116_ok d116_25 ?_
      refine wp_getR q116_ok d116_26 fl_10_98 rfl (by first | assumption | exact so0 hsh rfl) (by first | assumption | exact hr _ _ _ rfl) ?_
      refine wp_aload_n (j := 0) rfl q116_ok d116_29 ?_
      refine wp_getR q116_ok d116_30 fl_10_69 rfl (by first | assumption | exact so0 hsh rfl) (by first | assumption | exact hr _ _ _ rfl) ?_
      refine wp_iload_n (j := 3) rfl q116_ok d116_33 ?_
      refine wp_cV q116_ok d116_34 ml_10_163 rfl q78_ok (u := 9) rfl (by first | assumption | exact so0 hsh rfl) rfl (Nat.le_of_ble_eq_true rfl) (Nat.le_of_ble_eq_true rfl) (c_prepare (d := d) hsh hr (tw38 hsh hr) (by decide) ntw38 hT.1.1 hT.1.2.1 hT.1.2.2.2.2 hN d (ag_refl d)) (fun v34 μ34 hc => ?_)
      obtain ⟨rfl, d3, rfl, ha3⟩ := hc
      refine ⟨mm_le_same rfl, ?_⟩
      refine wp_iconst (v := 0) (by decide) q116_ok d116_37 ?_
      refine wp_istore (j := 4) (Nat.le_of_ble_eq_true rfl) (rfl : _ = [_, _, _, _, _, _]) q116_ok d116_38 ?_
      refine wp_iconst (v := 0) (by decide) q116_ok d116_40 ?_
      refine wp_istore (j := 5) (Nat.le_of_ble_eq_true rfl) (rfl : _ = [_, _, _, _, _, _]) q116_ok d116_41 ?_
      refine wp_post (c_whose_l hsh hr' hT' hA0 hs' hnt hpp j 60 0 0 d3 _ (prepD d (mm_up r 232 2 (some 38)) 38 (tnp T) (nnN mt len)) (by omega) (fun c hc => mm_up_ne hc) ha3 (rdy_prep hT' hN (show 38 + 2 < 232 by decide)).2.2.2) (fun v μ hc => ?_)
      obtain ⟨rfl, d4, g4, m4, rfl, hg4, ha4, hp4⟩ := hc
      exact ⟨by unfold whoseQ; rw [if_pos (iff_nn (span_T hT _) h5), if_pos h10, hp0], _, _, _, rfl, fr_prp hg4 ha4 hp4⟩
    · refine wp_iconst (v := -1) (by decide) q116_ok d116_13 ?_
      refine wp_iret q116_ok d116_14 rfl ?_
      exact ⟨by unfold whoseQ; rw [if_pos (iff_nn (span_T hT i) h5), if_neg (h10)], d, g, r, rfl, fr_refl⟩
