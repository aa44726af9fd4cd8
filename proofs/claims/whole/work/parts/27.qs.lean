/-! ===== questions by one pass of the trial ===== -/
def us32 (x y : Int32) : Int32 := (x.toUInt32 >>> (y.toUInt32 &&& Int32.toUInt32 31)).toInt32
def bc1 (x : Int32) : Int32 := x - (us32 x 1 &&& 1431655765)
def bc2 (y : Int32) : Int32 := (y &&& 858993459) + (us32 y 2 &&& 858993459)
def bc3 (y : Int32) : Int32 := (y + us32 y 4) &&& 252645135
def bc4 (y : Int32) : Int32 := y + us32 y 8
def bc5 (y : Int32) : Int32 := (y + us32 y 16) &&& 63
def bcC (x : Int32) : Int32 := bc5 (bc4 (bc3 (bc2 (bc1 x))))
theorem c_bc {xs : List Int32} {ext : mm_X} {n : Nat} {sh : mm_S} {d : mm_D} {g : mm_G} {r : mm_R}  (x : Int32) : wp xs ext (n + 0) 225 0 [some (.int x)] [] (sh, d, g, r) (fun v μ => v = some (.int (bcC x)) ∧ μ = (sh, d, g, r)) := by
  refine wp_iload_n (j := 0) rfl q225_ok d225_0 ?_
  refine wp_iload_n (j := 0) rfl q225_ok d225_1 ?_
  refine wp_iconst (v := 1) (by decide) q225_ok d225_2 ?_
  refine wp_iushr rfl q225_ok d225_3 ?_
  refine wp_ldc_w kc_14_265 q225_ok d225_4 ?_
  refine wp_iand rfl q225_ok d225_7 ?_
  refine wp_isub rfl q225_ok d225_8 ?_
  refine wp_istore_n (j := 0) (Nat.le_of_ble_eq_true rfl) (rfl : _ = [_]) q225_ok d225_9 ?_
  refine wp_iload_n (j := 0) rfl q225_ok d225_10 ?_
  refine wp_ldc_w kc_14_266 q225_ok d225_11 ?_
  refine wp_iand rfl q225_ok d225_14 ?_
  refine wp_iload_n (j := 0) rfl q225_ok d225_15 ?_
  refine wp_iconst (v := 2) (by decide) q225_ok d225_16 ?_
  refine wp_iushr rfl q225_ok d225_17 ?_
  refine wp_ldc_w kc_14_266 q225_ok d225_18 ?_
  refine wp_iand rfl q225_ok d225_21 ?_
  refine wp_iadd rfl q225_ok d225_22 ?_
  refine wp_istore_n (j := 0) (Nat.le_of_ble_eq_true rfl) (rfl : _ = [_]) q225_ok d225_23 ?_
  refine wp_iload_n (j := 0) rfl q225_ok d225_24 ?_
  refine wp_iload_n (j := 0) rfl q225_ok d225_25 ?_
  refine wp_iconst (v := 4) (by decide) q225_ok d225_26 ?_
  refine wp_iushr rfl q225_ok d225_27 ?_
  refine wp_iadd rfl q225_ok d225_28 ?_
  refine wp_ldc_w kc_14_267 q225_ok d225_29 ?_
  refine wp_iand rfl q225_ok d225_32 ?_
  refine wp_istore_n (j := 0) (Nat.le_of_ble_eq_true rfl) (rfl : _ = [_]) q225_ok d225_33 ?_
  refine wp_iload_n (j := 0) rfl q225_ok d225_34 ?_
  refine wp_iload_n (j := 0) rfl q225_ok d225_35 ?_
  refine wp_bipush (v := 8) (by decide) q225_ok d225_36 ?_
  refine wp_iushr rfl q225_ok d225_38 ?_
  refine wp_iadd rfl q225_ok d225_39 ?_
  refine wp_istore_n (j := 0) (Nat.le_of_ble_eq_true rfl) (rfl : _ = [_]) q225_ok d225_40 ?_
  refine wp_iload_n (j := 0) rfl q225_ok d225_41 ?_
  refine wp_iload_n (j := 0) rfl q225_ok d225_42 ?_
  refine wp_bipush (v := 16) (by decide) q225_ok d225_43 ?_
  refine wp_iushr rfl q225_ok d225_45 ?_
  refine wp_iadd rfl q225_ok d225_46 ?_
  refine wp_istore_n (j := 0) (Nat.le_of_ble_eq_true rfl) (rfl : _ = [_]) q225_ok d225_47 ?_
  refine wp_iload_n (j := 0) rfl q225_ok d225_48 ?_
  refine wp_bipush (v := 63) (by decide) q225_ok d225_49 ?_
  refine wp_iand rfl q225_ok d225_51 ?_
  refine wp_iret q225_ok d225_52 rfl ?_
  exact ⟨rfl, rfl⟩
def earS (d : mm_D) (r : mm_R) (s np nb : Nat) (w : Int32) : Nat → Int32
  | 0 => 0
  | k + 1 => earS d r s np nb w k + bcC (stpN d r s np nb (k + 1) 232 14 &&& w)
theorem c_ears_l {xs : List Int32} {ext : mm_X} {n : Nat} {sh : mm_S} {d : mm_D} {g : mm_G} {r : mm_R} (hsh : shp sh) (hr : rfx r) {np nb s : Nat} {N : Nat} (v w : Int32) (hN : N < 2 ^ 31) (h : TC sh d r np nb s) : ∀ (z k : Nat) (d1 : mm_D) , z + k = N → ag (stpN d r s np nb k) d1 → wp xs ext (n + 7) 107 44 [some (.ref 0), some (.int v), some (.int (nI N)), some (.int w), some (.int (earS d r s np nb w k)), some (.int (nI k))] [] (sh, d1, g, r) (fun v μ => v = some (.int (earS d r s np nb w N)) ∧ ∃ d2 j, μ = (sh, d2, g, r) ∧ ag (stpN d r s np nb j) d2) := by
  intro z
  induction z with
  | zero =>
    intro k d1 hm ha
    have hvb : N = k := by omega
    subst hvb
    refine wp_iload (j := 5) rfl q107_ok d107_44 ?_
    refine wp_iload_n (j := 2) rfl q107_ok d107_46 ?_
    refine wp_icmp_ge q107_ok d107_47 (t := 80) rfl (fun h47 => ?_) (fun h47 => ?_)
    · refine wp_iload (j := 4) rfl q107_ok d107_80 ?_
      refine wp_iret q107_ok d107_82 rfl ?_
      exact ⟨rfl, d1, _, rfl, ha⟩
    · exact absurd (nI_le (Nat.le_refl _) (by omega)) h47
  | succ z ih =>
    intro k d1 hm ha
    have hlt : k < N := by omega
    refine wp_iload (j := 5) rfl q107_ok d107_44 ?_
    refine wp_iload_n (j := 2) rfl q107_ok d107_46 ?_
    refine wp_icmp_ge q107_ok d107_47 (t := 80) rfl (fun h47 => ?_) (fun h47 => ?_)
    · exact absurd h47 (nI_ge hlt (by omega))
    · refine wp_aload_n (j := 0) rfl q107_ok d107_50 ?_
      refine wp_getR q107_ok d107_51 fl_10_98 rfl (by first | assumption | exact so0 hsh rfl) (by first | assumption | exact hr _ _ _ rfl) ?_
      refine wp_cV q107_ok d107_54 ml_10_167 rfl q82_ok (u := 9) rfl (by first | assumption | exact so0 hsh rfl) rfl (Nat.le_of_ble_eq_true rfl) (Nat.le_of_ble_eq_true rfl) (c_stepT hsh hr (TC_N h k) d1 ha) (fun v54 μ54 hc => ?_)
      obtain ⟨rfl, d2, rfl, ha2⟩ := hc
      refine ⟨mm_le_same rfl, ?_⟩
      refine wp_iload (j := 4) rfl q107_ok d107_57 ?_
      refine wp_aload_n (j := 0) rfl q107_ok d107_59 ?_
      refine wp_getR q107_ok d107_60 fl_10_98 rfl (by first | assumption | exact so0 hsh rfl) (by first | assumption | exact hr _ _ _ rfl) ?_
      refine wp_getI q107_ok d107_63 fl_10_254 rfl (by first | assumption | exact so0 hsh rfl) (congrFun (ha2 _ (by unfold scr; omega)) _) ?_
      refine wp_iload_n (j := 3) rfl q107_ok d107_66 ?_
      refine wp_iand rfl q107_ok d107_67 ?_
      refine wp_cS q107_ok d107_68 ml_10_265 rfl q225_ok rfl rfl rfl (Nat.le_of_ble_eq_true rfl) (Nat.le_of_ble_eq_true rfl) (c_bc _) (fun v68 μ68 hc => ?_)
      obtain ⟨rfl, rfl⟩ := hc
      refine ⟨mm_le_same rfl, ?_⟩
      refine wp_iadd rfl q107_ok d107_71 ?_
      refine wp_istore (j := 4) (Nat.le_of_ble_eq_true rfl) (rfl : _ = [_, _, _, _, _, _]) q107_ok d107_72 ?_
      refine wp_iinc (j := 5) rfl (by first | exact inc1 | rfl) (rfl : _ = [_, _, _, _, _, _]) q107_ok d107_74 ?_
      refine wp_goto (t := 44) rfl q107_ok d107_77 ?_
      have this := ih (k + 1) d2 (by omega) ha2
      rw [earS, stpN] at this
      exact this
def earsR (d : mm_D) (r : mm_R) (np nb : Nat) (i n1 : Int32) : Int32 := if perC d i = 0 then -1 else if (if n1 < 1 then (0 : Int32) else if 240 < n1 then 0 else 1) = 0 then -1 else earS (prepD d (mm_up r 232 2 (some 38)) 38 np n1.toNatClampNeg) (mm_up r 232 2 (some 38)) 38 np nb (reachC d i.toNatClampNeg nb) n1.toNatClampNeg
theorem c_earsP {xs : List Int32} {ext : mm_X} {n : Nat} {sh : mm_S} {d : mm_D} {g : mm_G} {r : mm_R} (hsh : shp sh) (hr : rfx r) {np nb : Nat} (hT : TW d r np nb) (i n1 : Int32) : wp xs ext (n + 7) 107 0 [some (.ref 0), some (.int i), some (.int n1), none, none, none] [] (sh, d, g, r) (fun v μ => v = some (.int (earsR d r np nb i n1)) ∧ ∃ d2 g2 r2, μ = (sh, d2, g2, r2) ∧ fr d g r d2 g2 r2) := by
  have hr' : rfx (mm_up r 232 2 (some 38)) := rfx_up hr rfl _
  have hnb := hT.2.2.2.1
  have hnp := hT.2.1
  refine wp_aload_n (j := 0) rfl q107_ok d107_0 ?_
  refine wp_iload_n (j := 1) rfl q107_ok d107_1 ?_
  refine wp_cV q107_ok d107_2 ml_10_148 rfl q129_ok (u := 10) rfl (by first | assumption | exact so0 hsh rfl) rfl (Nat.le_of_ble_eq_true rfl) (Nat.le_of_ble_eq_true rfl) (c_isPerson hsh hr _) (fun v2 μ2 hc => ?_)
  obtain ⟨rfl, rfl⟩ := hc
  refine ⟨mm_le_same rfl, ?_⟩
  refine wp_if_eq q107_ok d107_5 (t := 15) rfl (fun h5 => ?_) (fun h5 => ?_)
  · refine wp_iconst (v := -1) (by decide) q107_ok d107_15 ?_
    refine wp_iret q107_ok d107_16 rfl ?_
    exact ⟨by unfold earsR; rw [if_pos h5], d, g, r, rfl, fr_refl⟩
  · obtain ⟨p, hp, hpe⟩ := in_of hT.1 (by omega) h5
    refine wp_iload_n (j := 2) rfl q107_ok d107_8 ?_
    refine wp_cS q107_ok d107_9 ml_10_210 rfl q132_ok rfl rfl rfl (Nat.le_of_ble_eq_true rfl) (Nat.le_of_ble_eq_true rfl) (c_isAhead _) (fun v9 μ9 hc => ?_)
    obtain ⟨rfl, rfl⟩ := hc
    refine ⟨mm_le_same rfl, ?_⟩
    refine wp_if_ne q107_ok d107_12 (t := 17) rfl (fun h12 => ?_) (fun h12 => ?_)
    · obtain ⟨N, hN1, hN, hNe⟩ := ahd_of h12
      subst hpe hNe
      refine wp_aload_n (j := 0) rfl q107_ok d107_17 ?_
      refine wp_getR q107_ok d107_18 fl_10_28 rfl (by first | assumption | exact so0 hsh rfl) (by first | assumption | exact hr _ _ _ rfl) ?_
      refine wp_iload_n (j := 1) rfl q107_ok d107_21 ?_
      refine wp_cV q107_ok d107_22 ml_10_262 rfl q69_ok (u := 7) rfl (by first | assumption | exact so0 hsh rfl) rfl (Nat.le_of_ble_eq_true rfl) (Nat.le_of_ble_eq_true rfl) (c_reach hsh hr hT.1 hT.2.1 hT.2.2.1 hT.2.2.2.1 hp) (fun v22 μ22 hc => ?_)
      obtain ⟨rfl, rfl⟩ := hc
      refine ⟨mm_le_same rfl, ?_⟩
      refine wp_istore_n (j := 3) (Nat.le_of_ble_eq_true rfl) (rfl : _ = [_, _, _, _, _, _]) q107_ok d107_25 ?_
      refine wp_aload_n (j := 0) rfl q107_ok d107_26 ?_
      refine wp_getR q107_ok d107_27 fl_10_98 rfl (by first | assumption | exact so0 hsh rfl) (by first | assumption | exact hr _ _ _ rfl) ?_
      refine wp_aload_n (j := 0) rfl q107_ok d107_30 ?_
      refine wp_getR q107_ok d107_31 fl_10_69 rfl (by first | assumption | exact so0 hsh rfl) (by first | assumption | exact hr _ _ _ rfl) ?_
      refine wp_iload_n (j := 2) rfl q107_ok d107_34 ?_
      refine wp_cV q107_ok d107_35 ml_10_163 rfl q78_ok (u := 9) rfl (by first | assumption | exact so0 hsh rfl) rfl (Nat.le_of_ble_eq_true rfl) (Nat.le_of_ble_eq_true rfl) (c_prepare (d := d) hsh hr (tw38 hsh hr) (by decide) ntw38 hT.1 hT.2.1 hT.2.2.2.2 (show N ≤ 540 by omega) d (ag_refl d)) (fun v35 μ35 hc => ?_)
      obtain ⟨rfl, d3, rfl, ha3⟩ := hc
      refine ⟨mm_le_same rfl, ?_⟩
      refine wp_iconst (v := 0) (by decide) q107_ok d107_38 ?_
      refine wp_istore (j := 4) (Nat.le_of_ble_eq_true rfl) (rfl : _ = [_, _, _, _, _, _]) q107_ok d107_39 ?_
      refine wp_iconst (v := 0) (by decide) q107_ok d107_41 ?_
      refine wp_istore (j := 5) (Nat.le_of_ble_eq_true rfl) (rfl : _ = [_, _, _, _, _, _]) q107_ok d107_42 ?_
      refine wp_post (c_ears_l hsh hr' _ _ (show N < 2 ^ 31 by omega) (TC_prep hT (so0 hsh rfl) ntw38.1) N 0 d3 (by omega) ha3) (fun v μ hc => ?_)
      obtain ⟨rfl, d4, j, rfl, ha4⟩ := hc
      exact ⟨by unfold earsR; rw [if_neg h5, if_neg h12, nI_clamp (by omega), nI_clamp (by omega)], _, _, _, rfl, fr_run ha4⟩
    · have h12 := Classical.not_not.mp h12
      refine wp_iconst (v := -1) (by decide) q107_ok d107_15 ?_
      refine wp_iret q107_ok d107_16 rfl ?_
      exact ⟨by unfold earsR; rw [if_neg h5, if_pos h12], d, g, r, rfl, fr_refl⟩
def pkM (d : mm_D) (r : mm_R) (s np nb b : Nat) : Nat → Int32
  | 0 => -1
  | k + 1 => if stpN d r s np nb (k + 1) 234 b ≤ pkM d r s np nb b k then pkM d r s np nb b k else stpN d r s np nb (k + 1) 234 b
def pkB (d : mm_D) (r : mm_R) (s np nb b : Nat) : Nat → Int32
  | 0 => 0
  | k + 1 => if stpN d r s np nb (k + 1) 234 b ≤ pkM d r s np nb b k then pkB d r s np nb b k else nI k + 1
theorem c_peak_l {xs : List Int32} {ext : mm_X} {n : Nat} {sh : mm_S} {d : mm_D} {g : mm_G} {r : mm_R} (hsh : shp sh) (hr : rfx r) {np nb s : Nat} {N b : Nat} (w : Int32) (hb : b < 2) (hN : N < 2 ^ 31) (h : TC sh d r np nb s) : ∀ (z k : Nat) (d1 : mm_D) , z + k = N → ag (stpN d r s np nb k) d1 → wp xs ext (n + 7) 120 47 [some (.ref 0), some (.int (nI b)), some (.int (nI N)), some (.int w), some (.int (pkM d r s np nb b k)), some (.int (pkB d r s np nb b k)), some (.int (nI k))] [] (sh, d1, g, r) (fun v μ => v = some (.int (if w = 0 then pkM d r s np nb b N else pkB d r s np nb b N)) ∧ ∃ d2 j, μ = (sh, d2, g, r) ∧ ag (stpN d r s np nb j) d2) := by
  intro z
  induction z with
  | zero =>
    intro k d1 hm ha
    have hvb : N = k := by omega
    subst hvb
    refine wp_iload (j := 6) rfl q120_ok d120_47 ?_
    refine wp_iload_n (j := 2) rfl q120_ok d120_49 ?_
    refine wp_icmp_ge q120_ok d120_50 (t := 103) rfl (fun h50 => ?_) (fun h50 => ?_)
    · refine wp_iload_n (j := 3) rfl q120_ok d120_103 ?_
      refine wp_if_ne q120_ok d120_104 (t := 112) rfl (fun h104 => ?_) (fun h104 => ?_)
      · refine wp_iload (j := 5) rfl q120_ok d120_112 ?_
        refine wp_iret q120_ok d120_114 rfl ?_
        exact ⟨by rw [if_neg h104], d1, _, rfl, ha⟩
      · have h104 := Classical.not_not.mp h104
        refine wp_iload (j := 4) rfl q120_ok d120_107 ?_
        refine wp_goto (t := 114) rfl q120_ok d120_109 ?_
        refine wp_iret q120_ok d120_114 rfl ?_
        exact ⟨by rw [if_pos h104], d1, _, rfl, ha⟩
    · exact absurd (nI_le (Nat.le_refl _) (by omega)) h50
  | succ z ih =>
    intro k d1 hm ha
    have hlt : k < N := by omega
    refine wp_iload (j := 6) rfl q120_ok d120_47 ?_
    refine wp_iload_n (j := 2) rfl q120_ok d120_49 ?_
    refine wp_icmp_ge q120_ok d120_50 (t := 103) rfl (fun h50 => ?_) (fun h50 => ?_)
    · exact absurd h50 (nI_ge hlt (by omega))
    · refine wp_aload_n (j := 0) rfl q120_ok d120_53 ?_
      refine wp_getR q120_ok d120_54 fl_10_98 rfl (by first | assumption | exact so0 hsh rfl) (by first | assumption | exact hr _ _ _ rfl) ?_
      refine wp_cV q120_ok d120_57 ml_10_167 rfl q82_ok (u := 9) rfl (by first | assumption | exact so0 hsh rfl) rfl (Nat.le_of_ble_eq_true rfl) (Nat.le_of_ble_eq_true rfl) (c_stepT hsh hr (TC_N h k) d1 ha) (fun v57 μ57 hc => ?_)
      obtain ⟨rfl, d2, rfl, ha2⟩ := hc
      refine ⟨mm_le_same rfl, ?_⟩
      refine wp_aload_n (j := 0) rfl q120_ok d120_60 ?_
      refine wp_getR q120_ok d120_61 fl_10_98 rfl (by first | assumption | exact so0 hsh rfl) (by first | assumption | exact hr _ _ _ rfl) ?_
      refine wp_getR q120_ok d120_64 fl_10_247 rfl (by first | assumption | exact so0 hsh rfl) (by first | assumption | exact hr _ _ _ rfl) ?_
      refine wp_getR q120_ok d120_67 fl_10_182 rfl (by first | assumption | exact so0 hsh rfl) (by first | assumption | exact hr _ _ _ rfl) ?_
      refine wp_iload_n (j := 1) rfl q120_ok d120_70 ?_
      refine wp_iald (m := 2) q120_ok d120_71 (by first | assumption | exact so0 hsh rfl) (by first | assumption | exact shl hsh (Nat.le_of_ble_eq_true rfl) rfl) (by first | assumption | exact ixn_nI (by omega)) (congrFun (ha2 _ (by unfold scr; omega)) _) ?_ (shK hsh)
      refine wp_iload (j := 4) rfl q120_ok d120_72 ?_
      refine wp_icmp_le q120_ok d120_74 (t := 97) rfl (fun h74 => ?_) (fun h74 => ?_)
      · refine wp_iinc (j := 6) rfl (by first | exact inc1 | rfl) (rfl : _ = [_, _, _, _, _, _, _]) q120_ok d120_97 ?_
        refine wp_goto (t := 47) rfl q120_ok d120_100 ?_
        have this := ih (k + 1) d2 (by omega) ha2
        rw [pkM, pkB, stpN, if_pos h74, if_pos h74] at this
        exact this
      · refine wp_aload_n (j := 0) rfl q120_ok d120_77 ?_
        refine wp_getR q120_ok d120_78 fl_10_98 rfl (by first | assumption | exact so0 hsh rfl) (by first | assumption | exact hr _ _ _ rfl) ?_
        refine wp_getR q120_ok d120_81 fl_10_247 rfl (by first | assumption | exact so0 hsh rfl) (by first | assumption | exact hr _ _ _ rfl) ?_
        refine wp_getR q120_ok d120_84 fl_10_182 rfl (by first | assumption | exact so0 hsh rfl) (by first | assumption | exact hr _ _ _ rfl) ?_
        refine wp_iload_n (j := 1) rfl q120_ok d120_87 ?_
        refine wp_iald (m := 2) q120_ok d120_88 (by first | assumption | exact so0 hsh rfl) (by first | assumption | exact shl hsh (Nat.le_of_ble_eq_true rfl) rfl) (by first | assumption | exact ixn_nI (by omega)) (congrFun (ha2 _ (by unfold scr; omega)) _) ?_ (shK hsh)
        refine wp_istore (j := 4) (Nat.le_of_ble_eq_true rfl) (rfl : _ = [_, _, _, _, _, _, _]) q120_ok d120_89 ?_
        refine wp_iload (j := 6) rfl q120_ok d120_91 ?_
        refine wp_iconst (v := 1) (by decide) q120_ok d120_93 ?_
        refine wp_iadd rfl q120_ok d120_94 ?_
        refine wp_istore (j := 5) (Nat.le_of_ble_eq_true rfl) (rfl : _ = [_, _, _, _, _, _, _]) q120_ok d120_95 ?_
        refine wp_iinc (j := 6) rfl (by first | exact inc1 | rfl) (rfl : _ = [_, _, _, _, _, _, _]) q120_ok d120_97 ?_
        refine wp_goto (t := 47) rfl q120_ok d120_100 ?_
        have this := ih (k + 1) d2 (by omega) ha2
        rw [pkM, pkB, stpN, if_neg h74, if_neg h74] at this
        exact this
def peakR (d : mm_D) (r : mm_R) (np nb : Nat) (i n1 w : Int32) : Int32 := if belC d i = 0 then -1 else if (if n1 < 1 then (0 : Int32) else if 240 < n1 then 0 else 1) = 0 then -1 else if w < 0 then -1 else if w ≤ 1 then if w = 0 then pkM (prepD d (mm_up r 232 2 (some 38)) 38 np n1.toNatClampNeg) (mm_up r 232 2 (some 38)) 38 np nb i.toNatClampNeg n1.toNatClampNeg else pkB (prepD d (mm_up r 232 2 (some 38)) 38 np n1.toNatClampNeg) (mm_up r 232 2 (some 38)) 38 np nb i.toNatClampNeg n1.toNatClampNeg else -1
theorem c_peakP {xs : List Int32} {ext : mm_X} {n : Nat} {sh : mm_S} {d : mm_D} {g : mm_G} {r : mm_R} (hsh : shp sh) (hr : rfx r) {np nb : Nat} (hT : TW d r np nb) (i n1 w : Int32) : wp xs ext (n + 7) 120 0 [some (.ref 0), some (.int i), some (.int n1), some (.int w), none, none, none] [] (sh, d, g, r) (fun v μ => v = some (.int (peakR d r np nb i n1 w)) ∧ ∃ d2 g2 r2, μ = (sh, d2, g2, r2) ∧ fr d g r d2 g2 r2) := by
  have hr' : rfx (mm_up r 232 2 (some 38)) := rfx_up hr rfl _
  have hnb := hT.2.2.2.1
  have hnp := hT.2.1
  refine wp_aload_n (j := 0) rfl q120_ok d120_0 ?_
  refine wp_iload_n (j := 1) rfl q120_ok d120_1 ?_
  refine wp_cV q120_ok d120_2 ml_10_176 rfl q131_ok (u := 10) rfl (by first | assumption | exact so0 hsh rfl) rfl (Nat.le_of_ble_eq_true rfl) (Nat.le_of_ble_eq_true rfl) (c_isBell hsh hr _) (fun v2 μ2 hc => ?_)
  obtain ⟨rfl, rfl⟩ := hc
  refine ⟨mm_le_same rfl, ?_⟩
  refine wp_if_eq q120_ok d120_5 (t := 24) rfl (fun h5 => ?_) (fun h5 => ?_)
  · refine wp_iconst (v := -1) (by decide) q120_ok d120_24 ?_
    refine wp_iret q120_ok d120_25 rfl ?_
    exact ⟨by unfold peakR; rw [if_pos h5], d, g, r, rfl, fr_refl⟩
  · obtain ⟨b, hb, hbe⟩ := in_of hT.2.2.1 (by omega) h5
    refine wp_iload_n (j := 2) rfl q120_ok d120_8 ?_
    refine wp_cS q120_ok d120_9 ml_10_210 rfl q132_ok rfl rfl rfl (Nat.le_of_ble_eq_true rfl) (Nat.le_of_ble_eq_true rfl) (c_isAhead _) (fun v9 μ9 hc => ?_)
    obtain ⟨rfl, rfl⟩ := hc
    refine ⟨mm_le_same rfl, ?_⟩
    refine wp_if_eq q120_ok d120_12 (t := 24) rfl (fun h12 => ?_) (fun h12 => ?_)
    · refine wp_iconst (v := -1) (by decide) q120_ok d120_24 ?_
      refine wp_iret q120_ok d120_25 rfl ?_
      exact ⟨by unfold peakR; rw [if_neg h5, if_pos h12], d, g, r, rfl, fr_refl⟩
    · obtain ⟨N, hN1, hN, hNe⟩ := ahd_of h12
      refine wp_iload_n (j := 3) rfl q120_ok d120_15 ?_
      refine wp_if_lt q120_ok d120_16 (t := 24) rfl (fun h16 => ?_) (fun h16 => ?_)
      · refine wp_iconst (v := -1) (by decide) q120_ok d120_24 ?_
        refine wp_iret q120_ok d120_25 rfl ?_
        exact ⟨by unfold peakR; rw [if_neg h5, if_neg h12, if_pos h16], d, g, r, rfl, fr_refl⟩
      · refine wp_iload_n (j := 3) rfl q120_ok d120_19 ?_
        refine wp_iconst (v := 1) (by decide) q120_ok d120_20 ?_
        refine wp_icmp_le q120_ok d120_21 (t := 26) rfl (fun h21 => ?_) (fun h21 => ?_)
        · subst hbe hNe
          refine wp_aload_n (j := 0) rfl q120_ok d120_26 ?_
          refine wp_getR q120_ok d120_27 fl_10_98 rfl (by first | assumption | exact so0 hsh rfl) (by first | assumption | exact hr _ _ _ rfl) ?_
          refine wp_aload_n (j := 0) rfl q120_ok d120_30 ?_
          refine wp_getR q120_ok d120_31 fl_10_69 rfl (by first | assumption | exact so0 hsh rfl) (by first | assumption | exact hr _ _ _ rfl) ?_
          refine wp_iload_n (j := 2) rfl q120_ok d120_34 ?_
          refine wp_cV q120_ok d120_35 ml_10_163 rfl q78_ok (u := 9) rfl (by first | assumption | exact so0 hsh rfl) rfl (Nat.le_of_ble_eq_true rfl) (Nat.le_of_ble_eq_true rfl) (c_prepare (d := d) hsh hr (tw38 hsh hr) (by decide) ntw38 hT.1 hT.2.1 hT.2.2.2.2 (show N ≤ 540 by omega) d (ag_refl d)) (fun v35 μ35 hc => ?_)
          obtain ⟨rfl, d3, rfl, ha3⟩ := hc
          refine ⟨mm_le_same rfl, ?_⟩
          refine wp_iconst (v := -1) (by decide) q120_ok d120_38 ?_
          refine wp_istore (j := 4) (Nat.le_of_ble_eq_true rfl) (rfl : _ = [_, _, _, _, _, _, _]) q120_ok d120_39 ?_
          refine wp_iconst (v := 0) (by decide) q120_ok d120_41 ?_
          refine wp_istore (j := 5) (Nat.le_of_ble_eq_true rfl) (rfl : _ = [_, _, _, _, _, _, _]) q120_ok d120_42 ?_
          refine wp_iconst (v := 0) (by decide) q120_ok d120_44 ?_
          refine wp_istore (j := 6) (Nat.le_of_ble_eq_true rfl) (rfl : _ = [_, _, _, _, _, _, _]) q120_ok d120_45 ?_
          refine wp_post (c_peak_l hsh hr' w (show b < 2 by omega) (show N < 2 ^ 31 by omega) (TC_prep hT (so0 hsh rfl) ntw38.1) N 0 d3 (by omega) ha3) (fun v μ hc => ?_)
          obtain ⟨rfl, d4, j, rfl, ha4⟩ := hc
          exact ⟨by unfold peakR; rw [if_neg h5, if_neg h12, if_neg h16, if_pos h21, nI_clamp (by omega), nI_clamp (by omega)], _, _, _, rfl, fr_run ha4⟩
        · refine wp_iconst (v := -1) (by decide) q120_ok d120_24 ?_
          refine wp_iret q120_ok d120_25 rfl ?_
          exact ⟨by unfold peakR; rw [if_neg h5, if_neg h12, if_neg h16, if_neg h21], d, g, r, rfl, fr_refl⟩
def aheadR (d : mm_D) (r : mm_R) (np nb : Nat) (i n1 w : Int32) : Int32 := if belC d i = 0 then -1 else if (if n1 < 1 then (0 : Int32) else if 240 < n1 then 0 else 1) = 0 then -1 else if w < 0 then -1 else if w ≤ 1 then if w = 0 then stpN (prepD d (mm_up r 232 2 (some 38)) 38 np n1.toNatClampNeg) (mm_up r 232 2 (some 38)) 38 np nb n1.toNatClampNeg 234 i.toNatClampNeg else stpN (prepD d (mm_up r 232 2 (some 38)) 38 np n1.toNatClampNeg) (mm_up r 232 2 (some 38)) 38 np nb n1.toNatClampNeg 235 i.toNatClampNeg - stpN (prepD d (mm_up r 232 2 (some 38)) 38 np n1.toNatClampNeg) (mm_up r 232 2 (some 38)) 38 np nb n1.toNatClampNeg 40 i.toNatClampNeg else -1
theorem c_aheadP {xs : List Int32} {ext : mm_X} {n : Nat} {sh : mm_S} {d : mm_D} {g : mm_G} {r : mm_R} (hsh : shp sh) (hr : rfx r) {np nb : Nat} (hT : TW d r np nb) (i n1 w : Int32) : wp xs ext (n + 7) 103 0 [some (.ref 0), some (.int i), some (.int n1), some (.int w)] [] (sh, d, g, r) (fun v μ => v = some (.int (aheadR d r np nb i n1 w)) ∧ ∃ d2 g2 r2, μ = (sh, d2, g2, r2) ∧ fr d g r d2 g2 r2) := by
  have hr' : rfx (mm_up r 232 2 (some 38)) := rfx_up hr rfl _
  have hnb := hT.2.2.2.1
  have hnp := hT.2.1
  refine wp_aload_n (j := 0) rfl q103_ok d103_0 ?_
  refine wp_iload_n (j := 1) rfl q103_ok d103_1 ?_
  refine wp_cV q103_ok d103_2 ml_10_176 rfl q131_ok (u := 10) rfl (by first | assumption | exact so0 hsh rfl) rfl (Nat.le_of_ble_eq_true rfl) (Nat.le_of_ble_eq_true rfl) (c_isBell hsh hr _) (fun v2 μ2 hc => ?_)
  obtain ⟨rfl, rfl⟩ := hc
  refine ⟨mm_le_same rfl, ?_⟩
  refine wp_if_eq q103_ok d103_5 (t := 24) rfl (fun h5 => ?_) (fun h5 => ?_)
  · refine wp_iconst (v := -1) (by decide) q103_ok d103_24 ?_
    refine wp_iret q103_ok d103_25 rfl ?_
    exact ⟨by unfold aheadR; rw [if_pos h5], d, g, r, rfl, fr_refl⟩
  · obtain ⟨b, hb, hbe⟩ := in_of hT.2.2.1 (by omega) h5
    refine wp_iload_n (j := 2) rfl q103_ok d103_8 ?_
    refine wp_cS q103_ok d103_9 ml_10_210 rfl q132_ok rfl rfl rfl (Nat.le_of_ble_eq_true rfl) (Nat.le_of_ble_eq_true rfl) (c_isAhead _) (fun v9 μ9 hc => ?_)
    obtain ⟨rfl, rfl⟩ := hc
    refine ⟨mm_le_same rfl, ?_⟩
    refine wp_if_eq q103_ok d103_12 (t := 24) rfl (fun h12 => ?_) (fun h12 => ?_)
    · refine wp_iconst (v := -1) (by decide) q103_ok d103_24 ?_
      refine wp_iret q103_ok d103_25 rfl ?_
      exact ⟨by unfold aheadR; rw [if_neg h5, if_pos h12], d, g, r, rfl, fr_refl⟩
    · obtain ⟨N, hN1, hN, hNe⟩ := ahd_of h12
      refine wp_iload_n (j := 3) rfl q103_ok d103_15 ?_
      refine wp_if_lt q103_ok d103_16 (t := 24) rfl (fun h16 => ?_) (fun h16 => ?_)
      · refine wp_iconst (v := -1) (by decide) q103_ok d103_24 ?_
        refine wp_iret q103_ok d103_25 rfl ?_
        exact ⟨by unfold aheadR; rw [if_neg h5, if_neg h12, if_pos h16], d, g, r, rfl, fr_refl⟩
      · refine wp_iload_n (j := 3) rfl q103_ok d103_19 ?_
        refine wp_iconst (v := 1) (by decide) q103_ok d103_20 ?_
        refine wp_icmp_le q103_ok d103_21 (t := 26) rfl (fun h21 => ?_) (fun h21 => ?_)
        · subst hbe hNe
          have hb2 : b < 2 := by omega
          refine wp_aload_n (j := 0) rfl q103_ok d103_26 ?_
          refine wp_getR q103_ok d103_27 fl_10_98 rfl (by first | assumption | exact so0 hsh rfl) (by first | assumption | exact hr _ _ _ rfl) ?_
          refine wp_aload_n (j := 0) rfl q103_ok d103_30 ?_
          refine wp_getR q103_ok d103_31 fl_10_69 rfl (by first | assumption | exact so0 hsh rfl) (by first | assumption | exact hr _ _ _ rfl) ?_
          refine wp_iload_n (j := 2) rfl q103_ok d103_34 ?_
          refine wp_cV q103_ok d103_35 ml_10_163 rfl q78_ok (u := 9) rfl (by first | assumption | exact so0 hsh rfl) rfl (Nat.le_of_ble_eq_true rfl) (Nat.le_of_ble_eq_true rfl) (c_prepare (d := d) hsh hr (tw38 hsh hr) (by decide) ntw38 hT.1 hT.2.1 hT.2.2.2.2 (show N ≤ 540 by omega) d (ag_refl d)) (fun v35 μ35 hc => ?_)
          obtain ⟨rfl, d3, rfl, ha3⟩ := hc
          refine ⟨mm_le_same rfl, ?_⟩
          refine wp_aload_n (j := 0) rfl q103_ok d103_38 ?_
          refine wp_getR q103_ok d103_39 fl_10_98 rfl (by first | assumption | exact so0 hsh rfl) (by first | assumption | exact hr _ _ _ rfl) ?_
          refine wp_iload_n (j := 2) rfl q103_ok d103_42 ?_
          refine wp_cV q103_ok d103_43 ml_10_244 rfl q83_ok (u := 9) rfl (by first | assumption | exact so0 hsh rfl) rfl (Nat.le_of_ble_eq_true rfl) (Nat.le_of_ble_eq_true rfl) (c_run hsh hr' (show N < 2 ^ 31 by omega) (TC_prep hT (so0 hsh rfl) ntw38.1) d3 ha3) (fun v43 μ43 hc => ?_)
          obtain ⟨rfl, d4, rfl, ha4⟩ := hc
          refine ⟨mm_le_same rfl, ?_⟩
          refine wp_iload_n (j := 3) rfl q103_ok d103_46 ?_
          refine wp_if_ne q103_ok d103_47 (t := 65) rfl (fun h47 => ?_) (fun h47 => ?_)
          · refine wp_aload_n (j := 0) rfl q103_ok d103_65 ?_
            refine wp_getR q103_ok d103_66 fl_10_98 rfl (by first | assumption | exact so0 hsh rfl) (by first | assumption | exact hr _ _ _ rfl) ?_
            refine wp_getR q103_ok d103_69 fl_10_247 rfl (by first | assumption | exact so0 hsh rfl) (by first | assumption | exact hr _ _ _ rfl) ?_
            refine wp_getR q103_ok d103_72 fl_10_186 rfl (by first | assumption | exact so0 hsh rfl) (by first | assumption | exact hr _ _ _ rfl) ?_
            refine wp_iload_n (j := 1) rfl q103_ok d103_75 ?_
            refine wp_iald (m := 2) q103_ok d103_76 (by first | assumption | exact so0 hsh rfl) (by first | assumption | exact shl hsh (Nat.le_of_ble_eq_true rfl) rfl) (by first | assumption | exact ixn_nI (by omega)) (congrFun (ha4 _ (by unfold scr; omega)) _) ?_ (shK hsh)
            refine wp_aload_n (j := 0) rfl q103_ok d103_77 ?_
            refine wp_getR q103_ok d103_78 fl_10_69 rfl (by first | assumption | exact so0 hsh rfl) (by first | assumption | exact hr _ _ _ rfl) ?_
            refine wp_getR q103_ok d103_81 fl_10_186 rfl (by first | assumption | exact so0 hsh rfl) (by first | assumption | exact hr _ _ _ rfl) ?_
            refine wp_iload_n (j := 1) rfl q103_ok d103_84 ?_
            refine wp_iald (m := 2) q103_ok d103_85 (by first | assumption | exact so0 hsh rfl) (by first | assumption | exact shl hsh (Nat.le_of_ble_eq_true rfl) rfl) (by first | assumption | exact ixn_nI (by omega)) (congrFun (ha4 _ (by unfold scr; omega)) _) ?_ (shK hsh)
            refine wp_isub rfl q103_ok d103_86 ?_
            refine wp_iret q103_ok d103_87 rfl ?_
            exact ⟨by unfold aheadR; rw [if_neg h5, if_neg h12, if_neg h16, if_pos h21, nI_clamp (by omega), nI_clamp (by omega), if_neg h47], _, _, _, rfl, fr_run ha4⟩
          · have h47 := Classical.not_not.mp h47
            refine wp_aload_n (j := 0) rfl q103_ok d103_50 ?_
            refine wp_getR q103_ok d103_51 fl_10_98 rfl (by first | assumption | exact so0 hsh rfl) (by first | assumption | exact hr _ _ _ rfl) ?_
            refine wp_getR q103_ok d103_54 fl_10_247 rfl (by first | assumption | exact so0 hsh rfl) (by first | assumption | exact hr _ _ _ rfl) ?_
            refine wp_getR q103_ok d103_57 fl_10_182 rfl (by first | assumption | exact so0 hsh rfl) (by first | assumption | exact hr _ _ _ rfl) ?_
            refine wp_iload_n (j := 1) rfl q103_ok d103_60 ?_
            refine wp_iald (m := 2) q103_ok d103_61 (by first | assumption | exact so0 hsh rfl) (by first | assumption | exact shl hsh (Nat.le_of_ble_eq_true rfl) rfl) (by first | assumption | exact ixn_nI (by omega)) (congrFun (ha4 _ (by unfold scr; omega)) _) ?_ (shK hsh)
            refine wp_goto (t := 87) rfl q103_ok d103_62 ?_
            refine wp_iret q103_ok d103_87 rfl ?_
            exact ⟨by unfold aheadR; rw [if_neg h5, if_neg h12, if_neg h16, if_pos h21, nI_clamp (by omega), nI_clamp (by omega), if_pos h47], _, _, _, rfl, fr_run ha4⟩
        · refine wp_iconst (v := -1) (by decide) q103_ok d103_24 ?_
          refine wp_iret q103_ok d103_25 rfl ?_
          exact ⟨by unfold aheadR; rw [if_neg h5, if_neg h12, if_neg h16, if_neg h21], d, g, r, rfl, fr_refl⟩
def strF (d : mm_D) (r : mm_R) (s np nb b : Nat) (i : Int32) : Nat → Nat → Int32
  | 0, _ => -1
  | z + 1, k => if stpN d r s np nb (k + 1) 235 b - stpN d r s np nb (k + 1) 40 b ≤ i then strF d r s np nb b i z (k + 1) else nI k
theorem c_strike_l {xs : List Int32} {ext : mm_X} {n : Nat} {sh : mm_S} {d : mm_D} {g : mm_G} {r : mm_R} (hsh : shp sh) (hr : rfx r) {np nb s : Nat} {b : Nat} (i : Int32) (hb : b < 2)  (h : TC sh d r np nb s) : ∀ (z k : Nat) (d1 : mm_D) , z + k = 240 → ag (stpN d r s np nb k) d1 → wp xs ext (n + 7) 104 30 [some (.ref 0), some (.int (nI b)), some (.int i), some (.int (nI k))] [] (sh, d1, g, r) (fun v μ => v = some (.int (strF d r s np nb b i z k)) ∧ ∃ d2 j, μ = (sh, d2, g, r) ∧ ag (stpN d r s np nb j) d2) := by
  intro z
  induction z with
  | zero =>
    intro k d1 hm ha
    have hvb : k = 240 := by omega
    subst hvb
    refine wp_iload_n (j := 3) rfl q104_ok d104_30 ?_
    refine wp_sipush (v := 240) (by decide) q104_ok d104_31 ?_
    refine wp_icmp_ge q104_ok d104_34 (t := 78) rfl (fun h34 => ?_) (fun h34 => ?_)
    · refine wp_iconst (v := -1) (by decide) q104_ok d104_78 ?_
      refine wp_iret q104_ok d104_79 rfl ?_
      exact ⟨rfl, d1, _, rfl, ha⟩
    · exact absurd (nI_le (Nat.le_refl _) (by decide)) h34
  | succ z ih =>
    intro k d1 hm ha
    have hlt : k < 240 := by omega
    refine wp_iload_n (j := 3) rfl q104_ok d104_30 ?_
    refine wp_sipush (v := 240) (by decide) q104_ok d104_31 ?_
    refine wp_icmp_ge q104_ok d104_34 (t := 78) rfl (fun h34 => ?_) (fun h34 => ?_)
    · exact absurd h34 (nI_ge hlt (by decide))
    · refine wp_aload_n (j := 0) rfl q104_ok d104_37 ?_
      refine wp_getR q104_ok d104_38 fl_10_98 rfl (by first | assumption | exact so0 hsh rfl) (by first | assumption | exact hr _ _ _ rfl) ?_
      refine wp_cV q104_ok d104_41 ml_10_167 rfl q82_ok (u := 9) rfl (by first | assumption | exact so0 hsh rfl) rfl (Nat.le_of_ble_eq_true rfl) (Nat.le_of_ble_eq_true rfl) (c_stepT hsh hr (TC_N h k) d1 ha) (fun v41 μ41 hc => ?_)
      obtain ⟨rfl, d2, rfl, ha2⟩ := hc
      refine ⟨mm_le_same rfl, ?_⟩
      refine wp_aload_n (j := 0) rfl q104_ok d104_44 ?_
      refine wp_getR q104_ok d104_45 fl_10_98 rfl (by first | assumption | exact so0 hsh rfl) (by first | assumption | exact hr _ _ _ rfl) ?_
      refine wp_getR q104_ok d104_48 fl_10_247 rfl (by first | assumption | exact so0 hsh rfl) (by first | assumption | exact hr _ _ _ rfl) ?_
      refine wp_getR q104_ok d104_51 fl_10_186 rfl (by first | assumption | exact so0 hsh rfl) (by first | assumption | exact hr _ _ _ rfl) ?_
      refine wp_iload_n (j := 1) rfl q104_ok d104_54 ?_
      refine wp_iald (m := 2) q104_ok d104_55 (by first | assumption | exact so0 hsh rfl) (by first | assumption | exact shl hsh (Nat.le_of_ble_eq_true rfl) rfl) (by first | assumption | exact ixn_nI (by omega)) (congrFun (ha2 _ (by unfold scr; omega)) _) ?_ (shK hsh)
      refine wp_aload_n (j := 0) rfl q104_ok d104_56 ?_
      refine wp_getR q104_ok d104_57 fl_10_69 rfl (by first | assumption | exact so0 hsh rfl) (by first | assumption | exact hr _ _ _ rfl) ?_
      refine wp_getR q104_ok d104_60 fl_10_186 rfl (by first | assumption | exact so0 hsh rfl) (by first | assumption | exact hr _ _ _ rfl) ?_
      refine wp_iload_n (j := 1) rfl q104_ok d104_63 ?_
      refine wp_iald (m := 2) q104_ok d104_64 (by first | assumption | exact so0 hsh rfl) (by first | assumption | exact shl hsh (Nat.le_of_ble_eq_true rfl) rfl) (by first | assumption | exact ixn_nI (by omega)) (congrFun (ha2 _ (by unfold scr; omega)) _) ?_ (shK hsh)
      refine wp_isub rfl q104_ok d104_65 ?_
      refine wp_iload_n (j := 2) rfl q104_ok d104_66 ?_
      refine wp_icmp_le q104_ok d104_67 (t := 72) rfl (fun h67 => ?_) (fun h67 => ?_)
      · refine wp_iinc (j := 3) rfl (by first | exact inc1 | rfl) (rfl : _ = [_, _, _, _]) q104_ok d104_72 ?_
        refine wp_goto (t := 30) rfl q104_ok d104_75 ?_
        have this := ih (k + 1) d2 (by omega) ha2
        rw [strF, stpN, if_pos h67]
        exact this
      · refine wp_iload_n (j := 3) rfl q104_ok d104_70 ?_
        refine wp_iret q104_ok d104_71 rfl ?_
        exact ⟨by rw [strF, stpN, if_neg h67], d2, k + 1, rfl, ha2⟩
def strikeR (d : mm_D) (r : mm_R) (np nb : Nat) (i n1 : Int32) : Int32 := if belC d i = 0 then -1 else if 0 ≤ n1 then strF (prepD d (mm_up r 232 2 (some 38)) 38 np 240) (mm_up r 232 2 (some 38)) 38 np nb i.toNatClampNeg n1 240 0 else -1
theorem c_strikeP {xs : List Int32} {ext : mm_X} {n : Nat} {sh : mm_S} {d : mm_D} {g : mm_G} {r : mm_R} (hsh : shp sh) (hr : rfx r) {np nb : Nat} (hT : TW d r np nb) (i n1 : Int32) : wp xs ext (n + 7) 104 0 [some (.ref 0), some (.int i), some (.int n1), none] [] (sh, d, g, r) (fun v μ => v = some (.int (strikeR d r np nb i n1)) ∧ ∃ d2 g2 r2, μ = (sh, d2, g2, r2) ∧ fr d g r d2 g2 r2) := by
  have hr' : rfx (mm_up r 232 2 (some 38)) := rfx_up hr rfl _
  have hnb := hT.2.2.2.1
  have hnp := hT.2.1
  refine wp_aload_n (j := 0) rfl q104_ok d104_0 ?_
  refine wp_iload_n (j := 1) rfl q104_ok d104_1 ?_
  refine wp_cV q104_ok d104_2 ml_10_176 rfl q131_ok (u := 10) rfl (by first | assumption | exact so0 hsh rfl) rfl (Nat.le_of_ble_eq_true rfl) (Nat.le_of_ble_eq_true rfl) (c_isBell hsh hr _) (fun v2 μ2 hc => ?_)
  obtain ⟨rfl, rfl⟩ := hc
  refine ⟨mm_le_same rfl, ?_⟩
  refine wp_if_eq q104_ok d104_5 (t := 12) rfl (fun h5 => ?_) (fun h5 => ?_)
  · refine wp_iconst (v := -1) (by decide) q104_ok d104_12 ?_
    refine wp_iret q104_ok d104_13 rfl ?_
    exact ⟨by unfold strikeR; rw [if_pos h5], d, g, r, rfl, fr_refl⟩
  · obtain ⟨b, hb, hbe⟩ := in_of hT.2.2.1 (by omega) h5
    refine wp_iload_n (j := 2) rfl q104_ok d104_8 ?_
    refine wp_if_ge q104_ok d104_9 (t := 14) rfl (fun h9 => ?_) (fun h9 => ?_)
    · subst hbe
      refine wp_aload_n (j := 0) rfl q104_ok d104_14 ?_
      refine wp_getR q104_ok d104_15 fl_10_98 rfl (by first | assumption | exact so0 hsh rfl) (by first | assumption | exact hr _ _ _ rfl) ?_
      refine wp_aload_n (j := 0) rfl q104_ok d104_18 ?_
      refine wp_getR q104_ok d104_19 fl_10_69 rfl (by first | assumption | exact so0 hsh rfl) (by first | assumption | exact hr _ _ _ rfl) ?_
      refine wp_sipush (v := 240) (by decide) q104_ok d104_22 ?_
      refine wp_cV q104_ok d104_25 ml_10_163 rfl q78_ok (u := 9) rfl (by first | assumption | exact so0 hsh rfl) rfl (Nat.le_of_ble_eq_true rfl) (Nat.le_of_ble_eq_true rfl) (c_prepare (d := d) hsh hr (tw38 hsh hr) (by decide) ntw38 hT.1 hT.2.1 hT.2.2.2.2 (show 240 ≤ 540 by omega) d (ag_refl d)) (fun v25 μ25 hc => ?_)
      obtain ⟨rfl, d3, rfl, ha3⟩ := hc
      refine ⟨mm_le_same rfl, ?_⟩
      refine wp_iconst (v := 0) (by decide) q104_ok d104_28 ?_
      refine wp_istore_n (j := 3) (Nat.le_of_ble_eq_true rfl) (rfl : _ = [_, _, _, _]) q104_ok d104_29 ?_
      refine wp_post (c_strike_l hsh hr' n1 (show b < 2 by omega) (TC_prep hT (so0 hsh rfl) ntw38.1) 240 0 d3 (by omega) ha3) (fun v μ hc => ?_)
      obtain ⟨rfl, d4, j, rfl, ha4⟩ := hc
      exact ⟨by unfold strikeR; rw [if_neg h5, if_pos h9, nI_clamp (by omega)], _, _, _, rfl, fr_run ha4⟩
    · refine wp_iconst (v := -1) (by decide) q104_ok d104_12 ?_
      refine wp_iret q104_ok d104_13 rfl ?_
      exact ⟨by unfold strikeR; rw [if_neg h5, if_neg h9], d, g, r, rfl, fr_refl⟩
def freF (d : mm_D) (r : mm_R) (s np nb b : Nat) : Nat → Nat → Int32
  | 0, _ => -1
  | z + 1, k => if stpN d r s np nb (k + 1) 234 b = 0 then nI (k + 1) else freF d r s np nb b z (k + 1)
theorem c_free_l {xs : List Int32} {ext : mm_X} {n : Nat} {sh : mm_S} {d : mm_D} {g : mm_G} {r : mm_R} (hsh : shp sh) (hr : rfx r) {np nb s : Nat} {b : Nat} (hb : b < 2)  (h : TC sh d r np nb s) : ∀ (z k : Nat) (d1 : mm_D) , z + k = 240 → ag (stpN d r s np nb k) d1 → wp xs ext (n + 7) 121 26 [some (.ref 0), some (.int (nI b)), some (.int (nI (k + 1)))] [] (sh, d1, g, r) (fun v μ => v = some (.int (freF d r s np nb b z k)) ∧ ∃ d2 j, μ = (sh, d2, g, r) ∧ ag (stpN d r s np nb j) d2) := by
  intro z
  induction z with
  | zero =>
    intro k d1 hm ha
    have hvb : k = 240 := by omega
    subst hvb
    refine wp_iload_n (j := 2) rfl q121_ok d121_26 ?_
    refine wp_sipush (v := 240) (by decide) q121_ok d121_27 ?_
    refine wp_icmp_gt q121_ok d121_30 (t := 63) rfl (fun h30 => ?_) (fun h30 => ?_)
    · refine wp_iconst (v := -1) (by decide) q121_ok d121_63 ?_
      refine wp_iret q121_ok d121_64 rfl ?_
      exact ⟨rfl, d1, _, rfl, ha⟩
    · exact absurd (show nI 240 < nI (240 + 1) from (nI_ltI (by decide) (by decide)).mpr (by decide)) h30
  | succ z ih =>
    intro k d1 hm ha
    have hlt : k < 240 := by omega
    refine wp_iload_n (j := 2) rfl q121_ok d121_26 ?_
    refine wp_sipush (v := 240) (by decide) q121_ok d121_27 ?_
    refine wp_icmp_gt q121_ok d121_30 (t := 63) rfl (fun h30 => ?_) (fun h30 => ?_)
    · exact absurd ((nI_ltI (by decide) (by omega)).mp (show nI 240 < nI (k + 1) from h30)) (by omega)
    · refine wp_aload_n (j := 0) rfl q121_ok d121_33 ?_
      refine wp_getR q121_ok d121_34 fl_10_98 rfl (by first | assumption | exact so0 hsh rfl) (by first | assumption | exact hr _ _ _ rfl) ?_
      refine wp_cV q121_ok d121_37 ml_10_167 rfl q82_ok (u := 9) rfl (by first | assumption | exact so0 hsh rfl) rfl (Nat.le_of_ble_eq_true rfl) (Nat.le_of_ble_eq_true rfl) (c_stepT hsh hr (TC_N h k) d1 ha) (fun v37 μ37 hc => ?_)
      obtain ⟨rfl, d2, rfl, ha2⟩ := hc
      refine ⟨mm_le_same rfl, ?_⟩
      refine wp_aload_n (j := 0) rfl q121_ok d121_40 ?_
      refine wp_getR q121_ok d121_41 fl_10_98 rfl (by first | assumption | exact so0 hsh rfl) (by first | assumption | exact hr _ _ _ rfl) ?_
      refine wp_getR q121_ok d121_44 fl_10_247 rfl (by first | assumption | exact so0 hsh rfl) (by first | assumption | exact hr _ _ _ rfl) ?_
      refine wp_getR q121_ok d121_47 fl_10_182 rfl (by first | assumption | exact so0 hsh rfl) (by first | assumption | exact hr _ _ _ rfl) ?_
      refine wp_iload_n (j := 1) rfl q121_ok d121_50 ?_
      refine wp_iald (m := 2) q121_ok d121_51 (by first | assumption | exact so0 hsh rfl) (by first | assumption | exact shl hsh (Nat.le_of_ble_eq_true rfl) rfl) (by first | assumption | exact ixn_nI (by omega)) (congrFun (ha2 _ (by unfold scr; omega)) _) ?_ (shK hsh)
      refine wp_if_ne q121_ok d121_52 (t := 57) rfl (fun h52 => ?_) (fun h52 => ?_)
      · refine wp_iinc (j := 2) rfl (by first | exact inc1 | rfl) (rfl : _ = [_, _, _]) q121_ok d121_57 ?_
        refine wp_goto (t := 26) rfl q121_ok d121_60 ?_
        have this := ih (k + 1) d2 (by omega) ha2
        rw [freF, stpN, if_neg h52]
        exact this
      · have h52 := Classical.not_not.mp h52
        refine wp_iload_n (j := 2) rfl q121_ok d121_55 ?_
        refine wp_iret q121_ok d121_56 rfl ?_
        exact ⟨by rw [freF, stpN, if_pos h52], d2, k + 1, rfl, ha2⟩
def freeR (d : mm_D) (r : mm_R) (np nb : Nat) (i : Int32) : Int32 := if belC d i = 0 then -1 else freF (prepD d (mm_up r 232 2 (some 38)) 38 np 240) (mm_up r 232 2 (some 38)) 38 np nb i.toNatClampNeg 240 0
theorem c_freeP {xs : List Int32} {ext : mm_X} {n : Nat} {sh : mm_S} {d : mm_D} {g : mm_G} {r : mm_R} (hsh : shp sh) (hr : rfx r) {np nb : Nat} (hT : TW d r np nb) (i : Int32) : wp xs ext (n + 7) 121 0 [some (.ref 0), some (.int i), none] [] (sh, d, g, r) (fun v μ => v = some (.int (freeR d r np nb i)) ∧ ∃ d2 g2 r2, μ = (sh, d2, g2, r2) ∧ fr d g r d2 g2 r2) := by
  have hr' : rfx (mm_up r 232 2 (some 38)) := rfx_up hr rfl _
  have hnb := hT.2.2.2.1
  have hnp := hT.2.1
  refine wp_aload_n (j := 0) rfl q121_ok d121_0 ?_
  refine wp_iload_n (j := 1) rfl q121_ok d121_1 ?_
  refine wp_cV q121_ok d121_2 ml_10_176 rfl q131_ok (u := 10) rfl (by first | assumption | exact so0 hsh rfl) rfl (Nat.le_of_ble_eq_true rfl) (Nat.le_of_ble_eq_true rfl) (c_isBell hsh hr _) (fun v2 μ2 hc => ?_)
  obtain ⟨rfl, rfl⟩ := hc
  refine ⟨mm_le_same rfl, ?_⟩
  refine wp_if_ne q121_ok d121_5 (t := 10) rfl (fun h5 => ?_) (fun h5 => ?_)
  · obtain ⟨b, hb, hbe⟩ := in_of hT.2.2.1 (by omega) h5
    subst hbe
    refine wp_aload_n (j := 0) rfl q121_ok d121_10 ?_
    refine wp_getR q121_ok d121_11 fl_10_98 rfl (by first | assumption | exact so0 hsh rfl) (by first | assumption | exact hr _ _ _ rfl) ?_
    refine wp_aload_n (j := 0) rfl q121_ok d121_14 ?_
    refine wp_getR q121_ok d121_15 fl_10_69 rfl (by first | assumption | exact so0 hsh rfl) (by first | assumption | exact hr _ _ _ rfl) ?_
    refine wp_sipush (v := 240) (by decide) q121_ok d121_18 ?_
    refine wp_cV q121_ok d121_21 ml_10_163 rfl q78_ok (u := 9) rfl (by first | assumption | exact so0 hsh rfl) rfl (Nat.le_of_ble_eq_true rfl) (Nat.le_of_ble_eq_true rfl) (c_prepare (d := d) hsh hr (tw38 hsh hr) (by decide) ntw38 hT.1 hT.2.1 hT.2.2.2.2 (show 240 ≤ 540 by omega) d (ag_refl d)) (fun v21 μ21 hc => ?_)
    obtain ⟨rfl, d3, rfl, ha3⟩ := hc
    refine ⟨mm_le_same rfl, ?_⟩
    refine wp_iconst (v := 1) (by decide) q121_ok d121_24 ?_
    refine wp_istore_n (j := 2) (Nat.le_of_ble_eq_true rfl) (rfl : _ = [_, _, _]) q121_ok d121_25 ?_
    refine wp_post (c_free_l hsh hr' (show b < 2 by omega) (TC_prep hT (so0 hsh rfl) ntw38.1) 240 0 d3 (by omega) ha3) (fun v μ hc => ?_)
    obtain ⟨rfl, d4, j, rfl, ha4⟩ := hc
    exact ⟨by unfold freeR; rw [if_neg h5, nI_clamp (by omega)], _, _, _, rfl, fr_run ha4⟩
  · have h5 := Classical.not_not.mp h5
    refine wp_iconst (v := -1) (by decide) q121_ok d121_8 ?_
    refine wp_iret q121_ok d121_9 rfl ?_
    exact ⟨by unfold freeR; rw [if_pos h5], d, g, r, rfl, fr_refl⟩
def senB (d : mm_D) (r : mm_R) (s np nb : Nat) : Nat → Int32
  | 0 => 0
  | k + 1 => senB d r s np nb k + if stpN d r s np nb (k + 1) 232 13 = 0 then 0 else 1
def senD (d : mm_D) (r : mm_R) (s np nb : Nat) : Nat → Int32
  | 0 => 0
  | k + 1 => if stpN d r s np nb (k + 1) 232 13 = 0 then senD d r s np nb k + 1 else 0
def senM (d : mm_D) (r : mm_R) (s np nb : Nat) : Nat → Int32
  | 0 => 0
  | k + 1 => if senM d r s np nb k < senD d r s np nb (k + 1) then senD d r s np nb (k + 1) else senM d r s np nb k
theorem c_seen_l {xs : List Int32} {ext : mm_X} {n : Nat} {sh : mm_S} {d : mm_D} {g : mm_G} {r : mm_R} (hsh : shp sh) (hr : rfx r) {np nb s : Nat} {N : Nat} (w : Int32) (hN : N < 2 ^ 31) (h : TC sh d r np nb s) : ∀ (z k : Nat) (d1 : mm_D) (u : Option Value), z + k = N → ag (stpN d r s np nb k) d1 → wp xs ext (n + 7) 108 48 [some (.ref 0), some (.int (nI N)), some (.int w), some (.int (senB d r s np nb k)), some (.int (senD d r s np nb k)), some (.int (senM d r s np nb k)), some (.int (nI k)), u] [] (sh, d1, g, r) (fun v μ => v = some (.int (if w = 0 then senB d r s np nb N else senM d r s np nb N)) ∧ ∃ d2 j, μ = (sh, d2, g, r) ∧ ag (stpN d r s np nb j) d2) := by
  intro z
  induction z with
  | zero =>
    intro k d1 u hm ha
    have hvb : N = k := by omega
    subst hvb
    refine wp_iload (j := 6) rfl q108_ok d108_48 ?_
    refine wp_iload_n (j := 1) rfl q108_ok d108_50 ?_
    refine wp_icmp_ge q108_ok d108_51 (t := 121) rfl (fun h51 => ?_) (fun h51 => ?_)
    · refine wp_iload_n (j := 2) rfl q108_ok d108_121 ?_
      refine wp_if_ne q108_ok d108_122 (t := 129) rfl (fun h122 => ?_) (fun h122 => ?_)
      · refine wp_iload (j := 5) rfl q108_ok d108_129 ?_
        refine wp_iret q108_ok d108_131 rfl ?_
        exact ⟨by rw [if_neg h122], d1, _, rfl, ha⟩
      · have h122 := Classical.not_not.mp h122
        refine wp_iload_n (j := 3) rfl q108_ok d108_125 ?_
        refine wp_goto (t := 131) rfl q108_ok d108_126 ?_
        refine wp_iret q108_ok d108_131 rfl ?_
        exact ⟨by rw [if_pos h122], d1, _, rfl, ha⟩
    · exact absurd (nI_le (Nat.le_refl _) (by omega)) h51
  | succ z ih =>
    intro k d1 u hm ha
    have hlt : k < N := by omega
    refine wp_iload (j := 6) rfl q108_ok d108_48 ?_
    refine wp_iload_n (j := 1) rfl q108_ok d108_50 ?_
    refine wp_icmp_ge q108_ok d108_51 (t := 121) rfl (fun h51 => ?_) (fun h51 => ?_)
    · exact absurd h51 (nI_ge hlt (by omega))
    · refine wp_aload_n (j := 0) rfl q108_ok d108_54 ?_
      refine wp_getR q108_ok d108_55 fl_10_98 rfl (by first | assumption | exact so0 hsh rfl) (by first | assumption | exact hr _ _ _ rfl) ?_
      refine wp_cV q108_ok d108_58 ml_10_167 rfl q82_ok (u := 9) rfl (by first | assumption | exact so0 hsh rfl) rfl (Nat.le_of_ble_eq_true rfl) (Nat.le_of_ble_eq_true rfl) (c_stepT hsh hr (TC_N h k) d1 ha) (fun v58 μ58 hc => ?_)
      obtain ⟨rfl, d2, rfl, ha2⟩ := hc
      refine ⟨mm_le_same rfl, ?_⟩
      refine wp_aload_n (j := 0) rfl q108_ok d108_61 ?_
      refine wp_getR q108_ok d108_62 fl_10_98 rfl (by first | assumption | exact so0 hsh rfl) (by first | assumption | exact hr _ _ _ rfl) ?_
      refine wp_getI q108_ok d108_65 fl_10_173 rfl (by first | assumption | exact so0 hsh rfl) (congrFun (ha2 _ (by unfold scr; omega)) _) ?_
      refine wp_if_eq q108_ok d108_68 (t := 75) rfl (fun h68 => ?_) (fun h68 => ?_)
      · refine wp_iconst (v := 0) (by decide) q108_ok d108_75 ?_
        refine wp_istore (j := 7) (Nat.le_of_ble_eq_true rfl) (rfl : _ = [_, _, _, _, _, _, _, _]) q108_ok d108_76 ?_
        refine wp_iload_n (j := 3) rfl q108_ok d108_78 ?_
        refine wp_iload (j := 7) rfl q108_ok d108_79 ?_
        refine wp_if_eq q108_ok d108_81 (t := 88) rfl (fun h81 => ?_) (fun h81 => ?_)
        · refine wp_iconst (v := 0) (by decide) q108_ok d108_88 ?_
          refine wp_iadd rfl q108_ok d108_89 ?_
          refine wp_istore_n (j := 3) (Nat.le_of_ble_eq_true rfl) (rfl : _ = [_, _, _, _, _, _, _, _]) q108_ok d108_90 ?_
          refine wp_iload (j := 7) rfl q108_ok d108_91 ?_
          refine wp_if_eq q108_ok d108_93 (t := 100) rfl (fun h93 => ?_) (fun h93 => ?_)
          · refine wp_iload (j := 4) rfl q108_ok d108_100 ?_
            refine wp_iconst (v := 1) (by decide) q108_ok d108_102 ?_
            refine wp_iadd rfl q108_ok d108_103 ?_
            refine wp_istore (j := 4) (Nat.le_of_ble_eq_true rfl) (rfl : _ = [_, _, _, _, _, _, _, _]) q108_ok d108_104 ?_
            refine wp_iload (j := 5) rfl q108_ok d108_106 ?_
            refine wp_iload (j := 4) rfl q108_ok d108_108 ?_
            refine wp_cS q108_ok d108_110 ml_10_257 rfl q227_ok rfl rfl rfl (Nat.le_of_ble_eq_true rfl) (Nat.le_of_ble_eq_true rfl) (c_max _ _) (fun v110 μ110 hc => ?_)
            obtain ⟨rfl, rfl⟩ := hc
            refine ⟨mm_le_same rfl, ?_⟩
            refine wp_istore (j := 5) (Nat.le_of_ble_eq_true rfl) (rfl : _ = [_, _, _, _, _, _, _, _]) q108_ok d108_113 ?_
            refine wp_iinc (j := 6) rfl (by first | exact inc1 | rfl) (rfl : _ = [_, _, _, _, _, _, _, _]) q108_ok d108_115 ?_
            refine wp_goto (t := 48) rfl q108_ok d108_118 ?_
            have this := ih (k + 1) d2 (some (.int 0)) (by omega) ha2
            rw [senB, senM, senD, stpN, if_pos h68, if_pos h68] at this
            exact this
          · exact absurd rfl h93
        · exact absurd rfl h81
      · refine wp_iconst (v := 1) (by decide) q108_ok d108_71 ?_
        refine wp_goto (t := 76) rfl q108_ok d108_72 ?_
        refine wp_istore (j := 7) (Nat.le_of_ble_eq_true rfl) (rfl : _ = [_, _, _, _, _, _, _, _]) q108_ok d108_76 ?_
        refine wp_iload_n (j := 3) rfl q108_ok d108_78 ?_
        refine wp_iload (j := 7) rfl q108_ok d108_79 ?_
        refine wp_if_eq q108_ok d108_81 (t := 88) rfl (fun h81 => ?_) (fun h81 => ?_)
        · exact absurd h81 (by decide)
        · refine wp_iconst (v := 1) (by decide) q108_ok d108_84 ?_
          refine wp_goto (t := 89) rfl q108_ok d108_85 ?_
          refine wp_iadd rfl q108_ok d108_89 ?_
          refine wp_istore_n (j := 3) (Nat.le_of_ble_eq_true rfl) (rfl : _ = [_, _, _, _, _, _, _, _]) q108_ok d108_90 ?_
          refine wp_iload (j := 7) rfl q108_ok d108_91 ?_
          refine wp_if_eq q108_ok d108_93 (t := 100) rfl (fun h93 => ?_) (fun h93 => ?_)
          · exact absurd h93 (by decide)
          · refine wp_iconst (v := 0) (by decide) q108_ok d108_96 ?_
            refine wp_goto (t := 104) rfl q108_ok d108_97 ?_
            refine wp_istore (j := 4) (Nat.le_of_ble_eq_true rfl) (rfl : _ = [_, _, _, _, _, _, _, _]) q108_ok d108_104 ?_
            refine wp_iload (j := 5) rfl q108_ok d108_106 ?_
            refine wp_iload (j := 4) rfl q108_ok d108_108 ?_
            refine wp_cS q108_ok d108_110 ml_10_257 rfl q227_ok rfl rfl rfl (Nat.le_of_ble_eq_true rfl) (Nat.le_of_ble_eq_true rfl) (c_max _ _) (fun v110 μ110 hc => ?_)
            obtain ⟨rfl, rfl⟩ := hc
            refine ⟨mm_le_same rfl, ?_⟩
            refine wp_istore (j := 5) (Nat.le_of_ble_eq_true rfl) (rfl : _ = [_, _, _, _, _, _, _, _]) q108_ok d108_113 ?_
            refine wp_iinc (j := 6) rfl (by first | exact inc1 | rfl) (rfl : _ = [_, _, _, _, _, _, _, _]) q108_ok d108_115 ?_
            refine wp_goto (t := 48) rfl q108_ok d108_118 ?_
            have this := ih (k + 1) d2 (some (.int 1)) (by omega) ha2
            rw [senB, senM, senD, stpN, if_neg h68, if_neg h68] at this
            exact this
def seenR (d : mm_D) (r : mm_R) (np nb : Nat) (n1 w : Int32) : Int32 := if (if d 4 5 ≤ 0 then (0 : Int32) else 1) = 0 then -1 else if (if n1 < 1 then (0 : Int32) else if 240 < n1 then 0 else 1) = 0 then -1 else if w < 0 then -1 else if w ≤ 1 then if w = 0 then senB (prepD d (mm_up r 232 2 (some 38)) 38 np n1.toNatClampNeg) (mm_up r 232 2 (some 38)) 38 np nb n1.toNatClampNeg else senM (prepD d (mm_up r 232 2 (some 38)) 38 np n1.toNatClampNeg) (mm_up r 232 2 (some 38)) 38 np nb n1.toNatClampNeg else -1
theorem c_seenP {xs : List Int32} {ext : mm_X} {n : Nat} {sh : mm_S} {d : mm_D} {g : mm_G} {r : mm_R} (hsh : shp sh) (hr : rfx r) {np nb : Nat} (hT : TW d r np nb) (n1 w : Int32) : wp xs ext (n + 7) 108 0 [some (.ref 0), some (.int n1), some (.int w), none, none, none, none, none] [] (sh, d, g, r) (fun v μ => v = some (.int (seenR d r np nb n1 w)) ∧ ∃ d2 g2 r2, μ = (sh, d2, g2, r2) ∧ fr d g r d2 g2 r2) := by
  have hr' : rfx (mm_up r 232 2 (some 38)) := rfx_up hr rfl _
  have hnb := hT.2.2.2.1
  have hnp := hT.2.1
  refine wp_aload_n (j := 0) rfl q108_ok d108_0 ?_
  refine wp_cV q108_ok d108_1 ml_10_189 rfl q128_ok (u := 10) rfl (by first | assumption | exact so0 hsh rfl) rfl (Nat.le_of_ble_eq_true rfl) (Nat.le_of_ble_eq_true rfl) (c_hasTown hsh hr) (fun v1 μ1 hc => ?_)
  obtain ⟨rfl, rfl⟩ := hc
  refine ⟨mm_le_same rfl, ?_⟩
  refine wp_if_eq q108_ok d108_4 (t := 23) rfl (fun h4 => ?_) (fun h4 => ?_)
  · refine wp_iconst (v := -1) (by decide) q108_ok d108_23 ?_
    refine wp_iret q108_ok d108_24 rfl ?_
    exact ⟨by unfold seenR; rw [if_pos h4], d, g, r, rfl, fr_refl⟩
  · refine wp_iload_n (j := 1) rfl q108_ok d108_7 ?_
    refine wp_cS q108_ok d108_8 ml_10_210 rfl q132_ok rfl rfl rfl (Nat.le_of_ble_eq_true rfl) (Nat.le_of_ble_eq_true rfl) (c_isAhead _) (fun v8 μ8 hc => ?_)
    obtain ⟨rfl, rfl⟩ := hc
    refine ⟨mm_le_same rfl, ?_⟩
    refine wp_if_eq q108_ok d108_11 (t := 23) rfl (fun h11 => ?_) (fun h11 => ?_)
    · refine wp_iconst (v := -1) (by decide) q108_ok d108_23 ?_
      refine wp_iret q108_ok d108_24 rfl ?_
      exact ⟨by unfold seenR; rw [if_neg h4, if_pos h11], d, g, r, rfl, fr_refl⟩
    · obtain ⟨N, hN1, hN, hNe⟩ := ahd_of h11
      refine wp_iload_n (j := 2) rfl q108_ok d108_14 ?_
      refine wp_if_lt q108_ok d108_15 (t := 23) rfl (fun h15 => ?_) (fun h15 => ?_)
      · refine wp_iconst (v := -1) (by decide) q108_ok d108_23 ?_
        refine wp_iret q108_ok d108_24 rfl ?_
        exact ⟨by unfold seenR; rw [if_neg h4, if_neg h11, if_pos h15], d, g, r, rfl, fr_refl⟩
      · refine wp_iload_n (j := 2) rfl q108_ok d108_18 ?_
        refine wp_iconst (v := 1) (by decide) q108_ok d108_19 ?_
        refine wp_icmp_le q108_ok d108_20 (t := 25) rfl (fun h20 => ?_) (fun h20 => ?_)
        · subst hNe
          refine wp_aload_n (j := 0) rfl q108_ok d108_25 ?_
          refine wp_getR q108_ok d108_26 fl_10_98 rfl (by first | assumption | exact so0 hsh rfl) (by first | assumption | exact hr _ _ _ rfl) ?_
          refine wp_aload_n (j := 0) rfl q108_ok d108_29 ?_
          refine wp_getR q108_ok d108_30 fl_10_69 rfl (by first | assumption | exact so0 hsh rfl) (by first | assumption | exact hr _ _ _ rfl) ?_
          refine wp_iload_n (j := 1) rfl q108_ok d108_33 ?_
          refine wp_cV q108_ok d108_34 ml_10_163 rfl q78_ok (u := 9) rfl (by first | assumption | exact so0 hsh rfl) rfl (Nat.le_of_ble_eq_true rfl) (Nat.le_of_ble_eq_true rfl) (c_prepare (d := d) hsh hr (tw38 hsh hr) (by decide) ntw38 hT.1 hT.2.1 hT.2.2.2.2 (show N ≤ 540 by omega) d (ag_refl d)) (fun v34 μ34 hc => ?_)
          obtain ⟨rfl, d3, rfl, ha3⟩ := hc
          refine ⟨mm_le_same rfl, ?_⟩
          refine wp_iconst (v := 0) (by decide) q108_ok d108_37 ?_
          refine wp_istore_n (j := 3) (Nat.le_of_ble_eq_true rfl) (rfl : _ = [_, _, _, _, _, _, _, _]) q108_ok d108_38 ?_
          refine wp_iconst (v := 0) (by decide) q108_ok d108_39 ?_
          refine wp_istore (j := 4) (Nat.le_of_ble_eq_true rfl) (rfl : _ = [_, _, _, _, _, _, _, _]) q108_ok d108_40 ?_
          refine wp_iconst (v := 0) (by decide) q108_ok d108_42 ?_
          refine wp_istore (j := 5) (Nat.le_of_ble_eq_true rfl) (rfl : _ = [_, _, _, _, _, _, _, _]) q108_ok d108_43 ?_
          refine wp_iconst (v := 0) (by decide) q108_ok d108_45 ?_
          refine wp_istore (j := 6) (Nat.le_of_ble_eq_true rfl) (rfl : _ = [_, _, _, _, _, _, _, _]) q108_ok d108_46 ?_
          refine wp_post (c_seen_l hsh hr' w (show N < 2 ^ 31 by omega) (TC_prep hT (so0 hsh rfl) ntw38.1) N 0 d3 none (by omega) ha3) (fun v μ hc => ?_)
          obtain ⟨rfl, d4, j, rfl, ha4⟩ := hc
          exact ⟨by unfold seenR; rw [if_neg h4, if_neg h11, if_neg h15, if_pos h20, nI_clamp (by omega)], _, _, _, rfl, fr_run ha4⟩
        · refine wp_iconst (v := -1) (by decide) q108_ok d108_23 ?_
          refine wp_iret q108_ok d108_24 rfl ?_
          exact ⟨by unfold seenR; rw [if_neg h4, if_neg h11, if_neg h15, if_neg h20], d, g, r, rfl, fr_refl⟩
def lovM (d : mm_D) (r : mm_R) (s np nb : Nat) (o : Int32) : Nat → Int32
  | 0 => 0
  | k + 1 => if stpN d r s np nb (k + 1) 232 12 &&& o = 0 then lovM d r s np nb o k + Int32.ofInt 1 else lovM d r s np nb o k
def lovF (d : mm_D) (r : mm_R) (s np nb : Nat) (o : Int32) : Nat → Int32
  | 0 => -1
  | k + 1 => if stpN d r s np nb (k + 1) 232 12 &&& o = 0 then (if lovM d r s np nb o k = 0 then nI k else lovF d r s np nb o k) else lovF d r s np nb o k
theorem c_lovers_l {xs : List Int32} {ext : mm_X} {n : Nat} {sh : mm_S} {d : mm_D} {g : mm_G} {r : mm_R} (hsh : shp sh) (hr : rfx r) {np nb s : Nat} {N : Nat} (v1 v2 w o : Int32) (hN : N < 2 ^ 31) (h : TC sh d r np nb s) : ∀ (z k : Nat) (d1 : mm_D) , z + k = N → ag (stpN d r s np nb k) d1 → wp xs ext (n + 7) 111 73 [some (.ref 0), some (.int v1), some (.int v2), some (.int (nI N)), some (.int w), some (.int o), some (.int (lovF d r s np nb o k)), some (.int (lovM d r s np nb o k)), some (.int (nI k))] [] (sh, d1, g, r) (fun v μ => v = some (.int (if w = 0 then lovF d r s np nb o N else lovM d r s np nb o N)) ∧ ∃ d2 j, μ = (sh, d2, g, r) ∧ ag (stpN d r s np nb j) d2) := by
  intro z
  induction z with
  | zero =>
    intro k d1 hm ha
    have hvb : N = k := by omega
    subst hvb
    refine wp_iload (j := 8) rfl q111_ok d111_73 ?_
    refine wp_iload_n (j := 3) rfl q111_ok d111_75 ?_
    refine wp_icmp_ge q111_ok d111_76 (t := 122) rfl (fun h76 => ?_) (fun h76 => ?_)
    · refine wp_iload (j := 4) rfl q111_ok d111_122 ?_
      refine wp_if_ne q111_ok d111_124 (t := 132) rfl (fun h124 => ?_) (fun h124 => ?_)
      · refine wp_iload (j := 7) rfl q111_ok d111_132 ?_
        refine wp_iret q111_ok d111_134 rfl ?_
        exact ⟨by rw [if_neg h124], d1, _, rfl, ha⟩
      · have h124 := Classical.not_not.mp h124
        refine wp_iload (j := 6) rfl q111_ok d111_127 ?_
        refine wp_goto (t := 134) rfl q111_ok d111_129 ?_
        refine wp_iret q111_ok d111_134 rfl ?_
        exact ⟨by rw [if_pos h124], d1, _, rfl, ha⟩
    · exact absurd (nI_le (Nat.le_refl _) (by omega)) h76
  | succ z ih =>
    intro k d1 hm ha
    have hlt : k < N := by omega
    refine wp_iload (j := 8) rfl q111_ok d111_73 ?_
    refine wp_iload_n (j := 3) rfl q111_ok d111_75 ?_
    refine wp_icmp_ge q111_ok d111_76 (t := 122) rfl (fun h76 => ?_) (fun h76 => ?_)
    · exact absurd h76 (nI_ge hlt (by omega))
    · refine wp_aload_n (j := 0) rfl q111_ok d111_79 ?_
      refine wp_getR q111_ok d111_80 fl_10_98 rfl (by first | assumption | exact so0 hsh rfl) (by first | assumption | exact hr _ _ _ rfl) ?_
      refine wp_cV q111_ok d111_83 ml_10_167 rfl q82_ok (u := 9) rfl (by first | assumption | exact so0 hsh rfl) rfl (Nat.le_of_ble_eq_true rfl) (Nat.le_of_ble_eq_true rfl) (c_stepT hsh hr (TC_N h k) d1 ha) (fun v83 μ83 hc => ?_)
      obtain ⟨rfl, d2, rfl, ha2⟩ := hc
      refine ⟨mm_le_same rfl, ?_⟩
      refine wp_aload_n (j := 0) rfl q111_ok d111_86 ?_
      refine wp_getR q111_ok d111_87 fl_10_98 rfl (by first | assumption | exact so0 hsh rfl) (by first | assumption | exact hr _ _ _ rfl) ?_
      refine wp_getI q111_ok d111_90 fl_10_170 rfl (by first | assumption | exact so0 hsh rfl) (congrFun (ha2 _ (by unfold scr; omega)) _) ?_
      refine wp_iload (j := 5) rfl q111_ok d111_93 ?_
      refine wp_iand rfl q111_ok d111_95 ?_
      refine wp_if_ne q111_ok d111_96 (t := 116) rfl (fun h96 => ?_) (fun h96 => ?_)
      · refine wp_iinc (j := 8) rfl (by first | exact inc1 | rfl) (rfl : _ = [_, _, _, _, _, _, _, _, _]) q111_ok d111_116 ?_
        refine wp_goto (t := 73) rfl q111_ok d111_119 ?_
        have this := ih (k + 1) d2 (by omega) ha2
        rw [lovM, lovF, stpN, if_neg h96, if_neg h96] at this
        exact this
      · have h96 := Classical.not_not.mp h96
        refine wp_iload (j := 7) rfl q111_ok d111_99 ?_
        refine wp_if_ne q111_ok d111_101 (t := 109) rfl (fun h101 => ?_) (fun h101 => ?_)
        · refine wp_iload (j := 6) rfl q111_ok d111_109 ?_
          refine wp_istore (j := 6) (Nat.le_of_ble_eq_true rfl) (rfl : _ = [_, _, _, _, _, _, _, _, _]) q111_ok d111_111 ?_
          refine wp_iinc (j := 7) rfl (by first | exact inc1 | rfl) (rfl : _ = [_, _, _, _, _, _, _, _, _]) q111_ok d111_113 ?_
          refine wp_iinc (j := 8) rfl (by first | exact inc1 | rfl) (rfl : _ = [_, _, _, _, _, _, _, _, _]) q111_ok d111_116 ?_
          refine wp_goto (t := 73) rfl q111_ok d111_119 ?_
          have this := ih (k + 1) d2 (by omega) ha2
          rw [lovM, lovF, stpN, if_pos h96, if_pos h96, if_neg h101] at this
          exact this
        · have h101 := Classical.not_not.mp h101
          refine wp_iload (j := 8) rfl q111_ok d111_104 ?_
          refine wp_goto (t := 111) rfl q111_ok d111_106 ?_
          refine wp_istore (j := 6) (Nat.le_of_ble_eq_true rfl) (rfl : _ = [_, _, _, _, _, _, _, _, _]) q111_ok d111_111 ?_
          refine wp_iinc (j := 7) rfl (by first | exact inc1 | rfl) (rfl : _ = [_, _, _, _, _, _, _, _, _]) q111_ok d111_113 ?_
          refine wp_iinc (j := 8) rfl (by first | exact inc1 | rfl) (rfl : _ = [_, _, _, _, _, _, _, _, _]) q111_ok d111_116 ?_
          refine wp_goto (t := 73) rfl q111_ok d111_119 ?_
          have this := ih (k + 1) d2 (by omega) ha2
          rw [lovM, lovF, stpN, if_pos h96, if_pos h96, if_pos h101] at this
          exact this
def loversR (d : mm_D) (r : mm_R) (np nb : Nat) (i j n1 w : Int32) : Int32 := if perC d i = 0 then -1000000 else if perC d j = 0 then -1000000 else if i = j then -1000000 else if (if n1 < 1 then (0 : Int32) else if 240 < n1 then 0 else 1) = 0 then -1000000 else if w < 0 then -1000000 else if w ≤ 1 then if w = 0 then lovF (prepD d (mm_up r 232 2 (some 38)) 38 np n1.toNatClampNeg) (mm_up r 232 2 (some 38)) 38 np nb (((1 : Int32) <<< (i &&& 31)) ||| ((1 : Int32) <<< (j &&& 31))) n1.toNatClampNeg else lovM (prepD d (mm_up r 232 2 (some 38)) 38 np n1.toNatClampNeg) (mm_up r 232 2 (some 38)) 38 np nb (((1 : Int32) <<< (i &&& 31)) ||| ((1 : Int32) <<< (j &&& 31))) n1.toNatClampNeg else -1000000
theorem c_loversP {xs : List Int32} {ext : mm_X} {n : Nat} {sh : mm_S} {d : mm_D} {g : mm_G} {r : mm_R} (hsh : shp sh) (hr : rfx r) {np nb : Nat} (hT : TW d r np nb) (i j n1 w : Int32) : wp xs ext (n + 7) 111 0 [some (.ref 0), some (.int i), some (.int j), some (.int n1), some (.int w), none, none, none, none] [] (sh, d, g, r) (fun v μ => v = some (.int (loversR d r np nb i j n1 w)) ∧ ∃ d2 g2 r2, μ = (sh, d2, g2, r2) ∧ fr d g r d2 g2 r2) := by
  have hr' : rfx (mm_up r 232 2 (some 38)) := rfx_up hr rfl _
  have hnb := hT.2.2.2.1
  have hnp := hT.2.1
  refine wp_aload_n (j := 0) rfl q111_ok d111_0 ?_
  refine wp_iload_n (j := 1) rfl q111_ok d111_1 ?_
  refine wp_cV q111_ok d111_2 ml_10_148 rfl q129_ok (u := 10) rfl (by first | assumption | exact so0 hsh rfl) rfl (Nat.le_of_ble_eq_true rfl) (Nat.le_of_ble_eq_true rfl) (c_isPerson hsh hr _) (fun v2 μ2 hc => ?_)
  obtain ⟨rfl, rfl⟩ := hc
  refine ⟨mm_le_same rfl, ?_⟩
  refine wp_if_eq q111_ok d111_5 (t := 39) rfl (fun h5 => ?_) (fun h5 => ?_)
  · refine wp_ldc_w kc_10_277 q111_ok d111_39 ?_
    refine wp_iret q111_ok d111_42 rfl ?_
    exact ⟨by unfold loversR; rw [if_pos h5], d, g, r, rfl, fr_refl⟩
  · refine wp_aload_n (j := 0) rfl q111_ok d111_8 ?_
    refine wp_iload_n (j := 2) rfl q111_ok d111_9 ?_
    refine wp_cV q111_ok d111_10 ml_10_148 rfl q129_ok (u := 10) rfl (by first | assumption | exact so0 hsh rfl) rfl (Nat.le_of_ble_eq_true rfl) (Nat.le_of_ble_eq_true rfl) (c_isPerson hsh hr _) (fun v10 μ10 hc => ?_)
    obtain ⟨rfl, rfl⟩ := hc
    refine ⟨mm_le_same rfl, ?_⟩
    refine wp_if_eq q111_ok d111_13 (t := 39) rfl (fun h13 => ?_) (fun h13 => ?_)
    · refine wp_ldc_w kc_10_277 q111_ok d111_39 ?_
      refine wp_iret q111_ok d111_42 rfl ?_
      exact ⟨by unfold loversR; rw [if_neg h5, if_pos h13], d, g, r, rfl, fr_refl⟩
    · refine wp_iload_n (j := 1) rfl q111_ok d111_16 ?_
      refine wp_iload_n (j := 2) rfl q111_ok d111_17 ?_
      refine wp_icmp_eq q111_ok d111_18 (t := 39) rfl (fun h18 => ?_) (fun h18 => ?_)
      · refine wp_ldc_w kc_10_277 q111_ok d111_39 ?_
        refine wp_iret q111_ok d111_42 rfl ?_
        exact ⟨by unfold loversR; rw [if_neg h5, if_neg h13, if_pos h18], d, g, r, rfl, fr_refl⟩
      · refine wp_iload_n (j := 3) rfl q111_ok d111_21 ?_
        refine wp_cS q111_ok d111_22 ml_10_210 rfl q132_ok rfl rfl rfl (Nat.le_of_ble_eq_true rfl) (Nat.le_of_ble_eq_true rfl) (c_isAhead _) (fun v22 μ22 hc => ?_)
        obtain ⟨rfl, rfl⟩ := hc
        refine ⟨mm_le_same rfl, ?_⟩
        refine wp_if_eq q111_ok d111_25 (t := 39) rfl (fun h25 => ?_) (fun h25 => ?_)
        · refine wp_ldc_w kc_10_277 q111_ok d111_39 ?_
          refine wp_iret q111_ok d111_42 rfl ?_
          exact ⟨by unfold loversR; rw [if_neg h5, if_neg h13, if_neg h18, if_pos h25], d, g, r, rfl, fr_refl⟩
        · obtain ⟨N, hN1, hN, hNe⟩ := ahd_of h25
          refine wp_iload (j := 4) rfl q111_ok d111_28 ?_
          refine wp_if_lt q111_ok d111_30 (t := 39) rfl (fun h30 => ?_) (fun h30 => ?_)
          · refine wp_ldc_w kc_10_277 q111_ok d111_39 ?_
            refine wp_iret q111_ok d111_42 rfl ?_
            exact ⟨by unfold loversR; rw [if_neg h5, if_neg h13, if_neg h18, if_neg h25, if_pos h30], d, g, r, rfl, fr_refl⟩
          · refine wp_iload (j := 4) rfl q111_ok d111_33 ?_
            refine wp_iconst (v := 1) (by decide) q111_ok d111_35 ?_
            refine wp_icmp_le q111_ok d111_36 (t := 43) rfl (fun h36 => ?_) (fun h36 => ?_)
            · subst hNe
              refine wp_iconst (v := 1) (by decide) q111_ok d111_43 ?_
              refine wp_iload_n (j := 1) rfl q111_ok d111_44 ?_
              refine wp_ishl rfl q111_ok d111_45 ?_
              refine wp_iconst (v := 1) (by decide) q111_ok d111_46 ?_
              refine wp_iload_n (j := 2) rfl q111_ok d111_47 ?_
              refine wp_ishl rfl q111_ok d111_48 ?_
              refine wp_ior rfl q111_ok d111_49 ?_
              refine wp_istore (j := 5) (Nat.le_of_ble_eq_true rfl) (rfl : _ = [_, _, _, _, _, _, _, _, _]) q111_ok d111_50 ?_
              refine wp_aload_n (j := 0) rfl q111_ok d111_52 ?_
              refine wp_getR q111_ok d111_53 fl_10_98 rfl (by first | assumption | exact so0 hsh rfl) (by first | assumption | exact hr _ _ _ rfl) ?_
              refine wp_aload_n (j := 0) rfl q111_ok d111_56 ?_
              refine wp_getR q111_ok d111_57 fl_10_69 rfl (by first | assumption | exact so0 hsh rfl) (by first | assumption | exact hr _ _ _ rfl) ?_
              refine wp_iload_n (j := 3) rfl q111_ok d111_60 ?_
              refine wp_cV q111_ok d111_61 ml_10_163 rfl q78_ok (u := 9) rfl (by first | assumption | exact so0 hsh rfl) rfl (Nat.le_of_ble_eq_true rfl) (Nat.le_of_ble_eq_true rfl) (c_prepare (d := d) hsh hr (tw38 hsh hr) (by decide) ntw38 hT.1 hT.2.1 hT.2.2.2.2 (show N ≤ 540 by omega) d (ag_refl d)) (fun v61 μ61 hc => ?_)
              obtain ⟨rfl, d3, rfl, ha3⟩ := hc
              refine ⟨mm_le_same rfl, ?_⟩
              refine wp_iconst (v := -1) (by decide) q111_ok d111_64 ?_
              refine wp_istore (j := 6) (Nat.le_of_ble_eq_true rfl) (rfl : _ = [_, _, _, _, _, _, _, _, _]) q111_ok d111_65 ?_
              refine wp_iconst (v := 0) (by decide) q111_ok d111_67 ?_
              refine wp_istore (j := 7) (Nat.le_of_ble_eq_true rfl) (rfl : _ = [_, _, _, _, _, _, _, _, _]) q111_ok d111_68 ?_
              refine wp_iconst (v := 0) (by decide) q111_ok d111_70 ?_
              refine wp_istore (j := 8) (Nat.le_of_ble_eq_true rfl) (rfl : _ = [_, _, _, _, _, _, _, _, _]) q111_ok d111_71 ?_
              refine wp_post (c_lovers_l hsh hr' _ _ w _ (show N < 2 ^ 31 by omega) (TC_prep hT (so0 hsh rfl) ntw38.1) N 0 d3 (by omega) ha3) (fun v μ hc => ?_)
              obtain ⟨rfl, d4, j, rfl, ha4⟩ := hc
              exact ⟨by unfold loversR; rw [if_neg h5, if_neg h13, if_neg h18, if_neg h25, if_neg h30, if_pos h36, nI_clamp (by omega)], _, _, _, rfl, fr_run ha4⟩
            · refine wp_ldc_w kc_10_277 q111_ok d111_39 ?_
              refine wp_iret q111_ok d111_42 rfl ?_
              exact ⟨by unfold loversR; rw [if_neg h5, if_neg h13, if_neg h18, if_neg h25, if_neg h30, if_neg h36], d, g, r, rfl, fr_refl⟩
def aloS (d : mm_D) (r : mm_R) (s np nb : Nat) (o : Int32) : Nat → Int32
  | 0 => 0
  | k + 1 => aloS d r s np nb o k + if stpN d r s np nb (k + 1) 232 13 = o then 1 else 0
theorem c_alone_l {xs : List Int32} {ext : mm_X} {n : Nat} {sh : mm_S} {d : mm_D} {g : mm_G} {r : mm_R} (hsh : shp sh) (hr : rfx r) {np nb s : Nat} {N : Nat} (pv : Int32) (hN : N < 2 ^ 31) (h : TC sh d r np nb s) : ∀ (z k : Nat) (d1 : mm_D) , z + k = N → ag (stpN d r s np nb k) d1 → wp xs ext (n + 7) 122 34 [some (.ref 0), some (.int pv), some (.int (nI N)), some (.int (aloS d r s np nb ((1 : Int32) <<< (pv &&& 31)) k)), some (.int (nI k))] [] (sh, d1, g, r) (fun v μ => v = some (.int (aloS d r s np nb ((1 : Int32) <<< (pv &&& 31)) N)) ∧ ∃ d2 j, μ = (sh, d2, g, r) ∧ ag (stpN d r s np nb j) d2) := by
  intro z
  induction z with
  | zero =>
    intro k d1 hm ha
    have hvb : N = k := by omega
    subst hvb
    refine wp_iload (j := 4) rfl q122_ok d122_34 ?_
    refine wp_iload_n (j := 2) rfl q122_ok d122_36 ?_
    refine wp_icmp_ge q122_ok d122_37 (t := 74) rfl (fun h37 => ?_) (fun h37 => ?_)
    · refine wp_iload_n (j := 3) rfl q122_ok d122_74 ?_
      refine wp_iret q122_ok d122_75 rfl ?_
      exact ⟨rfl, d1, _, rfl, ha⟩
    · exact absurd (nI_le (Nat.le_refl _) (by omega)) h37
  | succ z ih =>
    intro k d1 hm ha
    have hlt : k < N := by omega
    refine wp_iload (j := 4) rfl q122_ok d122_34 ?_
    refine wp_iload_n (j := 2) rfl q122_ok d122_36 ?_
    refine wp_icmp_ge q122_ok d122_37 (t := 74) rfl (fun h37 => ?_) (fun h37 => ?_)
    · exact absurd h37 (nI_ge hlt (by omega))
    · refine wp_aload_n (j := 0) rfl q122_ok d122_40 ?_
      refine wp_getR q122_ok d122_41 fl_10_98 rfl (by first | assumption | exact so0 hsh rfl) (by first | assumption | exact hr _ _ _ rfl) ?_
      refine wp_cV q122_ok d122_44 ml_10_167 rfl q82_ok (u := 9) rfl (by first | assumption | exact so0 hsh rfl) rfl (Nat.le_of_ble_eq_true rfl) (Nat.le_of_ble_eq_true rfl) (c_stepT hsh hr (TC_N h k) d1 ha) (fun v44 μ44 hc => ?_)
      obtain ⟨rfl, d2, rfl, ha2⟩ := hc
      refine ⟨mm_le_same rfl, ?_⟩
      refine wp_iload_n (j := 3) rfl q122_ok d122_47 ?_
      refine wp_aload_n (j := 0) rfl q122_ok d122_48 ?_
      refine wp_getR q122_ok d122_49 fl_10_98 rfl (by first | assumption | exact so0 hsh rfl) (by first | assumption | exact hr _ _ _ rfl) ?_
      refine wp_getI q122_ok d122_52 fl_10_173 rfl (by first | assumption | exact so0 hsh rfl) (congrFun (ha2 _ (by unfold scr; omega)) _) ?_
      refine wp_iconst (v := 1) (by decide) q122_ok d122_55 ?_
      refine wp_iload_n (j := 1) rfl q122_ok d122_56 ?_
      refine wp_ishl rfl q122_ok d122_57 ?_
      refine wp_icmp_ne q122_ok d122_58 (t := 65) rfl (fun h58 => ?_) (fun h58 => ?_)
      · refine wp_iconst (v := 0) (by decide) q122_ok d122_65 ?_
        refine wp_iadd rfl q122_ok d122_66 ?_
        refine wp_istore_n (j := 3) (Nat.le_of_ble_eq_true rfl) (rfl : _ = [_, _, _, _, _]) q122_ok d122_67 ?_
        refine wp_iinc (j := 4) rfl (by first | exact inc1 | rfl) (rfl : _ = [_, _, _, _, _]) q122_ok d122_68 ?_
        refine wp_goto (t := 34) rfl q122_ok d122_71 ?_
        have this := ih (k + 1) d2 (by omega) ha2
        rw [aloS, stpN, if_neg h58] at this
        exact this
      · have h58 := Classical.not_not.mp h58
        refine wp_iconst (v := 1) (by decide) q122_ok d122_61 ?_
        refine wp_goto (t := 66) rfl q122_ok d122_62 ?_
        refine wp_iadd rfl q122_ok d122_66 ?_
        refine wp_istore_n (j := 3) (Nat.le_of_ble_eq_true rfl) (rfl : _ = [_, _, _, _, _]) q122_ok d122_67 ?_
        refine wp_iinc (j := 4) rfl (by first | exact inc1 | rfl) (rfl : _ = [_, _, _, _, _]) q122_ok d122_68 ?_
        refine wp_goto (t := 34) rfl q122_ok d122_71 ?_
        have this := ih (k + 1) d2 (by omega) ha2
        rw [aloS, stpN, if_pos h58] at this
        exact this
def aloneR (d : mm_D) (r : mm_R) (np nb : Nat) (i n1 : Int32) : Int32 := if perC d i = 0 then -1 else if (if n1 < 1 then (0 : Int32) else if 240 < n1 then 0 else 1) = 0 then -1 else aloS (prepD d (mm_up r 232 2 (some 38)) 38 np n1.toNatClampNeg) (mm_up r 232 2 (some 38)) 38 np nb ((1 : Int32) <<< (i &&& 31)) n1.toNatClampNeg
theorem c_aloneP {xs : List Int32} {ext : mm_X} {n : Nat} {sh : mm_S} {d : mm_D} {g : mm_G} {r : mm_R} (hsh : shp sh) (hr : rfx r) {np nb : Nat} (hT : TW d r np nb) (i n1 : Int32) : wp xs ext (n + 7) 122 0 [some (.ref 0), some (.int i), some (.int n1), none, none] [] (sh, d, g, r) (fun v μ => v = some (.int (aloneR d r np nb i n1)) ∧ ∃ d2 g2 r2, μ = (sh, d2, g2, r2) ∧ fr d g r d2 g2 r2) := by
  have hr' : rfx (mm_up r 232 2 (some 38)) := rfx_up hr rfl _
  have hnb := hT.2.2.2.1
  have hnp := hT.2.1
  refine wp_aload_n (j := 0) rfl q122_ok d122_0 ?_
  refine wp_iload_n (j := 1) rfl q122_ok d122_1 ?_
  refine wp_cV q122_ok d122_2 ml_10_148 rfl q129_ok (u := 10) rfl (by first | assumption | exact so0 hsh rfl) rfl (Nat.le_of_ble_eq_true rfl) (Nat.le_of_ble_eq_true rfl) (c_isPerson hsh hr _) (fun v2 μ2 hc => ?_)
  obtain ⟨rfl, rfl⟩ := hc
  refine ⟨mm_le_same rfl, ?_⟩
  refine wp_if_eq q122_ok d122_5 (t := 15) rfl (fun h5 => ?_) (fun h5 => ?_)
  · refine wp_iconst (v := -1) (by decide) q122_ok d122_15 ?_
    refine wp_iret q122_ok d122_16 rfl ?_
    exact ⟨by unfold aloneR; rw [if_pos h5], d, g, r, rfl, fr_refl⟩
  · obtain ⟨p, hp, hpe⟩ := in_of hT.1 (by omega) h5
    refine wp_iload_n (j := 2) rfl q122_ok d122_8 ?_
    refine wp_cS q122_ok d122_9 ml_10_210 rfl q132_ok rfl rfl rfl (Nat.le_of_ble_eq_true rfl) (Nat.le_of_ble_eq_true rfl) (c_isAhead _) (fun v9 μ9 hc => ?_)
    obtain ⟨rfl, rfl⟩ := hc
    refine ⟨mm_le_same rfl, ?_⟩
    refine wp_if_ne q122_ok d122_12 (t := 17) rfl (fun h12 => ?_) (fun h12 => ?_)
    · obtain ⟨N, hN1, hN, hNe⟩ := ahd_of h12
      subst hNe
      refine wp_aload_n (j := 0) rfl q122_ok d122_17 ?_
      refine wp_getR q122_ok d122_18 fl_10_98 rfl (by first | assumption | exact so0 hsh rfl) (by first | assumption | exact hr _ _ _ rfl) ?_
      refine wp_aload_n (j := 0) rfl q122_ok d122_21 ?_
      refine wp_getR q122_ok d122_22 fl_10_69 rfl (by first | assumption | exact so0 hsh rfl) (by first | assumption | exact hr _ _ _ rfl) ?_
      refine wp_iload_n (j := 2) rfl q122_ok d122_25 ?_
      refine wp_cV q122_ok d122_26 ml_10_163 rfl q78_ok (u := 9) rfl (by first | assumption | exact so0 hsh rfl) rfl (Nat.le_of_ble_eq_true rfl) (Nat.le_of_ble_eq_true rfl) (c_prepare (d := d) hsh hr (tw38 hsh hr) (by decide) ntw38 hT.1 hT.2.1 hT.2.2.2.2 (show N ≤ 540 by omega) d (ag_refl d)) (fun v26 μ26 hc => ?_)
      obtain ⟨rfl, d3, rfl, ha3⟩ := hc
      refine ⟨mm_le_same rfl, ?_⟩
      refine wp_iconst (v := 0) (by decide) q122_ok d122_29 ?_
      refine wp_istore_n (j := 3) (Nat.le_of_ble_eq_true rfl) (rfl : _ = [_, _, _, _, _]) q122_ok d122_30 ?_
      refine wp_iconst (v := 0) (by decide) q122_ok d122_31 ?_
      refine wp_istore (j := 4) (Nat.le_of_ble_eq_true rfl) (rfl : _ = [_, _, _, _, _]) q122_ok d122_32 ?_
      refine wp_post (c_alone_l hsh hr' _ (show N < 2 ^ 31 by omega) (TC_prep hT (so0 hsh rfl) ntw38.1) N 0 d3 (by omega) ha3) (fun v μ hc => ?_)
      obtain ⟨rfl, d4, j, rfl, ha4⟩ := hc
      exact ⟨by unfold aloneR; rw [if_neg h5, if_neg h12, nI_clamp (by omega)], _, _, _, rfl, fr_run ha4⟩
    · have h12 := Classical.not_not.mp h12
      refine wp_iconst (v := -1) (by decide) q122_ok d122_15 ?_
      refine wp_iret q122_ok d122_16 rfl ?_
      exact ⟨by unfold aloneR; rw [if_neg h5, if_pos h12], d, g, r, rfl, fr_refl⟩
def houD (d : mm_D) (r : mm_R) (s np nb b : Nat) (k : Nat) : Int32 := dueC (stpN d r s np nb k (14 + b) 0) (stpN d r s np nb k 233 0)
def houC (d : mm_D) (r : mm_R) (s np nb b : Nat) (i : Int32) : Nat → Int32
  | 0 => 0
  | k + 1 => if houD d r s np nb b k ≤ 0 then houC d r s np nb b i k else if i < houC d r s np nb b i k then houC d r s np nb b i k else houC d r s np nb b i k + Int32.ofInt 1
def houS (d : mm_D) (r : mm_R) (s np nb b : Nat) (i : Int32) : Nat → Int32
  | 0 => d 39 b
  | k + 1 => if houD d r s np nb b k ≤ 0 then houS d r s np nb b i k else if i < houC d r s np nb b i k then houS d r s np nb b i k else houS d r s np nb b i k + houD d r s np nb b k
def houF (d : mm_D) (r : mm_R) (s np nb b : Nat) (i : Int32) : Nat → Nat → Int32
  | 0, _ => -1
  | z + 1, k => if houC d r s np nb b i (k + 1) ≤ i then houF d r s np nb b i z (k + 1) else if stpN d r s np nb (k + 1) 235 b - stpN d r s np nb (k + 1) 40 b < houS d r s np nb b i (k + 1) then houF d r s np nb b i z (k + 1) else nI k
theorem c_hour_l {xs : List Int32} {ext : mm_X} {n : Nat} {sh : mm_S} {d : mm_D} {g : mm_G} {r : mm_R} (hsh : shp sh) (hr : rfx r) {np nb s : Nat} {b : Nat} (i : Int32) (hb : b < nb) (hb2 : b < 2) (h : TC sh d r np nb s) : ∀ (z k : Nat) (d1 : mm_D) (u : Option Value), z + k = 240 → ag (stpN d r s np nb k) d1 → wp xs ext (n + 7) 123 44 [some (.ref 0), some (.int (nI b)), some (.int i), some (.int (houS d r s np nb b i k)), some (.int (houC d r s np nb b i k)), some (.int (nI k)), u] [] (sh, d1, g, r) (fun v μ => v = some (.int (houF d r s np nb b i z k)) ∧ ∃ d2 j, μ = (sh, d2, g, r) ∧ ag (stpN d r s np nb j) d2) := by
  intro z
  induction z with
  | zero =>
    intro k d1 u hm ha
    have hvb : k = 240 := by omega
    subst hvb
    refine wp_iload (j := 5) rfl q123_ok d123_44 ?_
    refine wp_sipush (v := 240) (by decide) q123_ok d123_46 ?_
    refine wp_icmp_ge q123_ok d123_49 (t := 139) rfl (fun h49 => ?_) (fun h49 => ?_)
    · refine wp_iconst (v := -1) (by decide) q123_ok d123_139 ?_
      refine wp_iret q123_ok d123_140 rfl ?_
      exact ⟨rfl, d1, _, rfl, ha⟩
    · exact absurd (nI_le (Nat.le_refl _) (by decide)) h49
  | succ z ih =>
    intro k d1 u hm ha
    have hlt : k < 240 := by omega
    refine wp_iload (j := 5) rfl q123_ok d123_44 ?_
    refine wp_sipush (v := 240) (by decide) q123_ok d123_46 ?_
    refine wp_icmp_ge q123_ok d123_49 (t := 139) rfl (fun h49 => ?_) (fun h49 => ?_)
    · exact absurd h49 (nI_ge hlt (by decide))
    · refine wp_aload_n (j := 0) rfl q123_ok d123_52 ?_
      refine wp_getR q123_ok d123_53 fl_10_28 rfl (by first | assumption | exact so0 hsh rfl) (by first | assumption | exact hr _ _ _ rfl) ?_
      refine wp_iload_n (j := 1) rfl q123_ok d123_56 ?_
      refine wp_aload_n (j := 0) rfl q123_ok d123_57 ?_
      refine wp_getR q123_ok d123_58 fl_10_98 rfl (by first | assumption | exact so0 hsh rfl) (by first | assumption | exact hr _ _ _ rfl) ?_
      refine wp_getR q123_ok d123_61 fl_10_247 rfl (by first | assumption | exact so0 hsh rfl) (by first | assumption | exact hr _ _ _ rfl) ?_
      refine wp_getI q123_ok d123_64 fl_10_217 rfl (by first | assumption | exact so0 hsh rfl) (by first | assumption | exact congrFun (ha _ (by unfold scr; omega)) _ | rfl) ?_
      refine wp_cV q123_ok d123_67 ml_10_320 rfl q70_ok (u := 7) rfl (by first | assumption | exact so0 hsh rfl) rfl (Nat.le_of_ble_eq_true rfl) (Nat.le_of_ble_eq_true rfl) (c_due (d := d1) hsh hr (TC_ag ha (TC_N h k)).2.2.2.2.2.1 h.2.2.2.2.2.2.1 hb _) (fun v67 μ67 hc => ?_)
      obtain ⟨rfl, rfl⟩ := hc
      refine ⟨mm_le_same rfl, ?_⟩
      rw [congrFun (ha (14 + b) (by unfold scr; have := h.2.2.2.2.2.2.1; omega)) 0]
      refine wp_istore (j := 6) (Nat.le_of_ble_eq_true rfl) (rfl : _ = [_, _, _, _, _, _, _]) q123_ok d123_70 ?_
      refine wp_iload (j := 6) rfl q123_ok d123_72 ?_
      refine wp_if_le q123_ok d123_74 (t := 91) rfl (fun h74 => ?_) (fun h74 => ?_)
      · have e1 : houC d r s np nb b i (k + 1) = houC d r s np nb b i k := by rw [houC, houD, if_pos h74]
        have e2 : houS d r s np nb b i (k + 1) = houS d r s np nb b i k := by rw [houS, houD, if_pos h74]
        refine wp_aload_n (j := 0) rfl q123_ok d123_91 ?_
        refine wp_getR q123_ok d123_92 fl_10_98 rfl (by first | assumption | exact so0 hsh rfl) (by first | assumption | exact hr _ _ _ rfl) ?_
        refine wp_cV q123_ok d123_95 ml_10_167 rfl q82_ok (u := 9) rfl (by first | assumption | exact so0 hsh rfl) rfl (Nat.le_of_ble_eq_true rfl) (Nat.le_of_ble_eq_true rfl) (c_stepT hsh hr (TC_N h k) d1 ha) (fun v95 μ95 hc => ?_)
        obtain ⟨rfl, d2, rfl, ha2⟩ := hc
        refine ⟨mm_le_same rfl, ?_⟩
        refine wp_iload (j := 4) rfl q123_ok d123_98 ?_
        refine wp_iload_n (j := 2) rfl q123_ok d123_100 ?_
        refine wp_icmp_le q123_ok d123_101 (t := 133) rfl (fun h101 => ?_) (fun h101 => ?_)
        · refine wp_iinc (j := 5) rfl (by first | exact inc1 | rfl) (rfl : _ = [_, _, _, _, _, _, _]) q123_ok d123_133 ?_
          refine wp_goto (t := 44) rfl q123_ok d123_136 ?_
          have this := ih (k + 1) d2 (some (.int (houD d r s np nb b k))) (by omega) ha2
          rw [e1, e2] at this
          refine wp_post this (fun v μ hc => ?_)
          rw [houF, e1, if_pos h101]
          exact hc
        · refine wp_aload_n (j := 0) rfl q123_ok d123_104 ?_
          refine wp_getR q123_ok d123_105 fl_10_98 rfl (by first | assumption | exact so0 hsh rfl) (by first | assumption | exact hr _ _ _ rfl) ?_
          refine wp_getR q123_ok d123_108 fl_10_247 rfl (by first | assumption | exact so0 hsh rfl) (by first | assumption | exact hr _ _ _ rfl) ?_
          refine wp_getR q123_ok d123_111 fl_10_186 rfl (by first | assumption | exact so0 hsh rfl) (by first | assumption | exact hr _ _ _ rfl) ?_
          refine wp_iload_n (j := 1) rfl q123_ok d123_114 ?_
          refine wp_iald (m := 2) q123_ok d123_115 (by first | assumption | exact so0 hsh rfl) (by first | assumption | exact shl hsh (Nat.le_of_ble_eq_true rfl) rfl) (by first | assumption | exact ixn_nI (by omega)) (congrFun (ha2 _ (by unfold scr; omega)) _) ?_ (shK hsh)
          refine wp_aload_n (j := 0) rfl q123_ok d123_116 ?_
          refine wp_getR q123_ok d123_117 fl_10_69 rfl (by first | assumption | exact so0 hsh rfl) (by first | assumption | exact hr _ _ _ rfl) ?_
          refine wp_getR q123_ok d123_120 fl_10_186 rfl (by first | assumption | exact so0 hsh rfl) (by first | assumption | exact hr _ _ _ rfl) ?_
          refine wp_iload_n (j := 1) rfl q123_ok d123_123 ?_
          refine wp_iald (m := 2) q123_ok d123_124 (by first | assumption | exact so0 hsh rfl) (by first | assumption | exact shl hsh (Nat.le_of_ble_eq_true rfl) rfl) (by first | assumption | exact ixn_nI (by omega)) (congrFun (ha2 _ (by unfold scr; omega)) _) ?_ (shK hsh)
          refine wp_isub rfl q123_ok d123_125 ?_
          refine wp_iload_n (j := 3) rfl q123_ok d123_126 ?_
          refine wp_icmp_lt q123_ok d123_127 (t := 133) rfl (fun h127 => ?_) (fun h127 => ?_)
          · refine wp_iinc (j := 5) rfl (by first | exact inc1 | rfl) (rfl : _ = [_, _, _, _, _, _, _]) q123_ok d123_133 ?_
            refine wp_goto (t := 44) rfl q123_ok d123_136 ?_
            have this := ih (k + 1) d2 (some (.int (houD d r s np nb b k))) (by omega) ha2
            rw [e1, e2] at this
            refine wp_post this (fun v μ hc => ?_)
            rw [houF, e1, e2, stpN, if_neg h101, if_pos h127]
            exact hc
          · refine wp_iload (j := 5) rfl q123_ok d123_130 ?_
            refine wp_iret q123_ok d123_132 rfl ?_
            exact ⟨by rw [houF, e1, e2, stpN, if_neg h101, if_neg h127], d2, k + 1, rfl, ha2⟩
      · refine wp_iload (j := 4) rfl q123_ok d123_77 ?_
        refine wp_iload_n (j := 2) rfl q123_ok d123_79 ?_
        refine wp_icmp_gt q123_ok d123_80 (t := 91) rfl (fun h80 => ?_) (fun h80 => ?_)
        · have e1 : houC d r s np nb b i (k + 1) = houC d r s np nb b i k := by rw [houC, houD, if_neg h74, if_pos h80]
          have e2 : houS d r s np nb b i (k + 1) = houS d r s np nb b i k := by rw [houS, houD, if_neg h74, if_pos h80]
          refine wp_aload_n (j := 0) rfl q123_ok d123_91 ?_
          refine wp_getR q123_ok d123_92 fl_10_98 rfl (by first | assumption | exact so0 hsh rfl) (by first | assumption | exact hr _ _ _ rfl) ?_
          refine wp_cV q123_ok d123_95 ml_10_167 rfl q82_ok (u := 9) rfl (by first | assumption | exact so0 hsh rfl) rfl (Nat.le_of_ble_eq_true rfl) (Nat.le_of_ble_eq_true rfl) (c_stepT hsh hr (TC_N h k) d1 ha) (fun v95 μ95 hc => ?_)
          obtain ⟨rfl, d2, rfl, ha2⟩ := hc
          refine ⟨mm_le_same rfl, ?_⟩
          refine wp_iload (j := 4) rfl q123_ok d123_98 ?_
          refine wp_iload_n (j := 2) rfl q123_ok d123_100 ?_
          refine wp_icmp_le q123_ok d123_101 (t := 133) rfl (fun h101 => ?_) (fun h101 => ?_)
          · refine wp_iinc (j := 5) rfl (by first | exact inc1 | rfl) (rfl : _ = [_, _, _, _, _, _, _]) q123_ok d123_133 ?_
            refine wp_goto (t := 44) rfl q123_ok d123_136 ?_
            have this := ih (k + 1) d2 (some (.int (houD d r s np nb b k))) (by omega) ha2
            rw [e1, e2] at this
            refine wp_post this (fun v μ hc => ?_)
            rw [houF, e1, if_pos h101]
            exact hc
          · refine wp_aload_n (j := 0) rfl q123_ok d123_104 ?_
            refine wp_getR q123_ok d123_105 fl_10_98 rfl (by first | assumption | exact so0 hsh rfl) (by first | assumption | exact hr _ _ _ rfl) ?_
            refine wp_getR q123_ok d123_108 fl_10_247 rfl (by first | assumption | exact so0 hsh rfl) (by first | assumption | exact hr _ _ _ rfl) ?_
            refine wp_getR q123_ok d123_111 fl_10_186 rfl (by first | assumption | exact so0 hsh rfl) (by first | assumption | exact hr _ _ _ rfl) ?_
            refine wp_iload_n (j := 1) rfl q123_ok d123_114 ?_
            refine wp_iald (m := 2) q123_ok d123_115 (by first | assumption | exact so0 hsh rfl) (by first | assumption | exact shl hsh (Nat.le_of_ble_eq_true rfl) rfl) (by first | assumption | exact ixn_nI (by omega)) (congrFun (ha2 _ (by unfold scr; omega)) _) ?_ (shK hsh)
            refine wp_aload_n (j := 0) rfl q123_ok d123_116 ?_
            refine wp_getR q123_ok d123_117 fl_10_69 rfl (by first | assumption | exact so0 hsh rfl) (by first | assumption | exact hr _ _ _ rfl) ?_
            refine wp_getR q123_ok d123_120 fl_10_186 rfl (by first | assumption | exact so0 hsh rfl) (by first | assumption | exact hr _ _ _ rfl) ?_
            refine wp_iload_n (j := 1) rfl q123_ok d123_123 ?_
            refine wp_iald (m := 2) q123_ok d123_124 (by first | assumption | exact so0 hsh rfl) (by first | assumption | exact shl hsh (Nat.le_of_ble_eq_true rfl) rfl) (by first | assumption | exact ixn_nI (by omega)) (congrFun (ha2 _ (by unfold scr; omega)) _) ?_ (shK hsh)
            refine wp_isub rfl q123_ok d123_125 ?_
            refine wp_iload_n (j := 3) rfl q123_ok d123_126 ?_
            refine wp_icmp_lt q123_ok d123_127 (t := 133) rfl (fun h127 => ?_) (fun h127 => ?_)
            · refine wp_iinc (j := 5) rfl (by first | exact inc1 | rfl) (rfl : _ = [_, _, _, _, _, _, _]) q123_ok d123_133 ?_
              refine wp_goto (t := 44) rfl q123_ok d123_136 ?_
              have this := ih (k + 1) d2 (some (.int (houD d r s np nb b k))) (by omega) ha2
              rw [e1, e2] at this
              refine wp_post this (fun v μ hc => ?_)
              rw [houF, e1, e2, stpN, if_neg h101, if_pos h127]
              exact hc
            · refine wp_iload (j := 5) rfl q123_ok d123_130 ?_
              refine wp_iret q123_ok d123_132 rfl ?_
              exact ⟨by rw [houF, e1, e2, stpN, if_neg h101, if_neg h127], d2, k + 1, rfl, ha2⟩
        · have e1 : houC d r s np nb b i (k + 1) = houC d r s np nb b i k + Int32.ofInt 1 := by rw [houC, houD, if_neg h74, if_neg h80]
          have e2 : houS d r s np nb b i (k + 1) = houS d r s np nb b i k + houD d r s np nb b k := by rw [houS, houD, if_neg h74, if_neg h80]
          refine wp_iload_n (j := 3) rfl q123_ok d123_83 ?_
          refine wp_iload (j := 6) rfl q123_ok d123_84 ?_
          refine wp_iadd rfl q123_ok d123_86 ?_
          refine wp_istore_n (j := 3) (Nat.le_of_ble_eq_true rfl) (rfl : _ = [_, _, _, _, _, _, _]) q123_ok d123_87 ?_
          refine wp_iinc (j := 4) rfl (by first | exact inc1 | rfl) (rfl : _ = [_, _, _, _, _, _, _]) q123_ok d123_88 ?_
          refine wp_aload_n (j := 0) rfl q123_ok d123_91 ?_
          refine wp_getR q123_ok d123_92 fl_10_98 rfl (by first | assumption | exact so0 hsh rfl) (by first | assumption | exact hr _ _ _ rfl) ?_
          refine wp_cV q123_ok d123_95 ml_10_167 rfl q82_ok (u := 9) rfl (by first | assumption | exact so0 hsh rfl) rfl (Nat.le_of_ble_eq_true rfl) (Nat.le_of_ble_eq_true rfl) (c_stepT hsh hr (TC_N h k) d1 ha) (fun v95 μ95 hc => ?_)
          obtain ⟨rfl, d2, rfl, ha2⟩ := hc
          refine ⟨mm_le_same rfl, ?_⟩
          refine wp_iload (j := 4) rfl q123_ok d123_98 ?_
          refine wp_iload_n (j := 2) rfl q123_ok d123_100 ?_
          refine wp_icmp_le q123_ok d123_101 (t := 133) rfl (fun h101 => ?_) (fun h101 => ?_)
          · refine wp_iinc (j := 5) rfl (by first | exact inc1 | rfl) (rfl : _ = [_, _, _, _, _, _, _]) q123_ok d123_133 ?_
            refine wp_goto (t := 44) rfl q123_ok d123_136 ?_
            have this := ih (k + 1) d2 (some (.int (houD d r s np nb b k))) (by omega) ha2
            rw [e1, e2] at this
            refine wp_post this (fun v μ hc => ?_)
            rw [houF, e1, if_pos h101]
            exact hc
          · refine wp_aload_n (j := 0) rfl q123_ok d123_104 ?_
            refine wp_getR q123_ok d123_105 fl_10_98 rfl (by first | assumption | exact so0 hsh rfl) (by first | assumption | exact hr _ _ _ rfl) ?_
            refine wp_getR q123_ok d123_108 fl_10_247 rfl (by first | assumption | exact so0 hsh rfl) (by first | assumption | exact hr _ _ _ rfl) ?_
            refine wp_getR q123_ok d123_111 fl_10_186 rfl (by first | assumption | exact so0 hsh rfl) (by first | assumption | exact hr _ _ _ rfl) ?_
            refine wp_iload_n (j := 1) rfl q123_ok d123_114 ?_
            refine wp_iald (m := 2) q123_ok d123_115 (by first | assumption | exact so0 hsh rfl) (by first | assumption | exact shl hsh (Nat.le_of_ble_eq_true rfl) rfl) (by first | assumption | exact ixn_nI (by omega)) (congrFun (ha2 _ (by unfold scr; omega)) _) ?_ (shK hsh)
            refine wp_aload_n (j := 0) rfl q123_ok d123_116 ?_
            refine wp_getR q123_ok d123_117 fl_10_69 rfl (by first | assumption | exact so0 hsh rfl) (by first | assumption | exact hr _ _ _ rfl) ?_
            refine wp_getR q123_ok d123_120 fl_10_186 rfl (by first | assumption | exact so0 hsh rfl) (by first | assumption | exact hr _ _ _ rfl) ?_
            refine wp_iload_n (j := 1) rfl q123_ok d123_123 ?_
            refine wp_iald (m := 2) q123_ok d123_124 (by first | assumption | exact so0 hsh rfl) (by first | assumption | exact shl hsh (Nat.le_of_ble_eq_true rfl) rfl) (by first | assumption | exact ixn_nI (by omega)) (congrFun (ha2 _ (by unfold scr; omega)) _) ?_ (shK hsh)
            refine wp_isub rfl q123_ok d123_125 ?_
            refine wp_iload_n (j := 3) rfl q123_ok d123_126 ?_
            refine wp_icmp_lt q123_ok d123_127 (t := 133) rfl (fun h127 => ?_) (fun h127 => ?_)
            · refine wp_iinc (j := 5) rfl (by first | exact inc1 | rfl) (rfl : _ = [_, _, _, _, _, _, _]) q123_ok d123_133 ?_
              refine wp_goto (t := 44) rfl q123_ok d123_136 ?_
              have this := ih (k + 1) d2 (some (.int (houD d r s np nb b k))) (by omega) ha2
              rw [e1, e2] at this
              refine wp_post this (fun v μ hc => ?_)
              rw [houF, e1, e2, houD, stpN, if_neg h101, if_pos h127]
              exact hc
            · refine wp_iload (j := 5) rfl q123_ok d123_130 ?_
              refine wp_iret q123_ok d123_132 rfl ?_
              exact ⟨by rw [houF, e1, e2, houD, stpN, if_neg h101, if_neg h127], d2, k + 1, rfl, ha2⟩
def hourR (d : mm_D) (r : mm_R) (np nb : Nat) (i n1 : Int32) : Int32 := if belC d i = 0 then -1 else if 0 ≤ n1 then houF (prepD d (mm_up r 232 2 (some 38)) 38 np 240) (mm_up r 232 2 (some 38)) 38 np nb i.toNatClampNeg n1 240 0 else -1
theorem c_hourP {xs : List Int32} {ext : mm_X} {n : Nat} {sh : mm_S} {d : mm_D} {g : mm_G} {r : mm_R} (hsh : shp sh) (hr : rfx r) {np nb : Nat} (hT : TW d r np nb) (i n1 : Int32) : wp xs ext (n + 7) 123 0 [some (.ref 0), some (.int i), some (.int n1), none, none, none, none] [] (sh, d, g, r) (fun v μ => v = some (.int (hourR d r np nb i n1)) ∧ ∃ d2 g2 r2, μ = (sh, d2, g2, r2) ∧ fr d g r d2 g2 r2) := by
  have hr' : rfx (mm_up r 232 2 (some 38)) := rfx_up hr rfl _
  have hnb := hT.2.2.2.1
  have hnp := hT.2.1
  refine wp_aload_n (j := 0) rfl q123_ok d123_0 ?_
  refine wp_iload_n (j := 1) rfl q123_ok d123_1 ?_
  refine wp_cV q123_ok d123_2 ml_10_176 rfl q131_ok (u := 10) rfl (by first | assumption | exact so0 hsh rfl) rfl (Nat.le_of_ble_eq_true rfl) (Nat.le_of_ble_eq_true rfl) (c_isBell hsh hr _) (fun v2 μ2 hc => ?_)
  obtain ⟨rfl, rfl⟩ := hc
  refine ⟨mm_le_same rfl, ?_⟩
  refine wp_if_eq q123_ok d123_5 (t := 12) rfl (fun h5 => ?_) (fun h5 => ?_)
  · refine wp_iconst (v := -1) (by decide) q123_ok d123_12 ?_
    refine wp_iret q123_ok d123_13 rfl ?_
    exact ⟨by unfold hourR; rw [if_pos h5], d, g, r, rfl, fr_refl⟩
  · obtain ⟨b, hb, hbe⟩ := in_of hT.2.2.1 (by omega) h5
    refine wp_iload_n (j := 2) rfl q123_ok d123_8 ?_
    refine wp_if_ge q123_ok d123_9 (t := 14) rfl (fun h9 => ?_) (fun h9 => ?_)
    · subst hbe
      have hb2 : b < 2 := by omega
      have hb' : b < nb := hb
      refine wp_aload_n (j := 0) rfl q123_ok d123_14 ?_
      refine wp_getR q123_ok d123_15 fl_10_98 rfl (by first | assumption | exact so0 hsh rfl) (by first | assumption | exact hr _ _ _ rfl) ?_
      refine wp_aload_n (j := 0) rfl q123_ok d123_18 ?_
      refine wp_getR q123_ok d123_19 fl_10_69 rfl (by first | assumption | exact so0 hsh rfl) (by first | assumption | exact hr _ _ _ rfl) ?_
      refine wp_sipush (v := 240) (by decide) q123_ok d123_22 ?_
      refine wp_cV q123_ok d123_25 ml_10_163 rfl q78_ok (u := 9) rfl (by first | assumption | exact so0 hsh rfl) rfl (Nat.le_of_ble_eq_true rfl) (Nat.le_of_ble_eq_true rfl) (c_prepare (d := d) hsh hr (tw38 hsh hr) (by decide) ntw38 hT.1 hT.2.1 hT.2.2.2.2 (show 240 ≤ 540 by omega) d (ag_refl d)) (fun v25 μ25 hc => ?_)
      obtain ⟨rfl, d3, rfl, ha3⟩ := hc
      refine ⟨mm_le_same rfl, ?_⟩
      refine wp_aload_n (j := 0) rfl q123_ok d123_28 ?_
      refine wp_getR q123_ok d123_29 fl_10_69 rfl (by first | assumption | exact so0 hsh rfl) (by first | assumption | exact hr _ _ _ rfl) ?_
      refine wp_getR q123_ok d123_32 fl_10_182 rfl (by first | assumption | exact so0 hsh rfl) (by first | assumption | exact hr _ _ _ rfl) ?_
      refine wp_iload_n (j := 1) rfl q123_ok d123_35 ?_
      refine wp_iald (m := 2) q123_ok d123_36 (by first | assumption | exact so0 hsh rfl) (by first | assumption | exact shl hsh (Nat.le_of_ble_eq_true rfl) rfl) (by first | assumption | exact ixn_nI (by omega)) (show d3 39 b = houS (prepD d (mm_up r 232 2 (some 38)) 38 np 240) (mm_up r 232 2 (some 38)) 38 np nb b n1 0 from congrFun (ha3 _ (by unfold scr; omega)) _) ?_ (shK hsh)
      refine wp_istore_n (j := 3) (Nat.le_of_ble_eq_true rfl) (rfl : _ = [_, _, _, _, _, _, _]) q123_ok d123_37 ?_
      refine wp_iconst (v := 0) (by decide) q123_ok d123_38 ?_
      refine wp_istore (j := 4) (Nat.le_of_ble_eq_true rfl) (rfl : _ = [_, _, _, _, _, _, _]) q123_ok d123_39 ?_
      refine wp_iconst (v := 0) (by decide) q123_ok d123_41 ?_
      refine wp_istore (j := 5) (Nat.le_of_ble_eq_true rfl) (rfl : _ = [_, _, _, _, _, _, _]) q123_ok d123_42 ?_
      refine wp_post (c_hour_l hsh hr' n1 hb' hb2 (TC_prep hT (so0 hsh rfl) ntw38.1) 240 0 d3 none (by omega) ha3) (fun v μ hc => ?_)
      obtain ⟨rfl, d4, j, rfl, ha4⟩ := hc
      exact ⟨by unfold hourR; rw [if_neg h5, if_pos h9, nI_clamp (by omega)], _, _, _, rfl, fr_run ha4⟩
    · refine wp_iconst (v := -1) (by decide) q123_ok d123_12 ?_
      refine wp_iret q123_ok d123_13 rfl ?_
      exact ⟨by unfold hourR; rw [if_neg h5, if_neg h9], d, g, r, rfl, fr_refl⟩
