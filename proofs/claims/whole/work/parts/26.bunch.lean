/-! ===== bunch ===== -/
def bunK (d : mm_D) (r : mm_R) (s np nb b : Nat) : Nat → Int32
  | 0 => 0
  | k + 1 => if (stpN d r s np nb (k + 1) 232 14 >>> (nI b &&& 31)) &&& 1 = 0 then 0 else bunK d r s np nb b k + 1
def bunB (d : mm_D) (r : mm_R) (s np nb b : Nat) : Nat → Int32
  | 0 => 0
  | k + 1 => if bunB d r s np nb b k < bunK d r s np nb b (k + 1) then bunK d r s np nb b (k + 1) else bunB d r s np nb b k
theorem c_bunch_l {xs : List Int32} {ext : mm_X} {n : Nat} {sh : mm_S} {d : mm_D} {g : mm_G} {r : mm_R} (hsh : shp sh) (hr : rfx r) {np nb s : Nat} {N b : Nat} (hN : N < 2 ^ 31) (h : TC sh d r np nb s) : ∀ (z k : Nat) (d1 : mm_D) , z + k = N → ag (stpN d r s np nb k) d1 → wp xs ext (n + 7) 106 37 [some (.ref 0), some (.int (nI b)), some (.int (nI N)), some (.int (bunB d r s np nb b k)), some (.int (bunK d r s np nb b k)), some (.int (nI k))] [] (sh, d1, g, r) (fun v μ => v = some (.int (bunB d r s np nb b N)) ∧ ∃ d2 j, μ = (sh, d2, g, r) ∧ ag (stpN d r s np nb j) d2) := by
  intro z
  induction z with
  | zero =>
    intro k d1 hm ha
    have hvb : N = k := by omega
    subst hvb
    refine wp_iload (j := 5) rfl q106_ok d106_37 ?_
    refine wp_iload_n (j := 2) rfl q106_ok d106_39 ?_
    refine wp_icmp_ge q106_ok d106_40 (t := 87) rfl (fun h40 => ?_) (fun h40 => ?_)
    · refine wp_iload_n (j := 3) rfl q106_ok d106_87 ?_
      refine wp_iret q106_ok d106_88 rfl ?_
      exact ⟨rfl, d1, _, rfl, ha⟩
    · exact absurd (nI_le (Nat.le_refl _) (by omega)) h40
  | succ z ih =>
    intro k d1 hm ha
    have hlt : k < N := by omega
    refine wp_iload (j := 5) rfl q106_ok d106_37 ?_
    refine wp_iload_n (j := 2) rfl q106_ok d106_39 ?_
    refine wp_icmp_ge q106_ok d106_40 (t := 87) rfl (fun h40 => ?_) (fun h40 => ?_)
    · exact absurd h40 (nI_ge hlt (by omega))
    · refine wp_aload_n (j := 0) rfl q106_ok d106_43 ?_
      refine wp_getR q106_ok d106_44 fl_10_98 rfl (by first | assumption | exact so0 hsh rfl) (by first | assumption | exact hr _ _ _ rfl) ?_
      refine wp_cV q106_ok d106_47 ml_10_167 rfl q82_ok (u := 9) rfl (by first | assumption | exact so0 hsh rfl) rfl (Nat.le_of_ble_eq_true rfl) (Nat.le_of_ble_eq_true rfl) (c_stepT hsh hr (TC_N h k) d1 ha) (fun v47 μ47 hc => ?_)
      obtain ⟨rfl, d2, rfl, ha2⟩ := hc
      refine ⟨mm_le_same rfl, ?_⟩
      refine wp_aload_n (j := 0) rfl q106_ok d106_50 ?_
      refine wp_getR q106_ok d106_51 fl_10_98 rfl (by first | assumption | exact so0 hsh rfl) (by first | assumption | exact hr _ _ _ rfl) ?_
      refine wp_getI q106_ok d106_54 fl_10_254 rfl (by first | assumption | exact so0 hsh rfl) (congrFun (ha2 _ (by unfold scr; omega)) _) ?_
      refine wp_iload_n (j := 1) rfl q106_ok d106_57 ?_
      refine wp_ishr rfl q106_ok d106_58 ?_
      refine wp_iconst (v := 1) (by decide) q106_ok d106_59 ?_
      refine wp_iand rfl q106_ok d106_60 ?_
      refine wp_if_eq q106_ok d106_61 (t := 71) rfl (fun h61 => ?_) (fun h61 => ?_)
      · refine wp_iconst (v := 0) (by decide) q106_ok d106_71 ?_
        refine wp_istore (j := 4) (Nat.le_of_ble_eq_true rfl) (rfl : _ = [_, _, _, _, _, _]) q106_ok d106_72 ?_
        refine wp_iload_n (j := 3) rfl q106_ok d106_74 ?_
        refine wp_iload (j := 4) rfl q106_ok d106_75 ?_
        refine wp_cS q106_ok d106_77 ml_10_257 rfl q227_ok rfl rfl rfl (Nat.le_of_ble_eq_true rfl) (Nat.le_of_ble_eq_true rfl) (c_max _ _) (fun v77 μ77 hc => ?_)
        obtain ⟨rfl, rfl⟩ := hc
        refine ⟨mm_le_same rfl, ?_⟩
        refine wp_istore_n (j := 3) (Nat.le_of_ble_eq_true rfl) (rfl : _ = [_, _, _, _, _, _]) q106_ok d106_80 ?_
        refine wp_iinc (j := 5) rfl (by first | exact inc1 | rfl) (rfl : _ = [_, _, _, _, _, _]) q106_ok d106_81 ?_
        refine wp_goto (t := 37) rfl q106_ok d106_84 ?_
        have this := ih (k + 1) d2 (by omega) ha2
        rw [bunB, bunK, stpN, if_pos h61] at this
        exact this
      · refine wp_iload (j := 4) rfl q106_ok d106_64 ?_
        refine wp_iconst (v := 1) (by decide) q106_ok d106_66 ?_
        refine wp_iadd rfl q106_ok d106_67 ?_
        refine wp_goto (t := 72) rfl q106_ok d106_68 ?_
        refine wp_istore (j := 4) (Nat.le_of_ble_eq_true rfl) (rfl : _ = [_, _, _, _, _, _]) q106_ok d106_72 ?_
        refine wp_iload_n (j := 3) rfl q106_ok d106_74 ?_
        refine wp_iload (j := 4) rfl q106_ok d106_75 ?_
        refine wp_cS q106_ok d106_77 ml_10_257 rfl q227_ok rfl rfl rfl (Nat.le_of_ble_eq_true rfl) (Nat.le_of_ble_eq_true rfl) (c_max _ _) (fun v77 μ77 hc => ?_)
        obtain ⟨rfl, rfl⟩ := hc
        refine ⟨mm_le_same rfl, ?_⟩
        refine wp_istore_n (j := 3) (Nat.le_of_ble_eq_true rfl) (rfl : _ = [_, _, _, _, _, _]) q106_ok d106_80 ?_
        refine wp_iinc (j := 5) rfl (by first | exact inc1 | rfl) (rfl : _ = [_, _, _, _, _, _]) q106_ok d106_81 ?_
        refine wp_goto (t := 37) rfl q106_ok d106_84 ?_
        have this := ih (k + 1) d2 (by omega) ha2
        rw [bunB, bunK, stpN, if_neg h61] at this
        exact this
def bunchR (d : mm_D) (r : mm_R) (np nb : Nat) (i n1 : Int32) : Int32 := if belC d i = 0 then -1 else if (if n1 < 1 then (0 : Int32) else if 240 < n1 then 0 else 1) = 0 then -1 else bunB (prepD d (mm_up r 232 2 (some 38)) 38 np n1.toNatClampNeg) (mm_up r 232 2 (some 38)) 38 np nb i.toNatClampNeg n1.toNatClampNeg
theorem c_bunchP {xs : List Int32} {ext : mm_X} {n : Nat} {sh : mm_S} {d : mm_D} {g : mm_G} {r : mm_R} (hsh : shp sh) (hr : rfx r) {np nb : Nat} (hT : TW d r np nb) (i n1 : Int32) : wp xs ext (n + 7) 106 0 [some (.ref 0), some (.int i), some (.int n1), none, none, none] [] (sh, d, g, r) (fun v μ => v = some (.int (bunchR d r np nb i n1)) ∧ ∃ d2 g2 r2, μ = (sh, d2, g2, r2) ∧ fr d g r d2 g2 r2) := by
  have hr' : rfx (mm_up r 232 2 (some 38)) := rfx_up hr rfl _
  have hnb := hT.2.2.2.1
  have hnp := hT.2.1
  refine wp_aload_n (j := 0) rfl q106_ok d106_0 ?_
  refine wp_iload_n (j := 1) rfl q106_ok d106_1 ?_
  refine wp_cV q106_ok d106_2 ml_10_176 rfl q131_ok (u := 10) rfl (by first | assumption | exact so0 hsh rfl) rfl (Nat.le_of_ble_eq_true rfl) (Nat.le_of_ble_eq_true rfl) (c_isBell hsh hr _) (fun v2 μ2 hc => ?_)
  obtain ⟨rfl, rfl⟩ := hc
  refine ⟨mm_le_same rfl, ?_⟩
  refine wp_if_eq q106_ok d106_5 (t := 15) rfl (fun h5 => ?_) (fun h5 => ?_)
  · refine wp_iconst (v := -1) (by decide) q106_ok d106_15 ?_
    refine wp_iret q106_ok d106_16 rfl ?_
    exact ⟨by unfold bunchR; rw [if_pos h5], d, g, r, rfl, fr_refl⟩
  · obtain ⟨b, hb, hbe⟩ := in_of hT.2.2.1 (by omega) h5
    refine wp_iload_n (j := 2) rfl q106_ok d106_8 ?_
    refine wp_cS q106_ok d106_9 ml_10_210 rfl q132_ok rfl rfl rfl (Nat.le_of_ble_eq_true rfl) (Nat.le_of_ble_eq_true rfl) (c_isAhead _) (fun v9 μ9 hc => ?_)
    obtain ⟨rfl, rfl⟩ := hc
    refine ⟨mm_le_same rfl, ?_⟩
    refine wp_if_ne q106_ok d106_12 (t := 17) rfl (fun h12 => ?_) (fun h12 => ?_)
    · obtain ⟨N, hN1, hN, hNe⟩ := ahd_of h12
      subst hbe hNe
      refine wp_aload_n (j := 0) rfl q106_ok d106_17 ?_
      refine wp_getR q106_ok d106_18 fl_10_98 rfl (by first | assumption | exact so0 hsh rfl) (by first | assumption | exact hr _ _ _ rfl) ?_
      refine wp_aload_n (j := 0) rfl q106_ok d106_21 ?_
      refine wp_getR q106_ok d106_22 fl_10_69 rfl (by first | assumption | exact so0 hsh rfl) (by first | assumption | exact hr _ _ _ rfl) ?_
      refine wp_iload_n (j := 2) rfl q106_ok d106_25 ?_
      refine wp_cV q106_ok d106_26 ml_10_163 rfl q78_ok (u := 9) rfl (by first | assumption | exact so0 hsh rfl) rfl (Nat.le_of_ble_eq_true rfl) (Nat.le_of_ble_eq_true rfl) (c_prepare (d := d) hsh hr (tw38 hsh hr) (by decide) ntw38 hT.1 hT.2.1 hT.2.2.2.2 (show N ≤ 540 by omega) d (ag_refl d)) (fun v26 μ26 hc => ?_)
      obtain ⟨rfl, d3, rfl, ha3⟩ := hc
      refine ⟨mm_le_same rfl, ?_⟩
      refine wp_iconst (v := 0) (by decide) q106_ok d106_29 ?_
      refine wp_istore_n (j := 3) (Nat.le_of_ble_eq_true rfl) (rfl : _ = [_, _, _, _, _, _]) q106_ok d106_30 ?_
      refine wp_iconst (v := 0) (by decide) q106_ok d106_31 ?_
      refine wp_istore (j := 4) (Nat.le_of_ble_eq_true rfl) (rfl : _ = [_, _, _, _, _, _]) q106_ok d106_32 ?_
      refine wp_iconst (v := 0) (by decide) q106_ok d106_34 ?_
      refine wp_istore (j := 5) (Nat.le_of_ble_eq_true rfl) (rfl : _ = [_, _, _, _, _, _]) q106_ok d106_35 ?_
      refine wp_post (c_bunch_l hsh hr' (show N < 2 ^ 31 by omega) (TC_prep hT (so0 hsh rfl) ntw38.1) N 0 d3 (by omega) ha3) (fun v μ hc => ?_)
      obtain ⟨rfl, d4, j, rfl, ha4⟩ := hc
      exact ⟨by unfold bunchR; rw [if_neg h5, if_neg h12, nI_clamp (by omega), nI_clamp (by omega)], _, _, _, rfl, fr_run ha4⟩
    · have h12 := Classical.not_not.mp h12
      refine wp_iconst (v := -1) (by decide) q106_ok d106_15 ?_
      refine wp_iret q106_ok d106_16 rfl ?_
      exact ⟨by unfold bunchR; rw [if_neg h5, if_pos h12], d, g, r, rfl, fr_refl⟩
