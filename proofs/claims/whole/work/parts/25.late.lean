/-! ===== late ===== -/
theorem fr_refl {d : mm_D} {g : mm_G} {r : mm_R} : fr d g r d g r := ⟨fun _ _ _ => rfl, fun _ _ => rfl, fun _ _ _ => rfl⟩
theorem ahd_of {n : Int32} (h : ¬ (if n < 1 then (0 : Int32) else if 240 < n then 0 else 1) = 0) : ∃ N, 1 ≤ N ∧ N ≤ 240 ∧ n = nI N := by
  by_cases h0 : n < 1
  · rw [if_pos h0] at h
    exact absurd rfl h
  · rw [if_neg h0] at h
    by_cases h1 : 240 < n
    · rw [if_pos h1] at h
      exact absurd rfl h
    · have a := Int32.le_iff_toInt_le.mp (Int32.not_lt.mp h0)
      have b := Int32.le_iff_toInt_le.mp (Int32.not_lt.mp h1)
      have e1 : (1 : Int32).toInt = 1 := by decide
      have e2 : (240 : Int32).toInt = 240 := by decide
      have c : n.toNatClampNeg = n.toInt.toNat := rfl
      exact ⟨n.toNatClampNeg, by omega, by omega, nI_ofn (Int32.le_iff_toInt_le.mpr (by rw [show (0 : Int32).toInt = 0 from by decide]; omega))⟩
def lateR (d : mm_D) (r : mm_R) (np nb : Nat) (i n : Int32) : Int32 := if belC d i = 0 then -1 else if (if n < 1 then (0 : Int32) else if 240 < n then 0 else 1) = 0 then -1 else lateS (prepD d (mm_up r 232 2 (some 38)) 38 np n.toNatClampNeg) (mm_up r 232 2 (some 38)) 38 np nb i.toNatClampNeg n.toNatClampNeg
theorem c_lateP {xs : List Int32} {ext : mm_X} {n : Nat} {sh : mm_S} {d : mm_D} {g : mm_G} {r : mm_R} (hsh : shp sh) (hr : rfx r) {np nb : Nat} (hT : TW d r np nb) (i n1 : Int32) : wp xs ext (n + 7) 105 0 [some (.ref 0), some (.int i), some (.int n1)] [] (sh, d, g, r) (fun v μ => v = some (.int (lateR d r np nb i n1)) ∧ ∃ d2 g2 r2, μ = (sh, d2, g2, r2) ∧ fr d g r d2 g2 r2) := by
  have hr' : rfx (mm_up r 232 2 (some 38)) := rfx_up hr rfl _
  have hnb := hT.2.2.2.1
  have hnp := hT.2.1
  refine wp_aload_n (j := 0) rfl q105_ok d105_0 ?_
  refine wp_iload_n (j := 1) rfl q105_ok d105_1 ?_
  refine wp_cV q105_ok d105_2 ml_10_176 rfl q131_ok (u := 10) rfl (by first | assumption | exact so0 hsh rfl) rfl (Nat.le_of_ble_eq_true rfl) (Nat.le_of_ble_eq_true rfl) (c_isBell hsh hr _) (fun v2 μ2 hc => ?_)
  obtain ⟨rfl, rfl⟩ := hc
  refine ⟨mm_le_same rfl, ?_⟩
  refine wp_if_eq q105_ok d105_5 (t := 15) rfl (fun h5 => ?_) (fun h5 => ?_)
  · refine wp_iconst (v := -1) (by decide) q105_ok d105_15 ?_
    refine wp_iret q105_ok d105_16 rfl ?_
    exact ⟨by unfold lateR; rw [if_pos h5], d, g, r, rfl, fr_refl⟩
  · obtain ⟨b, hb, hbe⟩ := in_of hT.2.2.1 (by omega) h5
    refine wp_iload_n (j := 2) rfl q105_ok d105_8 ?_
    refine wp_cS q105_ok d105_9 ml_10_210 rfl q132_ok rfl rfl rfl (Nat.le_of_ble_eq_true rfl) (Nat.le_of_ble_eq_true rfl) (c_isAhead _) (fun v9 μ9 hc => ?_)
    obtain ⟨rfl, rfl⟩ := hc
    refine ⟨mm_le_same rfl, ?_⟩
    refine wp_if_ne q105_ok d105_12 (t := 17) rfl (fun h12 => ?_) (fun h12 => ?_)
    · obtain ⟨N, hN1, hN, hNe⟩ := ahd_of h12
      subst hbe hNe
      refine wp_aload_n (j := 0) rfl q105_ok d105_17 ?_
      refine wp_getR q105_ok d105_18 fl_10_98 rfl (by first | assumption | exact so0 hsh rfl) (by first | assumption | exact hr _ _ _ rfl) ?_
      refine wp_aload_n (j := 0) rfl q105_ok d105_21 ?_
      refine wp_getR q105_ok d105_22 fl_10_69 rfl (by first | assumption | exact so0 hsh rfl) (by first | assumption | exact hr _ _ _ rfl) ?_
      refine wp_iload_n (j := 2) rfl q105_ok d105_25 ?_
      refine wp_cV q105_ok d105_26 ml_10_163 rfl q78_ok (u := 9) rfl (by first | assumption | exact so0 hsh rfl) rfl (Nat.le_of_ble_eq_true rfl) (Nat.le_of_ble_eq_true rfl) (c_prepare (d := d) hsh hr (tw38 hsh hr) (by decide) ntw38 hT.1 hT.2.1 hT.2.2.2.2 (show N ≤ 540 by omega) d (ag_refl d)) (fun v26 μ26 hc => ?_)
      obtain ⟨rfl, d3, rfl, ha3⟩ := hc
      refine ⟨mm_le_same rfl, ?_⟩
      refine wp_aload_n (j := 0) rfl q105_ok d105_29 ?_
      refine wp_getR q105_ok d105_30 fl_10_98 rfl (by first | assumption | exact so0 hsh rfl) (by first | assumption | exact hr _ _ _ rfl) ?_
      refine wp_iload_n (j := 1) rfl q105_ok d105_33 ?_
      refine wp_iload_n (j := 2) rfl q105_ok d105_34 ?_
      refine wp_cV q105_ok d105_35 ml_10_250 rfl q84_ok (u := 9) rfl (by first | assumption | exact so0 hsh rfl) rfl (Nat.le_of_ble_eq_true rfl) (Nat.le_of_ble_eq_true rfl) (c_late hsh hr' (show b < 2 by omega) (show N < 2 ^ 31 by omega) (TC_prep hT (so0 hsh rfl) ntw38.1) d3 ha3) (fun v35 μ35 hc => ?_)
      obtain ⟨rfl, d4, rfl, ha4⟩ := hc
      refine ⟨mm_le_same rfl, ?_⟩
      refine wp_iret q105_ok d105_38 rfl ?_
      exact ⟨by unfold lateR; rw [if_neg h5, if_neg h12, nI_clamp (by omega), nI_clamp (by omega)], _, _, _, rfl, fr_run ha4⟩
    · have h12 := Classical.not_not.mp h12
      refine wp_iconst (v := -1) (by decide) q105_ok d105_15 ?_
      refine wp_iret q105_ok d105_16 rfl ?_
      exact ⟨by unfold lateR; rw [if_neg h5, if_pos h12], d, g, r, rfl, fr_refl⟩
