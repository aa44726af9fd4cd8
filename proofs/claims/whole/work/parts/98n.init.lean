/-! ===== the first state ===== -/
def S0 : wo_S := (W0, (0, fun _ _ => 0), (dwn, 0, 0, fun _ => (dwn, 0)), 0, (0, fun _ => 0), (false, dwn, 0), (0, fun _ => 0, fun _ => 0))
theorem shp_0 : shp (shP 282) := ⟨rfl, fun _ hc => if_pos hc⟩
def rfxC : Bool := (List.range 282).all (fun c => (List.range (rtab.getD c []).length).all (fun i => match r0 c i with
  | none => true
  | some y => decide (rK 286 c i = some y)))
theorem rfxC_ok : rfxC = true := by decide +kernel
theorem rtab_len : rtab.length ≤ 282 := by decide +kernel
theorem rfx_0 : rfx (rK 286) := by
  intro c i y h
  have hc : c < 282 := by
    by_cases q : c < 282
    · exact q
    · unfold r0 at h
      have := rtab_len
      rw [List.getD_eq_getElem?_getD, List.getD_eq_getElem?_getD, List.getElem?_eq_none (show rtab.length ≤ c by omega)] at h
      cases h
  have hi : i < (rtab.getD c []).length := by
    by_cases q : i < (rtab.getD c []).length
    · exact q
    · unfold r0 at h
      rw [List.getD_eq_getElem?_getD, List.getElem?_eq_none (by omega)] at h
      cases h
  have := List.all_eq_true.mp (List.all_eq_true.mp rfxC_ok c (List.mem_range.mpr hc)) i (List.mem_range.mpr hi)
  rw [h] at this
  exact of_decide_eq_true this
theorem okS_0 : okS 0 S0 := by
  refine ⟨⟨by decide, by decide, fun q => absurd rfl q, fun p hp => absurd hp (Nat.not_lt_zero p), fun p hp => absurd hp (Nat.not_lt_zero p), fun q => (by cases q)⟩, by decide, fun q => absurd rfl q, okB_dwn 0, pstOK_0, by decide, ⟨by decide, fun i hi => absurd hi (Nat.not_lt_zero i)⟩, fun q => (by cases q)⟩
theorem r12_0 : ∀ p, p < 6 → rK 286 12 p = none := by
  intro p hp
  have : ∀ p, p < 6 → (rK 286 12 p).isNone = true := by decide +kernel
  exact Option.isNone_iff_eq_none.mp (this p hp)
theorem repC_S0 : repC dC5 gC (rK 286) S0 := by
  refine ⟨⟨rfl, rfl, fun p hp => absurd hp (Nat.not_lt_zero p), fun p hp => absurd hp (Nat.not_lt_zero p), rfl, fun q => (by cases q), fun p hp => ⟨fun q => absurd q (Nat.not_lt_zero p), fun q => absurd q (Nat.not_lt_zero p), fun _ => r12_0 p hp⟩⟩, ⟨rfl, by decide, ?_, fun k hk => absurd hk (Nat.not_lt_zero k)⟩, ⟨⟨rfl, fun _ _ => ⟨rfl, rfl⟩⟩, rfl, 0, by decide, rfl, rfl, by decide, fun i hi => absurd hi (Nat.not_lt_zero i)⟩, rfl, ⟨rfl, by decide, fun i hi => absurd hi (Nat.not_lt_zero i)⟩, ⟨rfl, ⟨rfl, fun _ _ => ⟨rfl, rfl⟩⟩, rfl⟩, ⟨rfl, by decide, fun i hi => absurd hi (Nat.not_lt_zero i)⟩, ⟨rfl, fun _ _ => ⟨rfl, rfl⟩⟩⟩
  have : ∀ k, k < 4 → dC5 (238 + 3 * k) 0 = nI k := by decide +kernel
  exact this
theorem repM_S0 : repM dC5 gC S0 := by
  refine ⟨⟨rfl, rfl, fun p hp => absurd hp (Nat.not_lt_zero p), fun p hp => absurd hp (Nat.not_lt_zero p), rfl, fun q => (by cases q), fun p hp => absurd hp (Nat.not_lt_zero p)⟩, ⟨rfl, by decide, fun k hk => absurd hk (Nat.not_lt_zero k)⟩, ⟨⟨rfl, fun _ _ => ⟨rfl, rfl⟩⟩, rfl, rfl, by decide, fun i hi => absurd hi (Nat.not_lt_zero i)⟩, rfl, ⟨rfl, by decide, fun i hi => absurd hi (Nat.not_lt_zero i)⟩, ⟨rfl, fun q => (by cases q)⟩, ⟨rfl, by decide, fun i hi => absurd hi (Nat.not_lt_zero i)⟩, rfl, rfl⟩
def mu00 : mm_M := (shP 0, dC0, gC, rK 0)
/-- the law answers true -/
theorem lw_law {xs : List Int32} {n : Nat} (hl : (mm_ca xs mm_K).length ≤ 3072) : wp xs (lwX xs) (n + 70) 0 0 [some (.ref mm_K), none, none, none, none, none, none] [] mu00 (fun v μ => v = some (.int 1) ∧ μ.1.1 = 282 ∧ μ.1.2.1 ≤ 282 + 513 ∧ μ.1.2.2.1 ≤ slP 282 + 6 * 513) := by
  refine wp_newP (t := 10) (c := 0) (kk := 0) q0_ok d0_0 (by decide +kernel) (by decide) (pushP (by decide +kernel) (by decide +kernel) rfl rfl (by decide +kernel)) ?_
  refine wp_dup rfl q0_ok d0_3 ?_
  refine wp_cI q0_ok d0_4 ml_12_15 (by decide) rfl q87_ok rfl rfl (Nat.le_of_ble_eq_true rfl) (Nat.le_of_ble_eq_true rfl) (i_87_0 (n := n + 66)) (fun v μ hc => ?_)
  obtain ⟨rfl, rfl⟩ := hc
  refine ⟨mm_le_P (by decide) (by decide +kernel), ?_⟩
  refine wp_astore_n (j := 1) (Nat.le_of_ble_eq_true rfl) (rfl : _ = [_, _, _, _, _, _, _]) q0_ok d0_7 ?_
  refine wp_newP (t := 11) (c := 250) (kk := 256) q0_ok d0_8 (by decide +kernel) (by decide) (pushP (by decide +kernel) (by decide +kernel) rfl rfl (by decide +kernel)) ?_
  refine wp_dup rfl q0_ok d0_11 ?_
  refine wp_cI q0_ok d0_12 ml_12_18 (by decide) rfl q135_ok rfl rfl (Nat.le_of_ble_eq_true rfl) (Nat.le_of_ble_eq_true rfl) (i_135_79 (n := n + 68)) (fun v μ hc => ?_)
  obtain ⟨rfl, rfl⟩ := hc
  refine ⟨mm_le_P (by decide) (by decide +kernel), ?_⟩
  refine wp_astore_n (j := 2) (Nat.le_of_ble_eq_true rfl) (rfl : _ = [_, _, _, _, _, _, _]) q0_ok d0_15 ?_
  refine wp_iconst (v := 1) (by decide) q0_ok d0_16 ?_
  refine wp_newaP (t := 22) (m := 1) (c := 281) (kk := 286) q0_ok d0_17 (by decide) (ixn_nI (j := 1) (by decide)) (by decide) (pushP (by decide +kernel) (by decide +kernel) rfl rfl (by decide +kernel)) ?_
  refine wp_astore_n (j := 3) (Nat.le_of_ble_eq_true rfl) (rfl : _ = [_, _, _, _, _, _, _]) q0_ok d0_19 ?_
  refine wp_iconst (v := 0) (by decide) q0_ok d0_20 ?_
  refine wp_istore (j := 4) (Nat.le_of_ble_eq_true rfl) (rfl : _ = [_, _, _, _, _, _, _]) q0_ok d0_21 ?_
  exact lw_loop (by omega) 513 0 0 282 (slP 282) S0 (shP 282) dC5 gC (rK 286) none none (by omega) (by decide) (by decide) (by decide) (Nat.le_refl _) ⟨shp_0, Nat.le_refl _, Nat.le_refl _, rfx_0, okS_0, repC_S0, repM_S0⟩
