/-! ===== the calls that change, and the plain ones ===== -/
theorem kp_same {sh : mm_S} {d : mm_D} {g : mm_G} {r : mm_R} {S : wo_S} {v0 v1 : Option Value} (hr : rfx r) (h : repC d g r S) (e : v1 = v0) : kpost sh d g r S v0 v1 (sh, d, g, r) := ⟨e, d, g, r, rfl, hr, h, frM_refl⟩
def sAt (S : wo_S) (W : wo_W) : wo_S := (W, S.2)
def sRisk (S : wo_S) (v : Int32) : wo_S := (sW S, sH S, sX S, v, S.2.2.2.2)
def sNow (S : wo_S) (x : wo_X) : wo_S := (sW S, sH S, x, S.2.2.2)
def sImg (S : wo_S) (i : Bool × wo_A × Int64) : wo_S := (sW S, sH S, sX S, sK S, sP S, i, sN S)
def sNts (S : wo_S) (i : Nat × (Nat → Nat) × (Nat → Int32)) : wo_S := (sW S, sH S, sX S, sK S, sP S, sI S, i)
def sTap (S : wo_S) (i : Nat × (Nat → Int32)) : wo_S := (sW S, sH S, sX S, sK S, i, sI S, sN S)
def bellQ (S : wo_S) (i w : Int32) : Int32 := if belT (sT S) i then if 0 ≤ w ∧ w ≤ 4 then (if w ≤ 2 then wbel (sW S) i.toNatClampNeg w.toNatClampNeg else if w = 3 then (sX S).1.2.1 i.toNatClampNeg else (sX S).1.2.2 i.toNatClampNeg) else -1 else -1
def fogQ (S : wo_S) (t : Int32) : Int32 := if hasT (sT S) then if 0 ≤ t then (if tfg (sT S) t = 0 then 0 else 1) else -1 else -1
def countQ (S : wo_S) (w : Int32) : Int32 := if w = 0 then nI (wnp (sW S)) else if w = 1 then nI (wnb (sW S)) else if w = 2 then nI (sH S).1 else if w = 3 then nI (sP S).1 else if w = 4 then (sX S).1.1 else if w = 5 then (if hasT (sT S) then tvw (sT S) else 0) else if w = 6 then nI (sN S).1 else if w = 7 then nI (sX S).2.2.1 else -1000000
theorem ix_of {i : Int32} {m : Nat} (hm : m < 2 ^ 31) (h0 : 0 ≤ i) (h1 : i < nI m) : ixn i i.toNatClampNeg m := by
  have e := nI_ofn h0
  refine ⟨rfl, h0, ?_⟩
  rw [e] at h1
  refine (nI_ltI ?_ hm).mp h1
  have b := Int32.toInt_lt i
  have c : i.toNatClampNeg = i.toInt.toNat := rfl
  omega
theorem i32_lt1 {a b : Int32} (h : a ≤ b) (hb : b < 2147483647) : a < b + 1 := by
  have e := Int32.le_iff_toInt_le.mp h
  have f := Int32.lt_iff_toInt_lt.mp hb
  refine Int32.lt_iff_toInt_lt.mpr ?_
  rw [Int32.toInt_add]
  have g : (1 : Int32).toInt = 1 := by decide
  have k : (2147483647 : Int32).toInt = 2147483647 := by decide
  have l := Int32.le_toInt b
  rw [g, Int.bmod_eq_of_le (by omega) (by omega)]
  omega
theorem k_bell {xs : List Int32} {ext : mm_X} {n : Nat} {sh : mm_S} {d : mm_D} {g : mm_G} {r : mm_R} {S : wo_S} (hsh : shp sh) (hr : rfx r) (ok : okW (sW S) (sH S).1) (h : repC d g r S) (i w : Int32) : wp xs ext (n + 1) 95 0 [some (.ref 0), some (.int i), some (.int w)] [] (sh, d, g, r) (kpost sh d g r (S) (some (.int (bellQ S i w)))) := by
  have hT : rpC d r (sT S) := rpC_of ok h.1 h.2.1
  have hA0 := h.2.2.1.1
  have hnp : tnp (sT S) ≤ 6 := ok.1
  have hnb : tnb (sT S) ≤ 2 := ok.2.1
  refine wp_aload_n (j := 0) rfl q95_ok d95_0 ?_
  refine wp_iload_n (j := 1) rfl q95_ok d95_1 ?_
  refine wp_cV q95_ok d95_2 ml_10_176 rfl q131_ok (u := 10) rfl (by first | assumption | exact so0 hsh rfl) rfl (Nat.le_of_ble_eq_true rfl) (Nat.le_of_ble_eq_true rfl) (c_isBell hsh hr _) (fun v2 μ2 hc => ?_)
  obtain ⟨rfl, rfl⟩ := hc
  refine ⟨mm_le_same rfl, ?_⟩
  refine wp_if_eq q95_ok d95_5 (t := 17) rfl (fun h5 => ?_) (fun h5 => ?_)
  · refine wp_iconst (v := -1) (by decide) q95_ok d95_17 ?_
    refine wp_iret q95_ok d95_18 rfl ?_
    exact kp_same hr h (by unfold bellQ; rw [if_neg ((belC_T hT i).mp h5)])
  · refine wp_iload_n (j := 2) rfl q95_ok d95_8 ?_
    refine wp_if_lt q95_ok d95_9 (t := 17) rfl (fun h9 => ?_) (fun h9 => ?_)
    · refine wp_iconst (v := -1) (by decide) q95_ok d95_17 ?_
      refine wp_iret q95_ok d95_18 rfl ?_
      exact kp_same hr h (by unfold bellQ; rw [if_pos (iff_nn (belC_T hT i) h5), if_neg (fun q => absurd q.1 (Int32.not_le.mpr h9))])
    · refine wp_iload_n (j := 2) rfl q95_ok d95_12 ?_
      refine wp_iconst (v := 4) (by decide) q95_ok d95_13 ?_
      refine wp_icmp_le q95_ok d95_14 (t := 19) rfl (fun h14 => ?_) (fun h14 => ?_)
      · obtain ⟨b, hb, hbe⟩ := in_of hT.1.2.2.1 (by omega) h5
        have hB := iff_nn (belC_T hT i) h5
        have hic : i.toNatClampNeg = b := by rw [hbe]; exact nI_clamp (by omega)
        have hW : 0 ≤ w ∧ w ≤ 4 := ⟨Int32.not_lt.mp h9, h14⟩
        subst hbe
        refine wp_iload_n (j := 2) rfl q95_ok d95_19 ?_
        refine wp_iconst (v := 2) (by decide) q95_ok d95_20 ?_
        refine wp_icmp_gt q95_ok d95_21 (t := 36) rfl (fun h21 => ?_) (fun h21 => ?_)
        · refine wp_iload_n (j := 2) rfl q95_ok d95_36 ?_
          refine wp_iconst (v := 3) (by decide) q95_ok d95_37 ?_
          refine wp_icmp_ne q95_ok d95_38 (t := 53) rfl (fun h38 => ?_) (fun h38 => ?_)
          · refine wp_aload_n (j := 0) rfl q95_ok d95_53 ?_
            refine wp_getR q95_ok d95_54 fl_10_69 rfl (by first | assumption | exact so0 hsh rfl) (by first | assumption | exact hr _ _ _ rfl) ?_
            refine wp_getR q95_ok d95_57 fl_10_186 rfl (by first | assumption | exact so0 hsh rfl) (by first | assumption | exact hr _ _ _ rfl) ?_
            refine wp_iload_n (j := 1) rfl q95_ok d95_60 ?_
            refine wp_iald (m := 2) q95_ok d95_61 (by first | assumption | exact so0 hsh rfl) (by first | assumption | exact shl hsh (Nat.le_of_ble_eq_true rfl) rfl) (by first | assumption | exact ixn_nI (by omega)) (hA0.2 b (by omega)).2 ?_ (shK hsh)
            refine wp_iret q95_ok d95_62 rfl ?_
            exact kp_same hr h (by unfold bellQ; rw [if_pos hB, if_pos hW, if_neg (show ¬ w ≤ 2 from Int32.not_le.mpr h21), if_neg (show ¬ w = 3 from h38), hic])
          · have h38 := Classical.not_not.mp h38
            refine wp_aload_n (j := 0) rfl q95_ok d95_41 ?_
            refine wp_getR q95_ok d95_42 fl_10_69 rfl (by first | assumption | exact so0 hsh rfl) (by first | assumption | exact hr _ _ _ rfl) ?_
            refine wp_getR q95_ok d95_45 fl_10_182 rfl (by first | assumption | exact so0 hsh rfl) (by first | assumption | exact hr _ _ _ rfl) ?_
            refine wp_iload_n (j := 1) rfl q95_ok d95_48 ?_
            refine wp_iald (m := 2) q95_ok d95_49 (by first | assumption | exact so0 hsh rfl) (by first | assumption | exact shl hsh (Nat.le_of_ble_eq_true rfl) rfl) (by first | assumption | exact ixn_nI (by omega)) (hA0.2 b (by omega)).1 ?_ (shK hsh)
            refine wp_goto (t := 62) rfl q95_ok d95_50 ?_
            refine wp_iret q95_ok d95_62 rfl ?_
            exact kp_same hr h (by unfold bellQ; rw [if_pos hB, if_pos hW, if_neg (show ¬ w ≤ 2 from Int32.not_le.mpr h21), if_pos (show w = 3 from h38), hic])
        · have hix : ixn w w.toNatClampNeg 3 := ix_of (by decide) hW.1 (Int32.lt_of_le_of_lt (Int32.not_lt.mp h21) (by decide))
          refine wp_aload_n (j := 0) rfl q95_ok d95_24 ?_
          refine wp_getR q95_ok d95_25 fl_10_28 rfl (by first | assumption | exact so0 hsh rfl) (by first | assumption | exact hr _ _ _ rfl) ?_
          refine wp_getR q95_ok d95_28 fl_10_179 rfl (by first | assumption | exact so0 hsh rfl) (by first | assumption | exact hr _ _ _ rfl) ?_
          refine wp_iload_n (j := 1) rfl q95_ok d95_31 ?_
          refine wp_aald (m := 2) q95_ok d95_32 (t := 25) (by decide) (by first | assumption | exact so0 hsh rfl) (by first | assumption | exact shl hsh (Nat.le_of_ble_eq_true rfl) rfl) (by first | assumption | exact ixn_nI (by omega)) (r13 hr (show b < 2 by omega)) ?_
          refine wp_iload_n (j := 2) rfl q95_ok d95_33 ?_
          refine wp_iald (m := 3) q95_ok d95_34 (s14 hsh (show b < 2 by omega)).1 (s14 hsh (show b < 2 by omega)).2 (by first | assumption | exact ixn_nI (by omega)) (h.1.2.2.2.1 b hb w.toNatClampNeg hix.2.2) ?_ (shK hsh)
          refine wp_iret q95_ok d95_35 rfl ?_
          exact kp_same hr h (by unfold bellQ; rw [if_pos hB, if_pos hW, if_pos (show w ≤ 2 from Int32.not_lt.mp h21), hic])
      · refine wp_iconst (v := -1) (by decide) q95_ok d95_17 ?_
        refine wp_iret q95_ok d95_18 rfl ?_
        exact kp_same hr h (by unfold bellQ; rw [if_pos (iff_nn (belC_T hT i) h5), if_neg (fun q => h14 q.2)])
theorem k_fog {xs : List Int32} {ext : mm_X} {n : Nat} {sh : mm_S} {d : mm_D} {g : mm_G} {r : mm_R} {S : wo_S} (hsh : shp sh) (hr : rfx r) (ok : okW (sW S) (sH S).1) (h : repC d g r S) (t : Int32) : wp xs ext (n + 3) 96 0 [some (.ref 0), some (.int t)] [] (sh, d, g, r) (kpost sh d g r (S) (some (.int (fogQ S t)))) := by
  have hT : rpC d r (sT S) := rpC_of ok h.1 h.2.1
  have hA0 := h.2.2.1.1
  have hnp : tnp (sT S) ≤ 6 := ok.1
  have hnb : tnb (sT S) ≤ 2 := ok.2.1
  refine wp_aload_n (j := 0) rfl q96_ok d96_0 ?_
  refine wp_cV q96_ok d96_1 ml_10_189 rfl q128_ok (u := 10) rfl (by first | assumption | exact so0 hsh rfl) rfl (Nat.le_of_ble_eq_true rfl) (Nat.le_of_ble_eq_true rfl) (c_hasTown hsh hr) (fun v1 μ1 hc => ?_)
  obtain ⟨rfl, rfl⟩ := hc
  refine ⟨mm_le_same rfl, ?_⟩
  refine wp_if_eq q96_ok d96_4 (t := 11) rfl (fun h4 => ?_) (fun h4 => ?_)
  · refine wp_iconst (v := -1) (by decide) q96_ok d96_11 ?_
    refine wp_iret q96_ok d96_12 rfl ?_
    exact kp_same hr h (by unfold fogQ; rw [if_neg ((has_T hT).mp h4)])
  · refine wp_iload_n (j := 1) rfl q96_ok d96_7 ?_
    refine wp_if_ge q96_ok d96_8 (t := 13) rfl (fun h8 => ?_) (fun h8 => ?_)
    · refine wp_aload_n (j := 0) rfl q96_ok d96_13 ?_
      refine wp_getR q96_ok d96_14 fl_10_28 rfl (by first | assumption | exact so0 hsh rfl) (by first | assumption | exact hr _ _ _ rfl) ?_
      refine wp_iload_n (j := 1) rfl q96_ok d96_17 ?_
      refine wp_cV q96_ok d96_18 ml_10_193 rfl q59_ok (u := 7) rfl (by first | assumption | exact so0 hsh rfl) rfl (Nat.le_of_ble_eq_true rfl) (Nat.le_of_ble_eq_true rfl) (c_isFoggy hsh hr _) (fun v18 μ18 hc => ?_)
      obtain ⟨rfl, rfl⟩ := hc
      refine ⟨mm_le_same rfl, ?_⟩
      rw [hT.2.2.2.2.2.1]
      refine wp_if_eq q96_ok d96_21 (t := 28) rfl (fun h21 => ?_) (fun h21 => ?_)
      · refine wp_iconst (v := 0) (by decide) q96_ok d96_28 ?_
        refine wp_iret q96_ok d96_29 rfl ?_
        exact kp_same hr h (by unfold fogQ; rw [if_pos (iff_nn (has_T hT) h4), if_pos h8, if_pos h21])
      · refine wp_iconst (v := 1) (by decide) q96_ok d96_24 ?_
        refine wp_goto (t := 29) rfl q96_ok d96_25 ?_
        refine wp_iret q96_ok d96_29 rfl ?_
        exact kp_same hr h (by unfold fogQ; rw [if_pos (iff_nn (has_T hT) h4), if_pos h8, if_neg h21])
    · refine wp_iconst (v := -1) (by decide) q96_ok d96_11 ?_
      refine wp_iret q96_ok d96_12 rfl ?_
      exact kp_same hr h (by unfold fogQ; rw [if_pos (iff_nn (has_T hT) h4), if_neg h8])
theorem repC_0 {d : mm_D} {g : mm_G} {r : mm_R} {S S' : wo_S} {j : Nat} {v : Int32} (ok : okW (sW S) (sH S).1) (h : repC d g r S) (hj : j = 12 ∨ j = 16) (eW : sW S' = sW S) (eH : sH S' = sH S) (eX : sX S' = sX S) (eP : sP S' = sP S) (eN : sN S' = sN S) (eI : (sI S').2 = (sI S).2) (e16 : (if 16 = j then v else d 0 16) = sK S') (e12 : (if 12 = j then v else d 0 12) = (if (sI S').1 = true then 1 else 0)) : repC (mm_up d 0 j v) g r S' := by
  obtain ⟨a1, a2, a3, a4, a5, a6, a7, a8⟩ := h
  unfold repC
  rw [eW, eH, eX, eP, eN]
  refine ⟨rpW_row ⟨ok.1, ok.2.1⟩ a1 (fun c h1 h2 => mm_up_ne (by omega)) rfl, ?_, hX_row a3 (fun c hc => mm_up_ne (by omega)) (fun _ _ => rfl), ?_, ?_, ⟨?_, ?_, ?_⟩, ntR_eq a7 (mm_up_ne (by decide)) (mm_up_ne (by decide)) (mm_up_ne (by decide)), hA_row a8 (mm_up_ne (by decide)) (mm_up_ne (by decide)) (mm_up_ne (by decide))⟩
  · obtain ⟨b1, b2, b3, b4⟩ := a2
    refine ⟨by rw [mm_up_at, if_neg (by omega)]; exact b1, b2, fun k hk => by rw [mm_up_ne (by omega)]; exact b3 k hk, fun k hk => ?_⟩
    have e1 : mm_up d 0 j v (238 + 3 * k) = d (238 + 3 * k) := mm_up_ne (by omega)
    have e2 : mm_up d 0 j v (238 + 3 * k + 1) = d (238 + 3 * k + 1) := mm_up_ne (by omega)
    obtain ⟨⟨len, a, b, c⟩, w⟩ := b4 k hk
    refine ⟨⟨len, by rw [e1]; exact a, b, by rw [e2]; exact c⟩, fun L => ?_⟩
    rw [← w L]
    unfold worthC lenC
    rw [e1, e2]
  · rw [mm_up_at]; exact e16
  · rw [mm_up_ne (by decide), mm_up_ne (by decide)]; exact a5
  · rw [mm_up_at]; exact e12
  · rw [eI]; exact hA_row a6.2.1 (mm_up_ne (by decide)) (mm_up_ne (by decide)) (mm_up_ne (by decide))
  · rw [eI]; exact a6.2.2
theorem k_risk {xs : List Int32} {ext : mm_X} {n : Nat} {sh : mm_S} {d : mm_D} {g : mm_G} {r : mm_R} {S : wo_S} (hsh : shp sh) (hr : rfx r) (ok : okW (sW S) (sH S).1) (h : repC d g r S) (v : Int32) : wp xs ext (n + 0) 99 0 [some (.ref 0), some (.int v)] [] (sh, d, g, r) (kpost sh d g r (if 0 ≤ v ∧ v ≤ 100 then sRisk S v else S) (some (.int (if 0 ≤ v ∧ v ≤ 100 then 1 else 0)))) := by
  have hT : rpC d r (sT S) := rpC_of ok h.1 h.2.1
  have hA0 := h.2.2.1.1
  have hnp : tnp (sT S) ≤ 6 := ok.1
  have hnb : tnb (sT S) ≤ 2 := ok.2.1
  refine wp_iload_n (j := 1) rfl q99_ok d99_0 ?_
  refine wp_if_lt q99_ok d99_1 (t := 10) rfl (fun h1 => ?_) (fun h1 => ?_)
  · refine wp_iconst (v := 0) (by decide) q99_ok d99_10 ?_
    refine wp_zret q99_ok d99_11 rfl (by first | assumption | exact Or.inl rfl | exact Or.inr rfl) ?_
    rw [if_neg (fun q => absurd q.1 (Int32.not_le.mpr h1)), if_neg (fun q => absurd q.1 (Int32.not_le.mpr h1))]
    exact kp_same hr h rfl
  · refine wp_iload_n (j := 1) rfl q99_ok d99_4 ?_
    refine wp_bipush (v := 100) (by decide) q99_ok d99_5 ?_
    refine wp_icmp_le q99_ok d99_7 (t := 12) rfl (fun h7 => ?_) (fun h7 => ?_)
    · refine wp_aload_n (j := 0) rfl q99_ok d99_12 ?_
      refine wp_iload_n (j := 1) rfl q99_ok d99_13 ?_
      refine wp_putI q99_ok d99_14 fl_10_203 rfl (by first | assumption | exact so0 hsh rfl) (Or.inl rfl) ?_
      refine wp_iconst (v := 1) (by decide) q99_ok d99_17 ?_
      refine wp_zret q99_ok d99_18 rfl (by first | assumption | exact Or.inl rfl | exact Or.inr rfl) ?_
      have hq : 0 ≤ v ∧ v ≤ 100 := ⟨Int32.not_lt.mp h1, h7⟩
      rw [if_pos hq, if_pos hq]
      exact ⟨rfl, _, _, _, rfl, hr, repC_0 ok h (Or.inr rfl) rfl rfl rfl rfl rfl rfl (if_pos rfl) (by rw [if_neg (by decide)]; exact h.2.2.2.2.2.1.1), fun c hc => ⟨mm_up_ne (by omega), rfl, rfl⟩⟩
    · refine wp_iconst (v := 0) (by decide) q99_ok d99_10 ?_
      refine wp_zret q99_ok d99_11 rfl (by first | assumption | exact Or.inl rfl | exact Or.inr rfl) ?_
      rw [if_neg (fun q => h7 q.2), if_neg (fun q => h7 q.2)]
      exact kp_same hr h rfl
theorem k_seed {xs : List Int32} {ext : mm_X} {n : Nat} {sh : mm_S} {d : mm_D} {g : mm_G} {r : mm_R} {S : wo_S} (hsh : shp sh) (hr : rfx r) (ok : okW (sW S) (sH S).1) (h : repC d g r S) (w : Int64) : wp xs ext (n + 0) 100 0 [some (.ref 0), some (.long w), none] [] (sh, d, g, r) (kpost sh d g r (sNow S ((sX S).1, w, (sX S).2.2)) (some (.int 1))) := by
  refine wp_post (c_seed hsh hr w) (fun v μ hc => ?_)
  obtain ⟨rfl, rfl⟩ := hc
  obtain ⟨a1, a2, a3, a4, a5, a6, a7, a8⟩ := h
  exact ⟨rfl, _, _, _, rfl, hr, ⟨a1, a2, ⟨a3.1, (mm_up_at 3).trans (if_pos rfl), past_row a3.2.2 (fun _ _ _ => rfl) (fun c h1 h2 => mm_up_ne (by omega))⟩, a4, a5, ⟨a6.1, a6.2.1, by rw [mm_up_ne (by decide)]; exact a6.2.2⟩, a7, a8⟩, fun c hc => ⟨rfl, mm_up_ne (by omega), rfl⟩⟩
theorem tw44 {sh : mm_S} {r : mm_R} (hsh : shp sh) (hr : rfx r) : tw sh r 44 := ⟨so0 hsh rfl, so0 hsh rfl, shl hsh (Nat.le_of_ble_eq_true rfl) rfl, so0 hsh rfl, shl hsh (Nat.le_of_ble_eq_true rfl) rfl, hr _ _ _ rfl, hr _ _ _ rfl⟩
theorem cpT_r {d : mm_D} {a b c : Nat} (h : c < a ∨ a + 3 ≤ c) : cpT d a b c = d c := cpT_row (by omega) (by omega) (by omega)
def imgQ (S : wo_S) : Int32 := if hasT (sT S) then (sX S).1.1 else -1
def imgS (S : wo_S) : wo_S := if hasT (sT S) then sImg S (true, (sX S).1, (sX S).2.1) else S
abbrev bakT (S : wo_S) : Prop := hasT (sT S) ∧ (sI S).1 = true
def bakQ (S : wo_S) : Int32 := if bakT S then (sI S).2.1.1 else -1
def bakS (S : wo_S) : wo_S := if bakT S then sNow S ((sI S).2.1, (sI S).2.2, 0, (sX S).2.2.2) else S
def undQ (S : wo_S) : Int32 := if (sX S).2.2.1 = 0 then -1 else ((sX S).2.2.2 ((sX S).2.2.1 - 1)).1.1
def undS' (S : wo_S) : wo_S := if (sX S).2.2.1 = 0 then S else sNow S (((sX S).2.2.2 ((sX S).2.2.1 - 1)).1, ((sX S).2.2.2 ((sX S).2.2.1 - 1)).2, (sX S).2.2.1 - 1, (sX S).2.2.2)
abbrev goT (S : wo_S) (n1 : Int32) : Prop := hasT (sT S) ∧ ahdT n1
def goQ (S : wo_S) (n1 : Int32) : Int32 := if goT S n1 then (goN (sT S) (sK S) (sX S) n1.toNatClampNeg).1.1 else -1
def goS (S : wo_S) (n1 : Int32) : wo_S := if goT S n1 then sNow S (goN (sT S) (sK S) (sX S) n1.toNatClampNeg) else S
abbrev notT (S : wo_S) (t : Int32) : Prop := hasT (sT S) ∧ (0 ≤ t ∧ t ≤ 60) ∧ (sN S).1 < 20
def notQ (S : wo_S) (t : Int32) : Int32 := if notT S t then nI ((sN S).1 + 1) else -1
def notS (S : wo_S) (t b : Int32) : wo_S := if notT S t then sNts S ((sN S).1 + 1, fun i => if i = (sN S).1 then t.toNatClampNeg else (sN S).2.1 i, fun i => if i = (sN S).1 then b else (sN S).2.2 i) else S
/-- what changes rows of the towers alone -/
theorem repC_now {d d2 : mm_D} {g g2 : mm_G} {r : mm_R} {S : wo_S} {x : wo_X} (ok : okW (sW S) (sH S).1) (h : repC d g r S) (hd : ∀ c, ¬ scr c → ¬ (38 ≤ c ∧ c < 41) → ¬ (47 ≤ c ∧ c < 229) → d2 c = d c) (hg : g2 44 = g 44) (hx : hX d2 g2 x) : repC d2 g2 r (sNow S x) := by
  obtain ⟨a1, a2, a3, a4, a5, a6, a7, a8⟩ := h
  have e : ∀ c, ¬ scr c → c < 38 ∨ (41 ≤ c ∧ c < 47) ∨ (229 ≤ c) → d2 c = d c := fun c h1 h2 => hd c h1 (by omega) (by omega)
  refine ⟨rpW_row ⟨ok.1, ok.2.1⟩ a1 (fun c h1 h2 => e c (by unfold scr; omega) (by omega)) rfl, rpH_row a2 (fun c h1 h2 => e c h1 (by omega)), hx, ?_, ?_, ?_, ntR_eq a7 (e _ (by unfold scr; omega) (by omega)) (e _ (by unfold scr; omega) (by omega)) (e _ (by unfold scr; omega) (by omega)), hA_row a8 (e _ (by unfold scr; omega) (by omega)) (e _ (by unfold scr; omega) (by omega)) (e _ (by unfold scr; omega) (by omega))⟩
  · rw [e 0 (by unfold scr; omega) (by omega)]; exact a4
  · rw [e 1 (by unfold scr; omega) (by omega), e 2 (by unfold scr; omega) (by omega)]; exact a5
  · rw [e 0 (by unfold scr; omega) (by omega), hg]
    exact ⟨a6.1, hA_row a6.2.1 (e _ (by unfold scr; omega) (by omega)) (e _ (by unfold scr; omega) (by omega)) (e _ (by unfold scr; omega) (by omega)), a6.2.2⟩
theorem k_image {xs : List Int32} {ext : mm_X} {n : Nat} {sh : mm_S} {d : mm_D} {g : mm_G} {r : mm_R} {S : wo_S} (hsh : shp sh) (hr : rfx r) (ok : okW (sW S) (sH S).1) (h : repC d g r S) : wp xs ext (n + 2) 125 0 [some (.ref 0)] [] (sh, d, g, r) (kpost sh d g r (imgS S) (some (.int (imgQ S)))) := by
  have hT : rpC d r (sT S) := rpC_of ok h.1 h.2.1
  have hA0 := h.2.2.1.1
  have hnp : tnp (sT S) ≤ 6 := ok.1
  have hnb : tnb (sT S) ≤ 2 := ok.2.1
  refine wp_aload_n (j := 0) rfl q125_ok d125_0 ?_
  refine wp_cV q125_ok d125_1 ml_10_189 rfl q128_ok (u := 10) rfl (by first | assumption | exact so0 hsh rfl) rfl (Nat.le_of_ble_eq_true rfl) (Nat.le_of_ble_eq_true rfl) (c_hasTown hsh hr) (fun v1 μ1 hc => ?_)
  obtain ⟨rfl, rfl⟩ := hc
  refine ⟨mm_le_same rfl, ?_⟩
  refine wp_if_ne q125_ok d125_4 (t := 9) rfl (fun h4 => ?_) (fun h4 => ?_)
  · refine wp_aload_n (j := 0) rfl q125_ok d125_9 ?_
    refine wp_getR q125_ok d125_10 fl_10_76 rfl (by first | assumption | exact so0 hsh rfl) (by first | assumption | exact hr _ _ _ rfl) ?_
    refine wp_aload_n (j := 0) rfl q125_ok d125_13 ?_
    refine wp_getR q125_ok d125_14 fl_10_69 rfl (by first | assumption | exact so0 hsh rfl) (by first | assumption | exact hr _ _ _ rfl) ?_
    refine wp_cV q125_ok d125_17 ml_10_334 rfl q47_ok (u := 6) rfl (by first | assumption | exact so0 hsh rfl) rfl (Nat.le_of_ble_eq_true rfl) (Nat.le_of_ble_eq_true rfl) (c_tcopy hsh hr (tw44 hsh hr) (tw38 hsh hr)) (fun v17 μ17 hc => ?_)
    obtain ⟨rfl, rfl⟩ := hc
    refine ⟨mm_le_same rfl, ?_⟩
    refine wp_aload_n (j := 0) rfl q125_ok d125_20 ?_
    refine wp_iconst (v := 1) (by decide) q125_ok d125_21 ?_
    refine wp_putZ q125_ok d125_22 fl_10_135 rfl (by first | assumption | exact so0 hsh rfl) (Or.inl rfl) (by first | assumption | exact Or.inl rfl | exact Or.inr rfl) ?_
    refine wp_aload_n (j := 0) rfl q125_ok d125_25 ?_
    refine wp_getR q125_ok d125_26 fl_10_69 rfl (by first | assumption | exact so0 hsh rfl) (by first | assumption | exact hr _ _ _ rfl) ?_
    refine wp_getI q125_ok d125_29 fl_10_217 rfl (by first | assumption | exact so0 hsh rfl) (show mm_up (cpT d 44 38) 0 12 1 38 0 = (sX S).1.1 from by rw [mm_up_ne (by decide), cpT_r (by decide)]; exact hA0.1) ?_
    refine wp_iret q125_ok d125_32 rfl ?_
    have hq := iff_nn (has_T hT) h4
    unfold imgQ imgS
    rw [if_pos hq, if_pos hq]
    obtain ⟨a1, a2, a3, a4, a5, a6, a7, a8⟩ := h
    have e : ∀ c, c ≠ 0 → c < 44 ∨ 47 ≤ c → mm_up (cpT d 44 38) 0 12 1 c = d c := fun c h1 h2 => by rw [mm_up_ne h1, cpT_r (by omega)]
    have e0 : ∀ j, j ≠ 12 → mm_up (cpT d 44 38) 0 12 1 0 j = d 0 j := fun j hj => by rw [mm_up_at, if_neg hj, cpT_r (by decide)]
    refine ⟨rfl, _, _, _, rfl, hr, ⟨rpW_row ⟨ok.1, ok.2.1⟩ a1 (fun c h1 h2 => e c (by omega) (by omega)) rfl, ?_, hX_row a3 (fun c hc => e c (by omega) (by omega)) (fun c hc => mm_up_ne (by omega)), ?_, ?_, ⟨?_, ?_, ?_⟩, ntR_eq a7 (e _ (by decide) (by decide)) (e _ (by decide) (by decide)) (e _ (by decide) (by decide)), hA_row a8 (e _ (by decide) (by decide)) (e _ (by decide) (by decide)) (e _ (by decide) (by decide))⟩, fun c hc => ⟨e c (by omega) (by omega), mm_up_ne (by omega), rfl⟩⟩
    · obtain ⟨b1, b2, b3, b4⟩ := a2
      refine ⟨by rw [e0 8 (by decide)]; exact b1, b2, fun k hk => by rw [e _ (by omega) (by omega)]; exact b3 k hk, fun k hk => ?_⟩
      have e1 := e (238 + 3 * k) (by omega) (by omega)
      have e2 := e (238 + 3 * k + 1) (by omega) (by omega)
      obtain ⟨⟨len, a, b, c⟩, w⟩ := b4 k hk
      refine ⟨⟨len, by rw [e1]; exact a, b, by rw [e2]; exact c⟩, fun L => ?_⟩
      refine Eq.trans ?_ (w L)
      unfold worthC lenC
      rw [e1, e2]
    · rw [e0 16 (by decide)]; exact a4
    · rw [e 1 (by decide) (by decide), e 2 (by decide) (by decide)]; exact a5
    · rw [mm_up_at, if_pos rfl]; rfl
    · exact hA_row (hA_cpT (by decide) a3.1) (mm_up_ne (by decide)) (mm_up_ne (by decide)) (mm_up_ne (by decide))
    · rw [mm_up_at, if_pos rfl]; exact a3.2.1
  · have h4 := Classical.not_not.mp h4
    refine wp_iconst (v := -1) (by decide) q125_ok d125_7 ?_
    refine wp_iret q125_ok d125_8 rfl ?_
    have hq := (has_T hT).mp h4
    unfold imgQ imgS
    rw [if_neg hq, if_neg hq]
    exact kp_same hr h rfl
theorem k_back {xs : List Int32} {ext : mm_X} {n : Nat} {sh : mm_S} {d : mm_D} {g : mm_G} {r : mm_R} {S : wo_S} (hsh : shp sh) (hr : rfx r) (ok : okW (sW S) (sH S).1) (h : repC d g r S) : wp xs ext (n + 2) 126 0 [some (.ref 0)] [] (sh, d, g, r) (kpost sh d g r (bakS S) (some (.int (bakQ S)))) := by
  have hT : rpC d r (sT S) := rpC_of ok h.1 h.2.1
  have hA0 := h.2.2.1.1
  have hnp : tnp (sT S) ≤ 6 := ok.1
  have hnb : tnb (sT S) ≤ 2 := ok.2.1
  refine wp_aload_n (j := 0) rfl q126_ok d126_0 ?_
  refine wp_cV q126_ok d126_1 ml_10_189 rfl q128_ok (u := 10) rfl (by first | assumption | exact so0 hsh rfl) rfl (Nat.le_of_ble_eq_true rfl) (Nat.le_of_ble_eq_true rfl) (c_hasTown hsh hr) (fun v1 μ1 hc => ?_)
  obtain ⟨rfl, rfl⟩ := hc
  refine ⟨mm_le_same rfl, ?_⟩
  refine wp_if_eq q126_ok d126_4 (t := 14) rfl (fun h4 => ?_) (fun h4 => ?_)
  · refine wp_iconst (v := -1) (by decide) q126_ok d126_14 ?_
    refine wp_iret q126_ok d126_15 rfl ?_
    have hq : ¬ bakT S := fun q => (has_T hT).mp h4 q.1
    unfold bakQ bakS
    rw [if_neg hq, if_neg hq]
    exact kp_same hr h rfl
  · refine wp_aload_n (j := 0) rfl q126_ok d126_7 ?_
    refine wp_getZ q126_ok d126_8 fl_10_135 rfl (by first | assumption | exact so0 hsh rfl) h.2.2.2.2.2.1.1 ?_
    refine wp_if_ne q126_ok d126_11 (t := 16) rfl (fun h11 => ?_) (fun h11 => ?_)
    · refine wp_aload_n (j := 0) rfl q126_ok d126_16 ?_
      refine wp_getR q126_ok d126_17 fl_10_69 rfl (by first | assumption | exact so0 hsh rfl) (by first | assumption | exact hr _ _ _ rfl) ?_
      refine wp_aload_n (j := 0) rfl q126_ok d126_20 ?_
      refine wp_getR q126_ok d126_21 fl_10_76 rfl (by first | assumption | exact so0 hsh rfl) (by first | assumption | exact hr _ _ _ rfl) ?_
      refine wp_cV q126_ok d126_24 ml_10_334 rfl q47_ok (u := 6) rfl (by first | assumption | exact so0 hsh rfl) rfl (Nat.le_of_ble_eq_true rfl) (Nat.le_of_ble_eq_true rfl) (c_tcopy hsh hr (tw38 hsh hr) (tw44 hsh hr)) (fun v24 μ24 hc => ?_)
      obtain ⟨rfl, rfl⟩ := hc
      refine ⟨mm_le_same rfl, ?_⟩
      refine wp_aload_n (j := 0) rfl q126_ok d126_27 ?_
      refine wp_getR q126_ok d126_28 fl_10_82 rfl (by first | assumption | exact so0 hsh rfl) (by first | assumption | exact hr _ _ _ rfl) ?_
      refine wp_cV q126_ok d126_31 ml_10_131 rfl q30_ok (u := 3) rfl (by first | assumption | exact so0 hsh rfl) rfl (Nat.le_of_ble_eq_true rfl) (Nat.le_of_ble_eq_true rfl) (c_pforget hsh hr) (fun v31 μ31 hc => ?_)
      obtain ⟨rfl, rfl⟩ := hc
      refine ⟨mm_le_same rfl, ?_⟩
      refine wp_aload_n (j := 0) rfl q126_ok d126_34 ?_
      refine wp_getR q126_ok d126_35 fl_10_69 rfl (by first | assumption | exact so0 hsh rfl) (by first | assumption | exact hr _ _ _ rfl) ?_
      refine wp_getI q126_ok d126_38 fl_10_217 rfl (by first | assumption | exact so0 hsh rfl) (show mm_up (cpT d 38 44) 47 2 0 38 0 = (sI S).2.1.1 from by rw [mm_up_ne (by decide)]; exact cpT_0.trans h.2.2.2.2.2.1.2.1.1) ?_
      refine wp_iret q126_ok d126_41 rfl ?_
      have hq : bakT S := ⟨iff_nn (has_T hT) h4, Classical.byContradiction (fun q => h11 (if_neg q))⟩
      unfold bakQ bakS
      rw [if_pos hq, if_pos hq]
      have e : ∀ c, ¬ (38 ≤ c ∧ c < 41) → c ≠ 47 → mm_up (cpT d 38 44) 47 2 0 c = d c := fun c h1 h2 => by rw [mm_up_ne h2, cpT_r (by omega)]
      obtain ⟨nx, n1, n2, n3, n4, n5⟩ := h.2.2.1.2.2
      refine ⟨rfl, _, _, _, rfl, hr, repC_now ok h (fun c h1 h2 h3 => e c h2 (by omega)) (mm_up_ne (by decide)) ⟨hA_row (hA_cpT (by decide) h.2.2.2.2.2.1.2.1) (mm_up_ne (by decide)) (mm_up_ne (by decide)) (mm_up_ne (by decide)), ((mm_up_at 3).trans (if_pos rfl)).trans h.2.2.2.2.2.1.2.2, nx, n1, ?_, (mm_up_at 2).trans (if_pos rfl), (show 0 ≤ 60 by decide), fun i hi => absurd hi (Nat.not_lt_zero i)⟩, fun c hc => ⟨e c (by omega) (by omega), mm_up_ne (by omega), rfl⟩⟩
      rw [mm_up_at, if_neg (by decide), cpT_r (by decide)]
      exact n2
    · have h11 := Classical.not_not.mp h11
      refine wp_iconst (v := -1) (by decide) q126_ok d126_14 ?_
      refine wp_iret q126_ok d126_15 rfl ?_
      have hq : ¬ bakT S := fun q => by rw [if_pos q.2] at h11; exact absurd h11 (by decide)
      unfold bakQ bakS
      rw [if_neg hq, if_neg hq]
      exact kp_same hr h rfl
