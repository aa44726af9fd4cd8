/-! ===== the reading of sums ===== -/
theorem numL_nI {L : wo_P} : ∀ z p m, ∃ m2, m2 < (m + 1) * 10 ^ z ∧ (numL L z p (nI m)).2 = nI m2
  | 0, p, m => ⟨m, by omega, rfl⟩
  | z + 1, p, m => by
    rw [numL]
    by_cases q : dgt L p = -1
    · rw [if_pos q]
      exact ⟨m, Nat.lt_of_lt_of_le (Nat.lt_succ_self m) (Nat.le_mul_of_pos_right _ (Nat.pow_pos (by decide))), rfl⟩
    · rw [if_neg q]
      obtain ⟨h0, h9⟩ := dgt09 q
      have he := nI_ofn h0
      have hl : (dgt L p).toNatClampNeg ≤ 9 := by
        rw [he] at h9
        refine (nI_leI ?_ (by decide)).mp (show nI (dgt L p).toNatClampNeg ≤ nI 9 from h9)
        have b := Int32.toInt_lt (dgt L p)
        have c : (dgt L p).toNatClampNeg = (dgt L p).toInt.toNat := rfl
        omega
      generalize (dgt L p).toNatClampNeg = t at he hl
      have e : nI m * 10 + dgt L p = nI (m * 10 + t) := by
        rw [he]
        show Int32.ofNat m * Int32.ofNat 10 + Int32.ofNat t = Int32.ofNat _
        rw [Int32.ofNat_add, Int32.ofNat_mul]
      rw [e]
      obtain ⟨m2, h1, h2⟩ := numL_nI (L := L) z (p + 1) (m * 10 + t)
      refine ⟨m2, Nat.lt_of_lt_of_le h1 ?_, h2⟩
      rw [Nat.pow_succ, ← Nat.mul_assoc, Nat.mul_right_comm]
      exact Nat.mul_le_mul_right _ (by omega)
theorem num_ok {L : wo_P} {q : Nat} {x : Nat × Int32} (h : numS L 3 q = .inr x) : ¬ x.2 = -1 ∧ wsp L q < x.1 ∧ x.1 ≤ L.1 ∧ ∃ m, m ≤ 9999 ∧ x.2 = nI m := by
  unfold numS at h
  by_cases q1 : dgt L (wsp L q) = -1
  · rw [if_pos q1] at h; cases h
  · rw [if_neg q1] at h
    by_cases q2 : dgt L (numL L 3 (wsp L q + 1) (dgt L (wsp L q))).1 = -1
    · rw [if_pos q2] at h
      cases h
      obtain ⟨h0, h9⟩ := dgt09 q1
      have he := nI_ofn h0
      have hl : (dgt L (wsp L q)).toNatClampNeg ≤ 9 := by
        rw [he] at h9
        refine (nI_leI ?_ (by decide)).mp (show nI (dgt L (wsp L q)).toNatClampNeg ≤ nI 9 from h9)
        have b := Int32.toInt_lt (dgt L (wsp L q))
        have c : (dgt L (wsp L q)).toNatClampNeg = (dgt L (wsp L q)).toInt.toNat := rfl
        omega
      obtain ⟨m2, h1, h2⟩ := numL_nI (L := L) 3 (wsp L q + 1) (dgt L (wsp L q)).toNatClampNeg
      rw [← he] at h2
      have hle := numL_le (L := L) 3 (wsp L q + 1) (dgt L (wsp L q)) (dgt_lt q1)
      have h3 : m2 ≤ 9999 := by
        have : (dgt L (wsp L q)).toNatClampNeg + 1 ≤ 10 := by omega
        have := Nat.mul_le_mul_right (10 ^ 3) this
        omega
      exact ⟨by rw [h2]; exact nI_nm1 (by omega), by omega, hle.2, m2, h3, h2⟩
    · rw [if_neg q2] at h; cases h
theorem hb33 {sh : mm_S} {r : mm_R} (hsh : shp sh) (hr : rfx r) : hb sh r 33 := hab_hb hsh hr (Or.inl rfl)
theorem hf_put (d : mm_D) (l : Nat) (c v : Int32) : hf d (mm_up (mm_up d 34 l c) 33 2 v) := fun q _ h2 h3 => by rw [mm_up_ne h2, mm_up_ne h3]
theorem cls_inl {L : wo_P} {x : wo_R} {s : Int32} {w : Nat} (h : x = .inl w) : cls L x s = .inl w := by rw [h]; rfl
def RDsum (xs : List Int32) (ext : mm_X) (sh : mm_S) (g : mm_G) (r : mm_R) (L : wo_P) (n k : Nat) : Prop := ∀ (d : mm_D) (p s : Nat) (cs : List Int32), 1 ≤ s → HS d L p s cs → wp xs ext n 21 0 [some (.ref 36), some (.int (nI (6 - k))), none, none] [] (sh, d, g, r) (hpost sh g r L d s cs (sumK L k p))
def RDterm (xs : List Int32) (ext : mm_X) (sh : mm_S) (g : mm_G) (r : mm_R) (L : wo_P) (n k : Nat) : Prop := ∀ (d : mm_D) (p s : Nat) (cs : List Int32), 1 ≤ s → HS d L p s cs → wp xs ext n 22 0 [some (.ref 36), some (.int (nI (6 - k))), none, none] [] (sh, d, g, r) (hpost sh g r L d s cs (termS L (sumO L k) p))
def RDatom (xs : List Int32) (ext : mm_X) (sh : mm_S) (g : mm_G) (r : mm_R) (L : wo_P) (n k : Nat) : Prop := ∀ (d : mm_D) (p s : Nat) (cs : List Int32), 1 ≤ s → HS d L p s cs → wp xs ext n 23 0 [some (.ref 36), some (.int (nI (6 - k))), none, none, none] [] (sh, d, g, r) (hpost sh g r L d s cs (atomS L (sumO L k) p))
theorem c_atom {xs : List Int32} {ext : mm_X} {sh : mm_S} {g : mm_G} {r : mm_R} {L : wo_P} (hsh : shp sh) (hr : rfx r) {n k : Nat} (hk : k ≤ 6) (hsub : ∀ k2, k = k2 + 1 → RDsum xs ext sh g r L (n + 2) k2) : RDatom xs ext sh g r L (n + 3) k := by
  intro d p s cs hs1 hS
  have hg := hS.1
  have hwl := wsp_le L hg.2.2
  have hwg := wsp_ge L p
  have hcp := hS.2.2.1
  have hb3 := hb33 hsh hr
  refine wp_aload_n (j := 0) rfl q23_ok d23_0 ?_
  refine wp_getR q23_ok d23_1 fl_1_9 rfl (by first | assumption | exact so0 hsh rfl) (by first | assumption | exact hr _ _ _ rfl) ?_
  refine wp_cV q23_ok d23_4 ml_1_45 rfl q35_ok (u := 4) rfl (by first | assumption | exact so0 hsh rfl) rfl (Nat.le_of_ble_eq_true rfl) (Nat.le_of_ble_eq_true rfl) (c_peek hsh hr hg) (fun v4 μ4 hc => ?_)
  obtain ⟨rfl, d1, rfl, f1, a1, w1⟩ := hc
  refine ⟨mm_le_same rfl, ?_⟩
  have hS1 := HS_sf hS f1 a1 hwl (show cs.length + s ≤ wsp L p by omega)
  refine wp_istore_n (j := 2) (Nat.le_of_ble_eq_true rfl) (rfl : _ = [_, _, _, _, _]) q23_ok d23_7 ?_
  refine wp_iload_n (j := 2) rfl q23_ok d23_8 ?_
  refine wp_bipush (v := 91) (by decide) q23_ok d23_9 ?_
  refine wp_icmp_ne q23_ok d23_11 (t := 70) rfl (fun h11 => ?_) (fun h11 => ?_)
  · have h91 : ¬ bAt L (wsp L p) = 91 := h11
    refine wp_iload_n (j := 2) rfl q23_ok d23_70 ?_
    refine wp_cS q23_ok d23_71 ml_1_95 rfl q3_ok rfl rfl rfl (Nat.le_of_ble_eq_true rfl) (Nat.le_of_ble_eq_true rfl) (c_ltr _) (fun v71 μ71 hc => ?_)
    obtain ⟨rfl, rfl⟩ := hc
    refine ⟨mm_le_same rfl, ?_⟩
    refine wp_istore_n (j := 3) (Nat.le_of_ble_eq_true rfl) (rfl : _ = [_, _, _, _, _]) q23_ok d23_74 ?_
    refine wp_iload_n (j := 3) rfl q23_ok d23_75 ?_
    refine wp_iconst (v := -1) (by decide) q23_ok d23_76 ?_
    refine wp_icmp_eq q23_ok d23_77 (t := 100) rfl (fun h77 => ?_) (fun h77 => ?_)
    · have hltr : ltr (bAt L (wsp L p)) = -1 := h77
      refine wp_aload_n (j := 0) rfl q23_ok d23_100 ?_
      refine wp_getR q23_ok d23_101 fl_1_9 rfl (by first | assumption | exact so0 hsh rfl) (by first | assumption | exact hr _ _ _ rfl) ?_
      refine wp_iconst (v := 4) (by decide) q23_ok d23_104 ?_
      refine wp_cV q23_ok d23_105 ml_1_98 rfl q41_ok (u := 4) rfl (by first | assumption | exact so0 hsh rfl) rfl (Nat.le_of_ble_eq_true rfl) (Nat.le_of_ble_eq_true rfl) (c_number (f := 3) hsh hr hS1.1 (by decide)) (fun v105 μ105 hc => ?_)
      obtain ⟨d3, rfl, f3, m3⟩ := hc
      refine ⟨mm_le_same rfl, ?_⟩
      cases e3 : numS L 3 (wsp L p) with
      | inl w =>
        rw [e3] at m3
        obtain ⟨rfl, m3⟩ := m3
        refine wp_istore (j := 4) (Nat.le_of_ble_eq_true rfl) (rfl : _ = [_, _, _, _, _]) q23_ok d23_108 ?_
        refine wp_iload (j := 4) rfl q23_ok d23_110 ?_
        refine wp_iconst (v := -1) (by decide) q23_ok d23_112 ?_
        refine wp_icmp_ne q23_ok d23_113 (t := 118) rfl (fun h113 => ?_) (fun h113 => ?_)
        · exact absurd rfl h113
        · have h113 := Classical.not_not.mp h113
          refine wp_iconst (v := 0) (by decide) q23_ok d23_116 ?_
          refine wp_zret q23_ok d23_117 rfl (by first | assumption | exact Or.inl rfl | exact Or.inr rfl) ?_
          refine ⟨d3, rfl, hf_trans (hf_sf f1) (hf_sf f3), ?_⟩
          unfold atomS
          rw [if_neg h91, if_pos hltr, e3]
          exact ⟨rfl, m3⟩
      | inr x =>
        rw [e3] at m3
        obtain ⟨rfl, m3⟩ := m3
        obtain ⟨n1, n2, n3, _⟩ := num_ok e3
        have hw2 := wsp_ge L (wsp L p)
        have hS3 := HS_sf hS1 f3 m3 n3 (show cs.length + (s + 1) ≤ x.1 by omega)
        refine wp_istore (j := 4) (Nat.le_of_ble_eq_true rfl) (rfl : _ = [_, _, _, _, _]) q23_ok d23_108 ?_
        refine wp_iload (j := 4) rfl q23_ok d23_110 ?_
        refine wp_iconst (v := -1) (by decide) q23_ok d23_112 ?_
        refine wp_icmp_ne q23_ok d23_113 (t := 118) rfl (fun h113 => ?_) (fun h113 => ?_)
        · refine wp_aload_n (j := 0) rfl q23_ok d23_118 ?_
          refine wp_getR q23_ok d23_119 fl_1_15 rfl (by first | assumption | exact so0 hsh rfl) (by first | assumption | exact hr _ _ _ rfl) ?_
          refine wp_iload (j := 4) rfl q23_ok d23_122 ?_
          refine wp_cV q23_ok d23_124 ml_1_37 rfl q5_ok (u := 0) rfl (by first | assumption | exact so0 hsh rfl) rfl (Nat.le_of_ble_eq_true rfl) (Nat.le_of_ble_eq_true rfl) (c_put hsh hr hb3 hS3.2.1 (by have := hg.1.2.1; omega) _) (fun v124 μ124 hc => ?_)
          obtain ⟨rfl, rfl⟩ := hc
          refine ⟨mm_le_same rfl, ?_⟩
          refine wp_iconst (v := 1) (by decide) q23_ok d23_127 ?_
          refine wp_zret q23_ok d23_128 rfl (by first | assumption | exact Or.inl rfl | exact Or.inr rfl) ?_
          refine ⟨_, rfl, hf_trans (hf_trans (hf_sf f1) (hf_sf f3)) (hf_put _ _ _ _), ?_⟩
          unfold atomS
          rw [if_neg h91, if_pos hltr, e3]
          exact ⟨rfl, HS_put hS3 _⟩
        · have h113 := Classical.not_not.mp h113
          exact absurd h113 n1
    · have hltr : ¬ ltr (bAt L (wsp L p)) = -1 := h77
      have hlt : wsp L p < L.1 := by
        refine Classical.byContradiction (fun q => hltr ?_)
        unfold bAt
        rw [if_neg q]
        decide
      refine wp_aload_n (j := 0) rfl q23_ok d23_80 ?_
      refine wp_getR q23_ok d23_81 fl_1_9 rfl (by first | assumption | exact so0 hsh rfl) (by first | assumption | exact hr _ _ _ rfl) ?_
      refine wp_cV q23_ok d23_84 ml_1_83 rfl q36_ok (u := 4) rfl (by first | assumption | exact so0 hsh rfl) rfl (Nat.le_of_ble_eq_true rfl) (Nat.le_of_ble_eq_true rfl) (c_skip hsh hr a1) (fun v84 μ84 hc => ?_)
      obtain ⟨rfl, rfl⟩ := hc
      refine ⟨mm_le_same rfl, ?_⟩
      have hS2 := HS_sf hS1 (sf_up d1 1 (nI (wsp L p + 1))) ((mm_up_at 1).trans (if_pos rfl)) hlt (show cs.length + (s + 1) ≤ wsp L p + 1 by omega)
      refine wp_aload_n (j := 0) rfl q23_ok d23_87 ?_
      refine wp_getR q23_ok d23_88 fl_1_15 rfl (by first | assumption | exact so0 hsh rfl) (by first | assumption | exact hr _ _ _ rfl) ?_
      refine wp_bipush (v := -2) (by decide) q23_ok d23_91 ?_
      refine wp_iload_n (j := 3) rfl q23_ok d23_93 ?_
      refine wp_isub rfl q23_ok d23_94 ?_
      refine wp_cV q23_ok d23_95 ml_1_37 rfl q5_ok (u := 0) rfl (by first | assumption | exact so0 hsh rfl) rfl (Nat.le_of_ble_eq_true rfl) (Nat.le_of_ble_eq_true rfl) (c_put hsh hr hb3 hS2.2.1 (by have := hg.1.2.1; omega) _) (fun v95 μ95 hc => ?_)
      obtain ⟨rfl, rfl⟩ := hc
      refine ⟨mm_le_same rfl, ?_⟩
      refine wp_iconst (v := 1) (by decide) q23_ok d23_98 ?_
      refine wp_zret q23_ok d23_99 rfl (by first | assumption | exact Or.inl rfl | exact Or.inr rfl) ?_
      refine ⟨_, rfl, hf_trans (hf_trans (hf_sf f1) (hf_sf (sf_up d1 _ _))) (hf_put _ _ _ _), ?_⟩
      unfold atomS
      rw [if_neg h91, if_neg hltr]
      exact ⟨rfl, HS_put hS2 _⟩
  · have h11 := Classical.not_not.mp h11
    refine wp_iload_n (j := 1) rfl q23_ok d23_14 ?_
    refine wp_bipush (v := 6) (by decide) q23_ok d23_15 ?_
    refine wp_icmp_lt q23_ok d23_17 (t := 35) rfl (fun h17 => ?_) (fun h17 => ?_)
    · have h91 : bAt L (wsp L p) = 91 := h11
      have hlt := bAt_lt h91 (by decide)
      have hk0 : ¬ k = 0 := fun e => by rw [e] at h17; exact absurd h17 (by decide)
      obtain ⟨k2, rfl⟩ : ∃ k2, k = k2 + 1 := ⟨k - 1, by omega⟩
      refine wp_aload_n (j := 0) rfl q23_ok d23_35 ?_
      refine wp_getR q23_ok d23_36 fl_1_9 rfl (by first | assumption | exact so0 hsh rfl) (by first | assumption | exact hr _ _ _ rfl) ?_
      refine wp_cV q23_ok d23_39 ml_1_83 rfl q36_ok (u := 4) rfl (by first | assumption | exact so0 hsh rfl) rfl (Nat.le_of_ble_eq_true rfl) (Nat.le_of_ble_eq_true rfl) (c_skip hsh hr a1) (fun v39 μ39 hc => ?_)
      obtain ⟨rfl, rfl⟩ := hc
      refine ⟨mm_le_same rfl, ?_⟩
      have hS2 := HS_sf hS1 (sf_up d1 1 (nI (wsp L p + 1))) ((mm_up_at 1).trans (if_pos rfl)) hlt (show cs.length + s ≤ wsp L p + 1 by omega)
      refine wp_aload_n (j := 0) rfl q23_ok d23_42 ?_
      refine wp_iload_n (j := 1) rfl q23_ok d23_43 ?_
      refine wp_iconst (v := 1) (by decide) q23_ok d23_44 ?_
      refine wp_iadd (show nI (6 - (k2 + 1)) + 1 = nI (6 - k2) from (nI_1 _).trans (by rw [show 6 - (k2 + 1) + 1 = 6 - k2 by omega])) q23_ok d23_45 ?_
      refine wp_cV q23_ok d23_46 ml_1_58 rfl q21_ok (u := 1) rfl (by first | assumption | exact so0 hsh rfl) rfl (Nat.le_of_ble_eq_true rfl) (Nat.le_of_ble_eq_true rfl) (hsub k2 rfl _ _ _ _ hs1 hS2) (fun v46 μ46 hc => ?_)
      obtain ⟨d3, rfl, f3, m3⟩ := hc
      refine ⟨mm_le_same rfl, ?_⟩
      cases e3 : sumK L k2 (wsp L p + 1) with
      | inl w =>
        rw [e3] at m3
        obtain ⟨rfl, m3⟩ := m3
        refine wp_if_eq q23_ok d23_49 (t := 68) rfl (fun h49 => ?_) (fun h49 => ?_)
        · refine wp_iconst (v := 0) (by decide) q23_ok d23_68 ?_
          refine wp_zret q23_ok d23_69 rfl (by first | assumption | exact Or.inl rfl | exact Or.inr rfl) ?_
          refine ⟨d3, rfl, hf_trans (hf_trans (hf_sf f1) (hf_sf (sf_up d1 _ _))) f3, ?_⟩
          unfold atomS
          rw [if_pos h91, show sumO L (k2 + 1) = some (sumK L k2) from rfl]
          show match cls L (sumK L k2 (wsp L p + 1)) 93 with | .inl w => _ | .inr x => _
          rw [cls_inl e3]
          exact ⟨rfl, m3⟩
        · exact absurd rfl h49
      | inr x =>
        rw [e3] at m3
        obtain ⟨rfl, m3⟩ := m3
        refine wp_if_eq q23_ok d23_49 (t := 68) rfl (fun h49 => ?_) (fun h49 => ?_)
        · exact absurd h49 (by decide)
        · refine wp_aload_n (j := 0) rfl q23_ok d23_52 ?_
          refine wp_getR q23_ok d23_53 fl_1_9 rfl (by first | assumption | exact so0 hsh rfl) (by first | assumption | exact hr _ _ _ rfl) ?_
          refine wp_bipush (v := 93) (by decide) q23_ok d23_56 ?_
          refine wp_cV q23_ok d23_58 ml_1_52 rfl q38_ok (u := 4) rfl (by first | assumption | exact so0 hsh rfl) rfl (Nat.le_of_ble_eq_true rfl) (Nat.le_of_ble_eq_true rfl) (c_takes hsh hr m3.1 93) (fun v58 μ58 hc => ?_)
          obtain ⟨t1, t2⟩ := hc
          refine ⟨(Decidable.byCases (p := bAt L (wsp L x.1) = 93) (fun q => by obtain ⟨_, d5, e5, _⟩ := t1 q; rw [e5]; exact mm_le_same rfl) (fun q => by obtain ⟨_, d5, e5, _⟩ := t2 q; rw [e5]; exact mm_le_same rfl)), ?_⟩
          have hcl : cls L (sumK L k2 (wsp L p + 1)) 93 = if bAt L (wsp L x.1) = 93 then .inr (wsp L x.1 + 1, x.2) else .inl (wsp L x.1) := by rw [e3]; rfl
          have hx1 := m3.1.2.2
          by_cases q : bAt L (wsp L x.1) = 93
          · obtain ⟨rfl, d5, rfl, f5, a5⟩ := t1 q
            refine wp_if_eq q23_ok d23_61 (t := 68) rfl (fun h61 => ?_) (fun h61 => ?_)
            · exact absurd h61 (by decide)
            · refine wp_iconst (v := 1) (by decide) q23_ok d23_64 ?_
              refine wp_goto (t := 69) rfl q23_ok d23_65 ?_
              refine wp_zret q23_ok d23_69 rfl (by first | assumption | exact Or.inl rfl | exact Or.inr rfl) ?_
              refine ⟨d5, rfl, hf_trans (hf_trans (hf_trans (hf_sf f1) (hf_sf (sf_up d1 _ _))) f3) (hf_sf f5), ?_⟩
              unfold atomS
              rw [if_pos h91, show sumO L (k2 + 1) = some (sumK L k2) from rfl]
              show match cls L (sumK L k2 (wsp L p + 1)) 93 with | .inl w => _ | .inr x => _
              rw [hcl, if_pos q]
              exact ⟨rfl, HS_sf m3 f5 a5 (bAt_lt q (by decide)) (show (cs ++ x.2).length + s ≤ wsp L x.1 + 1 by have := m3.2.2.1; have := wsp_ge L x.1; omega)⟩
          · obtain ⟨rfl, d5, rfl, f5, a5⟩ := t2 q
            refine wp_if_eq q23_ok d23_61 (t := 68) rfl (fun h61 => ?_) (fun h61 => ?_)
            · refine wp_iconst (v := 0) (by decide) q23_ok d23_68 ?_
              refine wp_zret q23_ok d23_69 rfl (by first | assumption | exact Or.inl rfl | exact Or.inr rfl) ?_
              refine ⟨d5, rfl, hf_trans (hf_trans (hf_trans (hf_sf f1) (hf_sf (sf_up d1 _ _))) f3) (hf_sf f5), ?_⟩
              unfold atomS
              rw [if_pos h91, show sumO L (k2 + 1) = some (sumK L k2) from rfl]
              show match cls L (sumK L k2 (wsp L p + 1)) 93 with | .inl w => _ | .inr x => _
              rw [hcl, if_neg q]
              exact ⟨rfl, a5⟩
            · exact absurd rfl h61
    · have hk0 : k = 0 := Classical.byContradiction (fun q => h17 ((nI_ltI (by omega) (by decide)).mpr (show 6 - k < 6 by omega)))
      refine wp_aload_n (j := 0) rfl q23_ok d23_20 ?_
      refine wp_getR q23_ok d23_21 fl_1_9 rfl (by first | assumption | exact so0 hsh rfl) (by first | assumption | exact hr _ _ _ rfl) ?_
      refine wp_aload_n (j := 0) rfl q23_ok d23_24 ?_
      refine wp_getR q23_ok d23_25 fl_1_9 rfl (by first | assumption | exact so0 hsh rfl) (by first | assumption | exact hr _ _ _ rfl) ?_
      refine wp_getI q23_ok d23_28 fl_1_49 rfl (by first | assumption | exact so0 hsh rfl) a1 ?_
      refine wp_cV q23_ok d23_31 ml_1_80 rfl q39_ok (u := 4) rfl (by first | assumption | exact so0 hsh rfl) rfl (Nat.le_of_ble_eq_true rfl) (Nat.le_of_ble_eq_true rfl) (c_refuse hsh hr _) (fun v31 μ31 hc => ?_)
      obtain ⟨rfl, rfl⟩ := hc
      refine ⟨mm_le_same rfl, ?_⟩
      refine wp_zret q23_ok d23_34 rfl (by first | assumption | exact Or.inl rfl | exact Or.inr rfl) ?_
      refine ⟨_, rfl, hf_trans (hf_sf f1) (hf_sf (sf_up d1 _ _)), ?_⟩
      unfold atomS
      rw [if_pos (show bAt L (wsp L p) = 91 from h11), hk0]
      exact ⟨rfl, (mm_up_at 2).trans (if_pos rfl)⟩
