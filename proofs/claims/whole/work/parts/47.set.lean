/-! ===== set, person ===== -/
def perW (W : wo_W) (p j : Nat) (v : Int32) : wo_W := (W.1, (fun a b => if a = p ∧ b = j then v else W.2.1 a b), W.2.2)
def habW (W : wo_W) (p : Nat) (v : Int32) : wo_W := (W.1, W.2.1, W.2.2.1, W.2.2.2.1, W.2.2.2.2.1, fun a => if a = p then v else W.2.2.2.2.2 a)
abbrev setV (S : wo_S) (w v : Int32) : Prop := if w = 3 then (-1 ≤ v ∧ v < nI (sH S).1) else ((if w = 2 then 1 else 0) ≤ v ∧ v ≤ (if w = 0 then 59 else 60))
abbrev setT (S : wo_S) (i w v : Int32) : Prop := perT (sT S) i ∧ (0 ≤ w ∧ w ≤ 3) ∧ setV S w v
def setS (S : wo_S) (i w v : Int32) : wo_S := if setT S i w v then (if w = 3 then sAt S (habW (sW S) i.toNatClampNeg v) else sAt S (perW (sW S) i.toNatClampNeg w.toNatClampNeg v)) else S
theorem repC_row {d d2 : mm_D} {g : mm_G} {r r2 : mm_R} {S : wo_S} {W : wo_W} (h : repC d g r S) (hd : ∀ c, c < 4 ∨ 17 ≤ c → d2 c = d c) (hW : rpW d2 r2 W (sH S).1) : repC d2 g r2 (sAt S W) := by
  obtain ⟨a1, a2, a3, a4, a5, a6, a7, a8⟩ := h
  refine ⟨hW, rpH_row a2 (fun c h1 h2 => hd c (by omega)), hX_row a3 (fun c hc => hd c (by omega)) (fun _ _ => rfl), ?_, ?_, ⟨?_, hA_row a6.2.1 (hd _ (by omega)) (hd _ (by omega)) (hd _ (by omega)), a6.2.2⟩, ntR_eq a7 (hd _ (by omega)) (hd _ (by omega)) (hd _ (by omega)), hA_row a8 (hd _ (by omega)) (hd _ (by omega)) (hd _ (by omega))⟩
  · rw [hd 0 (by omega)]; exact a4
  · rw [hd 1 (by omega), hd 2 (by omega)]; exact a5
  · rw [hd 0 (by omega)]; exact a6.1
theorem r37 {r : mm_R} (hr : rfx r) {k : Nat} (h : k < 4) : r 37 k = some (238 + 3 * k) := hr _ _ _ (by
  have : ∀ k, k < 4 → r0 37 k = some (238 + 3 * k) := by decide +kernel
  exact this k h)
theorem so238 {sh : mm_S} (hsh : shp sh) {k : Nat} (hk : k < 4) : so sh (238 + 3 * k) 0 := by
  have e : ∀ k, k < 4 → (lay (238 + 3 * k)).1 = 0 := by decide +kernel
  exact ⟨by rw [hsh.1]; omega, by rw [hsh.2 _ (by omega), e k hk]⟩
theorem c_setHabit {xs : List Int32} {ext : mm_X} {n : Nat} {sh : mm_S} {d : mm_D} {g : mm_G} {r : mm_R} (hsh : shp sh) (hr : rfx r) {p hc : Nat} (hp : p < 6) (h8 : d 0 8 = nI hc) (hc4 : hc ≤ 4) (v1 : Int32) : wp xs ext (n + 0) 98 0 [some (.ref 0), some (.int (nI p)), some (.int v1)] [] (sh, d, g, r) (fun v μ => v = some (.int (if -1 ≤ v1 ∧ v1 < nI hc then 1 else 0)) ∧ μ = (sh, d, g, if -1 ≤ v1 ∧ v1 < nI hc then mm_up r 12 p (if v1 = -1 then none else some (238 + 3 * v1.toNatClampNeg)) else r)) := by
  refine wp_iload_n (j := 2) rfl q98_ok d98_0 ?_
  refine wp_iconst (v := -1) (by decide) q98_ok d98_1 ?_
  refine wp_icmp_lt q98_ok d98_2 (t := 22) rfl (fun h2 => ?_) (fun h2 => ?_)
  · refine wp_iconst (v := 0) (by decide) q98_ok d98_22 ?_
    refine wp_zret q98_ok d98_23 rfl (by first | assumption | exact Or.inl rfl | exact Or.inr rfl) ?_
    have hq : ¬ (-1 ≤ v1 ∧ v1 < nI hc) := fun q => absurd q.1 (Int32.not_le.mpr h2)
    rw [if_neg hq, if_neg hq]
    exact ⟨rfl, rfl⟩
  · refine wp_iload_n (j := 2) rfl q98_ok d98_5 ?_
    refine wp_aload_n (j := 0) rfl q98_ok d98_6 ?_
    refine wp_getI q98_ok d98_7 fl_10_142 rfl (by first | assumption | exact so0 hsh rfl) (by first | assumption | rfl) ?_
    refine wp_icmp_ge q98_ok d98_10 (t := 22) rfl (fun h10 => ?_) (fun h10 => ?_)
    · refine wp_iconst (v := 0) (by decide) q98_ok d98_22 ?_
      refine wp_zret q98_ok d98_23 rfl (by first | assumption | exact Or.inl rfl | exact Or.inr rfl) ?_
      have hq : ¬ (-1 ≤ v1 ∧ v1 < nI hc) := fun q => absurd q.2 (Int32.not_lt.mpr h10)
      rw [if_neg hq, if_neg hq]
      exact ⟨rfl, rfl⟩
    · refine wp_iload_n (j := 2) rfl q98_ok d98_13 ?_
      refine wp_aload_n (j := 0) rfl q98_ok d98_14 ?_
      refine wp_getR q98_ok d98_15 fl_10_62 rfl (by first | assumption | exact so0 hsh rfl) (by first | assumption | exact hr _ _ _ rfl) ?_
      refine wp_alen (m := 4) q98_ok d98_18 (shlt hsh (Nat.le_of_ble_eq_true rfl)) (sht hsh (Nat.le_of_ble_eq_true rfl) (Nat.le_of_ble_eq_true rfl)) (by first | assumption | exact shl hsh (Nat.le_of_ble_eq_true rfl) rfl) rfl ?_ (shK hsh)
      refine wp_icmp_lt q98_ok d98_19 (t := 24) rfl (fun h19 => ?_) (fun h19 => ?_)
      · have hq : -1 ≤ v1 ∧ v1 < nI hc := ⟨Int32.not_lt.mp h2, Int32.not_le.mp h10⟩
        rw [if_pos hq, if_pos hq]
        refine wp_aload_n (j := 0) rfl q98_ok d98_24 ?_
        refine wp_getR q98_ok d98_25 fl_10_28 rfl (by first | assumption | exact so0 hsh rfl) (by first | assumption | exact hr _ _ _ rfl) ?_
        refine wp_getR q98_ok d98_28 fl_10_159 rfl (by first | assumption | exact so0 hsh rfl) (by first | assumption | exact hr _ _ _ rfl) ?_
        refine wp_iload_n (j := 1) rfl q98_ok d98_31 ?_
        refine wp_iload_n (j := 2) rfl q98_ok d98_32 ?_
        refine wp_iconst (v := -1) (by decide) q98_ok d98_33 ?_
        refine wp_icmp_ne q98_ok d98_34 (t := 41) rfl (fun h34 => ?_) (fun h34 => ?_)
        · have hne : ¬ v1 = -1 := h34
          have h0 : 0 ≤ v1 := by
            refine Int32.not_lt.mp (fun q => hne ?_)
            have a := Int32.le_iff_toInt_le.mp hq.1
            have b := Int32.lt_iff_toInt_lt.mp q
            have e1 : (-1 : Int32).toInt = -1 := by decide
            have e2 : (0 : Int32).toInt = 0 := by decide
            exact Int32.toInt_inj.mp (by omega)
          have hix := ix_of (show hc < 2 ^ 31 by omega) h0 hq.2
          have hk4 : v1.toNatClampNeg < 4 := by have := hix.2.2; omega
          refine wp_aload_n (j := 0) rfl q98_ok d98_41 ?_
          refine wp_getR q98_ok d98_42 fl_10_62 rfl (by first | assumption | exact so0 hsh rfl) (by first | assumption | exact hr _ _ _ rfl) ?_
          refine wp_iload_n (j := 2) rfl q98_ok d98_45 ?_
          refine wp_aald (m := 4) q98_ok d98_46 (t := 23) (by decide) (by first | assumption | exact so0 hsh rfl) (by first | assumption | exact shl hsh (Nat.le_of_ble_eq_true rfl) rfl) ⟨rfl, h0, hk4⟩ (r37 hr hk4) ?_
          refine wp_aast q98_ok d98_47 (t := 23) (u := 0) (by decide) (by first | assumption | exact so0 hsh rfl) (so238 hsh hk4) (shl hsh (m := 6) (Nat.le_of_ble_eq_true rfl) rfl) (ixn_nI hp) ?_
          refine wp_iconst (v := 1) (by decide) q98_ok d98_48 ?_
          refine wp_zret q98_ok d98_49 rfl (by first | assumption | exact Or.inl rfl | exact Or.inr rfl) ?_
          exact ⟨rfl, by rw [if_neg hne]⟩
        · have h34 := Classical.not_not.mp h34
          refine wp_null q98_ok d98_37 ?_
          refine wp_goto (t := 47) rfl q98_ok d98_38 ?_
          refine wp_aastN (m := 6) q98_ok d98_47 (t := 23) (by decide) (by first | assumption | exact so0 hsh rfl) (by first | assumption | exact shl hsh (Nat.le_of_ble_eq_true rfl) rfl) (by first | assumption | exact ixn_nI (by omega)) ?_
          refine wp_iconst (v := 1) (by decide) q98_ok d98_48 ?_
          refine wp_zret q98_ok d98_49 rfl (by first | assumption | exact Or.inl rfl | exact Or.inr rfl) ?_
          exact ⟨rfl, by rw [if_pos (show v1 = -1 from h34)]⟩
      · exact absurd (Int32.le_trans (nI_le hc4 (by decide)) (Int32.not_lt.mp h19)) h10
theorem perW_ok {d : mm_D} {r : mm_R} {W : wo_W} {hc p : Nat} (ok : wnb W ≤ 2) (h : rpW d r W hc) (hp : p < wnp W) (hp6 : p < 6) (j : Nat) (v : Int32) : rpW (mm_up d (6 + p) j v) r (perW W p j v) hc := by
  obtain ⟨w1, w2, w3, w4, w5, w6, w7⟩ := h
  refine ⟨by rw [mm_up_ne (by omega)]; exact w1, by rw [mm_up_ne (by omega)]; exact w2, fun q hq k hk => ?_, fun b hb => ?_, by rw [mm_up_ne (by omega)]; exact w5, fun hf => by rw [mm_up_ne (by omega)]; exact w6 hf, w7⟩
  · show mm_up d (6 + p) j v (6 + q) k = if q = p ∧ k = j then v else wper W q k
    by_cases e : q = p
    · subst e
      rw [mm_up_at]
      by_cases e2 : k = j
      · rw [if_pos e2, if_pos ⟨rfl, e2⟩]
      · rw [if_neg e2, if_neg (fun w => e2 w.2)]; exact w3 q hq k hk
    · rw [mm_up_ne (by omega), if_neg (fun w => e w.1)]; exact w3 q hq k hk
  · have hb' : b < wnb W := hb
    intro k hk
    rw [mm_up_ne (by omega)]
    exact w4 b hb' k hk
theorem habW_ok {d : mm_D} {r : mm_R} {W : wo_W} {hc p : Nat} (h : rpW d r W hc) (hc4 : hc ≤ 4) (hp : p < wnp W) (v : Int32) : rpW d (mm_up r 12 p (if v = -1 then none else some (238 + 3 * v.toNatClampNeg))) (habW W p v) hc := by
  obtain ⟨w1, w2, w3, w4, w5, w6, w7⟩ := h
  refine ⟨w1, w2, w3, w4, w5, w6, fun q hq => ?_⟩
  obtain ⟨c1, c2, c3⟩ := w7 q hq
  rw [mm_up_at]
  refine ⟨fun h1 h2 => ?_, fun h1 k hk h2 => ?_, fun h1 => ?_⟩
  · have h2' : (if q = p then v else whb W q) = -1 := h2
    by_cases e : q = p
    · rw [if_pos e] at h2' ⊢
      rw [if_pos h2']
    · rw [if_neg e] at h2' ⊢
      exact c1 h1 h2'
  · have h2' : (if q = p then v else whb W q) = nI k := h2
    by_cases e : q = p
    · rw [if_pos e] at h2' ⊢
      rw [h2', if_neg (nI_nm1 (by omega)), nI_clamp (by omega)]
    · rw [if_neg e] at h2' ⊢
      exact c2 h1 k hk h2'
  · have h1' : wnp W ≤ q := h1
    rw [if_neg (by omega)]
    exact c3 h1'
theorem r012 {p : Nat} (h : p < 6) : r0 12 p = none := by
  have : ∀ p, p < 6 → r0 12 p = none := by decide +kernel
  exact this p h
theorem k_set {xs : List Int32} {ext : mm_X} {n : Nat} {sh : mm_S} {d : mm_D} {g : mm_G} {r : mm_R} {S : wo_S} (hsh : shp sh) (hr : rfx r) (ok : okW (sW S) (sH S).1) (h : repC d g r S) (i w v1 : Int32) : wp xs ext (n + 1) 97 0 [some (.ref 0), some (.int i), some (.int w), some (.int v1)] [] (sh, d, g, r) (kpost sh d g r (setS S i w v1) (some (.int (if setT S i w v1 then 1 else 0)))) := by
  have hT : rpC d r (sT S) := rpC_of ok h.1 h.2.1
  have hA0 := h.2.2.1.1
  have hnp : tnp (sT S) ≤ 6 := ok.1
  have hnb : tnb (sT S) ≤ 2 := ok.2.1
  refine wp_aload_n (j := 0) rfl q97_ok d97_0 ?_
  refine wp_iload_n (j := 1) rfl q97_ok d97_1 ?_
  refine wp_cV q97_ok d97_2 ml_10_148 rfl q129_ok (u := 10) rfl (by first | assumption | exact so0 hsh rfl) rfl (Nat.le_of_ble_eq_true rfl) (Nat.le_of_ble_eq_true rfl) (c_isPerson hsh hr _) (fun v2 μ2 hc => ?_)
  obtain ⟨rfl, rfl⟩ := hc
  refine ⟨mm_le_same rfl, ?_⟩
  refine wp_if_eq q97_ok d97_5 (t := 17) rfl (fun h5 => ?_) (fun h5 => ?_)
  · refine wp_iconst (v := 0) (by decide) q97_ok d97_17 ?_
    refine wp_zret q97_ok d97_18 rfl (by first | assumption | exact Or.inl rfl | exact Or.inr rfl) ?_
    have hq : ¬ setT S i w v1 := fun q => (perC_T hT i).mp h5 q.1
    unfold setS
    rw [if_neg hq, if_neg hq]
    exact kp_same hr h rfl
  · refine wp_iload_n (j := 2) rfl q97_ok d97_8 ?_
    refine wp_if_lt q97_ok d97_9 (t := 17) rfl (fun h9 => ?_) (fun h9 => ?_)
    · refine wp_iconst (v := 0) (by decide) q97_ok d97_17 ?_
      refine wp_zret q97_ok d97_18 rfl (by first | assumption | exact Or.inl rfl | exact Or.inr rfl) ?_
      have hq : ¬ setT S i w v1 := fun q => absurd q.2.1.1 (Int32.not_le.mpr h9)
      unfold setS
      rw [if_neg hq, if_neg hq]
      exact kp_same hr h rfl
    · refine wp_iload_n (j := 2) rfl q97_ok d97_12 ?_
      refine wp_iconst (v := 3) (by decide) q97_ok d97_13 ?_
      refine wp_icmp_le q97_ok d97_14 (t := 19) rfl (fun h14 => ?_) (fun h14 => ?_)
      · have hB := iff_nn (perC_T hT i) h5
        obtain ⟨p, hp, hpe⟩ := in_of hT.1.1 (by omega) h5
        have hp6 : p < 6 := by omega
        have hic : i.toNatClampNeg = p := by rw [hpe]; exact nI_clamp (by omega)
        have hW : 0 ≤ w ∧ w ≤ 3 := ⟨Int32.not_lt.mp h9, h14⟩
        subst hpe
        refine wp_iload_n (j := 2) rfl q97_ok d97_19 ?_
        refine wp_iconst (v := 3) (by decide) q97_ok d97_20 ?_
        refine wp_icmp_ne q97_ok d97_21 (t := 31) rfl (fun h21 => ?_) (fun h21 => ?_)
        · have hw3 : w = 0 ∨ w = 1 ∨ w = 2 := by
            have hix := ix_of (m := 4) (by decide) hW.1 (Int32.lt_of_le_of_lt hW.2 (by decide))
            have hwe := nI_ofn hW.1
            have hl := hix.2.2
            have hn : ¬ w = 3 := h21
            generalize w.toNatClampNeg = c at hl hwe
            subst hwe
            have : c = 0 ∨ c = 1 ∨ c = 2 ∨ c = 3 := by omega
            rcases this with rfl | rfl | rfl | rfl
            · exact Or.inl rfl
            · exact Or.inr (Or.inl rfl)
            · exact Or.inr (Or.inr rfl)
            · exact absurd rfl hn
          rcases hw3 with rfl | rfl | rfl
          · refine wp_iload_n (j := 3) rfl q97_ok d97_31 ?_
            refine wp_gets q97_ok d97_32 gs_10_200 ?_
            refine wp_iconst (v := 4) (by decide) q97_ok d97_35 ?_
            refine wp_iload_n (j := 2) rfl q97_ok d97_36 ?_
            refine wp_imul rfl q97_ok d97_37 ?_
            refine wp_iconst (v := 1) (by decide) q97_ok d97_38 ?_
            refine wp_iadd rfl q97_ok d97_39 ?_
            refine wp_ialdK q97_ok d97_40 (Nat.le_of_ble_eq_true rfl) (Nat.le_of_ble_eq_true rfl) ⟨rfl, by decide, (show 1 < 16 by decide)⟩ (show (mm_ca xs (mm_K + 1 + 0)).getD 1 0 = 0 from rfl) ?_
            refine wp_icmp_lt q97_ok d97_41 (t := 57) rfl (fun h41 => ?_) (fun h41 => ?_)
            · refine wp_iconst (v := 0) (by decide) q97_ok d97_57 ?_
              refine wp_zret q97_ok d97_58 rfl (by first | assumption | exact Or.inl rfl | exact Or.inr rfl) ?_
              have hq : ¬ setT S (nI p) 0 v1 := fun q => absurd (show (0 : Int32) ≤ v1 from q.2.2.1) (Int32.not_le.mpr h41)
              unfold setS
              rw [if_neg hq, if_neg hq]
              exact kp_same hr h rfl
            · refine wp_iload_n (j := 3) rfl q97_ok d97_44 ?_
              refine wp_gets q97_ok d97_45 gs_10_200 ?_
              refine wp_iconst (v := 4) (by decide) q97_ok d97_48 ?_
              refine wp_iload_n (j := 2) rfl q97_ok d97_49 ?_
              refine wp_imul rfl q97_ok d97_50 ?_
              refine wp_iconst (v := 2) (by decide) q97_ok d97_51 ?_
              refine wp_iadd rfl q97_ok d97_52 ?_
              refine wp_ialdK q97_ok d97_53 (Nat.le_of_ble_eq_true rfl) (Nat.le_of_ble_eq_true rfl) ⟨rfl, by decide, (show 2 < 16 by decide)⟩ (show (mm_ca xs (mm_K + 1 + 0)).getD 2 0 = 59 from rfl) ?_
              refine wp_icmp_le q97_ok d97_54 (t := 59) rfl (fun h54 => ?_) (fun h54 => ?_)
              · refine wp_aload_n (j := 0) rfl q97_ok d97_59 ?_
                refine wp_getR q97_ok d97_60 fl_10_28 rfl (by first | assumption | exact so0 hsh rfl) (by first | assumption | exact hr _ _ _ rfl) ?_
                refine wp_getR q97_ok d97_63 fl_10_155 rfl (by first | assumption | exact so0 hsh rfl) (by first | assumption | exact hr _ _ _ rfl) ?_
                refine wp_iload_n (j := 1) rfl q97_ok d97_66 ?_
                refine wp_aald (m := 6) q97_ok d97_67 (t := 25) (by decide) (by first | assumption | exact so0 hsh rfl) (by first | assumption | exact shl hsh (Nat.le_of_ble_eq_true rfl) rfl) (ixn_nI hp6) (r5 hr hp6) ?_
                refine wp_iload_n (j := 2) rfl q97_ok d97_68 ?_
                refine wp_iload_n (j := 3) rfl q97_ok d97_69 ?_
                refine wp_iast (m := 4) q97_ok d97_70 (s6 hsh hp6).1 (s6 hsh hp6).2 (ixn_nI (j := 0) (by decide)) ?_
                refine wp_iconst (v := 1) (by decide) q97_ok d97_71 ?_
                refine wp_zret q97_ok d97_72 rfl (by first | assumption | exact Or.inl rfl | exact Or.inr rfl) ?_
                have hq : setT S (nI p) 0 v1 := ⟨hB, by decide, show (0 : Int32) ≤ v1 ∧ v1 ≤ 59 from ⟨Int32.not_lt.mp h41, h54⟩⟩
                unfold setS
                rw [if_pos hq, if_pos hq, if_neg (show ¬ (0 : Int32) = 3 by decide), hic]
                refine ⟨rfl, _, _, _, rfl, hr, repC_row h (fun c hc => mm_up_ne (by omega)) ?_, fun c hc => ⟨mm_up_ne (by omega), rfl, rfl⟩⟩
                exact perW_ok ok.2.1 h.1 hp hp6 0 v1
              · refine wp_iconst (v := 0) (by decide) q97_ok d97_57 ?_
                refine wp_zret q97_ok d97_58 rfl (by first | assumption | exact Or.inl rfl | exact Or.inr rfl) ?_
                have hq : ¬ setT S (nI p) 0 v1 := fun q => h54 (show v1 ≤ 59 from q.2.2.2)
                unfold setS
                rw [if_neg hq, if_neg hq]
                exact kp_same hr h rfl
          · refine wp_iload_n (j := 3) rfl q97_ok d97_31 ?_
            refine wp_gets q97_ok d97_32 gs_10_200 ?_
            refine wp_iconst (v := 4) (by decide) q97_ok d97_35 ?_
            refine wp_iload_n (j := 2) rfl q97_ok d97_36 ?_
            refine wp_imul rfl q97_ok d97_37 ?_
            refine wp_iconst (v := 1) (by decide) q97_ok d97_38 ?_
            refine wp_iadd rfl q97_ok d97_39 ?_
            refine wp_ialdK q97_ok d97_40 (Nat.le_of_ble_eq_true rfl) (Nat.le_of_ble_eq_true rfl) ⟨rfl, by decide, (show 5 < 16 by decide)⟩ (show (mm_ca xs (mm_K + 1 + 0)).getD 5 0 = 0 from rfl) ?_
            refine wp_icmp_lt q97_ok d97_41 (t := 57) rfl (fun h41 => ?_) (fun h41 => ?_)
            · refine wp_iconst (v := 0) (by decide) q97_ok d97_57 ?_
              refine wp_zret q97_ok d97_58 rfl (by first | assumption | exact Or.inl rfl | exact Or.inr rfl) ?_
              have hq : ¬ setT S (nI p) 1 v1 := fun q => absurd (show (0 : Int32) ≤ v1 from q.2.2.1) (Int32.not_le.mpr h41)
              unfold setS
              rw [if_neg hq, if_neg hq]
              exact kp_same hr h rfl
            · refine wp_iload_n (j := 3) rfl q97_ok d97_44 ?_
              refine wp_gets q97_ok d97_45 gs_10_200 ?_
              refine wp_iconst (v := 4) (by decide) q97_ok d97_48 ?_
              refine wp_iload_n (j := 2) rfl q97_ok d97_49 ?_
              refine wp_imul rfl q97_ok d97_50 ?_
              refine wp_iconst (v := 2) (by decide) q97_ok d97_51 ?_
              refine wp_iadd rfl q97_ok d97_52 ?_
              refine wp_ialdK q97_ok d97_53 (Nat.le_of_ble_eq_true rfl) (Nat.le_of_ble_eq_true rfl) ⟨rfl, by decide, (show 6 < 16 by decide)⟩ (show (mm_ca xs (mm_K + 1 + 0)).getD 6 0 = 60 from rfl) ?_
              refine wp_icmp_le q97_ok d97_54 (t := 59) rfl (fun h54 => ?_) (fun h54 => ?_)
              · refine wp_aload_n (j := 0) rfl q97_ok d97_59 ?_
                refine wp_getR q97_ok d97_60 fl_10_28 rfl (by first | assumption | exact so0 hsh rfl) (by first | assumption | exact hr _ _ _ rfl) ?_
                refine wp_getR q97_ok d97_63 fl_10_155 rfl (by first | assumption | exact so0 hsh rfl) (by first | assumption | exact hr _ _ _ rfl) ?_
                refine wp_iload_n (j := 1) rfl q97_ok d97_66 ?_
                refine wp_aald (m := 6) q97_ok d97_67 (t := 25) (by decide) (by first | assumption | exact so0 hsh rfl) (by first | assumption | exact shl hsh (Nat.le_of_ble_eq_true rfl) rfl) (ixn_nI hp6) (r5 hr hp6) ?_
                refine wp_iload_n (j := 2) rfl q97_ok d97_68 ?_
                refine wp_iload_n (j := 3) rfl q97_ok d97_69 ?_
                refine wp_iast (m := 4) q97_ok d97_70 (s6 hsh hp6).1 (s6 hsh hp6).2 (ixn_nI (j := 1) (by decide)) ?_
                refine wp_iconst (v := 1) (by decide) q97_ok d97_71 ?_
                refine wp_zret q97_ok d97_72 rfl (by first | assumption | exact Or.inl rfl | exact Or.inr rfl) ?_
                have hq : setT S (nI p) 1 v1 := ⟨hB, by decide, show (0 : Int32) ≤ v1 ∧ v1 ≤ 60 from ⟨Int32.not_lt.mp h41, h54⟩⟩
                unfold setS
                rw [if_pos hq, if_pos hq, if_neg (show ¬ (1 : Int32) = 3 by decide), hic]
                refine ⟨rfl, _, _, _, rfl, hr, repC_row h (fun c hc => mm_up_ne (by omega)) ?_, fun c hc => ⟨mm_up_ne (by omega), rfl, rfl⟩⟩
                exact perW_ok ok.2.1 h.1 hp hp6 1 v1
              · refine wp_iconst (v := 0) (by decide) q97_ok d97_57 ?_
                refine wp_zret q97_ok d97_58 rfl (by first | assumption | exact Or.inl rfl | exact Or.inr rfl) ?_
                have hq : ¬ setT S (nI p) 1 v1 := fun q => h54 (show v1 ≤ 60 from q.2.2.2)
                unfold setS
                rw [if_neg hq, if_neg hq]
                exact kp_same hr h rfl
          · refine wp_iload_n (j := 3) rfl q97_ok d97_31 ?_
            refine wp_gets q97_ok d97_32 gs_10_200 ?_
            refine wp_iconst (v := 4) (by decide) q97_ok d97_35 ?_
            refine wp_iload_n (j := 2) rfl q97_ok d97_36 ?_
            refine wp_imul rfl q97_ok d97_37 ?_
            refine wp_iconst (v := 1) (by decide) q97_ok d97_38 ?_
            refine wp_iadd rfl q97_ok d97_39 ?_
            refine wp_ialdK q97_ok d97_40 (Nat.le_of_ble_eq_true rfl) (Nat.le_of_ble_eq_true rfl) ⟨rfl, by decide, (show 9 < 16 by decide)⟩ (show (mm_ca xs (mm_K + 1 + 0)).getD 9 0 = 1 from rfl) ?_
            refine wp_icmp_lt q97_ok d97_41 (t := 57) rfl (fun h41 => ?_) (fun h41 => ?_)
            · refine wp_iconst (v := 0) (by decide) q97_ok d97_57 ?_
              refine wp_zret q97_ok d97_58 rfl (by first | assumption | exact Or.inl rfl | exact Or.inr rfl) ?_
              have hq : ¬ setT S (nI p) 2 v1 := fun q => absurd (show (1 : Int32) ≤ v1 from q.2.2.1) (Int32.not_le.mpr h41)
              unfold setS
              rw [if_neg hq, if_neg hq]
              exact kp_same hr h rfl
            · refine wp_iload_n (j := 3) rfl q97_ok d97_44 ?_
              refine wp_gets q97_ok d97_45 gs_10_200 ?_
              refine wp_iconst (v := 4) (by decide) q97_ok d97_48 ?_
              refine wp_iload_n (j := 2) rfl q97_ok d97_49 ?_
              refine wp_imul rfl q97_ok d97_50 ?_
              refine wp_iconst (v := 2) (by decide) q97_ok d97_51 ?_
              refine wp_iadd rfl q97_ok d97_52 ?_
              refine wp_ialdK q97_ok d97_53 (Nat.le_of_ble_eq_true rfl) (Nat.le_of_ble_eq_true rfl) ⟨rfl, by decide, (show 10 < 16 by decide)⟩ (show (mm_ca xs (mm_K + 1 + 0)).getD 10 0 = 60 from rfl) ?_
              refine wp_icmp_le q97_ok d97_54 (t := 59) rfl (fun h54 => ?_) (fun h54 => ?_)
              · refine wp_aload_n (j := 0) rfl q97_ok d97_59 ?_
                refine wp_getR q97_ok d97_60 fl_10_28 rfl (by first | assumption | exact so0 hsh rfl) (by first | assumption | exact hr _ _ _ rfl) ?_
                refine wp_getR q97_ok d97_63 fl_10_155 rfl (by first | assumption | exact so0 hsh rfl) (by first | assumption | exact hr _ _ _ rfl) ?_
                refine wp_iload_n (j := 1) rfl q97_ok d97_66 ?_
                refine wp_aald (m := 6) q97_ok d97_67 (t := 25) (by decide) (by first | assumption | exact so0 hsh rfl) (by first | assumption | exact shl hsh (Nat.le_of_ble_eq_true rfl) rfl) (ixn_nI hp6) (r5 hr hp6) ?_
                refine wp_iload_n (j := 2) rfl q97_ok d97_68 ?_
                refine wp_iload_n (j := 3) rfl q97_ok d97_69 ?_
                refine wp_iast (m := 4) q97_ok d97_70 (s6 hsh hp6).1 (s6 hsh hp6).2 (ixn_nI (j := 2) (by decide)) ?_
                refine wp_iconst (v := 1) (by decide) q97_ok d97_71 ?_
                refine wp_zret q97_ok d97_72 rfl (by first | assumption | exact Or.inl rfl | exact Or.inr rfl) ?_
                have hq : setT S (nI p) 2 v1 := ⟨hB, by decide, show (1 : Int32) ≤ v1 ∧ v1 ≤ 60 from ⟨Int32.not_lt.mp h41, h54⟩⟩
                unfold setS
                rw [if_pos hq, if_pos hq, if_neg (show ¬ (2 : Int32) = 3 by decide), hic]
                refine ⟨rfl, _, _, _, rfl, hr, repC_row h (fun c hc => mm_up_ne (by omega)) ?_, fun c hc => ⟨mm_up_ne (by omega), rfl, rfl⟩⟩
                exact perW_ok ok.2.1 h.1 hp hp6 2 v1
              · refine wp_iconst (v := 0) (by decide) q97_ok d97_57 ?_
                refine wp_zret q97_ok d97_58 rfl (by first | assumption | exact Or.inl rfl | exact Or.inr rfl) ?_
                have hq : ¬ setT S (nI p) 2 v1 := fun q => h54 (show v1 ≤ 60 from q.2.2.2)
                unfold setS
                rw [if_neg hq, if_neg hq]
                exact kp_same hr h rfl
        · have h21 := Classical.not_not.mp h21
          refine wp_aload_n (j := 0) rfl q97_ok d97_24 ?_
          refine wp_iload_n (j := 1) rfl q97_ok d97_25 ?_
          refine wp_iload_n (j := 3) rfl q97_ok d97_26 ?_
          refine wp_cV q97_ok d97_27 ml_10_196 rfl q98_ok (u := 10) rfl (by first | assumption | exact so0 hsh rfl) rfl (Nat.le_of_ble_eq_true rfl) (Nat.le_of_ble_eq_true rfl) (c_setHabit hsh hr hp6 h.2.1.1 h.2.1.2.1 _) (fun v27 μ27 hc => ?_)
          obtain ⟨rfl, rfl⟩ := hc
          refine ⟨mm_le_same rfl, ?_⟩
          refine wp_zret q97_ok d97_30 rfl (by split; exact Or.inr rfl; exact Or.inl rfl) ?_
          have h3 : w = 3 := h21
          subst h3
          by_cases hv : -1 ≤ v1 ∧ v1 < nI (sH S).1
          · have hq : setT S (nI p) 3 v1 := ⟨hB, by decide, hv⟩
            unfold setS
            rw [if_pos hv, if_pos hv, if_pos hq, if_pos hq, if_pos rfl, hic]
            refine ⟨rfl, _, _, _, rfl, ?_, repC_row h (fun c hc => rfl) (habW_ok h.1 h.2.1.2.1 hp v1), fun c hc => ⟨rfl, rfl, mm_up_ne (by omega)⟩⟩
            exact rfx_up hr (r012 hp6) _
          · have hq : ¬ setT S (nI p) 3 v1 := fun q => hv q.2.2
            unfold setS
            rw [if_neg hv, if_neg hv, if_neg hq, if_neg hq]
            exact kp_same hr h rfl
      · refine wp_iconst (v := 0) (by decide) q97_ok d97_17 ?_
        refine wp_zret q97_ok d97_18 rfl (by first | assumption | exact Or.inl rfl | exact Or.inr rfl) ?_
        have hq : ¬ setT S i w v1 := fun q => h14 q.2.1.2
        unfold setS
        rw [if_neg hq, if_neg hq]
        exact kp_same hr h rfl
