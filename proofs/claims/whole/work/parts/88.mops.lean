/-! ===== the model's plain calls ===== -/
theorem rpWM_x {d d2 : mm_D} {W : wo_W} (h : rpWM d W) (hr : ∀ c, 264 ≤ c → c < 268 → d2 c = d c) (hj : ∀ j, 26 ≤ j → j < 29 → d2 250 j = d 250 j) : rpWM d2 W := by
  unfold rpWM
  rw [hj 26 (by decide) (by decide), hj 27 (by decide) (by decide), hj 28 (by decide) (by decide), hr 264 (by decide) (by decide), hr 265 (by decide) (by decide), hr 266 (by decide) (by decide), hr 267 (by decide) (by decide)]
  exact h
theorem rpHM_x {d d2 : mm_D} {H : wo_H} (h : rpHM d H) (hr : ∀ c, 252 ≤ c → c < 259 → d2 c = d c) (hj : d2 250 13 = d 250 13) : rpHM d2 H := ⟨hj.trans h.1, h.2.1, fun k hk => hab_x hr (h.2.2 k hk)⟩
theorem pstM_x {d d2 : mm_D} {g g2 : mm_G} {len : Nat} {f : Nat → wo_A × Int64} (h : pstM d g len f) (h1 : d2 271 = d 271) (h2 : d2 272 = d 272) (h3 : g2 273 = g 273) (hj : d2 250 42 = d 250 42) : pstM d2 g2 len f := by
  unfold pstM
  rw [h1, h2, h3, hj]
  exact h
theorem nowM_x {d d2 : mm_D} {g g2 : mm_G} {x : wo_X} (h : nowM d g x) (hr : ∀ c, 268 ≤ c → c < 273 → d2 c = d c) (h3 : g2 273 = g 273) (h4 : g2 250 34 = g 250 34) (hj : d2 250 42 = d 250 42) (hk : d2 250 32 = d 250 32) : nowM d2 g2 x := by
  refine ⟨?_, h4.trans h.2.1, pstM_x h.2.2 (hr 271 (by decide) (by decide)) (hr 272 (by decide) (by decide)) h3 hj⟩
  unfold hM
  rw [hk, hr 268 (by decide) (by decide), hr 269 (by decide) (by decide)]
  exact h.1
theorem imgM_x {d d2 : mm_D} {g g2 : mm_G} {I : Bool × wo_A × Int64} (h : imgM d g I) (h1 : d2 280 = d 280) (h2 : g2 250 53 = g 250 53) (hj : d2 250 52 = d 250 52) (hk : d2 250 54 = d 250 54) : imgM d2 g2 I := by
  unfold imgM
  rw [h1, h2, hj, hk]
  exact h
theorem tapM_x {d d2 : mm_D} {L : wo_P} (h : tapM d L) (h1 : d2 251 = d 251) (hj : d2 250 2 = d 250 2) : tapM d2 L := by
  unfold tapM
  rw [h1, hj]
  exact h
theorem ntM_x {d d2 : mm_D} {len : Nat} {mt : Nat → Nat} {rs : Nat → Int32} (h : ntM d len mt rs) (h1 : d2 276 = d 276) (h2 : d2 277 = d 277) (hj : d2 250 48 = d 250 48) : ntM d2 len mt rs := by
  unfold ntM
  rw [h1, h2, hj]
  exact h
/-- what changes the tower and the past alone -/
theorem repM_now {d d2 : mm_D} {g g2 : mm_G} {S : wo_S} {x : wo_X} (h : repM d g S) (hd : ∀ c, 251 ≤ c → c < 281 → ¬ (259 ≤ c ∧ c < 261) → ¬ (268 ≤ c ∧ c < 276) → ¬ (278 ≤ c ∧ c < 280) → d2 c = d c) (hj : ∀ j, j ≠ 32 → j ≠ 38 → j ≠ 42 → j ≠ 45 → d2 250 j = d 250 j) (hg : g2 250 53 = g 250 53) (hx : nowM d2 g2 x) : repM d2 g2 (sNow S x) := by
  obtain ⟨a1, a2, a3, a4, a5, a6, a7, a8, a9⟩ := h
  exact ⟨rpWM_x a1 (fun c _ _ => hd c (by omega) (by omega) (by omega) (by omega) (by omega)) (fun j _ _ => hj j (by omega) (by omega) (by omega) (by omega)), rpHM_x a2 (fun c _ _ => hd c (by omega) (by omega) (by omega) (by omega) (by omega)) (hj 13 (by decide) (by decide) (by decide) (by decide)), hx, (hj 33 (by decide) (by decide) (by decide) (by decide)).trans a4, tapM_x a5 (hd 251 (by decide) (by decide) (by decide) (by decide) (by decide)) (hj 2 (by decide) (by decide) (by decide) (by decide)), imgM_x a6 (hd 280 (by decide) (by decide) (by decide) (by decide) (by decide)) hg (hj 52 (by decide) (by decide) (by decide) (by decide)) (hj 54 (by decide) (by decide) (by decide) (by decide)), ntM_x a7 (hd 276 (by decide) (by decide) (by decide) (by decide) (by decide)) (hd 277 (by decide) (by decide) (by decide) (by decide) (by decide)) (hj 48 (by decide) (by decide) (by decide) (by decide)), (hj 35 (by decide) (by decide) (by decide) (by decide)).trans a8, (hj 36 (by decide) (by decide) (by decide) (by decide)).trans a9⟩
theorem mp_same {sh : mm_S} {d : mm_D} {g : mm_G} {r : mm_R} {S : wo_S} {v0 v1 : Option Value} (h : repM d g S) (e : v1 = v0) : mpost sh d g r S v0 v1 (sh, d, g, r) := ⟨e, d, g, rfl, h, fun _ _ => ⟨rfl, rfl⟩⟩
theorem lt3_le {w : Int32} (h : w < 3) : w ≤ 2 := by
  have a := Int32.lt_iff_toInt_lt.mp h
  rw [show (3 : Int32).toInt = 3 from by decide] at a
  exact Int32.le_iff_toInt_le.mpr (by rw [show (2 : Int32).toInt = 2 from by decide]; omega)
theorem le2_lt {w : Int32} (h : w ≤ 2) : w < 3 := Int32.lt_of_le_of_lt h (by decide)
theorem j_bell {xs : List Int32} {ext : mm_X} {n : Nat} {sh : mm_S} {d : mm_D} {g : mm_G} {r : mm_R} {S : wo_S} {m : Nat} (hsh : shp sh) (hr : rfx r) (ok : okS m S) (hm : m < 2 ^ 22) (h : repM d g S) (i w : Int32) : wp xs ext (n + 2) 186 0 [some (.ref 250), some (.int i), some (.int w)] [] (sh, d, g, r) (mpost sh d g r (S) (some (.int (bellQ S i w)))) := by
  have hR := MR_rep ok.1 h
  have hA0 := h.2.2.1.1
  have hnp : tnp (sT S) ≤ 6 := ok.1.1
  have hnb : tnb (sT S) ≤ 2 := ok.1.2.1
  refine wp_aload_n (j := 0) rfl q186_ok d186_0 ?_
  refine wp_iload_n (j := 1) rfl q186_ok d186_1 ?_
  refine wp_cV q186_ok d186_2 ml_11_327 rfl q178_ok (u := 11) rfl (by first | assumption | exact so0 hsh rfl) rfl (Nat.le_of_ble_eq_true rfl) (Nat.le_of_ble_eq_true rfl) (m_isBell hsh hr _) (fun v2 μ2 hc => ?_)
  obtain ⟨rfl, rfl⟩ := hc
  refine ⟨mm_le_same rfl, ?_⟩
  rw [mbel_v hR i]
  by_cases c0 : belT (sT S) i
  · rw [if_pos c0]
    refine wp_if_eq q186_ok d186_5 (t := 17) rfl (fun h5 => ?_) (fun h5 => ?_)
    · exact absurd h5 (by decide)
    · refine wp_iload_n (j := 2) rfl q186_ok d186_8 ?_
      refine wp_iconst (v := 0) (by decide) q186_ok d186_9 ?_
      refine wp_iconst (v := 4) (by decide) q186_ok d186_10 ?_
      refine wp_cS q186_ok d186_11 ml_11_218 rfl q133_ok rfl rfl rfl (Nat.le_of_ble_eq_true rfl) (Nat.le_of_ble_eq_true rfl) (m_in _ _ _) (fun v11 μ11 hc => ?_)
      obtain ⟨rfl, rfl⟩ := hc
      refine ⟨mm_le_same rfl, ?_⟩
      by_cases c1 : 0 ≤ w ∧ w ≤ 4
      · rw [if_pos c1]
        refine wp_if_ne q186_ok d186_14 (t := 19) rfl (fun h14 => ?_) (fun h14 => ?_)
        · have hW : 0 ≤ w ∧ w ≤ 4 := c1
          have hib : i.toNatClampNeg < tnb (sT S) := bel_lt c0 hnb
          have hie := nI_ofn c0.1
          generalize hic : i.toNatClampNeg = b at hib hie
          subst hie
          refine wp_iload_n (j := 2) rfl q186_ok d186_19 ?_
          refine wp_iconst (v := 3) (by decide) q186_ok d186_20 ?_
          refine wp_icmp_ge q186_ok d186_21 (t := 37) rfl (fun h21 => ?_) (fun h21 => ?_)
          · refine wp_iload_n (j := 2) rfl q186_ok d186_37 ?_
            refine wp_iconst (v := 3) (by decide) q186_ok d186_38 ?_
            refine wp_icmp_ne q186_ok d186_39 (t := 51) rfl (fun h39 => ?_) (fun h39 => ?_)
            · refine wp_aload_n (j := 0) rfl q186_ok d186_51 ?_
              refine wp_getR q186_ok d186_52 fl_11_64 rfl (by first | assumption | exact so0 hsh rfl) (by first | assumption | exact hr _ _ _ rfl) ?_
              refine wp_iload_n (j := 1) rfl q186_ok d186_55 ?_
              refine wp_iald (m := 2) q186_ok d186_56 (by first | assumption | exact so0 hsh rfl) (shl hsh (m := 2) (Nat.le_of_ble_eq_true rfl) rfl) (ixn_nI (show b < 2 by omega)) (hA0.2 b (by omega)).2 ?_ (shK hsh)
              refine wp_iret q186_ok d186_57 rfl ?_
              exact mp_same h (by unfold bellQ; rw [if_pos c0, if_pos hW, if_neg (fun q => absurd (le2_lt q) (Int32.not_lt.mpr h21)), if_neg (show ¬ w = 3 from h39), hic])
            · have h39 := Classical.not_not.mp h39
              refine wp_aload_n (j := 0) rfl q186_ok d186_42 ?_
              refine wp_getR q186_ok d186_43 fl_11_61 rfl (by first | assumption | exact so0 hsh rfl) (by first | assumption | exact hr _ _ _ rfl) ?_
              refine wp_iload_n (j := 1) rfl q186_ok d186_46 ?_
              refine wp_iald (m := 2) q186_ok d186_47 (by first | assumption | exact so0 hsh rfl) (shl hsh (m := 2) (Nat.le_of_ble_eq_true rfl) rfl) (ixn_nI (show b < 2 by omega)) (hA0.2 b (by omega)).1 ?_ (shK hsh)
              refine wp_goto (t := 57) rfl q186_ok d186_48 ?_
              refine wp_iret q186_ok d186_57 rfl ?_
              exact mp_same h (by unfold bellQ; rw [if_pos c0, if_pos hW, if_neg (fun q => absurd (le2_lt q) (Int32.not_lt.mpr h21)), if_pos (show w = 3 from h39), hic])
          · have hix : ixn w w.toNatClampNeg 3 := ix_of (by decide) hW.1 (show w < 3 from Int32.not_le.mp h21)
            have hwe := nI_ofn hW.1
            have hw3 := hix.2.2
            generalize hwc : w.toNatClampNeg = j at hix hwe hw3
            subst hwe
            refine wp_aload_n (j := 0) rfl q186_ok d186_24 ?_
            refine wp_getR q186_ok d186_25 fl_11_55 rfl (by first | assumption | exact so0 hsh rfl) (by first | assumption | exact hr _ _ _ rfl) ?_
            refine wp_iconst (v := 3) (by decide) q186_ok d186_28 ?_
            refine wp_iload_n (j := 1) rfl q186_ok d186_29 ?_
            refine wp_imul rfl q186_ok d186_30 ?_
            refine wp_iload_n (j := 2) rfl q186_ok d186_31 ?_
            refine wp_iadd rfl q186_ok d186_32 ?_
            refine wp_iald (m := 6) q186_ok d186_33 (by first | assumption | exact so0 hsh rfl) (shl hsh (m := 6) (Nat.le_of_ble_eq_true rfl) rfl) (show ixn (3 * nI b + nI j) (3 * b + j) 6 from by rw [nI_3 b j]; exact ixn_nI (by omega)) (h.1.2.2.2.1 b hib j hw3) ?_ (shK hsh)
            refine wp_goto (t := 57) rfl q186_ok d186_34 ?_
            refine wp_iret q186_ok d186_57 rfl ?_
            exact mp_same h (by unfold bellQ; rw [if_pos c0, if_pos hW, if_pos (show nI j ≤ 2 from lt3_le (Int32.not_le.mp h21)), hic, hwc])
        · have h14 := Classical.not_not.mp h14
          exact absurd h14 (by decide)
      · rw [if_neg c1]
        refine wp_if_ne q186_ok d186_14 (t := 19) rfl (fun h14 => ?_) (fun h14 => ?_)
        · exact absurd rfl h14
        · have h14 := Classical.not_not.mp h14
          refine wp_iconst (v := -1) (by decide) q186_ok d186_17 ?_
          refine wp_iret q186_ok d186_18 rfl ?_
          exact mp_same h (by unfold bellQ; rw [if_pos c0, if_neg c1])
  · rw [if_neg c0]
    refine wp_if_eq q186_ok d186_5 (t := 17) rfl (fun h5 => ?_) (fun h5 => ?_)
    · refine wp_iconst (v := -1) (by decide) q186_ok d186_17 ?_
      refine wp_iret q186_ok d186_18 rfl ?_
      exact mp_same h (by unfold bellQ; rw [if_neg c0])
    · exact absurd rfl h5
theorem j_fog {xs : List Int32} {ext : mm_X} {n : Nat} {sh : mm_S} {d : mm_D} {g : mm_G} {r : mm_R} {S : wo_S} {m : Nat} (hsh : shp sh) (hr : rfx r) (ok : okS m S) (hm : m < 2 ^ 22) (h : repM d g S) (t : Int32) : wp xs ext (n + 3) 187 0 [some (.ref 250), some (.int t)] [] (sh, d, g, r) (mpost sh d g r (S) (some (.int (fogQ S t)))) := by
  have hR := MR_rep ok.1 h
  have hA0 := h.2.2.1.1
  have hnp : tnp (sT S) ≤ 6 := ok.1.1
  have hnb : tnb (sT S) ≤ 2 := ok.1.2.1
  refine wp_aload_n (j := 0) rfl q187_ok d187_0 ?_
  refine wp_getI q187_ok d187_1 fl_11_265 rfl (by first | assumption | exact so0 hsh rfl) hR.2.2.2.1 ?_
  refine wp_if_eq q187_ok d187_4 (t := 11) rfl (fun h4 => ?_) (fun h4 => ?_)
  · refine wp_iconst (v := -1) (by decide) q187_ok d187_11 ?_
    refine wp_goto (t := 28) rfl q187_ok d187_12 ?_
    refine wp_iret q187_ok d187_28 rfl ?_
    exact mp_same h (by unfold fogQ; rw [if_neg (show ¬ hasT (sT S) from fun q => q (nI0 hnp h4))])
  · refine wp_iload_n (j := 1) rfl q187_ok d187_7 ?_
    refine wp_if_ge q187_ok d187_8 (t := 15) rfl (fun h8 => ?_) (fun h8 => ?_)
    · refine wp_aload_n (j := 0) rfl q187_ok d187_15 ?_
      refine wp_iload_n (j := 1) rfl q187_ok d187_16 ?_
      refine wp_cV q187_ok d187_17 ml_11_311 rfl q181_ok (u := 11) rfl (by first | assumption | exact so0 hsh rfl) rfl (Nat.le_of_ble_eq_true rfl) (Nat.le_of_ble_eq_true rfl) (m_foggy (n := n) hsh hr hR t) (fun v17 μ17 hc => ?_)
      obtain ⟨rfl, rfl⟩ := hc
      refine ⟨mm_le_same rfl, ?_⟩
      refine wp_if_eq q187_ok d187_20 (t := 27) rfl (fun h20 => ?_) (fun h20 => ?_)
      · refine wp_iconst (v := 0) (by decide) q187_ok d187_27 ?_
        refine wp_iret q187_ok d187_28 rfl ?_
        exact mp_same h (by unfold fogQ; rw [if_pos (show hasT (sT S) from fun q => h4 (by rw [q]; rfl)), if_pos h8, if_pos h20])
      · refine wp_iconst (v := 1) (by decide) q187_ok d187_23 ?_
        refine wp_goto (t := 28) rfl q187_ok d187_24 ?_
        refine wp_iret q187_ok d187_28 rfl ?_
        exact mp_same h (by unfold fogQ; rw [if_pos (show hasT (sT S) from fun q => h4 (by rw [q]; rfl)), if_pos h8, if_neg h20])
    · refine wp_iconst (v := -1) (by decide) q187_ok d187_11 ?_
      refine wp_goto (t := 28) rfl q187_ok d187_12 ?_
      refine wp_iret q187_ok d187_28 rfl ?_
      exact mp_same h (by unfold fogQ; rw [if_pos (show hasT (sT S) from fun q => h4 (by rw [q]; rfl)), if_neg h8])
theorem j_risk {xs : List Int32} {ext : mm_X} {n : Nat} {sh : mm_S} {d : mm_D} {g : mm_G} {r : mm_R} {S : wo_S} {m : Nat} (hsh : shp sh) (hr : rfx r) (ok : okS m S) (hm : m < 2 ^ 22) (h : repM d g S) (v : Int32) : wp xs ext (n + 1) 189 0 [some (.ref 250), some (.int v)] [] (sh, d, g, r) (mpost sh d g r (if 0 ≤ v ∧ v ≤ 100 then sRisk S v else S) (some (.int (if 0 ≤ v ∧ v ≤ 100 then 1 else 0)))) := by
  have hR := MR_rep ok.1 h
  have hA0 := h.2.2.1.1
  have hnp : tnp (sT S) ≤ 6 := ok.1.1
  have hnb : tnb (sT S) ≤ 2 := ok.1.2.1
  refine wp_iload_n (j := 1) rfl q189_ok d189_0 ?_
  refine wp_iconst (v := 0) (by decide) q189_ok d189_1 ?_
  refine wp_bipush (v := 100) (by decide) q189_ok d189_2 ?_
  refine wp_cS q189_ok d189_4 ml_11_218 rfl q133_ok rfl rfl rfl (Nat.le_of_ble_eq_true rfl) (Nat.le_of_ble_eq_true rfl) (m_in _ _ _) (fun v4 μ4 hc => ?_)
  obtain ⟨rfl, rfl⟩ := hc
  refine ⟨mm_le_same rfl, ?_⟩
  by_cases c0 : 0 ≤ v ∧ v ≤ 100
  · rw [if_pos c0]
    refine wp_if_ne q189_ok d189_7 (t := 12) rfl (fun h7 => ?_) (fun h7 => ?_)
    · rw [if_pos c0]
      refine wp_aload_n (j := 0) rfl q189_ok d189_12 ?_
      refine wp_iload_n (j := 1) rfl q189_ok d189_13 ?_
      refine wp_putI q189_ok d189_14 fl_11_330 rfl (by first | assumption | exact so0 hsh rfl) (Or.inl rfl) ?_
      refine wp_iconst (v := 1) (by decide) q189_ok d189_17 ?_
      refine wp_zret q189_ok d189_18 rfl (by first | assumption | exact Or.inl rfl | exact Or.inr rfl) ?_
      obtain ⟨a1, a2, a3, a4, a5, a6, a7, a8, a9⟩ := h
      have er : ∀ c, c ≠ 250 → mm_up d 250 33 v c = d c := fun c hc => mm_up_ne hc
      have ej : ∀ j, j ≠ 33 → mm_up d 250 33 v 250 j = d 250 j := fun j hj => (mm_up_at j).trans (if_neg hj)
      exact ⟨rfl, _, _, rfl, ⟨rpWM_x a1 (fun c _ _ => er c (by omega)) (fun j _ _ => ej j (by omega)), rpHM_x a2 (fun c _ _ => er c (by omega)) (ej 13 (by decide)), nowM_x a3 (fun c _ _ => er c (by omega)) rfl rfl (ej 42 (by decide)) (ej 32 (by decide)), (mm_up_at 33).trans (if_pos rfl), tapM_x a5 (er 251 (by decide)) (ej 2 (by decide)), imgM_x a6 (er 280 (by decide)) rfl (ej 52 (by decide)) (ej 54 (by decide)), ntM_x a7 (er 276 (by decide)) (er 277 (by decide)) (ej 48 (by decide)), (ej 35 (by decide)).trans a8, (ej 36 (by decide)).trans a9⟩, fun c hc => ⟨er c (by omega), rfl⟩⟩
    · have h7 := Classical.not_not.mp h7
      exact absurd h7 (by decide)
  · rw [if_neg c0]
    refine wp_if_ne q189_ok d189_7 (t := 12) rfl (fun h7 => ?_) (fun h7 => ?_)
    · exact absurd rfl h7
    · have h7 := Classical.not_not.mp h7
      refine wp_iconst (v := 0) (by decide) q189_ok d189_10 ?_
      refine wp_zret q189_ok d189_11 rfl (by first | assumption | exact Or.inl rfl | exact Or.inr rfl) ?_
      rw [if_neg c0]
      exact mp_same h rfl
theorem j_seed {xs : List Int32} {ext : mm_X} {n : Nat} {sh : mm_S} {d : mm_D} {g : mm_G} {r : mm_R} {S : wo_S} {m : Nat} (hsh : shp sh) (hr : rfx r) (ok : okS m S) (hm : m < 2 ^ 22) (h : repM d g S) (w : Int64) : wp xs ext (n + 0) 190 0 [some (.ref 250), some (.long w), none] [] (sh, d, g, r) (mpost sh d g r (sNow S ((sX S).1, w, (sX S).2.2)) (some (.int 1))) := by
  refine wp_aload_n (j := 0) rfl q190_ok d190_0 ?_
  refine wp_lload_n (j := 1) rfl q190_ok d190_1 ?_
  refine wp_putJ q190_ok d190_2 fl_11_333 rfl (by first | assumption | exact so0 hsh rfl) (Or.inl rfl) ?_
  refine wp_iconst (v := 1) (by decide) q190_ok d190_5 ?_
  refine wp_zret q190_ok d190_6 rfl (by first | assumption | exact Or.inl rfl | exact Or.inr rfl) ?_
  have hx := h.2.2.1
  refine ⟨rfl, _, _, rfl, repM_now h (fun _ _ _ _ _ _ => rfl) (fun _ _ _ _ _ => rfl) ((mm_up_at 53).trans (if_neg (by decide))) ⟨hx.1, (mm_up_at 34).trans (if_pos rfl), pstM_x hx.2.2 rfl rfl (mm_up_ne (by decide)) rfl⟩, fun c hc => ⟨rfl, mm_up_ne (by omega)⟩⟩
theorem repM_tap {d d2 : mm_D} {g : mm_G} {S : wo_S} {L : wo_P} (h : repM d g S) (hd : ∀ c, c ≠ 251 → c ≠ 250 → d2 c = d c) (hj : ∀ j, j ≠ 2 → d2 250 j = d 250 j) (hL : tapM d2 L) : repM d2 g (sTap S L) := by
  obtain ⟨a1, a2, a3, a4, a5, a6, a7, a8, a9⟩ := h
  exact ⟨rpWM_x a1 (fun c _ _ => hd c (by omega) (by omega)) (fun j _ _ => hj j (by omega)), rpHM_x a2 (fun c _ _ => hd c (by omega) (by omega)) (hj 13 (by decide)), nowM_x a3 (fun c _ _ => hd c (by omega) (by omega)) rfl rfl (hj 42 (by decide)) (hj 32 (by decide)), (hj 33 (by decide)).trans a4, hL, imgM_x a6 (hd 280 (by decide) (by decide)) rfl (hj 52 (by decide)) (hj 54 (by decide)), ntM_x a7 (hd 276 (by decide) (by decide)) (hd 277 (by decide) (by decide)) (hj 48 (by decide)), (hj 35 (by decide)).trans a8, (hj 36 (by decide)).trans a9⟩
theorem j_end {xs : List Int32} {ext : mm_X} {n : Nat} {sh : mm_S} {d : mm_D} {g : mm_G} {r : mm_R} {S : wo_S} {m : Nat} (hsh : shp sh) (hr : rfx r) (ok : okS m S) (hm : m < 2 ^ 22) (h : repM d g S) (n1 : Int32) : wp xs ext (n + 0) 139 0 [some (.ref 250), some (.int n1)] [] (sh, d, g, r) (mpost sh d g r (endS S n1) (some (.int (if endT S n1 then 1 else 0)))) := by
  have hR := MR_rep ok.1 h
  have hA0 := h.2.2.1.1
  have hnp : tnp (sT S) ≤ 6 := ok.1.1
  have hnb : tnb (sT S) ≤ 2 := ok.1.2.1
  refine wp_iload_n (j := 1) rfl q139_ok d139_0 ?_
  refine wp_if_lt q139_ok d139_1 (t := 12) rfl (fun h1 => ?_) (fun h1 => ?_)
  · refine wp_iconst (v := 0) (by decide) q139_ok d139_12 ?_
    refine wp_zret q139_ok d139_13 rfl (by first | assumption | exact Or.inl rfl | exact Or.inr rfl) ?_
    have hc : ¬ endT S n1 := fun q => absurd q.1 (Int32.not_le.mpr h1)
    unfold endS
    rw [if_neg hc, if_neg hc]
    exact mp_same h rfl
  · refine wp_iload_n (j := 1) rfl q139_ok d139_4 ?_
    refine wp_aload_n (j := 0) rfl q139_ok d139_5 ?_
    refine wp_getI q139_ok d139_6 fl_11_110 rfl (by first | assumption | exact so0 hsh rfl) h.2.2.2.2.1.1 ?_
    refine wp_icmp_le q139_ok d139_9 (t := 14) rfl (fun h9 => ?_) (fun h9 => ?_)
    · refine wp_aload_n (j := 0) rfl q139_ok d139_14 ?_
      refine wp_iload_n (j := 1) rfl q139_ok d139_15 ?_
      refine wp_putI q139_ok d139_16 fl_11_110 rfl (by first | assumption | exact so0 hsh rfl) (Or.inl rfl) ?_
      refine wp_iconst (v := 1) (by decide) q139_ok d139_19 ?_
      refine wp_zret q139_ok d139_20 rfl (by first | assumption | exact Or.inl rfl | exact Or.inr rfl) ?_
      have hc : endT S n1 := ⟨Int32.not_lt.mp h1, h9⟩
      unfold endS
      rw [if_pos hc, if_pos hc]
      have ht := h.2.2.2.2.1
      have hie := nI_ofn hc.1
      have hl : n1.toNatClampNeg < 2 ^ 31 := by
        have := Int32.toInt_lt n1
        unfold Int32.toNatClampNeg
        omega
      have hc2 := hc.2
      generalize n1.toNatClampNeg = e at hie hl
      subst hie
      have hle : e ≤ (sP S).1 := (nI_leI hl (by have := ht.2.1; omega)).mp hc2
      have er : ∀ c, c ≠ 250 → mm_up d 250 2 (nI e) c = d c := fun c hc => mm_up_ne hc
      have ej : ∀ j, j ≠ 2 → mm_up d 250 2 (nI e) 250 j = d 250 j := fun j hj => (mm_up_at j).trans (if_neg hj)
      have hL : tapM (mm_up d 250 2 (nI e)) (e, (sP S).2) := ⟨(mm_up_at 2).trans (if_pos rfl), Nat.le_trans hle ht.2.1, fun i hi => by rw [er 251 (by decide)]; exact ht.2.2 i (Nat.lt_of_lt_of_le hi hle)⟩
      exact ⟨rfl, _, _, rfl, repM_tap h (fun c _ h2 => er c (by omega)) ej hL, fun c hc => ⟨er c (by omega), rfl⟩⟩
    · refine wp_iconst (v := 0) (by decide) q139_ok d139_12 ?_
      refine wp_zret q139_ok d139_13 rfl (by first | assumption | exact Or.inl rfl | exact Or.inr rfl) ?_
      have hc : ¬ endT S n1 := fun q => h9 q.2
      unfold endS
      rw [if_neg hc, if_neg hc]
      exact mp_same h rfl
theorem j_count {xs : List Int32} {ext : mm_X} {n : Nat} {sh : mm_S} {d : mm_D} {g : mm_G} {r : mm_R} {S : wo_S} {m : Nat} (hsh : shp sh) (hr : rfx r) (ok : okS m S) (hm : m < 2 ^ 22) (h : repM d g S) (w : Int32) : wp xs ext (n + 0) 224 0 [some (.ref 250), some (.int w)] [] (sh, d, g, r) (mpost sh d g r (S) (some (.int (countQ S w)))) := by
  have hR := MR_rep ok.1 h
  have hA0 := h.2.2.1.1
  have hnp : tnp (sT S) ≤ 6 := ok.1.1
  have hnb : tnb (sT S) ≤ 2 := ok.1.2.1
  refine wp_iload_n (j := 1) rfl q224_ok d224_0 ?_
  by_cases e0 : w = 0
  · refine wp_swI q224_ok d224_1 (by rw [e0]; decide) (by rw [e0]; rfl) (t := 48) rfl ?_
    refine wp_aload_n (j := 0) rfl q224_ok d224_48 ?_
    refine wp_getI q224_ok d224_49 fl_11_265 rfl (by first | assumption | exact so0 hsh rfl) h.1.1 ?_
    refine wp_iret q224_ok d224_52 rfl ?_
    exact mp_same h (by unfold countQ; rw [if_pos e0])
  by_cases e1 : w = 1
  · refine wp_swI q224_ok d224_1 (by rw [e1]; decide) (by rw [e1]; rfl) (t := 53) rfl ?_
    refine wp_aload_n (j := 0) rfl q224_ok d224_53 ?_
    refine wp_getI q224_ok d224_54 fl_11_268 rfl (by first | assumption | exact so0 hsh rfl) h.1.2.1 ?_
    refine wp_iret q224_ok d224_57 rfl ?_
    exact mp_same h (by unfold countQ; rw [if_neg e0, if_pos e1])
  by_cases e2 : w = 2
  · refine wp_swI q224_ok d224_1 (by rw [e2]; decide) (by rw [e2]; rfl) (t := 58) rfl ?_
    refine wp_aload_n (j := 0) rfl q224_ok d224_58 ?_
    refine wp_getI q224_ok d224_59 fl_11_289 rfl (by first | assumption | exact so0 hsh rfl) h.2.1.1 ?_
    refine wp_iret q224_ok d224_62 rfl ?_
    exact mp_same h (by unfold countQ; rw [if_neg e0, if_neg e1, if_pos e2])
  by_cases e3 : w = 3
  · refine wp_swI q224_ok d224_1 (by rw [e3]; decide) (by rw [e3]; rfl) (t := 63) rfl ?_
    refine wp_aload_n (j := 0) rfl q224_ok d224_63 ?_
    refine wp_getI q224_ok d224_64 fl_11_110 rfl (by first | assumption | exact so0 hsh rfl) h.2.2.2.2.1.1 ?_
    refine wp_iret q224_ok d224_67 rfl ?_
    exact mp_same h (by unfold countQ; rw [if_neg e0, if_neg e1, if_neg e2, if_pos e3])
  by_cases e4 : w = 4
  · refine wp_swI q224_ok d224_1 (by rw [e4]; decide) (by rw [e4]; rfl) (t := 68) rfl ?_
    refine wp_aload_n (j := 0) rfl q224_ok d224_68 ?_
    refine wp_getI q224_ok d224_69 fl_11_274 rfl (by first | assumption | exact so0 hsh rfl) hA0.1 ?_
    refine wp_iret q224_ok d224_72 rfl ?_
    exact mp_same h (by unfold countQ; rw [if_neg e0, if_neg e1, if_neg e2, if_neg e3, if_pos e4])
  by_cases e5 : w = 5
  · refine wp_swI q224_ok d224_1 (by rw [e5]; decide) (by rw [e5]; rfl) (t := 73) rfl ?_
    refine wp_aload_n (j := 0) rfl q224_ok d224_73 ?_
    refine wp_getI q224_ok d224_74 fl_11_265 rfl (by first | assumption | exact so0 hsh rfl) hR.2.2.2.1 ?_
    refine wp_if_ne q224_ok d224_77 (t := 84) rfl (fun h77 => ?_) (fun h77 => ?_)
    · refine wp_aload_n (j := 0) rfl q224_ok d224_84 ?_
      refine wp_getZ q224_ok d224_85 fl_11_271 rfl (by first | assumption | exact so0 hsh rfl) h.1.2.2.2.2.1 ?_
      refine wp_if_eq q224_ok d224_88 (t := 100) rfl (fun h88 => ?_) (fun h88 => ?_)
      · refine wp_iconst (v := -1) (by decide) q224_ok d224_100 ?_
        refine wp_iret q224_ok d224_101 rfl ?_
        have hw : ¬ wfg (sW S) = true := fun q => by rw [if_pos q] at h88; exact absurd h88 (by decide)
        exact mp_same h (by unfold countQ; rw [if_neg e0, if_neg e1, if_neg e2, if_neg e3, if_neg e4, if_pos e5, if_pos (show hasT (sT S) from fun q => h77 (by rw [q]; rfl)), show tvw (sT S) = -1 from if_neg hw])
      · have hw : wfg (sW S) = true := by by_cases q : wfg (sW S) = true; exact q; rw [if_neg q] at h88; exact absurd rfl h88
        refine wp_aload_n (j := 0) rfl q224_ok d224_91 ?_
        refine wp_getR q224_ok d224_92 fl_11_52 rfl (by first | assumption | exact so0 hsh rfl) (by first | assumption | exact hr _ _ _ rfl) ?_
        refine wp_iconst (v := 3) (by decide) q224_ok d224_95 ?_
        refine wp_iald (m := 4) q224_ok d224_96 (by first | assumption | exact so0 hsh rfl) (shl hsh (m := 4) (Nat.le_of_ble_eq_true rfl) rfl) (ixn_nI (j := 3) (by decide)) (h.1.2.2.2.2.2.1 hw 3 (by decide)) ?_ (shK hsh)
        refine wp_goto (t := 101) rfl q224_ok d224_97 ?_
        refine wp_iret q224_ok d224_101 rfl ?_
        exact mp_same h (by unfold countQ; rw [if_neg e0, if_neg e1, if_neg e2, if_neg e3, if_neg e4, if_pos e5, if_pos (show hasT (sT S) from fun q => h77 (by rw [q]; rfl)), show tvw (sT S) = wvl (sW S) 3 from if_pos hw])
    · have h77 := Classical.not_not.mp h77
      refine wp_iconst (v := 0) (by decide) q224_ok d224_80 ?_
      refine wp_goto (t := 101) rfl q224_ok d224_81 ?_
      refine wp_iret q224_ok d224_101 rfl ?_
      exact mp_same h (by unfold countQ; rw [if_neg e0, if_neg e1, if_neg e2, if_neg e3, if_neg e4, if_pos e5, if_neg (show ¬ hasT (sT S) from fun q => q (nI0 hnp h77))])
  by_cases e6 : w = 6
  · refine wp_swI q224_ok d224_1 (by rw [e6]; decide) (by rw [e6]; rfl) (t := 102) rfl ?_
    refine wp_aload_n (j := 0) rfl q224_ok d224_102 ?_
    refine wp_getI q224_ok d224_103 fl_11_280 rfl (by first | assumption | exact so0 hsh rfl) h.2.2.2.2.2.2.1.1 ?_
    refine wp_iret q224_ok d224_106 rfl ?_
    exact mp_same h (by unfold countQ; rw [if_neg e0, if_neg e1, if_neg e2, if_neg e3, if_neg e4, if_neg e5, if_pos e6])
  by_cases e7 : w = 7
  · refine wp_swI q224_ok d224_1 (by rw [e7]; decide) (by rw [e7]; rfl) (t := 107) rfl ?_
    refine wp_aload_n (j := 0) rfl q224_ok d224_107 ?_
    refine wp_getI q224_ok d224_108 fl_11_277 rfl (by first | assumption | exact so0 hsh rfl) h.2.2.1.2.2.1 ?_
    refine wp_iret q224_ok d224_111 rfl ?_
    exact mp_same h (by unfold countQ; rw [if_neg e0, if_neg e1, if_neg e2, if_neg e3, if_neg e4, if_neg e5, if_neg e6, if_pos e7])
  have hout : (w).toInt < 0 ∨ 7 < (w).toInt := by
    apply Classical.byContradiction
    intro hx
    have key : ∀ z : Int32, ¬ w = z → ¬ (w).toInt = z.toInt := fun z hz e => hz (Int32.toInt_inj.mp e)
    have k0 := key 0 e0
    rw [show (0 : Int32).toInt = 0 from by decide] at k0
    have k1 := key 1 e1
    rw [show (1 : Int32).toInt = 1 from by decide] at k1
    have k2 := key 2 e2
    rw [show (2 : Int32).toInt = 2 from by decide] at k2
    have k3 := key 3 e3
    rw [show (3 : Int32).toInt = 3 from by decide] at k3
    have k4 := key 4 e4
    rw [show (4 : Int32).toInt = 4 from by decide] at k4
    have k5 := key 5 e5
    rw [show (5 : Int32).toInt = 5 from by decide] at k5
    have k6 := key 6 e6
    rw [show (6 : Int32).toInt = 6 from by decide] at k6
    have k7 := key 7 e7
    rw [show (7 : Int32).toInt = 7 from by decide] at k7
    omega
  refine wp_swO q224_ok d224_1 hout (t := 112) rfl ?_
  refine wp_ldc_w kc_11_378 q224_ok d224_112 ?_
  refine wp_iret q224_ok d224_115 rfl ?_
  exact mp_same h (by unfold countQ; rw [if_neg e0, if_neg e1, if_neg e2, if_neg e3, if_neg e4, if_neg e5, if_neg e6, if_neg e7])
