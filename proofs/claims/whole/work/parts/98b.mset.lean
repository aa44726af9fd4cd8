/-! ===== set, person of the model ===== -/
theorem repM_row {d d2 : mm_D} {g : mm_G} {S : wo_S} {W : wo_W} (h : repM d g S) (hd : ∀ c, c ≠ 264 → c ≠ 267 → d2 c = d c) (hW : rpWM d2 W) : repM d2 g (sAt S W) := by
  obtain ⟨a1, a2, a3, a4, a5, a6, a7, a8, a9⟩ := h
  have e0 : d2 250 = d 250 := hd 250 (by decide) (by decide)
  have ej : ∀ j, d2 250 j = d 250 j := fun j => congrFun e0 j
  exact ⟨hW, rpHM_x a2 (fun c _ _ => hd c (by omega) (by omega)) (ej 13), nowM_x a3 (fun c _ _ => hd c (by omega) (by omega)) rfl rfl (ej 42) (ej 32), (ej 33).trans a4, tapM_x a5 (hd 251 (by decide) (by decide)) (ej 2), imgM_x a6 (hd 280 (by decide) (by decide)) rfl (ej 52) (ej 54), ntM_x a7 (hd 276 (by decide) (by decide)) (hd 277 (by decide) (by decide)) (ej 48), (ej 35).trans a8, (ej 36).trans a9⟩
theorem rpWM_hab {d : mm_D} {W : wo_W} (h : rpWM d W) (p : Nat) (v : Int32) : rpWM (mm_up d 267 p v) (habW W p v) := by
  obtain ⟨w1, w2, w3, w4, w5, w6, w7⟩ := h
  refine ⟨w1, w2, w3, w4, w5, w6, fun q hq => ?_⟩
  rw [mm_up_at]
  show _ = (if q = p then v else whb W q)
  by_cases e : q = p
  · rw [if_pos e, if_pos e]
  · rw [if_neg e, if_neg e]; exact w7 q hq
theorem rpWM_per {d : mm_D} {W : wo_W} (h : rpWM d W) {p j : Nat} (hj : j < 4) (v : Int32) : rpWM (mm_up d 264 (4 * p + j) v) (perW W p j v) := by
  obtain ⟨w1, w2, w3, w4, w5, w6, w7⟩ := h
  refine ⟨w1, w2, fun q hq i hi => ?_, w4, w5, w6, w7⟩
  rw [mm_up_at]
  show _ = (if q = p ∧ i = j then v else wper W q i)
  by_cases e : q = p ∧ i = j
  · rw [if_pos e, if_pos (by omega)]
  · rw [if_neg e, if_neg (by omega)]; exact w3 q hq i hi
theorem tab0_lo {j : Nat} (h : j < 3) : tabI 0 (4 * j + 1) = (if nI j = 2 then 1 else 0) ∧ tabI 0 (4 * j + 2) = (if nI j = 0 then 59 else 60) ∧ ¬ nI j = 3 := by
  have : ∀ j, j < 3 → tabI 0 (4 * j + 1) = (if nI j = 2 then 1 else 0) ∧ tabI 0 (4 * j + 2) = (if nI j = 0 then 59 else 60) ∧ ¬ nI j = 3 := by decide
  exact this j h
theorem w_03 {w : Int32} (h : 0 ≤ w ∧ w ≤ 3) (h3 : ¬ w = 3) : ∃ j, j < 3 ∧ w = nI j := by
  have hie := nI_ofn h.1
  have hl : w.toNatClampNeg < 2 ^ 31 := by
    have := Int32.toInt_lt w
    unfold Int32.toNatClampNeg
    omega
  generalize w.toNatClampNeg = j at hie hl
  subst hie
  have := (nI_leI hl (by decide)).mp (show nI j ≤ nI 3 from h.2)
  refine ⟨j, ?_, rfl⟩
  have : j ≠ 3 := fun e => h3 (by rw [e]; rfl)
  omega
theorem j_set {xs : List Int32} {ext : mm_X} {n : Nat} {sh : mm_S} {d : mm_D} {g : mm_G} {r : mm_R} {S : wo_S} {m : Nat} (hsh : shp sh) (hr : rfx r) (ok : okS m S) (hm : m < 2 ^ 22) (h : repM d g S) (i w v1 : Int32) : wp xs ext (n + 2) 188 0 [some (.ref 250), some (.int i), some (.int w), some (.int v1)] [] (sh, d, g, r) (mpost sh d g r (setS S i w v1) (some (.int (if setT S i w v1 then 1 else 0)))) := by
  have hR := MR_rep ok.1 h
  have hA0 := h.2.2.1.1
  have hnp : tnp (sT S) ≤ 6 := ok.1.1
  have hnb : tnb (sT S) ≤ 2 := ok.1.2.1
  refine wp_aload_n (j := 0) rfl q188_ok d188_0 ?_
  refine wp_iload_n (j := 1) rfl q188_ok d188_1 ?_
  refine wp_cV q188_ok d188_2 ml_11_324 rfl q177_ok (u := 11) rfl (by first | assumption | exact so0 hsh rfl) rfl (Nat.le_of_ble_eq_true rfl) (Nat.le_of_ble_eq_true rfl) (m_isPerson hsh hr _) (fun v2 μ2 hc => ?_)
  obtain ⟨rfl, rfl⟩ := hc
  refine ⟨mm_le_same rfl, ?_⟩
  rw [mper_v hR i]
  by_cases c0 : perT (sT S) i
  · rw [if_pos c0]
    have hip : i.toNatClampNeg < tnp (sT S) := per_lt c0 hnp
    have hie := nI_ofn c0.1
    have h46 : (sH S).1 ≤ 6 := by have := h.2.1.2.1; omega
    have hix : ixn i i.toNatClampNeg 6 := ⟨rfl, c0.1, by omega⟩
    generalize hic : i.toNatClampNeg = p at hip hie hix
    refine wp_if_eq q188_ok d188_5 (t := 59) rfl (fun h5 => ?_) (fun h5 => ?_)
    · exact absurd h5 (by decide)
    · refine wp_iload_n (j := 2) rfl q188_ok d188_8 ?_
      refine wp_iconst (v := 0) (by decide) q188_ok d188_9 ?_
      refine wp_iconst (v := 3) (by decide) q188_ok d188_10 ?_
      refine wp_cS q188_ok d188_11 ml_11_218 rfl q133_ok rfl rfl rfl (Nat.le_of_ble_eq_true rfl) (Nat.le_of_ble_eq_true rfl) (m_in _ _ _) (fun v11 μ11 hc => ?_)
      obtain ⟨rfl, rfl⟩ := hc
      refine ⟨mm_le_same rfl, ?_⟩
      by_cases c1 : 0 ≤ w ∧ w ≤ 3
      · rw [if_pos c1]
        refine wp_if_eq q188_ok d188_14 (t := 59) rfl (fun h14 => ?_) (fun h14 => ?_)
        · exact absurd h14 (by decide)
        · by_cases cw : w = 3
          · skip
            refine wp_iload_n (j := 3) rfl q188_ok d188_17 ?_
            refine wp_iload_n (j := 2) rfl q188_ok d188_18 ?_
            refine wp_iconst (v := 3) (by decide) q188_ok d188_19 ?_
            refine wp_icmp_ne q188_ok d188_20 (t := 27) rfl (fun h20 => ?_) (fun h20 => ?_)
            · exact absurd cw h20
            · have h20 := Classical.not_not.mp h20
              refine wp_iconst (v := -1) (by decide) q188_ok d188_23 ?_
              refine wp_goto (t := 33) rfl q188_ok d188_24 ?_
              refine wp_iload_n (j := 2) rfl q188_ok d188_33 ?_
              refine wp_iconst (v := 3) (by decide) q188_ok d188_34 ?_
              refine wp_icmp_ne q188_ok d188_35 (t := 47) rfl (fun h35 => ?_) (fun h35 => ?_)
              · exact absurd cw h35
              · have h35 := Classical.not_not.mp h35
                refine wp_aload_n (j := 0) rfl q188_ok d188_38 ?_
                refine wp_getI q188_ok d188_39 fl_11_289 rfl (by first | assumption | exact so0 hsh rfl) h.2.1.1 ?_
                refine wp_iconst (v := 1) (by decide) q188_ok d188_42 ?_
                refine wp_isub rfl q188_ok d188_43 ?_
                refine wp_goto (t := 53) rfl q188_ok d188_44 ?_
                refine wp_cS q188_ok d188_53 ml_11_218 rfl q133_ok rfl rfl rfl (Nat.le_of_ble_eq_true rfl) (Nat.le_of_ble_eq_true rfl) (m_in _ _ _) (fun v53 μ53 hc => ?_)
                obtain ⟨rfl, rfl⟩ := hc
                refine ⟨mm_le_same rfl, ?_⟩
                by_cases c2 : -1 ≤ v1 ∧ v1 ≤ nI (sH S).1 - 1
                · rw [if_pos c2]
                  refine wp_if_ne q188_ok d188_56 (t := 61) rfl (fun h56 => ?_) (fun h56 => ?_)
                  · refine wp_iload_n (j := 2) rfl q188_ok d188_61 ?_
                    refine wp_iconst (v := 3) (by decide) q188_ok d188_62 ?_
                    refine wp_icmp_ne q188_ok d188_63 (t := 76) rfl (fun h63 => ?_) (fun h63 => ?_)
                    · exact absurd cw h63
                    · have h63 := Classical.not_not.mp h63
                      refine wp_aload_n (j := 0) rfl q188_ok d188_66 ?_
                      refine wp_getR q188_ok d188_67 fl_11_58 rfl (by first | assumption | exact so0 hsh rfl) (by first | assumption | exact hr _ _ _ rfl) ?_
                      refine wp_iload_n (j := 1) rfl q188_ok d188_70 ?_
                      refine wp_iload_n (j := 3) rfl q188_ok d188_71 ?_
                      refine wp_iast (m := 6) q188_ok d188_72 (by first | assumption | exact so0 hsh rfl) (shl hsh (m := 6) (Nat.le_of_ble_eq_true rfl) rfl) hix ?_
                      refine wp_goto (t := 87) rfl q188_ok d188_73 ?_
                      refine wp_iconst (v := 1) (by decide) q188_ok d188_87 ?_
                      refine wp_zret q188_ok d188_88 rfl (by first | assumption | exact Or.inl rfl | exact Or.inr rfl) ?_
                      have hV : setV S w v1 := by
                        show if w = 3 then _ else _
                        rw [if_pos cw]
                        exact ⟨c2.1, (le_sub1 h46).mp c2.2⟩
                      have hT : setT S i w v1 := ⟨c0, c1, hV⟩
                      unfold setS
                      rw [if_pos hT, if_pos hT, if_pos cw, hic]
                      exact ⟨rfl, _, g, rfl, repM_row h (fun c _ h7 => mm_up_ne h7) (rpWM_hab h.1 p v1), fun c hc => ⟨mm_up_ne (by omega), rfl⟩⟩
                  · have h56 := Classical.not_not.mp h56
                    exact absurd h56 (by decide)
                · rw [if_neg c2]
                  refine wp_if_ne q188_ok d188_56 (t := 61) rfl (fun h56 => ?_) (fun h56 => ?_)
                  · exact absurd rfl h56
                  · have h56 := Classical.not_not.mp h56
                    refine wp_iconst (v := 0) (by decide) q188_ok d188_59 ?_
                    refine wp_zret q188_ok d188_60 rfl (by first | assumption | exact Or.inl rfl | exact Or.inr rfl) ?_
                    have hT : ¬ setT S i w v1 := fun q => c2 (by
                      have q2 : setV S w v1 := q.2.2
                      have q2 : if w = 3 then (-1 ≤ v1 ∧ v1 < nI (sH S).1) else _ := q2
                      rw [if_pos cw] at q2
                      exact ⟨q2.1, (le_sub1 h46).mpr q2.2⟩)
                    unfold setS
                    rw [if_neg hT, if_neg hT]
                    exact mp_same h rfl
          · obtain ⟨j, hj3, rfl⟩ := w_03 c1 cw
            obtain ⟨t1, t2, _⟩ := tab0_lo hj3
            refine wp_iload_n (j := 3) rfl q188_ok d188_17 ?_
            refine wp_iload_n (j := 2) rfl q188_ok d188_18 ?_
            refine wp_iconst (v := 3) (by decide) q188_ok d188_19 ?_
            refine wp_icmp_ne q188_ok d188_20 (t := 27) rfl (fun h20 => ?_) (fun h20 => ?_)
            · refine wp_bipush (v := 112) (by decide) q188_ok d188_27 ?_
              refine wp_iload_n (j := 2) rfl q188_ok d188_29 ?_
              refine wp_cS q188_ok d188_30 ml_11_233 rfl q168_ok rfl rfl rfl (Nat.le_of_ble_eq_true rfl) (Nat.le_of_ble_eq_true rfl) (m_lowest (k := 0) (j := j) (by decide) (show j < 4 by omega)) (fun v30 μ30 hc => ?_)
              obtain ⟨rfl, rfl⟩ := hc
              refine ⟨mm_le_same rfl, ?_⟩
              refine wp_iload_n (j := 2) rfl q188_ok d188_33 ?_
              refine wp_iconst (v := 3) (by decide) q188_ok d188_34 ?_
              refine wp_icmp_ne q188_ok d188_35 (t := 47) rfl (fun h35 => ?_) (fun h35 => ?_)
              · refine wp_bipush (v := 112) (by decide) q188_ok d188_47 ?_
                refine wp_iload_n (j := 2) rfl q188_ok d188_49 ?_
                refine wp_cS q188_ok d188_50 ml_11_236 rfl q169_ok rfl rfl rfl (Nat.le_of_ble_eq_true rfl) (Nat.le_of_ble_eq_true rfl) (m_highest (k := 0) (j := j) (by decide) (show j < 4 by omega)) (fun v50 μ50 hc => ?_)
                obtain ⟨rfl, rfl⟩ := hc
                refine ⟨mm_le_same rfl, ?_⟩
                refine wp_cS q188_ok d188_53 ml_11_218 rfl q133_ok rfl rfl rfl (Nat.le_of_ble_eq_true rfl) (Nat.le_of_ble_eq_true rfl) (m_in _ _ _) (fun v53 μ53 hc => ?_)
                obtain ⟨rfl, rfl⟩ := hc
                refine ⟨mm_le_same rfl, ?_⟩
                by_cases c2 : tabI 0 (4 * j + 1) ≤ v1 ∧ v1 ≤ tabI 0 (4 * j + 2)
                · rw [if_pos c2]
                  refine wp_if_ne q188_ok d188_56 (t := 61) rfl (fun h56 => ?_) (fun h56 => ?_)
                  · refine wp_iload_n (j := 2) rfl q188_ok d188_61 ?_
                    refine wp_iconst (v := 3) (by decide) q188_ok d188_62 ?_
                    refine wp_icmp_ne q188_ok d188_63 (t := 76) rfl (fun h63 => ?_) (fun h63 => ?_)
                    · refine wp_aload_n (j := 0) rfl q188_ok d188_76 ?_
                      refine wp_getR q188_ok d188_77 fl_11_49 rfl (by first | assumption | exact so0 hsh rfl) (by first | assumption | exact hr _ _ _ rfl) ?_
                      refine wp_iconst (v := 4) (by decide) q188_ok d188_80 ?_
                      refine wp_iload_n (j := 1) rfl q188_ok d188_81 ?_
                      refine wp_imul (show (4 : Int32) * i = 4 * nI p from by rw [hie]) q188_ok d188_82 ?_
                      refine wp_iload_n (j := 2) rfl q188_ok d188_83 ?_
                      refine wp_iadd (nI_4 p j) q188_ok d188_84 ?_
                      refine wp_iload_n (j := 3) rfl q188_ok d188_85 ?_
                      refine wp_iast (m := 24) q188_ok d188_86 (by first | assumption | exact so0 hsh rfl) (shl hsh (m := 24) (Nat.le_of_ble_eq_true rfl) rfl) (ixn_nI (show 4 * p + j < 24 by omega)) ?_
                      refine wp_iconst (v := 1) (by decide) q188_ok d188_87 ?_
                      refine wp_zret q188_ok d188_88 rfl (by first | assumption | exact Or.inl rfl | exact Or.inr rfl) ?_
                      have hV : setV S (nI j) v1 := by
                        show if nI j = 3 then _ else _
                        rw [if_neg cw]
                        rw [t1, t2] at c2
                        exact c2
                      have hT : setT S i (nI j) v1 := ⟨c0, c1, hV⟩
                      unfold setS
                      rw [if_pos hT, if_pos hT, if_neg cw, hic, nI_clamp (show j < 2 ^ 31 by omega)]
                      exact ⟨rfl, _, g, rfl, repM_row h (fun c h4 _ => mm_up_ne h4) (rpWM_per h.1 (by omega) v1), fun c hc => ⟨mm_up_ne (by omega), rfl⟩⟩
                    · have h63 := Classical.not_not.mp h63
                      exact absurd h63 cw
                  · have h56 := Classical.not_not.mp h56
                    exact absurd h56 (by decide)
                · rw [if_neg c2]
                  refine wp_if_ne q188_ok d188_56 (t := 61) rfl (fun h56 => ?_) (fun h56 => ?_)
                  · exact absurd rfl h56
                  · have h56 := Classical.not_not.mp h56
                    refine wp_iconst (v := 0) (by decide) q188_ok d188_59 ?_
                    refine wp_zret q188_ok d188_60 rfl (by first | assumption | exact Or.inl rfl | exact Or.inr rfl) ?_
                    have hT : ¬ setT S i (nI j) v1 := fun q => c2 (by
                      have q2 : setV S (nI j) v1 := q.2.2
                      have q2 : if nI j = 3 then (-1 ≤ v1 ∧ v1 < nI (sH S).1) else _ := q2
                      rw [if_neg cw] at q2
                      rw [t1, t2]
                      exact q2)
                    unfold setS
                    rw [if_neg hT, if_neg hT]
                    exact mp_same h rfl
              · have h35 := Classical.not_not.mp h35
                exact absurd h35 cw
            · have h20 := Classical.not_not.mp h20
              exact absurd h20 cw
      · rw [if_neg c1]
        refine wp_if_eq q188_ok d188_14 (t := 59) rfl (fun h14 => ?_) (fun h14 => ?_)
        · refine wp_iconst (v := 0) (by decide) q188_ok d188_59 ?_
          refine wp_zret q188_ok d188_60 rfl (by first | assumption | exact Or.inl rfl | exact Or.inr rfl) ?_
          have hT : ¬ setT S i w v1 := fun q => c1 q.2.1
          unfold setS
          rw [if_neg hT, if_neg hT]
          exact mp_same h rfl
        · exact absurd rfl h14
  · rw [if_neg c0]
    refine wp_if_eq q188_ok d188_5 (t := 59) rfl (fun h5 => ?_) (fun h5 => ?_)
    · refine wp_iconst (v := 0) (by decide) q188_ok d188_59 ?_
      refine wp_zret q188_ok d188_60 rfl (by first | assumption | exact Or.inl rfl | exact Or.inr rfl) ?_
      have hT : ¬ setT S i w v1 := fun q => c0 q.1
      unfold setS
      rw [if_neg hT, if_neg hT]
      exact mp_same h rfl
    · exact absurd rfl h5
theorem repM_thr {d : mm_D} {g : mm_G} {S : wo_S} (h : repM d g S) (v : Int32) : repM (mm_up d 250 0 v) g S := by
  obtain ⟨a1, a2, a3, a4, a5, a6, a7, a8, a9⟩ := h
  have e : ∀ c, c ≠ 250 → mm_up d 250 0 v c = d c := fun c hc => mm_up_ne hc
  have ej : ∀ j, j ≠ 0 → mm_up d 250 0 v 250 j = d 250 j := fun j hj => (mm_up_at j).trans (if_neg hj)
  exact ⟨rpWM_x a1 (fun c _ _ => e c (by omega)) (fun j _ _ => ej j (by omega)), rpHM_x a2 (fun c _ _ => e c (by omega)) (ej 13 (by decide)), nowM_x a3 (fun c _ _ => e c (by omega)) rfl rfl (ej 42 (by decide)) (ej 32 (by decide)), (ej 33 (by decide)).trans a4, tapM_x a5 (e 251 (by decide)) (ej 2 (by decide)), imgM_x a6 (e 280 (by decide)) rfl (ej 52 (by decide)) (ej 54 (by decide)), ntM_x a7 (e 276 (by decide)) (e 277 (by decide)) (ej 48 (by decide)), (ej 35 (by decide)).trans a8, (ej 36 (by decide)).trans a9⟩
/-- what person answers, and whether it throws -/
def ppost (sh : mm_S) (d : mm_D) (g : mm_G) (r : mm_R) (S : wo_S) (t : Int32) (v0 : Option Value) (v : Option Value) (μ : mm_M) : Prop := v = v0 ∧ ∃ d2, μ = (sh, d2, g, r) ∧ repM d2 g S ∧ frK d g d2 g ∧ d2 250 0 = t
theorem m_thrown {xs : List Int32} {ext : mm_X} {n : Nat} {sh : mm_S} {d : mm_D} {g : mm_G} {r : mm_R} (hsh : shp sh) (hr : rfx r) {t : Int32} (ht : d 250 0 = t) : wp xs ext (n + 0) 136 0 [some (.ref 250)] [] (sh, d, g, r) (fun v μ => v = some (.int t) ∧ μ = (sh, d, g, r)) := by
  refine wp_aload_n (j := 0) rfl q136_ok d136_0 ?_
  refine wp_getI q136_ok d136_1 fl_11_102 rfl (by first | assumption | exact so0 hsh rfl) ht ?_
  refine wp_iret q136_ok d136_4 rfl ?_
  exact ⟨rfl, rfl⟩
theorem j_person0 {xs : List Int32} {ext : mm_X} {n : Nat} {sh : mm_S} {d : mm_D} {g : mm_G} {r : mm_R} {S : wo_S} {m : Nat} (hsh : shp sh) (hr : rfx r) (ok : okS m S) (hm : m < 2 ^ 22) (h : repM d g S) (i w : Int32) (hn : ¬ (perT (sT S) i ∧ (0 ≤ w ∧ w ≤ 6))) : wp xs ext (n + 2) 185 0 [some (.ref 250), some (.int i), some (.int w)] [] (sh, d, g, r) (ppost sh d g r S 1 (some (.int 0))) := by
  have hR := MR_rep ok.1 h
  have hA0 := h.2.2.1.1
  have hnp : tnp (sT S) ≤ 6 := ok.1.1
  have hnb : tnb (sT S) ≤ 2 := ok.1.2.1
  have h1 : ∀ v, repM (mm_up d 250 0 v) g S := repM_thr h
  have frK_1 : ∀ v, frK d g (mm_up d 250 0 v) g := fun v c hc => ⟨mm_up_ne (by omega), rfl⟩
  refine wp_aload_n (j := 0) rfl q185_ok d185_0 ?_
  refine wp_aload_n (j := 0) rfl q185_ok d185_1 ?_
  refine wp_iload_n (j := 1) rfl q185_ok d185_2 ?_
  refine wp_cV q185_ok d185_3 ml_11_324 rfl q177_ok (u := 11) rfl (by first | assumption | exact so0 hsh rfl) rfl (Nat.le_of_ble_eq_true rfl) (Nat.le_of_ble_eq_true rfl) (m_isPerson hsh hr _) (fun v3 μ3 hc => ?_)
  obtain ⟨rfl, rfl⟩ := hc
  refine ⟨mm_le_same rfl, ?_⟩
  rw [mper_v hR i]
  by_cases c0 : perT (sT S) i
  · rw [if_pos c0]
    have c1 : ¬ (0 ≤ w ∧ w ≤ 6) := fun q => hn ⟨c0, q⟩
    refine wp_if_eq q185_ok d185_6 (t := 23) rfl (fun h6 => ?_) (fun h6 => ?_)
    · exact absurd h6 (by decide)
    · refine wp_iload_n (j := 2) rfl q185_ok d185_9 ?_
      refine wp_iconst (v := 0) (by decide) q185_ok d185_10 ?_
      refine wp_bipush (v := 6) (by decide) q185_ok d185_11 ?_
      refine wp_cS q185_ok d185_13 ml_11_218 rfl q133_ok rfl rfl rfl (Nat.le_of_ble_eq_true rfl) (Nat.le_of_ble_eq_true rfl) (m_in _ _ _) (fun v13 μ13 hc => ?_)
      obtain ⟨rfl, rfl⟩ := hc
      refine ⟨mm_le_same rfl, ?_⟩
      rw [if_neg c1]
      refine wp_if_eq q185_ok d185_16 (t := 23) rfl (fun h16 => ?_) (fun h16 => ?_)
      · refine wp_iconst (v := 1) (by decide) q185_ok d185_23 ?_
        refine wp_putI q185_ok d185_24 fl_11_102 rfl (by first | assumption | exact so0 hsh rfl) (Or.inl rfl) ?_
        refine wp_aload_n (j := 0) rfl q185_ok d185_27 ?_
        refine wp_getI q185_ok d185_28 fl_11_102 rfl (by first | assumption | exact so0 hsh rfl) ((mm_up_at 0).trans (if_pos rfl)) ?_
        refine wp_iconst (v := 1) (by decide) q185_ok d185_31 ?_
        refine wp_icmp_ne q185_ok d185_32 (t := 37) rfl (fun h32 => ?_) (fun h32 => ?_)
        · exact absurd rfl h32
        · have h32 := Classical.not_not.mp h32
          refine wp_iconst (v := 0) (by decide) q185_ok d185_35 ?_
          refine wp_iret q185_ok d185_36 rfl ?_
          exact ⟨rfl, _, rfl, h1 1, frK_1 1, (mm_up_at 0).trans (if_pos rfl)⟩
      · exact absurd rfl h16
  · rw [if_neg c0]
    refine wp_if_eq q185_ok d185_6 (t := 23) rfl (fun h6 => ?_) (fun h6 => ?_)
    · refine wp_iconst (v := 1) (by decide) q185_ok d185_23 ?_
      refine wp_putI q185_ok d185_24 fl_11_102 rfl (by first | assumption | exact so0 hsh rfl) (Or.inl rfl) ?_
      refine wp_aload_n (j := 0) rfl q185_ok d185_27 ?_
      refine wp_getI q185_ok d185_28 fl_11_102 rfl (by first | assumption | exact so0 hsh rfl) ((mm_up_at 0).trans (if_pos rfl)) ?_
      refine wp_iconst (v := 1) (by decide) q185_ok d185_31 ?_
      refine wp_icmp_ne q185_ok d185_32 (t := 37) rfl (fun h32 => ?_) (fun h32 => ?_)
      · exact absurd rfl h32
      · have h32 := Classical.not_not.mp h32
        refine wp_iconst (v := 0) (by decide) q185_ok d185_35 ?_
        refine wp_iret q185_ok d185_36 rfl ?_
        exact ⟨rfl, _, rfl, h1 1, frK_1 1, (mm_up_at 0).trans (if_pos rfl)⟩
    · exact absurd rfl h6
theorem lt4_le {w : Int32} (h : w < 4) : w ≤ 3 := by
  have a := Int32.lt_iff_toInt_lt.mp h
  rw [show (4 : Int32).toInt = 4 from by decide] at a
  exact Int32.le_iff_toInt_le.mpr (by rw [show (3 : Int32).toInt = 3 from by decide]; omega)
theorem j_person {xs : List Int32} {ext : mm_X} {n : Nat} {sh : mm_S} {d : mm_D} {g : mm_G} {r : mm_R} {S : wo_S} {m : Nat} (hsh : shp sh) (hr : rfx r) (ok : okS m S) (hm : m < 2 ^ 22) (h : repM d g S) (i w : Int32) (hB : perT (sT S) i) (hW : 0 ≤ w ∧ w ≤ 6) : wp xs ext (n + 7) 185 0 [some (.ref 250), some (.int i), some (.int w)] [] (sh, d, g, r) (ppost sh d g r S 0 (some (.int (personQ S i w)))) := by
  have hR := MR_rep ok.1 h
  have hA0 := h.2.2.1.1
  have hnp : tnp (sT S) ≤ 6 := ok.1.1
  have hnb : tnb (sT S) ≤ 2 := ok.1.2.1
  have h1 : ∀ v, repM (mm_up d 250 0 v) g S := repM_thr h
  have frK_1 : ∀ v, frK d g (mm_up d 250 0 v) g := fun v c hc => ⟨mm_up_ne (by omega), rfl⟩
  have hip : i.toNatClampNeg < tnp (sT S) := per_lt hB hnp
  have hpw : i.toNatClampNeg < wnp (sW S) := hip
  have hie := nI_ofn hB.1
  have h1 := h1 0
  have frK_1 := frK_1 0
  have hR1 := MR_rep ok.1 h1
  have hA1 := h1.2.2.1.1
  have t0 : mm_up d 250 0 0 250 0 = 0 := (mm_up_at 0).trans (if_pos rfl)
  have _u := t0
  refine wp_aload_n (j := 0) rfl q185_ok d185_0 ?_
  refine wp_aload_n (j := 0) rfl q185_ok d185_1 ?_
  refine wp_iload_n (j := 1) rfl q185_ok d185_2 ?_
  refine wp_cV q185_ok d185_3 ml_11_324 rfl q177_ok (u := 11) rfl (by first | assumption | exact so0 hsh rfl) rfl (Nat.le_of_ble_eq_true rfl) (Nat.le_of_ble_eq_true rfl) (m_isPerson hsh hr _) (fun v3 μ3 hc => ?_)
  obtain ⟨rfl, rfl⟩ := hc
  refine ⟨mm_le_same rfl, ?_⟩
  rw [mper_v hR i, if_pos hB]
  refine wp_if_eq q185_ok d185_6 (t := 23) rfl (fun h6 => ?_) (fun h6 => ?_)
  · exact absurd h6 (by decide)
  · refine wp_iload_n (j := 2) rfl q185_ok d185_9 ?_
    refine wp_iconst (v := 0) (by decide) q185_ok d185_10 ?_
    refine wp_bipush (v := 6) (by decide) q185_ok d185_11 ?_
    refine wp_cS q185_ok d185_13 ml_11_218 rfl q133_ok rfl rfl rfl (Nat.le_of_ble_eq_true rfl) (Nat.le_of_ble_eq_true rfl) (m_in _ _ _) (fun v13 μ13 hc => ?_)
    obtain ⟨rfl, rfl⟩ := hc
    refine ⟨mm_le_same rfl, ?_⟩
    rw [if_pos hW]
    refine wp_if_eq q185_ok d185_16 (t := 23) rfl (fun h16 => ?_) (fun h16 => ?_)
    · exact absurd h16 (by decide)
    · refine wp_iconst (v := 0) (by decide) q185_ok d185_19 ?_
      refine wp_goto (t := 24) rfl q185_ok d185_20 ?_
      refine wp_putI q185_ok d185_24 fl_11_102 rfl (by first | assumption | exact so0 hsh rfl) (Or.inl rfl) ?_
      refine wp_aload_n (j := 0) rfl q185_ok d185_27 ?_
      refine wp_getI q185_ok d185_28 fl_11_102 rfl (by first | assumption | exact so0 hsh rfl) t0 ?_
      refine wp_iconst (v := 1) (by decide) q185_ok d185_31 ?_
      refine wp_icmp_ne q185_ok d185_32 (t := 37) rfl (fun h32 => ?_) (fun h32 => ?_)
      · generalize hic : i.toNatClampNeg = p at hip hpw hie
        refine wp_iload_n (j := 2) rfl q185_ok d185_37 ?_
        refine wp_iconst (v := 4) (by decide) q185_ok d185_38 ?_
        refine wp_icmp_ge q185_ok d185_39 (t := 55) rfl (fun h39 => ?_) (fun h39 => ?_)
        · refine wp_iload_n (j := 2) rfl q185_ok d185_55 ?_
          refine wp_iconst (v := 4) (by decide) q185_ok d185_56 ?_
          refine wp_icmp_ne q185_ok d185_57 (t := 69) rfl (fun h57 => ?_) (fun h57 => ?_)
          · refine wp_iload_n (j := 2) rfl q185_ok d185_69 ?_
            refine wp_iconst (v := 5) (by decide) q185_ok d185_70 ?_
            refine wp_icmp_ne q185_ok d185_71 (t := 90) rfl (fun h71 => ?_) (fun h71 => ?_)
            · rw [hie]
              refine wp_aload_n (j := 0) rfl q185_ok d185_90 ?_
              refine wp_iload_n (j := 1) rfl q185_ok d185_91 ?_
              refine wp_cV q185_ok d185_92 ml_11_314 rfl q182_ok (u := 11) rfl (by first | assumption | exact so0 hsh rfl) rfl (Nat.le_of_ble_eq_true rfl) (Nat.le_of_ble_eq_true rfl) (m_sees (n := n) hsh hr hR1 hA1 hip) (fun v92 μ92 hc => ?_)
              obtain ⟨rfl, d2, rfl, f2⟩ := hc
              refine ⟨mm_le_same rfl, ?_⟩
              have e2 : d2 250 0 = 0 := (congrFun (f2 250 (by decide) (by decide)) 0).trans t0
              have hrep := repM_uf h1 (uf_qf (qf_pf (pf_lf f2))) (hM_lf hA1 f2)
              have hfr : frK d g d2 g := fun c hc => ⟨(f2 c (by omega) (by omega)).trans (frK_1 c hc).1, rfl⟩
              refine wp_if_eq q185_ok d185_95 (t := 102) rfl (fun h95 => ?_) (fun h95 => ?_)
              · refine wp_iconst (v := 0) (by decide) q185_ok d185_102 ?_
                refine wp_iret q185_ok d185_103 rfl ?_
                exact ⟨congrArg (fun x => some (Value.int x)) (by unfold personQ; rw [if_neg (show ¬ w ≤ 3 from fun q => absurd (Int32.le_trans h39 q) (by decide)), if_neg (show ¬ w = 4 from h57), if_neg (show ¬ w = 5 from h71), nI_clamp (show p < 2 ^ 31 by omega)]; exact h95.symm), _, rfl, hrep, hfr, e2⟩
              · refine wp_iconst (v := 1) (by decide) q185_ok d185_98 ?_
                refine wp_goto (t := 103) rfl q185_ok d185_99 ?_
                refine wp_iret q185_ok d185_103 rfl ?_
                exact ⟨congrArg (fun x => some (Value.int x)) (by unfold personQ; rw [if_neg (show ¬ w ≤ 3 from fun q => absurd (Int32.le_trans h39 q) (by decide)), if_neg (show ¬ w = 4 from h57), if_neg (show ¬ w = 5 from h71), nI_clamp (show p < 2 ^ 31 by omega)]; exact ((seO01 _ _ _ _ _).resolve_left h95).symm), _, rfl, hrep, hfr, e2⟩
            · have h71 := Classical.not_not.mp h71
              rw [hie]
              refine wp_aload_n (j := 0) rfl q185_ok d185_74 ?_
              refine wp_iload_n (j := 1) rfl q185_ok d185_75 ?_
              refine wp_cV q185_ok d185_76 ml_11_308 rfl q180_ok (u := 11) rfl (by first | assumption | exact so0 hsh rfl) rfl (Nat.le_of_ble_eq_true rfl) (Nat.le_of_ble_eq_true rfl) (m_looks (n := n + 1) hsh hr hR1 hA1 hip) (fun v76 μ76 hc => ?_)
              obtain ⟨rfl, d2, rfl, f2⟩ := hc
              refine ⟨mm_le_same rfl, ?_⟩
              have e2 : d2 250 0 = 0 := (congrFun (f2 250 (by decide) (by decide)) 0).trans t0
              have hrep := repM_uf h1 (uf_qf (qf_pf (pf_lf f2))) (hM_lf hA1 f2)
              have hfr : frK d g d2 g := fun c hc => ⟨(f2 c (by omega) (by omega)).trans (frK_1 c hc).1, rfl⟩
              have h01 : lkO (sT S) (o0 (sT S)) p (sX S).1.1 ((sX S).1.2.1 0) = 0 ∨ lkO (sT S) (o0 (sT S)) p (sX S).1.1 ((sX S).1.2.1 0) = 1 := by rw [lkO_0]; exact tlk01 S _ _ _
              refine wp_if_eq q185_ok d185_79 (t := 86) rfl (fun h79 => ?_) (fun h79 => ?_)
              · refine wp_iconst (v := 0) (by decide) q185_ok d185_86 ?_
                refine wp_goto (t := 103) rfl q185_ok d185_87 ?_
                refine wp_iret q185_ok d185_103 rfl ?_
                exact ⟨congrArg (fun x => some (Value.int x)) (by unfold personQ; rw [if_neg (show ¬ w ≤ 3 from fun q => absurd (Int32.le_trans h39 q) (by decide)), if_neg (show ¬ w = 4 from h57), if_pos (show w = 5 from h71), nI_clamp (show p < 2 ^ 31 by omega)]; exact h79.symm), _, rfl, hrep, hfr, e2⟩
              · refine wp_iconst (v := 1) (by decide) q185_ok d185_82 ?_
                refine wp_goto (t := 103) rfl q185_ok d185_83 ?_
                refine wp_iret q185_ok d185_103 rfl ?_
                exact ⟨congrArg (fun x => some (Value.int x)) (by unfold personQ; rw [if_neg (show ¬ w ≤ 3 from fun q => absurd (Int32.le_trans h39 q) (by decide)), if_neg (show ¬ w = 4 from h57), if_pos (show w = 5 from h71), nI_clamp (show p < 2 ^ 31 by omega)]; exact (h01.resolve_left h79).symm), _, rfl, hrep, hfr, e2⟩
          · have h57 := Classical.not_not.mp h57
            refine wp_aload_n (j := 0) rfl q185_ok d185_60 ?_
            refine wp_getR q185_ok d185_61 fl_11_58 rfl (by first | assumption | exact so0 hsh rfl) (by first | assumption | exact hr _ _ _ rfl) ?_
            refine wp_iload_n (j := 1) rfl q185_ok d185_64 ?_
            refine wp_iald (m := 6) q185_ok d185_65 (by first | assumption | exact so0 hsh rfl) (shl hsh (m := 6) (Nat.le_of_ble_eq_true rfl) rfl) (show ixn i p 6 from by rw [hie]; exact ixn_nI (by omega)) (h1.1.2.2.2.2.2.2 p hpw) ?_ (shK hsh)
            refine wp_goto (t := 103) rfl q185_ok d185_66 ?_
            refine wp_iret q185_ok d185_103 rfl ?_
            exact ⟨congrArg (fun x => some (Value.int x)) (by unfold personQ; rw [if_neg (show ¬ w ≤ 3 from fun q => absurd (Int32.le_trans h39 q) (by decide)), if_pos (show w = 4 from h57), hic]), _, rfl, h1, frK_1, t0⟩
        · have hix : ixn w w.toNatClampNeg 4 := ix_of (by decide) hW.1 (Int32.not_le.mp h39)
          have hwe := nI_ofn hW.1
          have hj4 := hix.2.2
          generalize hwc : w.toNatClampNeg = j at hix hwe hj4
          refine wp_aload_n (j := 0) rfl q185_ok d185_42 ?_
          refine wp_getR q185_ok d185_43 fl_11_49 rfl (by first | assumption | exact so0 hsh rfl) (by first | assumption | exact hr _ _ _ rfl) ?_
          refine wp_iconst (v := 4) (by decide) q185_ok d185_46 ?_
          refine wp_iload_n (j := 1) rfl q185_ok d185_47 ?_
          refine wp_imul (show (4 : Int32) * i = 4 * nI p from by rw [hie]) q185_ok d185_48 ?_
          refine wp_iload_n (j := 2) rfl q185_ok d185_49 ?_
          refine wp_iadd (show (4 : Int32) * nI p + w = nI (4 * p + j) from by rw [hwe]; exact nI_4 p j) q185_ok d185_50 ?_
          refine wp_iald (m := 24) q185_ok d185_51 (by first | assumption | exact so0 hsh rfl) (shl hsh (m := 24) (Nat.le_of_ble_eq_true rfl) rfl) (ixn_nI (show 4 * p + j < 24 by omega)) (h1.1.2.2.1 p hpw j hj4) ?_ (shK hsh)
          refine wp_goto (t := 103) rfl q185_ok d185_52 ?_
          refine wp_iret q185_ok d185_103 rfl ?_
          exact ⟨congrArg (fun x => some (Value.int x)) (by unfold personQ; rw [if_pos (show w ≤ 3 from lt4_le (Int32.not_le.mp h39)), hic, hwc]), _, rfl, h1, frK_1, t0⟩
      · have h32 := Classical.not_not.mp h32
        exact absurd h32 (by decide)
