/-! ===== image, back, note, undo, set, person of the model ===== -/
theorem j_image {xs : List Int32} {ext : mm_X} {n : Nat} {sh : mm_S} {d : mm_D} {g : mm_G} {r : mm_R} {S : wo_S} {m : Nat} (hsh : shp sh) (hr : rfx r) (ok : okS m S) (hm : m < 2 ^ 22) (h : repM d g S) : wp xs ext (n + 0) 222 0 [some (.ref 250), none] [] (sh, d, g, r) (mpost sh d g r (imgS S) (some (.int (imgQ S)))) := by
  have hR := MR_rep ok.1 h
  have hA0 := h.2.2.1.1
  have hnp : tnp (sT S) ≤ 6 := ok.1.1
  have hnb : tnb (sT S) ≤ 2 := ok.1.2.1
  refine wp_aload_n (j := 0) rfl q222_ok d222_0 ?_
  refine wp_getI q222_ok d222_1 fl_11_265 rfl (by first | assumption | exact so0 hsh rfl) hR.2.2.2.1 ?_
  refine wp_if_ne q222_ok d222_4 (t := 9) rfl (fun h4 => ?_) (fun h4 => ?_)
  · refine wp_iconst (v := 0) (by decide) q222_ok d222_9 ?_
    refine wp_istore_n (j := 1) (Nat.le_of_ble_eq_true rfl) (rfl : _ = [_, _]) q222_ok d222_10 ?_
    refine wp_iload_n (j := 1) rfl q222_ok d222_11 ?_
    refine wp_iconst (v := 2) (by decide) q222_ok d222_12 ?_
    refine wp_icmp_ge q222_ok d222_13 (t := 52) rfl (fun h13 => ?_) (fun h13 => ?_)
    · exact absurd (show (2 : Int32) ≤ nI 0 from h13) (by decide)
    · refine wp_aload_n (j := 0) rfl q222_ok d222_16 ?_
      refine wp_getR q222_ok d222_17 fl_11_99 rfl (by first | assumption | exact so0 hsh rfl) (by first | assumption | exact hr _ _ _ rfl) ?_
      refine wp_iconst (v := 2) (by decide) q222_ok d222_20 ?_
      refine wp_iload_n (j := 1) rfl q222_ok d222_21 ?_
      refine wp_imul rfl q222_ok d222_22 ?_
      refine wp_aload_n (j := 0) rfl q222_ok d222_23 ?_
      refine wp_getR q222_ok d222_24 fl_11_61 rfl (by first | assumption | exact so0 hsh rfl) (by first | assumption | exact hr _ _ _ rfl) ?_
      refine wp_iload_n (j := 1) rfl q222_ok d222_27 ?_
      refine wp_iald (m := 2) q222_ok d222_28 (by first | assumption | exact so0 hsh rfl) (shl hsh (m := 2) (Nat.le_of_ble_eq_true rfl) rfl) (ixn_nI (j := 0) (by decide)) (hA0.2 0 (by decide)).1 ?_ (shK hsh)
      refine wp_iast (m := 4) q222_ok d222_29 (by first | assumption | exact so0 hsh rfl) (shl hsh (m := 4) (Nat.le_of_ble_eq_true rfl) rfl) (ixn_nI (j := 0) (by decide)) ?_
      refine wp_aload_n (j := 0) rfl q222_ok d222_30 ?_
      refine wp_getR q222_ok d222_31 fl_11_99 rfl (by first | assumption | exact so0 hsh rfl) (by first | assumption | exact hr _ _ _ rfl) ?_
      refine wp_iconst (v := 2) (by decide) q222_ok d222_34 ?_
      refine wp_iload_n (j := 1) rfl q222_ok d222_35 ?_
      refine wp_imul rfl q222_ok d222_36 ?_
      refine wp_iconst (v := 1) (by decide) q222_ok d222_37 ?_
      refine wp_iadd rfl q222_ok d222_38 ?_
      refine wp_aload_n (j := 0) rfl q222_ok d222_39 ?_
      refine wp_getR q222_ok d222_40 fl_11_64 rfl (by first | assumption | exact so0 hsh rfl) (by first | assumption | exact hr _ _ _ rfl) ?_
      refine wp_iload_n (j := 1) rfl q222_ok d222_43 ?_
      refine wp_iald (m := 2) q222_ok d222_44 (by first | assumption | exact so0 hsh rfl) (shl hsh (m := 2) (Nat.le_of_ble_eq_true rfl) rfl) (ixn_nI (j := 0) (by decide)) ((congrFun (mm_up_ne (by decide)) 0).trans (hA0.2 0 (by decide)).2) ?_ (shK hsh)
      refine wp_iast (m := 4) q222_ok d222_45 (by first | assumption | exact so0 hsh rfl) (shl hsh (m := 4) (Nat.le_of_ble_eq_true rfl) rfl) (ixn_nI (j := 1) (by decide)) ?_
      refine wp_iinc (j := 1) rfl (by first | exact inc1 | rfl) (rfl : _ = [_, _]) q222_ok d222_46 ?_
      refine wp_goto (t := 11) rfl q222_ok d222_49 ?_
      refine wp_iload_n (j := 1) rfl q222_ok d222_11 ?_
      refine wp_iconst (v := 2) (by decide) q222_ok d222_12 ?_
      refine wp_icmp_ge q222_ok d222_13 (t := 52) rfl (fun h13 => ?_) (fun h13 => ?_)
      · exact absurd (show (2 : Int32) ≤ nI 1 from h13) (by decide)
      · refine wp_aload_n (j := 0) rfl q222_ok d222_16 ?_
        refine wp_getR q222_ok d222_17 fl_11_99 rfl (by first | assumption | exact so0 hsh rfl) (by first | assumption | exact hr _ _ _ rfl) ?_
        refine wp_iconst (v := 2) (by decide) q222_ok d222_20 ?_
        refine wp_iload_n (j := 1) rfl q222_ok d222_21 ?_
        refine wp_imul rfl q222_ok d222_22 ?_
        refine wp_aload_n (j := 0) rfl q222_ok d222_23 ?_
        refine wp_getR q222_ok d222_24 fl_11_61 rfl (by first | assumption | exact so0 hsh rfl) (by first | assumption | exact hr _ _ _ rfl) ?_
        refine wp_iload_n (j := 1) rfl q222_ok d222_27 ?_
        refine wp_iald (m := 2) q222_ok d222_28 (by first | assumption | exact so0 hsh rfl) (shl hsh (m := 2) (Nat.le_of_ble_eq_true rfl) rfl) (ixn_nI (j := 1) (by decide)) ((congrFun (mm_up_ne (by decide)) 1).trans ((congrFun (mm_up_ne (by decide)) 1).trans (hA0.2 1 (by decide)).1)) ?_ (shK hsh)
        refine wp_iast (m := 4) q222_ok d222_29 (by first | assumption | exact so0 hsh rfl) (shl hsh (m := 4) (Nat.le_of_ble_eq_true rfl) rfl) (ixn_nI (j := 2) (by decide)) ?_
        refine wp_aload_n (j := 0) rfl q222_ok d222_30 ?_
        refine wp_getR q222_ok d222_31 fl_11_99 rfl (by first | assumption | exact so0 hsh rfl) (by first | assumption | exact hr _ _ _ rfl) ?_
        refine wp_iconst (v := 2) (by decide) q222_ok d222_34 ?_
        refine wp_iload_n (j := 1) rfl q222_ok d222_35 ?_
        refine wp_imul rfl q222_ok d222_36 ?_
        refine wp_iconst (v := 1) (by decide) q222_ok d222_37 ?_
        refine wp_iadd rfl q222_ok d222_38 ?_
        refine wp_aload_n (j := 0) rfl q222_ok d222_39 ?_
        refine wp_getR q222_ok d222_40 fl_11_64 rfl (by first | assumption | exact so0 hsh rfl) (by first | assumption | exact hr _ _ _ rfl) ?_
        refine wp_iload_n (j := 1) rfl q222_ok d222_43 ?_
        refine wp_iald (m := 2) q222_ok d222_44 (by first | assumption | exact so0 hsh rfl) (shl hsh (m := 2) (Nat.le_of_ble_eq_true rfl) rfl) (ixn_nI (j := 1) (by decide)) ((congrFun (mm_up_ne (by decide)) 1).trans ((congrFun (mm_up_ne (by decide)) 1).trans ((congrFun (mm_up_ne (by decide)) 1).trans (hA0.2 1 (by decide)).2))) ?_ (shK hsh)
        refine wp_iast (m := 4) q222_ok d222_45 (by first | assumption | exact so0 hsh rfl) (shl hsh (m := 4) (Nat.le_of_ble_eq_true rfl) rfl) (ixn_nI (j := 3) (by decide)) ?_
        refine wp_iinc (j := 1) rfl (by first | exact inc1 | rfl) (rfl : _ = [_, _]) q222_ok d222_46 ?_
        refine wp_goto (t := 11) rfl q222_ok d222_49 ?_
        refine wp_iload_n (j := 1) rfl q222_ok d222_11 ?_
        refine wp_iconst (v := 2) (by decide) q222_ok d222_12 ?_
        refine wp_icmp_ge q222_ok d222_13 (t := 52) rfl (fun h13 => ?_) (fun h13 => ?_)
        · generalize hD : mm_up (mm_up (mm_up (mm_up d 280 0 ((sX S).1.2.1 0)) 280 1 ((sX S).1.2.2 0)) 280 2 ((sX S).1.2.1 1)) 280 3 ((sX S).1.2.2 1) = D
          have e9 : ∀ c, c ≠ 280 → D c = d c := fun c hc => by rw [← hD, mm_up_ne hc, mm_up_ne hc, mm_up_ne hc, mm_up_ne hc]
          have e0 : D 280 0 = (sX S).1.2.1 0 := by rw [← hD]; rfl
          have e1 : D 280 1 = (sX S).1.2.2 0 := by rw [← hD]; rfl
          have e2 : D 280 2 = (sX S).1.2.1 1 := by rw [← hD]; rfl
          have e3 : D 280 3 = (sX S).1.2.2 1 := by rw [← hD]; rfl
          have e250 : D 250 = d 250 := e9 250 (by decide)
          have hm0 := hA0.1
          refine wp_aload_n (j := 0) rfl q222_ok d222_52 ?_
          refine wp_aload_n (j := 0) rfl q222_ok d222_53 ?_
          refine wp_getI q222_ok d222_54 fl_11_274 rfl (by first | assumption | exact so0 hsh rfl) ((congrFun e250 32).trans hm0) ?_
          refine wp_putI q222_ok d222_57 fl_11_388 rfl (by first | assumption | exact so0 hsh rfl) (Or.inl rfl) ?_
          refine wp_aload_n (j := 0) rfl q222_ok d222_60 ?_
          refine wp_aload_n (j := 0) rfl q222_ok d222_61 ?_
          refine wp_getJ q222_ok d222_62 fl_11_333 rfl (by first | assumption | exact so0 hsh rfl) (by first | assumption | rfl) ?_
          refine wp_putJ q222_ok d222_65 fl_11_391 rfl (by first | assumption | exact so0 hsh rfl) (Or.inl rfl) ?_
          refine wp_aload_n (j := 0) rfl q222_ok d222_68 ?_
          refine wp_iconst (v := 1) (by decide) q222_ok d222_69 ?_
          refine wp_putZ q222_ok d222_70 fl_11_283 rfl (by first | assumption | exact so0 hsh rfl) (Or.inl rfl) (by first | assumption | exact Or.inl rfl | exact Or.inr rfl) ?_
          refine wp_aload_n (j := 0) rfl q222_ok d222_73 ?_
          refine wp_getI q222_ok d222_74 fl_11_274 rfl (by first | assumption | exact so0 hsh rfl) (((mm_up_at 32).trans (if_neg (by decide))).trans (((mm_up_at 32).trans (if_neg (by decide))).trans ((congrFun e250 32).trans hm0))) ?_
          refine wp_iret q222_ok d222_77 rfl ?_
          have hc : hasT (sT S) := (show hasT (sT S) from fun q => h4 (by rw [q]; rfl))
          unfold imgS imgQ
          rw [if_pos hc, if_pos hc]
          obtain ⟨a1, a2, a3, a4, a5, a6, a7, a8, a9⟩ := h
          have er : ∀ c, c ≠ 250 → c ≠ 280 → mm_up (mm_up D 250 52 (sX S).1.1) 250 54 1 c = d c := fun c h1 h2 => by rw [mm_up_ne h1, mm_up_ne h1, e9 c h2]
          have ej : ∀ j, j ≠ 52 → j ≠ 54 → mm_up (mm_up D 250 52 (sX S).1.1) 250 54 1 250 j = d 250 j := fun j h1 h2 => by rw [mm_up_at, if_neg h2, mm_up_at, if_neg h1, e250]
          refine ⟨rfl, _, _, rfl, ⟨rpWM_x a1 (fun c _ _ => er c (by omega) (by omega)) (fun j _ _ => ej j (by omega) (by omega)), rpHM_x a2 (fun c _ _ => er c (by omega) (by omega)) (ej 13 (by decide) (by decide)), nowM_x a3 (fun c _ _ => er c (by omega) (by omega)) (mm_up_ne (by decide)) ((mm_up_at 34).trans (if_neg (by decide))) (ej 42 (by decide) (by decide)) (ej 32 (by decide) (by decide)), (ej 33 (by decide) (by decide)).trans a4, tapM_x a5 (er 251 (by decide) (by decide)) (ej 2 (by decide) (by decide)), ⟨(mm_up_at 54).trans (if_pos rfl), fun _ => ⟨((mm_up_at 52).trans (if_neg (by decide))).trans ((mm_up_at 52).trans (if_pos rfl)), fun b hb => ?_, (mm_up_at 53).trans ((if_pos rfl).trans a3.2.1)⟩⟩, ntM_x a7 (er 276 (by decide) (by decide)) (er 277 (by decide) (by decide)) (ej 48 (by decide) (by decide)), (ej 35 (by decide) (by decide)).trans a8, (ej 36 (by decide) (by decide)).trans a9⟩, fun c hc => ⟨er c (by omega) (by omega), mm_up_ne (by omega)⟩⟩
          rw [mm_up_ne (show 280 ≠ 250 by decide), mm_up_ne (show 280 ≠ 250 by decide)]
          rcases (show b = 0 ∨ b = 1 by omega) with rfl | rfl
          · exact ⟨e0, e1⟩
          · exact ⟨e2, e3⟩
        · exact absurd (show (2 : Int32) ≤ nI 2 from by decide) h13
  · have h4 := Classical.not_not.mp h4
    refine wp_iconst (v := -1) (by decide) q222_ok d222_7 ?_
    refine wp_iret q222_ok d222_8 rfl ?_
    have hc : ¬ hasT (sT S) := (show ¬ hasT (sT S) from fun q => q (nI0 hnp h4))
    unfold imgS imgQ
    rw [if_neg hc, if_neg hc]
    exact mp_same h rfl
theorem j_back {xs : List Int32} {ext : mm_X} {n : Nat} {sh : mm_S} {d : mm_D} {g : mm_G} {r : mm_R} {S : wo_S} {m : Nat} (hsh : shp sh) (hr : rfx r) (ok : okS m S) (hm : m < 2 ^ 22) (h : repM d g S) : wp xs ext (n + 0) 223 0 [some (.ref 250), none] [] (sh, d, g, r) (mpost sh d g r (bakS S) (some (.int (bakQ S)))) := by
  have hR := MR_rep ok.1 h
  have hA0 := h.2.2.1.1
  have hnp : tnp (sT S) ≤ 6 := ok.1.1
  have hnb : tnb (sT S) ≤ 2 := ok.1.2.1
  refine wp_aload_n (j := 0) rfl q223_ok d223_0 ?_
  refine wp_getZ q223_ok d223_1 fl_11_283 rfl (by first | assumption | exact so0 hsh rfl) h.2.2.2.2.2.1.1 ?_
  refine wp_if_ne q223_ok d223_4 (t := 9) rfl (fun h4 => ?_) (fun h4 => ?_)
  · refine wp_iconst (v := 0) (by decide) q223_ok d223_9 ?_
    refine wp_istore_n (j := 1) (Nat.le_of_ble_eq_true rfl) (rfl : _ = [_, _]) q223_ok d223_10 ?_
    have hI : (sI S).1 = true := by
      by_cases q : (sI S).1 = true
      · exact q
      · rw [if_neg q] at h4; exact absurd rfl h4
    obtain ⟨i1, i2, i3⟩ := h.2.2.2.2.2.1.2 hI
    refine wp_iload_n (j := 1) rfl q223_ok d223_11 ?_
    refine wp_iconst (v := 2) (by decide) q223_ok d223_12 ?_
    refine wp_icmp_ge q223_ok d223_13 (t := 52) rfl (fun h13 => ?_) (fun h13 => ?_)
    · exact absurd (show (2 : Int32) ≤ nI 0 from h13) (by decide)
    · refine wp_aload_n (j := 0) rfl q223_ok d223_16 ?_
      refine wp_getR q223_ok d223_17 fl_11_61 rfl (by first | assumption | exact so0 hsh rfl) (by first | assumption | exact hr _ _ _ rfl) ?_
      refine wp_iload_n (j := 1) rfl q223_ok d223_20 ?_
      refine wp_aload_n (j := 0) rfl q223_ok d223_21 ?_
      refine wp_getR q223_ok d223_22 fl_11_99 rfl (by first | assumption | exact so0 hsh rfl) (by first | assumption | exact hr _ _ _ rfl) ?_
      refine wp_iconst (v := 2) (by decide) q223_ok d223_25 ?_
      refine wp_iload_n (j := 1) rfl q223_ok d223_26 ?_
      refine wp_imul rfl q223_ok d223_27 ?_
      refine wp_iald (m := 4) q223_ok d223_28 (by first | assumption | exact so0 hsh rfl) (shl hsh (m := 4) (Nat.le_of_ble_eq_true rfl) rfl) (ixn_nI (j := 0) (by decide)) (i2 0 (by decide)).1 ?_ (shK hsh)
      refine wp_iast (m := 2) q223_ok d223_29 (by first | assumption | exact so0 hsh rfl) (shl hsh (m := 2) (Nat.le_of_ble_eq_true rfl) rfl) (ixn_nI (j := 0) (by decide)) ?_
      refine wp_aload_n (j := 0) rfl q223_ok d223_30 ?_
      refine wp_getR q223_ok d223_31 fl_11_64 rfl (by first | assumption | exact so0 hsh rfl) (by first | assumption | exact hr _ _ _ rfl) ?_
      refine wp_iload_n (j := 1) rfl q223_ok d223_34 ?_
      refine wp_aload_n (j := 0) rfl q223_ok d223_35 ?_
      refine wp_getR q223_ok d223_36 fl_11_99 rfl (by first | assumption | exact so0 hsh rfl) (by first | assumption | exact hr _ _ _ rfl) ?_
      refine wp_iconst (v := 2) (by decide) q223_ok d223_39 ?_
      refine wp_iload_n (j := 1) rfl q223_ok d223_40 ?_
      refine wp_imul rfl q223_ok d223_41 ?_
      refine wp_iconst (v := 1) (by decide) q223_ok d223_42 ?_
      refine wp_iadd rfl q223_ok d223_43 ?_
      refine wp_iald (m := 4) q223_ok d223_44 (by first | assumption | exact so0 hsh rfl) (shl hsh (m := 4) (Nat.le_of_ble_eq_true rfl) rfl) (ixn_nI (j := 1) (by decide)) ((congrFun (mm_up_ne (by decide)) 1).trans (i2 0 (by decide)).2) ?_ (shK hsh)
      refine wp_iast (m := 2) q223_ok d223_45 (by first | assumption | exact so0 hsh rfl) (shl hsh (m := 2) (Nat.le_of_ble_eq_true rfl) rfl) (ixn_nI (j := 0) (by decide)) ?_
      refine wp_iinc (j := 1) rfl (by first | exact inc1 | rfl) (rfl : _ = [_, _]) q223_ok d223_46 ?_
      refine wp_goto (t := 11) rfl q223_ok d223_49 ?_
      refine wp_iload_n (j := 1) rfl q223_ok d223_11 ?_
      refine wp_iconst (v := 2) (by decide) q223_ok d223_12 ?_
      refine wp_icmp_ge q223_ok d223_13 (t := 52) rfl (fun h13 => ?_) (fun h13 => ?_)
      · exact absurd (show (2 : Int32) ≤ nI 1 from h13) (by decide)
      · refine wp_aload_n (j := 0) rfl q223_ok d223_16 ?_
        refine wp_getR q223_ok d223_17 fl_11_61 rfl (by first | assumption | exact so0 hsh rfl) (by first | assumption | exact hr _ _ _ rfl) ?_
        refine wp_iload_n (j := 1) rfl q223_ok d223_20 ?_
        refine wp_aload_n (j := 0) rfl q223_ok d223_21 ?_
        refine wp_getR q223_ok d223_22 fl_11_99 rfl (by first | assumption | exact so0 hsh rfl) (by first | assumption | exact hr _ _ _ rfl) ?_
        refine wp_iconst (v := 2) (by decide) q223_ok d223_25 ?_
        refine wp_iload_n (j := 1) rfl q223_ok d223_26 ?_
        refine wp_imul rfl q223_ok d223_27 ?_
        refine wp_iald (m := 4) q223_ok d223_28 (by first | assumption | exact so0 hsh rfl) (shl hsh (m := 4) (Nat.le_of_ble_eq_true rfl) rfl) (ixn_nI (j := 2) (by decide)) ((congrFun (mm_up_ne (by decide)) 2).trans ((congrFun (mm_up_ne (by decide)) 2).trans (i2 1 (by decide)).1)) ?_ (shK hsh)
        refine wp_iast (m := 2) q223_ok d223_29 (by first | assumption | exact so0 hsh rfl) (shl hsh (m := 2) (Nat.le_of_ble_eq_true rfl) rfl) (ixn_nI (j := 1) (by decide)) ?_
        refine wp_aload_n (j := 0) rfl q223_ok d223_30 ?_
        refine wp_getR q223_ok d223_31 fl_11_64 rfl (by first | assumption | exact so0 hsh rfl) (by first | assumption | exact hr _ _ _ rfl) ?_
        refine wp_iload_n (j := 1) rfl q223_ok d223_34 ?_
        refine wp_aload_n (j := 0) rfl q223_ok d223_35 ?_
        refine wp_getR q223_ok d223_36 fl_11_99 rfl (by first | assumption | exact so0 hsh rfl) (by first | assumption | exact hr _ _ _ rfl) ?_
        refine wp_iconst (v := 2) (by decide) q223_ok d223_39 ?_
        refine wp_iload_n (j := 1) rfl q223_ok d223_40 ?_
        refine wp_imul rfl q223_ok d223_41 ?_
        refine wp_iconst (v := 1) (by decide) q223_ok d223_42 ?_
        refine wp_iadd rfl q223_ok d223_43 ?_
        refine wp_iald (m := 4) q223_ok d223_44 (by first | assumption | exact so0 hsh rfl) (shl hsh (m := 4) (Nat.le_of_ble_eq_true rfl) rfl) (ixn_nI (j := 3) (by decide)) ((congrFun (mm_up_ne (by decide)) 3).trans ((congrFun (mm_up_ne (by decide)) 3).trans ((congrFun (mm_up_ne (by decide)) 3).trans (i2 1 (by decide)).2))) ?_ (shK hsh)
        refine wp_iast (m := 2) q223_ok d223_45 (by first | assumption | exact so0 hsh rfl) (shl hsh (m := 2) (Nat.le_of_ble_eq_true rfl) rfl) (ixn_nI (j := 1) (by decide)) ?_
        refine wp_iinc (j := 1) rfl (by first | exact inc1 | rfl) (rfl : _ = [_, _]) q223_ok d223_46 ?_
        refine wp_goto (t := 11) rfl q223_ok d223_49 ?_
        refine wp_iload_n (j := 1) rfl q223_ok d223_11 ?_
        refine wp_iconst (v := 2) (by decide) q223_ok d223_12 ?_
        refine wp_icmp_ge q223_ok d223_13 (t := 52) rfl (fun h13 => ?_) (fun h13 => ?_)
        · generalize hD : mm_up (mm_up (mm_up (mm_up d 268 0 ((sI S).2.1.2.1 0)) 269 0 ((sI S).2.1.2.2 0)) 268 1 ((sI S).2.1.2.1 1)) 269 1 ((sI S).2.1.2.2 1) = D
          have e9 : ∀ c, c ≠ 268 → c ≠ 269 → D c = d c := fun c hc h2 => by rw [← hD, mm_up_ne h2, mm_up_ne hc, mm_up_ne h2, mm_up_ne hc]
          have e8 : ∀ b, b < 2 → D 268 b = (sI S).2.1.2.1 b ∧ D 269 b = (sI S).2.1.2.2 b := fun b hb => by
            rcases (show b = 0 ∨ b = 1 by omega) with rfl | rfl
            · rw [← hD]; exact ⟨rfl, rfl⟩
            · rw [← hD]; exact ⟨rfl, rfl⟩
          have e250 : D 250 = d 250 := e9 250 (by decide) (by decide)
          refine wp_aload_n (j := 0) rfl q223_ok d223_52 ?_
          refine wp_aload_n (j := 0) rfl q223_ok d223_53 ?_
          refine wp_getI q223_ok d223_54 fl_11_388 rfl (by first | assumption | exact so0 hsh rfl) ((congrFun e250 52).trans i1) ?_
          refine wp_putI q223_ok d223_57 fl_11_274 rfl (by first | assumption | exact so0 hsh rfl) (Or.inl rfl) ?_
          refine wp_aload_n (j := 0) rfl q223_ok d223_60 ?_
          refine wp_aload_n (j := 0) rfl q223_ok d223_61 ?_
          refine wp_getJ q223_ok d223_62 fl_11_391 rfl (by first | assumption | exact so0 hsh rfl) i3 ?_
          refine wp_putJ q223_ok d223_65 fl_11_333 rfl (by first | assumption | exact so0 hsh rfl) (Or.inl rfl) ?_
          refine wp_aload_n (j := 0) rfl q223_ok d223_68 ?_
          refine wp_iconst (v := 0) (by decide) q223_ok d223_69 ?_
          refine wp_putI q223_ok d223_70 fl_11_277 rfl (by first | assumption | exact so0 hsh rfl) (Or.inl rfl) ?_
          refine wp_aload_n (j := 0) rfl q223_ok d223_73 ?_
          refine wp_getI q223_ok d223_74 fl_11_274 rfl (by first | assumption | exact so0 hsh rfl) (((mm_up_at 32).trans (if_neg (by decide))).trans ((mm_up_at 32).trans (if_pos rfl))) ?_
          refine wp_iret q223_ok d223_77 rfl ?_
          have hc : bakT S := ⟨(ok.2.2.2.2.2.2.2 hI).2, hI⟩
          unfold bakS bakQ
          rw [if_pos hc, if_pos hc]
          refine ⟨rfl, _, _, rfl, repM_now h (fun c h1 h2 h3 h4 h5 => by rw [mm_up_ne (by omega), mm_up_ne (by omega), e9 c (by omega) (by omega)]) (fun j h1 h2 h3 h4 => by rw [mm_up_at, if_neg h3, mm_up_at, if_neg h1, e250]) ((mm_up_at 53).trans (if_neg (by decide))) ⟨⟨((mm_up_at 32).trans (if_neg (by decide))).trans ((mm_up_at 32).trans (if_pos rfl)), fun b hb => ?_⟩, (mm_up_at 34).trans (if_pos rfl), (mm_up_at 42).trans (if_pos rfl), Nat.zero_le _, fun i hi => absurd hi (Nat.not_lt_zero _)⟩, fun c hc => ⟨by rw [mm_up_ne (by omega), mm_up_ne (by omega), e9 c (by omega) (by omega)], mm_up_ne (by omega)⟩⟩
          rw [mm_up_ne (show 268 ≠ 250 by decide), mm_up_ne (show 268 ≠ 250 by decide), mm_up_ne (show 269 ≠ 250 by decide), mm_up_ne (show 269 ≠ 250 by decide)]
          exact e8 b hb
        · exact absurd (show (2 : Int32) ≤ nI 2 from by decide) h13
  · have h4 := Classical.not_not.mp h4
    refine wp_iconst (v := -1) (by decide) q223_ok d223_7 ?_
    refine wp_iret q223_ok d223_8 rfl ?_
    have hc : ¬ bakT S := fun q => by rw [if_pos q.2] at h4; exact absurd h4 (by decide)
    unfold bakS bakQ
    rw [if_neg hc, if_neg hc]
    exact mp_same h rfl
theorem repM_note {d : mm_D} {g : mm_G} {S : wo_S} {t : Nat} {b x : Int32} (h : repM d g S) (hlt : (sN S).1 < 20) (ht : t ≤ 60) (hx : x = nI ((sN S).1 + 1)) : repM (mm_up (mm_up (mm_up d 276 (sN S).1 (nI t)) 277 (sN S).1 b) 250 48 x) g (sNts S ((sN S).1 + 1, fun i => if i = (sN S).1 then t else (sN S).2.1 i, fun i => if i = (sN S).1 then b else (sN S).2.2 i)) := by
  obtain ⟨a1, a2, a3, a4, a5, a6, a7, a8, a9⟩ := h
  have er : ∀ c, c ≠ 250 → c ≠ 276 → c ≠ 277 → mm_up (mm_up (mm_up d 276 (sN S).1 (nI t)) 277 (sN S).1 b) 250 48 x c = d c := fun c h1 h2 h3 => by rw [mm_up_ne h1, mm_up_ne h3, mm_up_ne h2]
  have ej : ∀ j, j ≠ 48 → mm_up (mm_up (mm_up d 276 (sN S).1 (nI t)) 277 (sN S).1 b) 250 48 x 250 j = d 250 j := fun j h1 => by rw [mm_up_at, if_neg h1, mm_up_ne (by decide), mm_up_ne (by decide)]
  refine ⟨rpWM_x a1 (fun c _ _ => er c (by omega) (by omega) (by omega)) (fun j _ _ => ej j (by omega)), rpHM_x a2 (fun c _ _ => er c (by omega) (by omega) (by omega)) (ej 13 (by decide)), nowM_x a3 (fun c _ _ => er c (by omega) (by omega) (by omega)) rfl rfl (ej 42 (by decide)) (ej 32 (by decide)), (ej 33 (by decide)).trans a4, tapM_x a5 (er 251 (by decide) (by decide) (by decide)) (ej 2 (by decide)), imgM_x a6 (er 280 (by decide) (by decide) (by decide)) rfl (ej 52 (by decide)) (ej 54 (by decide)), ⟨(mm_up_at 48).trans ((if_pos rfl).trans hx), by show (sN S).1 + 1 ≤ 20; omega, fun i hi => ?_⟩, (ej 35 (by decide)).trans a8, (ej 36 (by decide)).trans a9⟩
  rw [mm_up_ne (show 276 ≠ 250 by decide), mm_up_ne (show 276 ≠ 277 by decide), mm_up_ne (show 277 ≠ 250 by decide), mm_up_at, mm_up_at]
  show (if i = (sN S).1 then t else (sN S).2.1 i) ≤ 60 ∧ _ = nI (if i = (sN S).1 then t else (sN S).2.1 i) ∧ _ = (if i = (sN S).1 then b else (sN S).2.2 i)
  have hi2 : i < (sN S).1 + 1 := hi
  by_cases q : i = (sN S).1
  · rw [if_pos q, if_pos q, if_pos q, if_pos q]
    exact ⟨ht, rfl, rfl⟩
  · rw [if_neg q, if_neg q, if_neg q, if_neg q, mm_up_ne (by decide)]
    exact a7.2.2 i (by omega)
theorem nI20 {n : Nat} (h : n ≤ 20) (e : nI n = 20) : n = 20 := by
  have h2 := (nI_leI (show 20 < 2 ^ 31 by decide) (show n < 2 ^ 31 by omega)).mp (by rw [e]; exact Int32.le_refl _)
  omega
theorem j_note {xs : List Int32} {ext : mm_X} {n : Nat} {sh : mm_S} {d : mm_D} {g : mm_G} {r : mm_R} {S : wo_S} {m : Nat} (hsh : shp sh) (hr : rfx r) (ok : okS m S) (hm : m < 2 ^ 22) (h : repM d g S) (t b : Int32) (hb : b = 0 ∨ b = 1) : wp xs ext (n + 1) 216 0 [some (.ref 250), some (.int t), some (.int b)] [] (sh, d, g, r) (mpost sh d g r (notS S t b) (some (.int (notQ S t)))) := by
  have hR := MR_rep ok.1 h
  have hA0 := h.2.2.1.1
  have hnp : tnp (sT S) ≤ 6 := ok.1.1
  have hnb : tnb (sT S) ≤ 2 := ok.1.2.1
  refine wp_aload_n (j := 0) rfl q216_ok d216_0 ?_
  refine wp_getI q216_ok d216_1 fl_11_265 rfl (by first | assumption | exact so0 hsh rfl) hR.2.2.2.1 ?_
  refine wp_if_eq q216_ok d216_4 (t := 26) rfl (fun h4 => ?_) (fun h4 => ?_)
  · refine wp_iconst (v := -1) (by decide) q216_ok d216_26 ?_
    refine wp_iret q216_ok d216_27 rfl ?_
    have hc : ¬ notT S t := fun q => q.1 (nI0 hnp h4)
    unfold notS notQ
    rw [if_neg hc, if_neg hc]
    exact mp_same h rfl
  · refine wp_iload_n (j := 1) rfl q216_ok d216_7 ?_
    refine wp_iconst (v := 0) (by decide) q216_ok d216_8 ?_
    refine wp_bipush (v := 60) (by decide) q216_ok d216_9 ?_
    refine wp_cS q216_ok d216_11 ml_11_218 rfl q133_ok rfl rfl rfl (Nat.le_of_ble_eq_true rfl) (Nat.le_of_ble_eq_true rfl) (m_in _ _ _) (fun v11 μ11 hc => ?_)
    obtain ⟨rfl, rfl⟩ := hc
    refine ⟨mm_le_same rfl, ?_⟩
    by_cases c0 : 0 ≤ t ∧ t ≤ 60
    · rw [if_pos c0]
      refine wp_if_eq q216_ok d216_14 (t := 26) rfl (fun h14 => ?_) (fun h14 => ?_)
      · exact absurd h14 (by decide)
      · refine wp_aload_n (j := 0) rfl q216_ok d216_17 ?_
        refine wp_getI q216_ok d216_18 fl_11_280 rfl (by first | assumption | exact so0 hsh rfl) h.2.2.2.2.2.2.1.1 ?_
        refine wp_bipush (v := 20) (by decide) q216_ok d216_21 ?_
        refine wp_icmp_ne q216_ok d216_23 (t := 28) rfl (fun h23 => ?_) (fun h23 => ?_)
        · have hT : hasT (sT S) := (show hasT (sT S) from fun q => h4 (by rw [q]; rfl))
          have hlt : (sN S).1 < 20 := by
            have h20 := h.2.2.2.2.2.2.1.2.1
            have : (sN S).1 ≠ 20 := fun q => h23 (by rw [q]; rfl)
            omega
          have hc : notT S t := ⟨hT, c0, hlt⟩
          unfold notS notQ
          rw [if_pos hc, if_pos hc]
          have hie := nI_ofn c0.1
          have hl : t.toNatClampNeg < 2 ^ 31 := by
            have := Int32.toInt_lt t
            unfold Int32.toNatClampNeg
            omega
          have c02 := c0.2
          generalize t.toNatClampNeg = tt at hie hl
          subst hie
          have h60 : tt ≤ 60 := (nI_leI hl (by decide)).mp c02
          have hn0 : d 250 48 = nI (sN S).1 := h.2.2.2.2.2.2.1.1
          refine wp_aload_n (j := 0) rfl q216_ok d216_28 ?_
          refine wp_getR q216_ok d216_29 fl_11_87 rfl (by first | assumption | exact so0 hsh rfl) (by first | assumption | exact hr _ _ _ rfl) ?_
          refine wp_aload_n (j := 0) rfl q216_ok d216_32 ?_
          refine wp_getI q216_ok d216_33 fl_11_280 rfl (by first | assumption | exact so0 hsh rfl) hn0 ?_
          refine wp_iload_n (j := 1) rfl q216_ok d216_36 ?_
          refine wp_iast (m := 20) q216_ok d216_37 (by first | assumption | exact so0 hsh rfl) (shl hsh (m := 20) (Nat.le_of_ble_eq_true rfl) rfl) (ixn_nI (show (sN S).1 < 20 by omega)) ?_
          refine wp_aload_n (j := 0) rfl q216_ok d216_38 ?_
          refine wp_getR q216_ok d216_39 fl_11_90 rfl (by first | assumption | exact so0 hsh rfl) (by first | assumption | exact hr _ _ _ rfl) ?_
          refine wp_aload_n (j := 0) rfl q216_ok d216_42 ?_
          refine wp_getI q216_ok d216_43 fl_11_280 rfl (by first | assumption | exact so0 hsh rfl) ((congrFun (mm_up_ne (by decide)) 48).trans (hn0)) ?_
          refine wp_iload_n (j := 2) rfl q216_ok d216_46 ?_
          refine wp_bast (m := 20) q216_ok d216_47 (by first | assumption | exact so0 hsh rfl) (shl hsh (m := 20) (Nat.le_of_ble_eq_true rfl) rfl) (ixn_nI (show (sN S).1 < 20 by omega)) hb ?_
          refine wp_aload_n (j := 0) rfl q216_ok d216_48 ?_
          refine wp_dup rfl q216_ok d216_49 ?_
          refine wp_getI q216_ok d216_50 fl_11_280 rfl (by first | assumption | exact so0 hsh rfl) ((congrFun (mm_up_ne (by decide)) 48).trans ((congrFun (mm_up_ne (by decide)) 48).trans (hn0))) ?_
          refine wp_iconst (v := 1) (by decide) q216_ok d216_53 ?_
          refine wp_iadd (nI_1 (sN S).1) q216_ok d216_54 ?_
          refine wp_putI q216_ok d216_55 fl_11_280 rfl (by first | assumption | exact so0 hsh rfl) (Or.inl rfl) ?_
          refine wp_aload_n (j := 0) rfl q216_ok d216_58 ?_
          refine wp_getI q216_ok d216_59 fl_11_280 rfl (by first | assumption | exact so0 hsh rfl) ((mm_up_at 48).trans (if_pos rfl)) ?_
          refine wp_iret q216_ok d216_62 rfl ?_
          exact ⟨rfl, _, _, rfl, repM_note h hlt h60 rfl, fun c hc => ⟨by rw [mm_up_ne (by omega), mm_up_ne (by omega), mm_up_ne (by omega)], rfl⟩⟩
        · have h23 := Classical.not_not.mp h23
          refine wp_iconst (v := -1) (by decide) q216_ok d216_26 ?_
          refine wp_iret q216_ok d216_27 rfl ?_
          have hc : ¬ notT S t := fun q => absurd q.2.2 (by have := nI20 h.2.2.2.2.2.2.1.2.1 h23; omega)
          unfold notS notQ
          rw [if_neg hc, if_neg hc]
          exact mp_same h rfl
    · rw [if_neg c0]
      refine wp_if_eq q216_ok d216_14 (t := 26) rfl (fun h14 => ?_) (fun h14 => ?_)
      · refine wp_iconst (v := -1) (by decide) q216_ok d216_26 ?_
        refine wp_iret q216_ok d216_27 rfl ?_
        have hc : ¬ notT S t := fun q => c0 q.2.1
        unfold notS notQ
        rw [if_neg hc, if_neg hc]
        exact mp_same h rfl
      · exact absurd rfl h14
theorem j_undo {xs : List Int32} {ext : mm_X} {n : Nat} {sh : mm_S} {d : mm_D} {g : mm_G} {r : mm_R} {S : wo_S} {m : Nat} (hsh : shp sh) (hr : rfx r) (ok : okS m S) (hm : m < 2 ^ 22) (h : repM d g S) : wp xs ext (n + 0) 194 0 [some (.ref 250), none] [] (sh, d, g, r) (mpost sh d g r (undS' S) (some (.int (undQ S)))) := by
  have hR := MR_rep ok.1 h
  have hA0 := h.2.2.1.1
  have hnp : tnp (sT S) ≤ 6 := ok.1.1
  have hnb : tnb (sT S) ≤ 2 := ok.1.2.1
  refine wp_aload_n (j := 0) rfl q194_ok d194_0 ?_
  refine wp_getI q194_ok d194_1 fl_11_277 rfl (by first | assumption | exact so0 hsh rfl) h.2.2.1.2.2.1 ?_
  refine wp_if_ne q194_ok d194_4 (t := 9) rfl (fun h4 => ?_) (fun h4 => ?_)
  · have hc : ¬ (sX S).2.2.1 = 0 := fun q => h4 (by rw [q]; rfl)
    unfold undS' undQ
    rw [if_neg hc, if_neg hc]
    obtain ⟨p1, p2, p3⟩ := h.2.2.1.2.2
    obtain ⟨k, hk⟩ : ∃ k, (sX S).2.2.1 = k + 1 := ⟨(sX S).2.2.1 - 1, by omega⟩
    have hk1 : (sX S).2.2.1 - 1 = k := by omega
    have hk60 : k < 60 := by omega
    generalize hF : (sX S).2.2.2 ((sX S).2.2.1 - 1) = F
    have p30 : ∀ b, b < 2 → d 271 (2 * k + b) = F.1.2.1 b ∧ d 272 (2 * k + b) = F.1.2.2 b := by rw [← hF, hk1]; exact (p3 k (by omega)).1
    rw [hk1] at hF
    have hF1 : F.1.1 = (sX S).1.1 - 1 := by
      rw [← hF, (ok.2.2.2.2.1.2 k (by omega)).1, hk]
      rw [show k + 1 - k = 1 by omega]
      rfl
    refine wp_aload_n (j := 0) rfl q194_ok d194_9 ?_
    refine wp_dup rfl q194_ok d194_10 ?_
    refine wp_getI q194_ok d194_11 fl_11_277 rfl (by first | assumption | exact so0 hsh rfl) h.2.2.1.2.2.1 ?_
    refine wp_iconst (v := 1) (by decide) q194_ok d194_14 ?_
    refine wp_isub (show nI (sX S).2.2.1 - 1 = nI k from by rw [hk, ← nI_1 k]; show nI k + 1 - 1 = nI k; grind) q194_ok d194_15 ?_
    refine wp_putI q194_ok d194_16 fl_11_277 rfl (by first | assumption | exact so0 hsh rfl) (Or.inl rfl) ?_
    refine wp_iconst (v := 0) (by decide) q194_ok d194_19 ?_
    refine wp_istore_n (j := 1) (Nat.le_of_ble_eq_true rfl) (rfl : _ = [_, _]) q194_ok d194_20 ?_
    refine wp_iload_n (j := 1) rfl q194_ok d194_21 ?_
    refine wp_iconst (v := 2) (by decide) q194_ok d194_22 ?_
    refine wp_icmp_ge q194_ok d194_23 (t := 70) rfl (fun h23 => ?_) (fun h23 => ?_)
    · exact absurd (show (2 : Int32) ≤ nI 0 from h23) (by decide)
    · refine wp_aload_n (j := 0) rfl q194_ok d194_26 ?_
      refine wp_getR q194_ok d194_27 fl_11_61 rfl (by first | assumption | exact so0 hsh rfl) (by first | assumption | exact hr _ _ _ rfl) ?_
      refine wp_iload_n (j := 1) rfl q194_ok d194_30 ?_
      refine wp_aload_n (j := 0) rfl q194_ok d194_31 ?_
      refine wp_getR q194_ok d194_32 fl_11_71 rfl (by first | assumption | exact so0 hsh rfl) (by first | assumption | exact hr _ _ _ rfl) ?_
      refine wp_iconst (v := 2) (by decide) q194_ok d194_35 ?_
      refine wp_aload_n (j := 0) rfl q194_ok d194_36 ?_
      refine wp_getI q194_ok d194_37 fl_11_277 rfl (by first | assumption | exact so0 hsh rfl) ((mm_up_at 42).trans (if_pos rfl)) ?_
      refine wp_imul rfl q194_ok d194_40 ?_
      refine wp_iload_n (j := 1) rfl q194_ok d194_41 ?_
      refine wp_iadd rfl q194_ok d194_42 ?_
      refine wp_iald (m := 120) q194_ok d194_43 (by first | assumption | exact so0 hsh rfl) (shl hsh (m := 120) (Nat.le_of_ble_eq_true rfl) rfl) (show ixn (2 * nI k + nI 0) (2 * k + 0) 120 from by rw [nI_2 k 0]; exact ixn_nI (by omega)) ((congrFun (mm_up_ne (by decide)) (2 * k + 0)).trans (p30 0 (by decide)).1) ?_ (shK hsh)
      refine wp_iast (m := 2) q194_ok d194_44 (by first | assumption | exact so0 hsh rfl) (shl hsh (m := 2) (Nat.le_of_ble_eq_true rfl) rfl) (ixn_nI (j := 0) (by decide)) ?_
      refine wp_aload_n (j := 0) rfl q194_ok d194_45 ?_
      refine wp_getR q194_ok d194_46 fl_11_64 rfl (by first | assumption | exact so0 hsh rfl) (by first | assumption | exact hr _ _ _ rfl) ?_
      refine wp_iload_n (j := 1) rfl q194_ok d194_49 ?_
      refine wp_aload_n (j := 0) rfl q194_ok d194_50 ?_
      refine wp_getR q194_ok d194_51 fl_11_74 rfl (by first | assumption | exact so0 hsh rfl) (by first | assumption | exact hr _ _ _ rfl) ?_
      refine wp_iconst (v := 2) (by decide) q194_ok d194_54 ?_
      refine wp_aload_n (j := 0) rfl q194_ok d194_55 ?_
      refine wp_getI q194_ok d194_56 fl_11_277 rfl (by first | assumption | exact so0 hsh rfl) ((congrFun (mm_up_ne (by decide)) 42).trans ((mm_up_at 42).trans (if_pos rfl))) ?_
      refine wp_imul rfl q194_ok d194_59 ?_
      refine wp_iload_n (j := 1) rfl q194_ok d194_60 ?_
      refine wp_iadd rfl q194_ok d194_61 ?_
      refine wp_iald (m := 120) q194_ok d194_62 (by first | assumption | exact so0 hsh rfl) (shl hsh (m := 120) (Nat.le_of_ble_eq_true rfl) rfl) (show ixn (2 * nI k + nI 0) (2 * k + 0) 120 from by rw [nI_2 k 0]; exact ixn_nI (by omega)) ((congrFun (mm_up_ne (by decide)) (2 * k + 0)).trans ((congrFun (mm_up_ne (by decide)) (2 * k + 0)).trans (p30 0 (by decide)).2)) ?_ (shK hsh)
      refine wp_iast (m := 2) q194_ok d194_63 (by first | assumption | exact so0 hsh rfl) (shl hsh (m := 2) (Nat.le_of_ble_eq_true rfl) rfl) (ixn_nI (j := 0) (by decide)) ?_
      refine wp_iinc (j := 1) rfl (by first | exact inc1 | rfl) (rfl : _ = [_, _]) q194_ok d194_64 ?_
      refine wp_goto (t := 21) rfl q194_ok d194_67 ?_
      refine wp_iload_n (j := 1) rfl q194_ok d194_21 ?_
      refine wp_iconst (v := 2) (by decide) q194_ok d194_22 ?_
      refine wp_icmp_ge q194_ok d194_23 (t := 70) rfl (fun h23 => ?_) (fun h23 => ?_)
      · exact absurd (show (2 : Int32) ≤ nI 1 from h23) (by decide)
      · refine wp_aload_n (j := 0) rfl q194_ok d194_26 ?_
        refine wp_getR q194_ok d194_27 fl_11_61 rfl (by first | assumption | exact so0 hsh rfl) (by first | assumption | exact hr _ _ _ rfl) ?_
        refine wp_iload_n (j := 1) rfl q194_ok d194_30 ?_
        refine wp_aload_n (j := 0) rfl q194_ok d194_31 ?_
        refine wp_getR q194_ok d194_32 fl_11_71 rfl (by first | assumption | exact so0 hsh rfl) (by first | assumption | exact hr _ _ _ rfl) ?_
        refine wp_iconst (v := 2) (by decide) q194_ok d194_35 ?_
        refine wp_aload_n (j := 0) rfl q194_ok d194_36 ?_
        refine wp_getI q194_ok d194_37 fl_11_277 rfl (by first | assumption | exact so0 hsh rfl) ((congrFun (mm_up_ne (by decide)) 42).trans ((congrFun (mm_up_ne (by decide)) 42).trans ((mm_up_at 42).trans (if_pos rfl)))) ?_
        refine wp_imul rfl q194_ok d194_40 ?_
        refine wp_iload_n (j := 1) rfl q194_ok d194_41 ?_
        refine wp_iadd rfl q194_ok d194_42 ?_
        refine wp_iald (m := 120) q194_ok d194_43 (by first | assumption | exact so0 hsh rfl) (shl hsh (m := 120) (Nat.le_of_ble_eq_true rfl) rfl) (show ixn (2 * nI k + nI 1) (2 * k + 1) 120 from by rw [nI_2 k 1]; exact ixn_nI (by omega)) ((congrFun (mm_up_ne (by decide)) (2 * k + 1)).trans ((congrFun (mm_up_ne (by decide)) (2 * k + 1)).trans ((congrFun (mm_up_ne (by decide)) (2 * k + 1)).trans (p30 1 (by decide)).1))) ?_ (shK hsh)
        refine wp_iast (m := 2) q194_ok d194_44 (by first | assumption | exact so0 hsh rfl) (shl hsh (m := 2) (Nat.le_of_ble_eq_true rfl) rfl) (ixn_nI (j := 1) (by decide)) ?_
        refine wp_aload_n (j := 0) rfl q194_ok d194_45 ?_
        refine wp_getR q194_ok d194_46 fl_11_64 rfl (by first | assumption | exact so0 hsh rfl) (by first | assumption | exact hr _ _ _ rfl) ?_
        refine wp_iload_n (j := 1) rfl q194_ok d194_49 ?_
        refine wp_aload_n (j := 0) rfl q194_ok d194_50 ?_
        refine wp_getR q194_ok d194_51 fl_11_74 rfl (by first | assumption | exact so0 hsh rfl) (by first | assumption | exact hr _ _ _ rfl) ?_
        refine wp_iconst (v := 2) (by decide) q194_ok d194_54 ?_
        refine wp_aload_n (j := 0) rfl q194_ok d194_55 ?_
        refine wp_getI q194_ok d194_56 fl_11_277 rfl (by first | assumption | exact so0 hsh rfl) ((congrFun (mm_up_ne (by decide)) 42).trans ((congrFun (mm_up_ne (by decide)) 42).trans ((congrFun (mm_up_ne (by decide)) 42).trans ((mm_up_at 42).trans (if_pos rfl))))) ?_
        refine wp_imul rfl q194_ok d194_59 ?_
        refine wp_iload_n (j := 1) rfl q194_ok d194_60 ?_
        refine wp_iadd rfl q194_ok d194_61 ?_
        refine wp_iald (m := 120) q194_ok d194_62 (by first | assumption | exact so0 hsh rfl) (shl hsh (m := 120) (Nat.le_of_ble_eq_true rfl) rfl) (show ixn (2 * nI k + nI 1) (2 * k + 1) 120 from by rw [nI_2 k 1]; exact ixn_nI (by omega)) ((congrFun (mm_up_ne (by decide)) (2 * k + 1)).trans ((congrFun (mm_up_ne (by decide)) (2 * k + 1)).trans ((congrFun (mm_up_ne (by decide)) (2 * k + 1)).trans ((congrFun (mm_up_ne (by decide)) (2 * k + 1)).trans (p30 1 (by decide)).2)))) ?_ (shK hsh)
        refine wp_iast (m := 2) q194_ok d194_63 (by first | assumption | exact so0 hsh rfl) (shl hsh (m := 2) (Nat.le_of_ble_eq_true rfl) rfl) (ixn_nI (j := 1) (by decide)) ?_
        refine wp_iinc (j := 1) rfl (by first | exact inc1 | rfl) (rfl : _ = [_, _]) q194_ok d194_64 ?_
        refine wp_goto (t := 21) rfl q194_ok d194_67 ?_
        refine wp_iload_n (j := 1) rfl q194_ok d194_21 ?_
        refine wp_iconst (v := 2) (by decide) q194_ok d194_22 ?_
        refine wp_icmp_ge q194_ok d194_23 (t := 70) rfl (fun h23 => ?_) (fun h23 => ?_)
        · generalize hD : mm_up (mm_up (mm_up (mm_up (mm_up d 250 42 (nI k)) 268 0 (F.1.2.1 0)) 269 0 (F.1.2.2 0)) 268 1 (F.1.2.1 1)) 269 1 (F.1.2.2 1) = D
          have e9 : ∀ c, c ≠ 250 → c ≠ 268 → c ≠ 269 → D c = d c := fun c h1 hc h2 => by rw [← hD, mm_up_ne h2, mm_up_ne hc, mm_up_ne h2, mm_up_ne hc, mm_up_ne h1]
          have e8 : ∀ b, b < 2 → D 268 b = F.1.2.1 b ∧ D 269 b = F.1.2.2 b := fun b hb => by
            rcases (show b = 0 ∨ b = 1 by omega) with rfl | rfl
            · rw [← hD]; exact ⟨rfl, rfl⟩
            · rw [← hD]; exact ⟨rfl, rfl⟩
          have e250 : ∀ j, j ≠ 42 → D 250 j = d 250 j := fun j hj => by rw [← hD, mm_up_ne (by decide), mm_up_ne (by decide), mm_up_ne (by decide), mm_up_ne (by decide), mm_up_at, if_neg hj]
          have e42 : D 250 42 = nI k := by rw [← hD]; rfl
          refine wp_aload_n (j := 0) rfl q194_ok d194_70 ?_
          refine wp_aload_n (j := 0) rfl q194_ok d194_71 ?_
          refine wp_getR q194_ok d194_72 fl_11_77 rfl (by first | assumption | exact so0 hsh rfl) (by first | assumption | exact hr _ _ _ rfl) ?_
          refine wp_aload_n (j := 0) rfl q194_ok d194_75 ?_
          refine wp_getI q194_ok d194_76 fl_11_277 rfl (by first | assumption | exact so0 hsh rfl) e42 ?_
          refine wp_lald (m := 60) q194_ok d194_79 (by first | assumption | exact so0 hsh rfl) (shl hsh (m := 60) (Nat.le_of_ble_eq_true rfl) rfl) (ixn_nI (show k < 60 by omega)) (hF ▸ (p3 k (by omega)).2) ?_
          refine wp_putJ q194_ok d194_80 fl_11_333 rfl (by first | assumption | exact so0 hsh rfl) (Or.inl rfl) ?_
          refine wp_aload_n (j := 0) rfl q194_ok d194_83 ?_
          refine wp_dup rfl q194_ok d194_84 ?_
          refine wp_getI q194_ok d194_85 fl_11_274 rfl (by first | assumption | exact so0 hsh rfl) ((e250 32 (by decide)).trans hA0.1) ?_
          refine wp_iconst (v := 1) (by decide) q194_ok d194_88 ?_
          refine wp_isub hF1.symm q194_ok d194_89 ?_
          refine wp_putI q194_ok d194_90 fl_11_274 rfl (by first | assumption | exact so0 hsh rfl) (Or.inl rfl) ?_
          refine wp_aload_n (j := 0) rfl q194_ok d194_93 ?_
          refine wp_getI q194_ok d194_94 fl_11_274 rfl (by first | assumption | exact so0 hsh rfl) ((mm_up_at 32).trans (if_pos rfl)) ?_
          refine wp_iret q194_ok d194_97 rfl ?_
          refine ⟨rfl, _, _, rfl, repM_now h (fun c h1 h2 h3 h4 h5 => by rw [mm_up_ne (by omega), e9 c (by omega) (by omega) (by omega)]) (fun j h1 h2 h3 h4 => by rw [mm_up_at, if_neg h1, e250 j h3]) ((mm_up_at 53).trans (if_neg (by decide))) ⟨⟨(mm_up_at 32).trans (if_pos rfl), fun b hb => ?_⟩, (mm_up_at 34).trans (if_pos rfl), ?_⟩, fun c hc => ⟨by rw [mm_up_ne (by omega), e9 c (by omega) (by omega) (by omega)], mm_up_ne (by omega)⟩⟩
          · rw [mm_up_ne (show 268 ≠ 250 by decide), mm_up_ne (show 269 ≠ 250 by decide)]
            exact e8 b hb
          · refine ⟨((mm_up_at 42).trans (if_neg (by decide))).trans (e42.trans (by rw [hk]; rfl)), by show _ - 1 ≤ 60; omega, fun i hi => ?_⟩
            have hi2 : i < (sX S).2.2.1 - 1 := hi
            rw [mm_up_ne (show 271 ≠ 250 by decide), mm_up_ne (show 272 ≠ 250 by decide), mm_up_ne (show 273 ≠ 250 by decide), e9 271 (by decide) (by decide) (by decide), e9 272 (by decide) (by decide) (by decide)]
            exact p3 i (by omega)
        · exact absurd (show (2 : Int32) ≤ nI 2 from by decide) h23
  · have h4 := Classical.not_not.mp h4
    refine wp_iconst (v := -1) (by decide) q194_ok d194_7 ?_
    refine wp_iret q194_ok d194_8 rfl ?_
    have hc : (sX S).2.2.1 = 0 := by
      have := h.2.2.1.2.2.2.1
      have h2 := (nI_leI (show (sX S).2.2.1 < 2 ^ 31 by omega) (show 0 < 2 ^ 31 by decide)).mp (by rw [h4]; exact Int32.le_refl _)
      omega
    unfold undS' undQ
    rw [if_pos hc, if_pos hc]
    exact mp_same h rfl
