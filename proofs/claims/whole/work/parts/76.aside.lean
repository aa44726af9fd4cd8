/-! ===== the model puts aside, takes back ===== -/
theorem snA01 (T : wo_T) (o : wo_O) (B : wo_A) : snA T o B = 0 ∨ snA T o B = 1 := b01_01 _
theorem sgM0 (T : wo_T) (o : wo_O) (B : wo_A) : sgM T o B 0 = snA T o B := by
  unfold sgM
  rcases snA01 T o B with e | e
  · rw [if_pos e, if_pos rfl, e]
  · rw [if_neg (by rw [e]; decide), e]
def hS (d : mm_D) (B : wo_A) : Prop := d 250 45 = B.1 ∧ ∀ b, b < 2 → d 274 b = B.2.1 b ∧ d 275 b = B.2.2 b
/-- a question leaves these alone -/
def qf (d d2 : mm_D) : Prop := (∀ c, c ≠ 250 → c ≠ 259 → c ≠ 260 → c ≠ 268 → c ≠ 269 → c ≠ 270 → c ≠ 274 → c ≠ 275 → d2 c = d c) ∧ ∀ j, j ≠ 32 → j ≠ 38 → j ≠ 45 → d2 250 j = d 250 j
theorem qf_refl (d : mm_D) : qf d d := ⟨fun _ _ _ _ _ _ _ _ _ => rfl, fun _ _ _ _ => rfl⟩
theorem qf_trans {d d1 d2 : mm_D} (h : qf d d1) (h' : qf d1 d2) : qf d d2 := ⟨fun c a1 a2 a3 a4 a5 a6 a7 a8 => (h'.1 c a1 a2 a3 a4 a5 a6 a7 a8).trans (h.1 c a1 a2 a3 a4 a5 a6 a7 a8), fun j a1 a2 a3 => (h'.2 j a1 a2 a3).trans (h.2 j a1 a2 a3)⟩
theorem qf_pf {d d2 : mm_D} (h : pf d d2) : qf d d2 := ⟨fun c a1 a2 a3 a4 a5 a6 _ _ => h.1 c a1 a2 a3 a4 a5 a6, fun j a1 a2 _ => h.2 j a1 a2⟩
theorem MR_qf {d d2 : mm_D} {T : wo_T} {o : wo_O} (hR : MR d T o) (h : qf d d2) : MR d2 T o := MR_eq hR (fun c h1 h2 h3 h4 => h.1 c (by omega) h3 h4 (by omega) (by omega) (by omega) (by omega) (by omega)) (fun j hj => h.2 j (by omega) (by omega) (by omega))
theorem hS_pf {d d2 : mm_D} {B : wo_A} (hB : hS d B) (h : pf d d2) : hS d2 B := by
  unfold hS
  rw [h.2 45 (by decide) (by decide), h.1 274 (by decide) (by decide) (by decide) (by decide) (by decide) (by decide), h.1 275 (by decide) (by decide) (by decide) (by decide) (by decide) (by decide)]
  exact hB
theorem m_put {xs : List Int32} {ext : mm_X} {n : Nat} {sh : mm_S} {d : mm_D} {g : mm_G} {r : mm_R} (hsh : shp sh) (hr : rfx r) {B : wo_A} (hB : hM d B) : wp xs ext (n + 0) 195 0 [some (.ref 250), none] [] (sh, d, g, r) (fun v μ => v = none ∧ ∃ d2, μ = (sh, d2, g, r) ∧ qf d d2 ∧ hM d2 B ∧ hS d2 B) := by
  refine wp_iconst (v := 0) (by decide) q195_ok d195_0 ?_
  refine wp_istore_n (j := 1) (Nat.le_of_ble_eq_true rfl) (rfl : _ = [_, _]) q195_ok d195_1 ?_
  refine wp_iload_n (j := 1) rfl q195_ok d195_2 ?_
  refine wp_iconst (v := 2) (by decide) q195_ok d195_3 ?_
  refine wp_icmp_ge q195_ok d195_4 (t := 37) rfl (fun h4 => ?_) (fun h4 => ?_)
  · exact absurd h4 (by decide)
  · refine wp_aload_n (j := 0) rfl q195_ok d195_7 ?_
    refine wp_getR q195_ok d195_8 fl_11_81 rfl (by first | assumption | exact so0 hsh rfl) (by first | assumption | exact hr _ _ _ rfl) ?_
    refine wp_iload_n (j := 1) rfl q195_ok d195_11 ?_
    refine wp_aload_n (j := 0) rfl q195_ok d195_12 ?_
    refine wp_getR q195_ok d195_13 fl_11_61 rfl (by first | assumption | exact so0 hsh rfl) (by first | assumption | exact hr _ _ _ rfl) ?_
    refine wp_iload_n (j := 1) rfl q195_ok d195_16 ?_
    refine wp_iald (m := 2) q195_ok d195_17 (by first | assumption | exact so0 hsh rfl) (shl hsh (m := 2) (Nat.le_of_ble_eq_true rfl) rfl) ⟨rfl, by decide, by decide⟩ (hB.2 0 (by decide)).1 ?_ (shK hsh)
    refine wp_iast (m := 2) q195_ok d195_18 (by first | assumption | exact so0 hsh rfl) (shl hsh (m := 2) (Nat.le_of_ble_eq_true rfl) rfl) ⟨rfl, by decide, by decide⟩ ?_
    refine wp_aload_n (j := 0) rfl q195_ok d195_19 ?_
    refine wp_getR q195_ok d195_20 fl_11_84 rfl (by first | assumption | exact so0 hsh rfl) (by first | assumption | exact hr _ _ _ rfl) ?_
    refine wp_iload_n (j := 1) rfl q195_ok d195_23 ?_
    refine wp_aload_n (j := 0) rfl q195_ok d195_24 ?_
    refine wp_getR q195_ok d195_25 fl_11_64 rfl (by first | assumption | exact so0 hsh rfl) (by first | assumption | exact hr _ _ _ rfl) ?_
    refine wp_iload_n (j := 1) rfl q195_ok d195_28 ?_
    refine wp_iald (m := 2) q195_ok d195_29 (by first | assumption | exact so0 hsh rfl) (shl hsh (m := 2) (Nat.le_of_ble_eq_true rfl) rfl) ⟨rfl, by decide, by decide⟩ ((congrFun ((mm_up_ne (by decide))) _).trans (hB.2 0 (by decide)).2) ?_ (shK hsh)
    refine wp_iast (m := 2) q195_ok d195_30 (by first | assumption | exact so0 hsh rfl) (shl hsh (m := 2) (Nat.le_of_ble_eq_true rfl) rfl) ⟨rfl, by decide, by decide⟩ ?_
    refine wp_iinc (j := 1) rfl (by first | exact inc1 | rfl) (rfl : _ = [_, _]) q195_ok d195_31 ?_
    refine wp_goto (t := 2) rfl q195_ok d195_34 ?_
    refine wp_iload_n (j := 1) rfl q195_ok d195_2 ?_
    refine wp_iconst (v := 2) (by decide) q195_ok d195_3 ?_
    refine wp_icmp_ge q195_ok d195_4 (t := 37) rfl (fun h4 => ?_) (fun h4 => ?_)
    · exact absurd h4 (by decide)
    · refine wp_aload_n (j := 0) rfl q195_ok d195_7 ?_
      refine wp_getR q195_ok d195_8 fl_11_81 rfl (by first | assumption | exact so0 hsh rfl) (by first | assumption | exact hr _ _ _ rfl) ?_
      refine wp_iload_n (j := 1) rfl q195_ok d195_11 ?_
      refine wp_aload_n (j := 0) rfl q195_ok d195_12 ?_
      refine wp_getR q195_ok d195_13 fl_11_61 rfl (by first | assumption | exact so0 hsh rfl) (by first | assumption | exact hr _ _ _ rfl) ?_
      refine wp_iload_n (j := 1) rfl q195_ok d195_16 ?_
      refine wp_iald (m := 2) q195_ok d195_17 (by first | assumption | exact so0 hsh rfl) (shl hsh (m := 2) (Nat.le_of_ble_eq_true rfl) rfl) ⟨rfl, by decide, by decide⟩ ((congrFun (((mm_up_ne (by decide)).trans (mm_up_ne (by decide)))) _).trans (hB.2 1 (by decide)).1) ?_ (shK hsh)
      refine wp_iast (m := 2) q195_ok d195_18 (by first | assumption | exact so0 hsh rfl) (shl hsh (m := 2) (Nat.le_of_ble_eq_true rfl) rfl) ⟨rfl, by decide, by decide⟩ ?_
      refine wp_aload_n (j := 0) rfl q195_ok d195_19 ?_
      refine wp_getR q195_ok d195_20 fl_11_84 rfl (by first | assumption | exact so0 hsh rfl) (by first | assumption | exact hr _ _ _ rfl) ?_
      refine wp_iload_n (j := 1) rfl q195_ok d195_23 ?_
      refine wp_aload_n (j := 0) rfl q195_ok d195_24 ?_
      refine wp_getR q195_ok d195_25 fl_11_64 rfl (by first | assumption | exact so0 hsh rfl) (by first | assumption | exact hr _ _ _ rfl) ?_
      refine wp_iload_n (j := 1) rfl q195_ok d195_28 ?_
      refine wp_iald (m := 2) q195_ok d195_29 (by first | assumption | exact so0 hsh rfl) (shl hsh (m := 2) (Nat.le_of_ble_eq_true rfl) rfl) ⟨rfl, by decide, by decide⟩ ((congrFun (((mm_up_ne (by decide)).trans ((mm_up_ne (by decide)).trans (mm_up_ne (by decide))))) _).trans (hB.2 1 (by decide)).2) ?_ (shK hsh)
      refine wp_iast (m := 2) q195_ok d195_30 (by first | assumption | exact so0 hsh rfl) (shl hsh (m := 2) (Nat.le_of_ble_eq_true rfl) rfl) ⟨rfl, by decide, by decide⟩ ?_
      refine wp_iinc (j := 1) rfl (by first | exact inc1 | rfl) (rfl : _ = [_, _]) q195_ok d195_31 ?_
      refine wp_goto (t := 2) rfl q195_ok d195_34 ?_
      refine wp_iload_n (j := 1) rfl q195_ok d195_2 ?_
      refine wp_iconst (v := 2) (by decide) q195_ok d195_3 ?_
      refine wp_icmp_ge q195_ok d195_4 (t := 37) rfl (fun h4 => ?_) (fun h4 => ?_)
      · refine wp_aload_n (j := 0) rfl q195_ok d195_37 ?_
        refine wp_aload_n (j := 0) rfl q195_ok d195_38 ?_
        refine wp_getI q195_ok d195_39 fl_11_274 rfl (by first | assumption | exact so0 hsh rfl) ((congrFun (((mm_up_ne (by decide)).trans ((mm_up_ne (by decide)).trans ((mm_up_ne (by decide)).trans (mm_up_ne (by decide)))))) _).trans hB.1) ?_
        refine wp_putI q195_ok d195_42 fl_11_353 rfl (by first | assumption | exact so0 hsh rfl) (Or.inl rfl) ?_
        refine wp_vret q195_ok d195_45 rfl ?_
        refine ⟨rfl, _, rfl, ⟨fun c a1 a2 a3 a4 a5 a6 a7 a8 => by rw [mm_up_ne a1, mm_up_ne a8, mm_up_ne a7, mm_up_ne a8, mm_up_ne a7], fun j a1 a2 a3 => by rw [mm_up_at, if_neg a3, mm_up_ne (by decide), mm_up_ne (by decide), mm_up_ne (by decide), mm_up_ne (by decide)]⟩, ⟨?_, fun b hb => ?_⟩, ⟨(mm_up_at 45).trans (if_pos rfl), fun b hb => ?_⟩⟩
        · rw [mm_up_at, if_neg (by decide), mm_up_ne (by decide), mm_up_ne (by decide), mm_up_ne (by decide), mm_up_ne (by decide)]; exact hB.1
        · rw [mm_up_ne (by decide), mm_up_ne (by decide), mm_up_ne (by decide), mm_up_ne (by decide), mm_up_ne (by decide), mm_up_ne (by decide), mm_up_ne (by decide), mm_up_ne (by decide), mm_up_ne (by decide), mm_up_ne (by decide)]; exact hB.2 b hb
        · have e : b = 0 ∨ b = 1 := by omega
          rcases e with rfl | rfl <;> exact ⟨rfl, rfl⟩
      · exact absurd (by decide) h4
theorem m_back {xs : List Int32} {ext : mm_X} {n : Nat} {sh : mm_S} {d : mm_D} {g : mm_G} {r : mm_R} (hsh : shp sh) (hr : rfx r) {B : wo_A} (hB : hS d B) : wp xs ext (n + 0) 196 0 [some (.ref 250), none] [] (sh, d, g, r) (fun v μ => v = none ∧ ∃ d2, μ = (sh, d2, g, r) ∧ qf d d2 ∧ hM d2 B) := by
  refine wp_iconst (v := 0) (by decide) q196_ok d196_0 ?_
  refine wp_istore_n (j := 1) (Nat.le_of_ble_eq_true rfl) (rfl : _ = [_, _]) q196_ok d196_1 ?_
  refine wp_iload_n (j := 1) rfl q196_ok d196_2 ?_
  refine wp_iconst (v := 2) (by decide) q196_ok d196_3 ?_
  refine wp_icmp_ge q196_ok d196_4 (t := 37) rfl (fun h4 => ?_) (fun h4 => ?_)
  · exact absurd h4 (by decide)
  · refine wp_aload_n (j := 0) rfl q196_ok d196_7 ?_
    refine wp_getR q196_ok d196_8 fl_11_61 rfl (by first | assumption | exact so0 hsh rfl) (by first | assumption | exact hr _ _ _ rfl) ?_
    refine wp_iload_n (j := 1) rfl q196_ok d196_11 ?_
    refine wp_aload_n (j := 0) rfl q196_ok d196_12 ?_
    refine wp_getR q196_ok d196_13 fl_11_81 rfl (by first | assumption | exact so0 hsh rfl) (by first | assumption | exact hr _ _ _ rfl) ?_
    refine wp_iload_n (j := 1) rfl q196_ok d196_16 ?_
    refine wp_iald (m := 2) q196_ok d196_17 (by first | assumption | exact so0 hsh rfl) (shl hsh (m := 2) (Nat.le_of_ble_eq_true rfl) rfl) ⟨rfl, by decide, by decide⟩ (hB.2 0 (by decide)).1 ?_ (shK hsh)
    refine wp_iast (m := 2) q196_ok d196_18 (by first | assumption | exact so0 hsh rfl) (shl hsh (m := 2) (Nat.le_of_ble_eq_true rfl) rfl) ⟨rfl, by decide, by decide⟩ ?_
    refine wp_aload_n (j := 0) rfl q196_ok d196_19 ?_
    refine wp_getR q196_ok d196_20 fl_11_64 rfl (by first | assumption | exact so0 hsh rfl) (by first | assumption | exact hr _ _ _ rfl) ?_
    refine wp_iload_n (j := 1) rfl q196_ok d196_23 ?_
    refine wp_aload_n (j := 0) rfl q196_ok d196_24 ?_
    refine wp_getR q196_ok d196_25 fl_11_84 rfl (by first | assumption | exact so0 hsh rfl) (by first | assumption | exact hr _ _ _ rfl) ?_
    refine wp_iload_n (j := 1) rfl q196_ok d196_28 ?_
    refine wp_iald (m := 2) q196_ok d196_29 (by first | assumption | exact so0 hsh rfl) (shl hsh (m := 2) (Nat.le_of_ble_eq_true rfl) rfl) ⟨rfl, by decide, by decide⟩ ((congrFun ((mm_up_ne (by decide))) _).trans (hB.2 0 (by decide)).2) ?_ (shK hsh)
    refine wp_iast (m := 2) q196_ok d196_30 (by first | assumption | exact so0 hsh rfl) (shl hsh (m := 2) (Nat.le_of_ble_eq_true rfl) rfl) ⟨rfl, by decide, by decide⟩ ?_
    refine wp_iinc (j := 1) rfl (by first | exact inc1 | rfl) (rfl : _ = [_, _]) q196_ok d196_31 ?_
    refine wp_goto (t := 2) rfl q196_ok d196_34 ?_
    refine wp_iload_n (j := 1) rfl q196_ok d196_2 ?_
    refine wp_iconst (v := 2) (by decide) q196_ok d196_3 ?_
    refine wp_icmp_ge q196_ok d196_4 (t := 37) rfl (fun h4 => ?_) (fun h4 => ?_)
    · exact absurd h4 (by decide)
    · refine wp_aload_n (j := 0) rfl q196_ok d196_7 ?_
      refine wp_getR q196_ok d196_8 fl_11_61 rfl (by first | assumption | exact so0 hsh rfl) (by first | assumption | exact hr _ _ _ rfl) ?_
      refine wp_iload_n (j := 1) rfl q196_ok d196_11 ?_
      refine wp_aload_n (j := 0) rfl q196_ok d196_12 ?_
      refine wp_getR q196_ok d196_13 fl_11_81 rfl (by first | assumption | exact so0 hsh rfl) (by first | assumption | exact hr _ _ _ rfl) ?_
      refine wp_iload_n (j := 1) rfl q196_ok d196_16 ?_
      refine wp_iald (m := 2) q196_ok d196_17 (by first | assumption | exact so0 hsh rfl) (shl hsh (m := 2) (Nat.le_of_ble_eq_true rfl) rfl) ⟨rfl, by decide, by decide⟩ ((congrFun (((mm_up_ne (by decide)).trans (mm_up_ne (by decide)))) _).trans (hB.2 1 (by decide)).1) ?_ (shK hsh)
      refine wp_iast (m := 2) q196_ok d196_18 (by first | assumption | exact so0 hsh rfl) (shl hsh (m := 2) (Nat.le_of_ble_eq_true rfl) rfl) ⟨rfl, by decide, by decide⟩ ?_
      refine wp_aload_n (j := 0) rfl q196_ok d196_19 ?_
      refine wp_getR q196_ok d196_20 fl_11_64 rfl (by first | assumption | exact so0 hsh rfl) (by first | assumption | exact hr _ _ _ rfl) ?_
      refine wp_iload_n (j := 1) rfl q196_ok d196_23 ?_
      refine wp_aload_n (j := 0) rfl q196_ok d196_24 ?_
      refine wp_getR q196_ok d196_25 fl_11_84 rfl (by first | assumption | exact so0 hsh rfl) (by first | assumption | exact hr _ _ _ rfl) ?_
      refine wp_iload_n (j := 1) rfl q196_ok d196_28 ?_
      refine wp_iald (m := 2) q196_ok d196_29 (by first | assumption | exact so0 hsh rfl) (shl hsh (m := 2) (Nat.le_of_ble_eq_true rfl) rfl) ⟨rfl, by decide, by decide⟩ ((congrFun (((mm_up_ne (by decide)).trans ((mm_up_ne (by decide)).trans (mm_up_ne (by decide))))) _).trans (hB.2 1 (by decide)).2) ?_ (shK hsh)
      refine wp_iast (m := 2) q196_ok d196_30 (by first | assumption | exact so0 hsh rfl) (shl hsh (m := 2) (Nat.le_of_ble_eq_true rfl) rfl) ⟨rfl, by decide, by decide⟩ ?_
      refine wp_iinc (j := 1) rfl (by first | exact inc1 | rfl) (rfl : _ = [_, _]) q196_ok d196_31 ?_
      refine wp_goto (t := 2) rfl q196_ok d196_34 ?_
      refine wp_iload_n (j := 1) rfl q196_ok d196_2 ?_
      refine wp_iconst (v := 2) (by decide) q196_ok d196_3 ?_
      refine wp_icmp_ge q196_ok d196_4 (t := 37) rfl (fun h4 => ?_) (fun h4 => ?_)
      · refine wp_aload_n (j := 0) rfl q196_ok d196_37 ?_
        refine wp_aload_n (j := 0) rfl q196_ok d196_38 ?_
        refine wp_getI q196_ok d196_39 fl_11_353 rfl (by first | assumption | exact so0 hsh rfl) ((congrFun (((mm_up_ne (by decide)).trans ((mm_up_ne (by decide)).trans ((mm_up_ne (by decide)).trans (mm_up_ne (by decide)))))) _).trans hB.1) ?_
        refine wp_putI q196_ok d196_42 fl_11_274 rfl (by first | assumption | exact so0 hsh rfl) (Or.inl rfl) ?_
        refine wp_vret q196_ok d196_45 rfl ?_
        refine ⟨rfl, _, rfl, ⟨fun c a1 a2 a3 a4 a5 a6 a7 a8 => by rw [mm_up_ne a1, mm_up_ne a5, mm_up_ne a4, mm_up_ne a5, mm_up_ne a4], fun j a1 a2 a3 => by rw [mm_up_at, if_neg a1, mm_up_ne (by decide), mm_up_ne (by decide), mm_up_ne (by decide), mm_up_ne (by decide)]⟩, ⟨(mm_up_at 32).trans (if_pos rfl), fun b hb => ?_⟩⟩
        have e : b = 0 ∨ b = 1 := by omega
        rcases e with rfl | rfl <;> exact ⟨rfl, rfl⟩
      · exact absurd (by decide) h4
