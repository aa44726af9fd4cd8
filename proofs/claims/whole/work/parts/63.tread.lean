/-! ===== towns read and copied ===== -/
def townL (L : wo_P) : Nat → Nat → wo_W → Nat ⊕ (Nat × wo_W)
  | 0, p, W => .inr (p, W)
  | z + 1, p, W => match townC L p W with
    | .inl e => .inl e
    | .inr x => if bAt L (wsp L x.1) = 59 then townL L z (wsp L x.1 + 1) x.2 else .inr (wsp L x.1, x.2)
def townS (L : wo_P) : Nat ⊕ wo_W := match townL L 160 0 W0 with
  | .inl e => .inl e
  | .inr x => if bAt L (wsp L x.1) = -1 ∧ 0 < wnp x.2 ∧ 0 < wnb x.2 then .inr x.2 else .inl (wsp L x.1)
def upost (sh : mm_S) (g : mm_G) (r : mm_R) (d : mm_D) (L : wo_P) (res : Nat ⊕ (Nat × wo_W)) (v : Option Value) (μ : mm_M) : Prop := ∃ d2, μ = (sh, d2, g, r) ∧ tf d d2 ∧ (match res with
  | .inl w => v = some (.int (nI w))
  | .inr x => (bAt L (wsp L x.1) = -1 ∧ 0 < wnp x.2 ∧ 0 < wnb x.2 → v = some (.int (-1)) ∧ rpT d2 18 x.2) ∧ (¬ (bAt L (wsp L x.1) = -1 ∧ 0 < wnp x.2 ∧ 0 < wnb x.2) → v = some (.int (nI (wsp L x.1)))))
theorem c_tfin {xs : List Int32} {ext : mm_X} {n : Nat} {sh : mm_S} {g : mm_G} {r : mm_R} {L : wo_P} (hsh : shp sh) (hr : rfx r) {d : mm_D} {p : Nat} {W : wo_W} (u w : Int32) (hg : sgR d L p) (hT : rpT d 18 W) : wp xs ext (n + 5) 73 60 [some (.ref 32), some (.int u), some (.int w)] [] (sh, d, g, r) (upost sh g r d L (.inr (p, W))) := by
  have hwl := wsp_le L hg.2.2
  refine wp_aload_n (j := 0) rfl q73_ok d73_60 ?_
  refine wp_getR q73_ok d73_61 fl_8_9 rfl (by first | assumption | exact so0 hsh rfl) (by first | assumption | exact hr _ _ _ rfl) ?_
  refine wp_cV q73_ok d73_64 ml_8_41 rfl q35_ok (u := 4) rfl (by first | assumption | exact so0 hsh rfl) rfl (Nat.le_of_ble_eq_true rfl) (Nat.le_of_ble_eq_true rfl) (c_peek hsh hr hg) (fun v64 μ64 hc => ?_)
  obtain ⟨rfl, d1, rfl, f1, a1, w1⟩ := hc
  refine ⟨mm_le_same rfl, ?_⟩
  have hT1 := rpT_sf hT f1
  refine wp_iconst (v := -1) (by decide) q73_ok d73_67 ?_
  refine wp_icmp_ne q73_ok d73_68 (t := 95) rfl (fun h68 => ?_) (fun h68 => ?_)
  · refine wp_iconst (v := 0) (by decide) q73_ok d73_95 ?_
    refine wp_istore_n (j := 2) (Nat.le_of_ble_eq_true rfl) (rfl : _ = [_, _, _]) q73_ok d73_96 ?_
    refine wp_iload_n (j := 2) rfl q73_ok d73_97 ?_
    refine wp_if_eq q73_ok d73_98 (t := 105) rfl (fun h98 => ?_) (fun h98 => ?_)
    · refine wp_aload_n (j := 0) rfl q73_ok d73_105 ?_
      refine wp_getR q73_ok d73_106 fl_8_9 rfl (by first | assumption | exact so0 hsh rfl) (by first | assumption | exact hr _ _ _ rfl) ?_
      refine wp_getI q73_ok d73_109 fl_8_51 rfl (by first | assumption | exact so0 hsh rfl) a1 ?_
      refine wp_iret q73_ok d73_112 rfl ?_
      exact ⟨d1, rfl, tf_sf f1, fun q => absurd q (fun q => h68 q.1), fun _ => rfl⟩
    · exact absurd rfl h98
  · have h68 := Classical.not_not.mp h68
    refine wp_aload_n (j := 0) rfl q73_ok d73_71 ?_
    refine wp_getR q73_ok d73_72 fl_8_15 rfl (by first | assumption | exact so0 hsh rfl) (by first | assumption | exact hr _ _ _ rfl) ?_
    refine wp_getI q73_ok d73_75 fl_8_45 rfl (by first | assumption | exact so0 hsh rfl) hT1.1 ?_
    refine wp_if_le q73_ok d73_78 (t := 95) rfl (fun h78 => ?_) (fun h78 => ?_)
    · refine wp_iconst (v := 0) (by decide) q73_ok d73_95 ?_
      refine wp_istore_n (j := 2) (Nat.le_of_ble_eq_true rfl) (rfl : _ = [_, _, _]) q73_ok d73_96 ?_
      refine wp_iload_n (j := 2) rfl q73_ok d73_97 ?_
      refine wp_if_eq q73_ok d73_98 (t := 105) rfl (fun h98 => ?_) (fun h98 => ?_)
      · refine wp_aload_n (j := 0) rfl q73_ok d73_105 ?_
        refine wp_getR q73_ok d73_106 fl_8_9 rfl (by first | assumption | exact so0 hsh rfl) (by first | assumption | exact hr _ _ _ rfl) ?_
        refine wp_getI q73_ok d73_109 fl_8_51 rfl (by first | assumption | exact so0 hsh rfl) a1 ?_
        refine wp_iret q73_ok d73_112 rfl ?_
        exact ⟨d1, rfl, tf_sf f1, fun q => absurd q (fun q => absurd ((nI_leI (by have := hT.2.1; omega) (by decide)).mp (show nI (wnp W) ≤ nI 0 from h78)) (by have : 0 < wnp W := q.2.1; omega)), fun _ => rfl⟩
      · exact absurd rfl h98
    · refine wp_aload_n (j := 0) rfl q73_ok d73_81 ?_
      refine wp_getR q73_ok d73_82 fl_8_15 rfl (by first | assumption | exact so0 hsh rfl) (by first | assumption | exact hr _ _ _ rfl) ?_
      refine wp_getI q73_ok d73_85 fl_8_48 rfl (by first | assumption | exact so0 hsh rfl) hT1.2.2.1 ?_
      refine wp_if_le q73_ok d73_88 (t := 95) rfl (fun h88 => ?_) (fun h88 => ?_)
      · refine wp_iconst (v := 0) (by decide) q73_ok d73_95 ?_
        refine wp_istore_n (j := 2) (Nat.le_of_ble_eq_true rfl) (rfl : _ = [_, _, _]) q73_ok d73_96 ?_
        refine wp_iload_n (j := 2) rfl q73_ok d73_97 ?_
        refine wp_if_eq q73_ok d73_98 (t := 105) rfl (fun h98 => ?_) (fun h98 => ?_)
        · refine wp_aload_n (j := 0) rfl q73_ok d73_105 ?_
          refine wp_getR q73_ok d73_106 fl_8_9 rfl (by first | assumption | exact so0 hsh rfl) (by first | assumption | exact hr _ _ _ rfl) ?_
          refine wp_getI q73_ok d73_109 fl_8_51 rfl (by first | assumption | exact so0 hsh rfl) a1 ?_
          refine wp_iret q73_ok d73_112 rfl ?_
          exact ⟨d1, rfl, tf_sf f1, fun q => absurd q (fun q => absurd ((nI_leI (by have := hT.2.2.2.1; omega) (by decide)).mp (show nI (wnb W) ≤ nI 0 from h88)) (by have : 0 < wnb W := q.2.2; omega)), fun _ => rfl⟩
        · exact absurd rfl h98
      · refine wp_iconst (v := 1) (by decide) q73_ok d73_91 ?_
        refine wp_goto (t := 96) rfl q73_ok d73_92 ?_
        refine wp_istore_n (j := 2) (Nat.le_of_ble_eq_true rfl) (rfl : _ = [_, _, _]) q73_ok d73_96 ?_
        refine wp_iload_n (j := 2) rfl q73_ok d73_97 ?_
        refine wp_if_eq q73_ok d73_98 (t := 105) rfl (fun h98 => ?_) (fun h98 => ?_)
        · exact absurd h98 (by decide)
        · refine wp_iconst (v := -1) (by decide) q73_ok d73_101 ?_
          refine wp_goto (t := 112) rfl q73_ok d73_102 ?_
          refine wp_iret q73_ok d73_112 rfl ?_
          exact ⟨d1, rfl, tf_sf f1, fun _ => ⟨rfl, hT1⟩, fun q => absurd ⟨h68, Nat.pos_of_ne_zero (fun e => h78 (by rw [e]; decide)), Nat.pos_of_ne_zero (fun e => h88 (by rw [e]; decide))⟩ q⟩
theorem c_tread_l {xs : List Int32} {ext : mm_X} {n : Nat} {sh : mm_S} {g : mm_G} {r : mm_R} {L : wo_P} (hsh : shp sh) (hr : rfx r) : ∀ (z i : Nat) (d : mm_D) (p : Nat) (W : wo_W), z + i = 160 → sgR d L p → rpT d 18 W → wp xs ext (n + 5) 73 18 [some (.ref 32), some (.int 1), some (.int (nI i))] [] (sh, d, g, r) (upost sh g r d L (townL L z p W)) := by
  intro z
  induction z with
  | zero =>
    intro i d p W hm hg hT
    have hvb : i = 160 := by omega
    subst hvb
    refine wp_iload_n (j := 1) rfl q73_ok d73_18 ?_
    refine wp_if_eq q73_ok d73_19 (t := 60) rfl (fun h19 => ?_) (fun h19 => ?_)
    · exact absurd h19 (by decide)
    · refine wp_iload_n (j := 2) rfl q73_ok d73_22 ?_
      refine wp_sipush (v := 160) (by decide) q73_ok d73_23 ?_
      refine wp_icmp_ge q73_ok d73_26 (t := 60) rfl (fun h26 => ?_) (fun h26 => ?_)
      · exact c_tfin hsh hr _ _ hg hT
      · exact absurd (nI_le (Nat.le_refl _) (by decide)) h26
  | succ z ih =>
    intro i d p W hm hg hT
    have hlt : i < 160 := by omega
    refine wp_iload_n (j := 1) rfl q73_ok d73_18 ?_
    refine wp_if_eq q73_ok d73_19 (t := 60) rfl (fun h19 => ?_) (fun h19 => ?_)
    · exact absurd h19 (by decide)
    · refine wp_iload_n (j := 2) rfl q73_ok d73_22 ?_
      refine wp_sipush (v := 160) (by decide) q73_ok d73_23 ?_
      refine wp_icmp_ge q73_ok d73_26 (t := 60) rfl (fun h26 => ?_) (fun h26 => ?_)
      · exact absurd h26 (nI_ge hlt (by decide))
      · refine wp_aload_n (j := 0) rfl q73_ok d73_29 ?_
        refine wp_cV q73_ok d73_30 ml_8_29 rfl q74_ok (u := 8) rfl (by first | assumption | exact so0 hsh rfl) rfl (Nat.le_of_ble_eq_true rfl) (Nat.le_of_ble_eq_true rfl) (c_tclause hsh hr hg hT) (fun v30 μ30 hc => ?_)
        obtain ⟨d3, rfl, f3, m3⟩ := hc
        refine ⟨mm_le_same rfl, ?_⟩
        cases e3 : townC L p W with
        | inl w =>
          rw [e3] at m3
          obtain ⟨rfl, m3⟩ := m3
          refine wp_if_ne q73_ok d73_33 (t := 44) rfl (fun h33 => ?_) (fun h33 => ?_)
          · exact absurd rfl h33
          · have h33 := Classical.not_not.mp h33
            refine wp_aload_n (j := 0) rfl q73_ok d73_36 ?_
            refine wp_getR q73_ok d73_37 fl_8_9 rfl (by first | assumption | exact so0 hsh rfl) (by first | assumption | exact hr _ _ _ rfl) ?_
            refine wp_getI q73_ok d73_40 fl_8_33 rfl (by first | assumption | exact so0 hsh rfl) m3 ?_
            refine wp_iret q73_ok d73_43 rfl ?_
            exact ⟨d3, rfl, f3, by rw [townL, e3]⟩
        | inr x =>
          rw [e3] at m3
          obtain ⟨rfl, m3, m4⟩ := m3
          have hxl := wsp_le L m3.2.2
          refine wp_if_ne q73_ok d73_33 (t := 44) rfl (fun h33 => ?_) (fun h33 => ?_)
          · refine wp_aload_n (j := 0) rfl q73_ok d73_44 ?_
            refine wp_getR q73_ok d73_45 fl_8_9 rfl (by first | assumption | exact so0 hsh rfl) (by first | assumption | exact hr _ _ _ rfl) ?_
            refine wp_bipush (v := 59) (by decide) q73_ok d73_48 ?_
            refine wp_cV q73_ok d73_50 ml_8_37 rfl q37_ok (u := 4) rfl (by first | assumption | exact so0 hsh rfl) rfl (Nat.le_of_ble_eq_true rfl) (Nat.le_of_ble_eq_true rfl) (c_passes hsh hr m3 _) (fun v50 μ50 hc => ?_)
            obtain ⟨rfl, d5, rfl, f5, a5, w5⟩ := hc
            refine ⟨mm_le_same rfl, ?_⟩
            have hfx := tf_trans f3 (tf_sf f5)
            have hT5 := rpT_sf m4 f5
            by_cases hc : bAt L (wsp L x.1) = 59
            · rw [if_pos hc] at a5
              rw [if_pos hc]
              have hg5 : sgR d5 L (wsp L x.1 + 1) := ⟨tpR_sf m3.1 f5, a5, bAt_lt hc (by decide)⟩
              refine wp_istore_n (j := 1) (Nat.le_of_ble_eq_true rfl) (rfl : _ = [_, _, _]) q73_ok d73_53 ?_
              refine wp_iinc (j := 2) rfl (by first | exact inc1 | rfl) (rfl : _ = [_, _, _]) q73_ok d73_54 ?_
              refine wp_goto (t := 18) rfl q73_ok d73_57 ?_
              refine wp_post (ih (i + 1) d5 _ _ (by omega) hg5 hT5) (fun v μ hc2 => ?_)
              obtain ⟨d6, rfl, f6, m6⟩ := hc2
              refine ⟨d6, rfl, tf_trans hfx f6, ?_⟩
              rw [townL, e3]
              dsimp only
              rw [if_pos hc]
              exact m6
            · rw [if_neg hc] at a5
              rw [if_neg hc]
              have hg5 : sgR d5 L (wsp L x.1) := ⟨tpR_sf m3.1 f5, a5, hxl⟩
              refine wp_istore_n (j := 1) (Nat.le_of_ble_eq_true rfl) (rfl : _ = [_, _, _]) q73_ok d73_53 ?_
              refine wp_iinc (j := 2) rfl (by first | exact inc1 | rfl) (rfl : _ = [_, _, _]) q73_ok d73_54 ?_
              refine wp_goto (t := 18) rfl q73_ok d73_57 ?_
              refine wp_iload_n (j := 1) rfl q73_ok d73_18 ?_
              refine wp_if_eq q73_ok d73_19 (t := 60) rfl (fun h19 => ?_) (fun h19 => ?_)
              · refine wp_post (c_tfin hsh hr _ _ hg5 hT5) (fun v μ hc2 => ?_)
                obtain ⟨d6, rfl, f6, m6⟩ := hc2
                refine ⟨d6, rfl, tf_trans hfx f6, ?_⟩
                rw [townL, e3]
                dsimp only
                rw [if_neg hc]
                exact m6
              · exact absurd rfl h19
          · have h33 := Classical.not_not.mp h33
            exact absurd h33 (by decide)
theorem c_tread {xs : List Int32} {ext : mm_X} {n : Nat} {sh : mm_S} {g : mm_G} {r : mm_R} {L : wo_P} (hsh : shp sh) (hr : rfx r) (d : mm_D) (hL : tpR d L) : wp xs ext (n + 5) 73 0 [some (.ref 32), none, none] [] (sh, d, g, r) (fun v μ => ∃ d2 r2, μ = (sh, d2, g, r2) ∧ rfx r2 ∧ (∀ c, c ≠ 26 → r2 c = r c) ∧ tf d d2 ∧ (match townS L with | .inl w => v = some (.int (nI w)) | .inr W => v = some (.int (-1)) ∧ rpT d2 18 W)) := by
  refine wp_aload_n (j := 0) rfl q73_ok d73_0 ?_
  refine wp_getR q73_ok d73_1 fl_8_9 rfl (by first | assumption | exact so0 hsh rfl) (by first | assumption | exact hr _ _ _ rfl) ?_
  refine wp_cV q73_ok d73_4 ml_8_19 rfl q34_ok (u := 4) rfl (by first | assumption | exact so0 hsh rfl) rfl (Nat.le_of_ble_eq_true rfl) (Nat.le_of_ble_eq_true rfl) (c_srestart hsh hr) (fun v4 μ4 hc => ?_)
  obtain ⟨rfl, rfl⟩ := hc
  refine ⟨mm_le_same rfl, ?_⟩
  refine wp_aload_n (j := 0) rfl q73_ok d73_7 ?_
  refine wp_getR q73_ok d73_8 fl_8_15 rfl (by first | assumption | exact so0 hsh rfl) (by first | assumption | exact hr _ _ _ rfl) ?_
  refine wp_cV q73_ok d73_11 ml_8_24 rfl q51_ok (u := 7) rfl (by first | assumption | exact so0 hsh rfl) rfl (Nat.le_of_ble_eq_true rfl) (Nat.le_of_ble_eq_true rfl) (c_clear18 hsh hr) (fun v11 μ11 hc => ?_)
  obtain ⟨rfl, r2, rfl, hr2, e26, _, _⟩ := hc
  refine ⟨mm_le_same rfl, ?_⟩
  refine wp_iconst (v := 1) (by decide) q73_ok d73_14 ?_
  refine wp_istore_n (j := 1) (Nat.le_of_ble_eq_true rfl) (rfl : _ = [_, _, _]) q73_ok d73_15 ?_
  refine wp_iconst (v := 0) (by decide) q73_ok d73_16 ?_
  refine wp_istore_n (j := 2) (Nat.le_of_ble_eq_true rfl) (rfl : _ = [_, _, _]) q73_ok d73_17 ?_
  have hd : ∀ a, a ≠ 3 → a ≠ 18 → mm_up (mm_up (mm_up (mm_up (mm_up d 3 1 0) 3 2 (-1)) 18 5 0) 18 6 0) 18 7 0 a = d a := fun a h1 h2 => by rw [mm_up_ne h2, mm_up_ne h2, mm_up_ne h2, mm_up_ne h1, mm_up_ne h1]
  have hg : sgR (mm_up (mm_up (mm_up (mm_up (mm_up d 3 1 0) 3 2 (-1)) 18 5 0) 18 6 0) 18 7 0) L 0 := by
    refine ⟨?_, ?_, Nat.zero_le _⟩
    · unfold tpR
      rw [hd 1 (by decide) (by decide), hd 2 (by decide) (by decide)]
      exact hL
    · rw [mm_up_ne (by decide), mm_up_ne (by decide), mm_up_ne (by decide), mm_up_at, if_neg (by decide), mm_up_at, if_pos rfl]
      rfl
  have hT : rpT (mm_up (mm_up (mm_up (mm_up (mm_up d 3 1 0) 3 2 (-1)) 18 5 0) 18 6 0) 18 7 0) 18 W0 := by
    refine ⟨?_, Nat.zero_le _, ?_, Nat.zero_le _, fun p hp => absurd hp (Nat.not_lt_zero _), fun b hb => absurd hb (Nat.not_lt_zero _), (mm_up_at 7).trans (if_pos rfl), fun h => by cases h⟩
    · rw [mm_up_at, if_neg (by decide), mm_up_at, if_neg (by decide), mm_up_at, if_pos rfl]
      rfl
    · rw [mm_up_at, if_neg (by decide), mm_up_at, if_pos rfl]
      rfl
  refine wp_post (c_tread_l hsh hr2 160 0 _ 0 W0 (by omega) hg hT) (fun v μ hc => ?_)
  obtain ⟨d3, rfl, f3, m3⟩ := hc
  refine ⟨d3, r2, rfl, hr2, e26, fun a h1 h2 => by rw [f3 a h1 h2, hd a h1 (by omega)], ?_⟩
  unfold townS
  cases e : townL L 160 0 W0 with
  | inl w =>
    rw [e] at m3
    exact m3
  | inr x =>
    rw [e] at m3
    dsimp only at m3 ⊢
    by_cases q : bAt L (wsp L x.1) = -1 ∧ 0 < wnp x.2 ∧ 0 < wnb x.2
    · rw [if_pos q]
      exact m3.1 q
    · rw [if_neg q]
      exact m3.2 q
