/-! ===== a minute of the trial ===== -/
theorem foggyC_ag {d d' : mm_D} (ha : ag d d') (m : Int32) : foggyC d' m = foggyC d m := by
  unfold foggyC
  rw [ha 4 (by unfold scr; omega), ha 16 (by unfold scr; omega)]
theorem seersC_ag {d d' : mm_D} (ha : ag d d') (x m y : Int32) : seersC d' x m y = seersC d x m y := by
  unfold seersC
  rw [foggyC_ag ha]
theorem viewC_ag {d d' : mm_D} (ha : ag d d') : viewC d' = viewC d := by
  unfold viewC
  rw [ha 4 (by unfold scr; omega), ha 16 (by unfold scr; omega)]
theorem nearC_ag {d d' : mm_D} (ha : ag d d') (v : Int32) : ∀ k, k ≤ 6 → nearC d' v k = nearC d v k
  | 0, _ => rfl
  | k + 1, h => by rw [nearC, nearC, nearC_ag ha v k (by omega), ha (6 + k) (by unfold scr; omega)]
theorem reachC_ag {d d' : mm_D} (ha : ag d d') {p : Nat} (hp : p < 6) : ∀ k, k ≤ 2 → reachC d' p k = reachC d p k
  | 0, _ => rfl
  | k + 1, h => by rw [reachC, reachC, reachC_ag ha hp k (by omega), ha (6 + p) (by unfold scr; omega), ha (14 + k) (by unfold scr; omega)]
/-- a tower's cells hold no scratch -/
def ntw (w : Nat) : Prop := ¬ scr w ∧ ¬ scr (w + 1) ∧ ¬ scr (w + 2)
theorem pO_ag {d d' : mm_D} (ha : ag d d') {w b : Nat} (hw : ntw w) (hb : b < 2) : pO d' w b = pO d w b := by
  unfold pO
  rw [ha _ hw.1, ha _ hw.2.1, ha (14 + b) (by unfold scr; omega)]
theorem pD1_ag {d d' : mm_D} (ha : ag d d') {w b : Nat} (hw : ntw w) (hb : b < 2) (s : Int32) : ag (pD1 d w b s) (pD1 d' w b s) := by
  unfold pD1
  rw [pO_ag ha hw hb, ha (14 + b) (by unfold scr; omega)]
  exact ag_up ha _ _ _
theorem pD2_ag {d d' : mm_D} (ha : ag d d') {w b : Nat} (hw : ntw w) (hb : b < 2) (s : Int32) : ag (pD2 d w b s) (pD2 d' w b s) := by
  have h1 := pD1_ag ha hw hb s
  unfold pD2
  rw [pO_ag ha hw hb, h1 _ hw.2.1, h1 _ hw.2.2]
  split
  · exact h1
  · exact ag_up h1 _ _ _
theorem pD_ag {d d' : mm_D} (ha : ag d d') {w : Nat} (hw : ntw w) (s : Int32) : ∀ b, b ≤ 2 → ag (pD d w s b) (pD d' w s b)
  | 0, _ => ha
  | b + 1, h => pD2_ag (pD_ag ha hw s b (by omega)) hw (by omega) s
theorem pR_ag {d d' : mm_D} (ha : ag d d') {w : Nat} (hw : ntw w) (s : Int32) : ∀ b, b ≤ 2 → pR d' w s b = pR d w s b
  | 0, _ => rfl
  | b + 1, h => by
    have h0 := pD_ag ha hw s b (by omega)
    have h1 := pD1_ag h0 hw (b := b) (by omega) s
    rw [pR, pR, pR_ag ha hw s b (by omega), pO_ag h0 hw (by omega), h1 _ hw.2.1]
theorem pasD_ag {d d' : mm_D} (ha : ag d d') {w nb : Nat} (hw : ntw w) (hb : nb ≤ 2) (s : Int32) : ag (pasD d w s nb) (pasD d' w s nb) := by
  have h0 := pD_ag ha hw s nb hb
  unfold pasD
  rw [h0 _ hw.1]
  exact ag_up h0 _ _ _
def b01 (x : Int32) : Int32 := if x = 0 then 0 else 1
theorem b01_01 (x : Int32) : b01 x = 0 ∨ b01 x = 1 := by
  unfold b01
  split
  · exact Or.inl rfl
  · exact Or.inr rfl
def st1 (d : mm_D) (r : mm_R) (s np : Nat) : mm_D := mm_up d 232 12 (tlkC d r s np (d 232 6) (d 234 0))
def st2 (d : mm_D) : mm_D := mm_up d 232 13 (seersC d (d 232 12) (d 233 0) (d 232 11))
def st3 (d : mm_D) (nb : Nat) : mm_D := mm_up (pasD d 233 (b01 (d 232 13)) nb) 232 14 (pR d 233 (b01 (d 232 13)) nb)
def st4 (d : mm_D) : mm_D := if d 232 6 < 0 then d else if 540 ≤ d 232 6 then d else mm_up d 237 (d 232 6).toNatClampNeg (b01 (d 232 14 &&& 1))
def st5 (d : mm_D) : mm_D := mm_up d 232 6 (d 232 6 + 1)
def stpD (d : mm_D) (r : mm_R) (s np nb : Nat) : mm_D := st5 (st4 (st3 (st2 (st1 d r s np)) nb))
theorem c_step5 {xs : List Int32} {ext : mm_X} {n : Nat} {sh : mm_S} {d : mm_D} {g : mm_G} {r : mm_R} (hsh : shp sh) (hr : rfx r) : ∀ d1, ag d d1 → wp xs ext (n + 5) 82 116 [some (.ref 232)] [] (sh, d1, g, r) (fun v μ => v = none ∧ ∃ d2, μ = (sh, d2, g, r) ∧ ag (st5 d) d2) := by
  intro d1 ha
  refine wp_aload_n (j := 0) rfl q82_ok d82_116 ?_
  refine wp_dup rfl q82_ok d82_117 ?_
  refine wp_getI q82_ok d82_118 fl_9_59 rfl (by first | assumption | exact so0 hsh rfl) (by first | assumption | exact congrFun (ha _ (by unfold scr; omega)) _ | rfl) ?_
  refine wp_iconst (v := 1) (by decide) q82_ok d82_121 ?_
  refine wp_iadd rfl q82_ok d82_122 ?_
  refine wp_putI q82_ok d82_123 fl_9_59 rfl (by first | assumption | exact so0 hsh rfl) (Or.inl rfl) ?_
  refine wp_vret q82_ok d82_126 rfl ?_
  exact ⟨rfl, _, rfl, by unfold st5; exact ag_up ha _ _ _⟩
theorem c_step4 {xs : List Int32} {ext : mm_X} {n : Nat} {sh : mm_S} {d : mm_D} {g : mm_G} {r : mm_R} (hsh : shp sh) (hr : rfx r) : ∀ d1, ag d d1 → wp xs ext (n + 5) 82 74 [some (.ref 232)] [] (sh, d1, g, r) (fun v μ => v = none ∧ ∃ d2, μ = (sh, d2, g, r) ∧ ag (st5 (st4 d)) d2) := by
  intro d1 ha
  refine wp_aload_n (j := 0) rfl q82_ok d82_74 ?_
  refine wp_getI q82_ok d82_75 fl_9_59 rfl (by first | assumption | exact so0 hsh rfl) (by first | assumption | exact congrFun (ha _ (by unfold scr; omega)) _ | rfl) ?_
  refine wp_if_lt q82_ok d82_78 (t := 116) rfl (fun h78 => ?_) (fun h78 => ?_)
  · refine wp_post (c_step5 (d := st4 d) hsh hr _ (by unfold st4; rw [if_pos h78]; exact ha)) (fun v μ hv => hv)
  · refine wp_aload_n (j := 0) rfl q82_ok d82_81 ?_
    refine wp_getI q82_ok d82_82 fl_9_59 rfl (by first | assumption | exact so0 hsh rfl) (by first | assumption | exact congrFun (ha _ (by unfold scr; omega)) _ | rfl) ?_
    refine wp_aload_n (j := 0) rfl q82_ok d82_85 ?_
    refine wp_getR q82_ok d82_86 fl_9_22 rfl (by first | assumption | exact so0 hsh rfl) (by first | assumption | exact hr _ _ _ rfl) ?_
    refine wp_alen (m := 540) q82_ok d82_89 (shlt hsh (Nat.le_of_ble_eq_true rfl)) (sht hsh (Nat.le_of_ble_eq_true rfl) (Nat.le_of_ble_eq_true rfl)) (by first | assumption | exact shl hsh (Nat.le_of_ble_eq_true rfl) rfl) rfl ?_ (shK hsh)
    refine wp_icmp_ge q82_ok d82_90 (t := 116) rfl (fun h90 => ?_) (fun h90 => ?_)
    · refine wp_post (c_step5 (d := st4 d) hsh hr _ (by unfold st4; rw [if_neg h78, if_pos (show (540 : Int32) ≤ d 232 6 from h90)]; exact ha)) (fun v μ hv => hv)
    · have hix := ixn_of5 h78 h90
      refine wp_aload_n (j := 0) rfl q82_ok d82_93 ?_
      refine wp_getR q82_ok d82_94 fl_9_22 rfl (by first | assumption | exact so0 hsh rfl) (by first | assumption | exact hr _ _ _ rfl) ?_
      refine wp_aload_n (j := 0) rfl q82_ok d82_97 ?_
      refine wp_getI q82_ok d82_98 fl_9_59 rfl (by first | assumption | exact so0 hsh rfl) (by first | assumption | exact congrFun (ha _ (by unfold scr; omega)) _ | rfl) ?_
      refine wp_aload_n (j := 0) rfl q82_ok d82_101 ?_
      refine wp_getI q82_ok d82_102 fl_9_112 rfl (by first | assumption | exact so0 hsh rfl) (by first | assumption | exact congrFun (ha _ (by unfold scr; omega)) _ | rfl) ?_
      refine wp_iconst (v := 1) (by decide) q82_ok d82_105 ?_
      refine wp_iand rfl q82_ok d82_106 ?_
      refine wp_if_eq q82_ok d82_107 (t := 114) rfl (fun h107 => ?_) (fun h107 => ?_)
      · refine wp_iconst (v := 0) (by decide) q82_ok d82_114 ?_
        refine wp_bast (m := 540) q82_ok d82_115 (by first | assumption | exact so0 hsh rfl) (by first | assumption | exact shl hsh (Nat.le_of_ble_eq_true rfl) rfl) hix (by first | assumption | exact Or.inl rfl | exact Or.inr rfl) ?_
        refine wp_post (c_step5 (d := st4 d) hsh hr _ (by unfold st4; rw [if_neg h78, if_neg (show ¬ (540 : Int32) ≤ d 232 6 from h90)]; unfold b01; rw [if_pos h107]; exact ag_up ha _ _ _)) (fun v μ hv => hv)
      · refine wp_iconst (v := 1) (by decide) q82_ok d82_110 ?_
        refine wp_goto (t := 115) rfl q82_ok d82_111 ?_
        refine wp_bast (m := 540) q82_ok d82_115 (by first | assumption | exact so0 hsh rfl) (by first | assumption | exact shl hsh (Nat.le_of_ble_eq_true rfl) rfl) hix (by first | assumption | exact Or.inl rfl | exact Or.inr rfl) ?_
        refine wp_post (c_step5 (d := st4 d) hsh hr _ (by unfold st4; rw [if_neg h78, if_neg (show ¬ (540 : Int32) ≤ d 232 6 from h90)]; unfold b01; rw [if_neg h107]; exact ag_up ha _ _ _)) (fun v μ hv => hv)
theorem tw233 {sh : mm_S} {r : mm_R} (hsh : shp sh) (hr : rfx r) : tw sh r 233 := ⟨so0 hsh rfl, so0 hsh rfl, shl hsh (Nat.le_of_ble_eq_true rfl) rfl, so0 hsh rfl, shl hsh (Nat.le_of_ble_eq_true rfl) rfl, hr _ _ _ rfl, hr _ _ _ rfl⟩
theorem ntw233 : ntw 233 := by unfold ntw scr; decide
theorem c_step3 {xs : List Int32} {ext : mm_X} {n : Nat} {sh : mm_S} {d : mm_D} {g : mm_G} {r : mm_R} (hsh : shp sh) (hr : rfx r) {nb : Nat} (hnb : d 4 6 = nI nb) (h2 : nb ≤ 2) : ∀ d1, ag d d1 → wp xs ext (n + 5) 82 47 [some (.ref 232)] [] (sh, d1, g, r) (fun v μ => v = none ∧ ∃ d2, μ = (sh, d2, g, r) ∧ ag (st5 (st4 (st3 d nb))) d2) := by
  intro d1 ha
  have hnb1 : d1 4 6 = nI nb := by rw [ha _ (by unfold scr; omega)]; exact hnb
  refine wp_aload_n (j := 0) rfl q82_ok d82_47 ?_
  refine wp_aload_n (j := 0) rfl q82_ok d82_48 ?_
  refine wp_getR q82_ok d82_49 fl_9_12 rfl (by first | assumption | exact so0 hsh rfl) (by first | assumption | exact hr _ _ _ rfl) ?_
  refine wp_aload_n (j := 0) rfl q82_ok d82_52 ?_
  refine wp_getR q82_ok d82_53 fl_9_26 rfl (by first | assumption | exact so0 hsh rfl) (by first | assumption | exact hr _ _ _ rfl) ?_
  refine wp_aload_n (j := 0) rfl q82_ok d82_56 ?_
  refine wp_getI q82_ok d82_57 fl_9_105 rfl (by first | assumption | exact so0 hsh rfl) (by first | assumption | exact congrFun (ha _ (by unfold scr; omega)) _ | rfl) ?_
  refine wp_if_eq q82_ok d82_60 (t := 67) rfl (fun h60 => ?_) (fun h60 => ?_)
  · refine wp_iconst (v := 0) (by decide) q82_ok d82_67 ?_
    refine wp_cV q82_ok d82_68 ml_9_108 rfl q49_ok (u := 6) rfl (by first | assumption | exact so0 hsh rfl) rfl (Nat.le_of_ble_eq_true rfl) (Nat.le_of_ble_eq_true rfl) (c_pass hsh hr (tw233 hsh hr) (by omega) hnb1 h2 _) (fun v68 μ68 hc => ?_)
    obtain ⟨rfl, rfl⟩ := hc
    refine ⟨mm_le_same rfl, ?_⟩
    refine wp_putI q82_ok d82_71 fl_9_112 rfl (by first | assumption | exact so0 hsh rfl) (Or.inl rfl) ?_
    refine wp_post (c_step4 (d := st3 d nb) hsh hr _ (by unfold st3 b01; rw [if_pos h60, pR_ag ha ntw233 _ nb h2]; exact ag_up (pasD_ag ha ntw233 h2 _) _ _ _)) (fun v μ hv => hv)
  · refine wp_iconst (v := 1) (by decide) q82_ok d82_63 ?_
    refine wp_goto (t := 68) rfl q82_ok d82_64 ?_
    refine wp_cV q82_ok d82_68 ml_9_108 rfl q49_ok (u := 6) rfl (by first | assumption | exact so0 hsh rfl) rfl (Nat.le_of_ble_eq_true rfl) (Nat.le_of_ble_eq_true rfl) (c_pass hsh hr (tw233 hsh hr) (by omega) hnb1 h2 _) (fun v68 μ68 hc => ?_)
    obtain ⟨rfl, rfl⟩ := hc
    refine ⟨mm_le_same rfl, ?_⟩
    refine wp_putI q82_ok d82_71 fl_9_112 rfl (by first | assumption | exact so0 hsh rfl) (Or.inl rfl) ?_
    refine wp_post (c_step4 (d := st3 d nb) hsh hr _ (by unfold st3 b01; rw [if_neg h60, pR_ag ha ntw233 _ nb h2]; exact ag_up (pasD_ag ha ntw233 h2 _) _ _ _)) (fun v μ hv => hv)
theorem c_step2 {xs : List Int32} {ext : mm_X} {n : Nat} {sh : mm_S} {d : mm_D} {g : mm_G} {r : mm_R} (hsh : shp sh) (hr : rfx r) {nb : Nat} (hnb : d 4 6 = nI nb) (h2 : nb ≤ 2) : ∀ d1, ag d d1 → wp xs ext (n + 5) 82 21 [some (.ref 232)] [] (sh, d1, g, r) (fun v μ => v = none ∧ ∃ d2, μ = (sh, d2, g, r) ∧ ag (st5 (st4 (st3 (st2 d) nb))) d2) := by
  intro d1 ha
  refine wp_aload_n (j := 0) rfl q82_ok d82_21 ?_
  refine wp_aload_n (j := 0) rfl q82_ok d82_22 ?_
  refine wp_getR q82_ok d82_23 fl_9_26 rfl (by first | assumption | exact so0 hsh rfl) (by first | assumption | exact hr _ _ _ rfl) ?_
  refine wp_aload_n (j := 0) rfl q82_ok d82_26 ?_
  refine wp_getI q82_ok d82_27 fl_9_99 rfl (by first | assumption | exact so0 hsh rfl) (by first | assumption | exact congrFun (ha _ (by unfold scr; omega)) _ | rfl) ?_
  refine wp_aload_n (j := 0) rfl q82_ok d82_30 ?_
  refine wp_getR q82_ok d82_31 fl_9_12 rfl (by first | assumption | exact so0 hsh rfl) (by first | assumption | exact hr _ _ _ rfl) ?_
  refine wp_getI q82_ok d82_34 fl_9_45 rfl (by first | assumption | exact so0 hsh rfl) (by first | assumption | exact congrFun (ha _ (by unfold scr; omega)) _ | rfl) ?_
  refine wp_aload_n (j := 0) rfl q82_ok d82_37 ?_
  refine wp_getI q82_ok d82_38 fl_9_78 rfl (by first | assumption | exact so0 hsh rfl) (by first | assumption | exact congrFun (ha _ (by unfold scr; omega)) _ | rfl) ?_
  refine wp_cV q82_ok d82_41 ml_9_102 rfl q66_ok (u := 7) rfl (by first | assumption | exact so0 hsh rfl) rfl (Nat.le_of_ble_eq_true rfl) (Nat.le_of_ble_eq_true rfl) (c_seers hsh hr _ _ _) (fun v41 μ41 hc => ?_)
  obtain ⟨rfl, rfl⟩ := hc
  refine ⟨mm_le_same rfl, ?_⟩
  rw [seersC_ag ha]
  refine wp_putI q82_ok d82_44 fl_9_105 rfl (by first | assumption | exact so0 hsh rfl) (Or.inl rfl) ?_
  refine c_step3 (d := st2 d) hsh hr (by unfold st2; rw [mm_up_ne (by omega)]; exact hnb) h2 _ (by unfold st2; exact ag_up ha _ _ _)
theorem c_step {xs : List Int32} {ext : mm_X} {n : Nat} {sh : mm_S} {d : mm_D} {g : mm_G} {r : mm_R} (hsh : shp sh) (hr : rfx r) {np nb s : Nat} (hs : r 232 2 = some s) (hs6 : so sh s 6) (hss : ¬ scr s) (hnp : d 4 5 = nI np) (h6 : np ≤ 6) (hnb : d 4 6 = nI nb) (h2 : nb ≤ 2) (hmv : movOK d np) (hbs : habs d r) (d1 : mm_D) (ha : ag d d1) : wp xs ext (n + 5) 82 0 [some (.ref 232)] [] (sh, d1, g, r) (fun v μ => v = none ∧ ∃ d2, μ = (sh, d2, g, r) ∧ ag (stpD d r s np nb) d2) := by
  refine wp_aload_n (j := 0) rfl q82_ok d82_0 ?_
  refine wp_aload_n (j := 0) rfl q82_ok d82_1 ?_
  refine wp_aload_n (j := 0) rfl q82_ok d82_2 ?_
  refine wp_getI q82_ok d82_3 fl_9_59 rfl (by first | assumption | exact so0 hsh rfl) (by first | assumption | exact congrFun (ha _ (by unfold scr; omega)) _ | rfl) ?_
  refine wp_aload_n (j := 0) rfl q82_ok d82_6 ?_
  refine wp_getR q82_ok d82_7 fl_9_12 rfl (by first | assumption | exact so0 hsh rfl) (by first | assumption | exact hr _ _ _ rfl) ?_
  refine wp_getR q82_ok d82_10 fl_9_93 rfl (by first | assumption | exact so0 hsh rfl) (by first | assumption | exact hr _ _ _ rfl) ?_
  refine wp_iconst (v := 0) (by decide) q82_ok d82_13 ?_
  refine wp_iald (m := 2) q82_ok d82_14 (by first | assumption | exact so0 hsh rfl) (by first | assumption | exact shl hsh (Nat.le_of_ble_eq_true rfl) rfl) (ixn_nI (j := 0) (Nat.le_of_ble_eq_true rfl)) (by first | assumption | exact congrFun (ha _ (by unfold scr; omega)) _ | rfl) ?_ (shK hsh)
  refine wp_cV q82_ok d82_15 ml_9_96 rfl q81_ok (u := 9) rfl (by first | assumption | exact so0 hsh rfl) rfl (Nat.le_of_ble_eq_true rfl) (Nat.le_of_ble_eq_true rfl) (c_tlk hsh hr hs hs6 hss hnp h6 hmv hbs _ _ d1 ha) (fun v15 μ15 hc => ?_)
  obtain ⟨rfl, d2, rfl, ha2⟩ := hc
  refine ⟨mm_le_same rfl, ?_⟩
  refine wp_putI q82_ok d82_18 fl_9_99 rfl (by first | assumption | exact so0 hsh rfl) (Or.inl rfl) ?_
  refine c_step2 (d := st1 d r s np) hsh hr (by unfold st1; rw [mm_up_ne (by omega)]; exact hnb) h2 _ (by unfold st1; exact ag_up ha2 _ _ _)
