/-! ===== spoil, errand, veil ===== -/
theorem c_spoil_l {xs : List Int32} {ext : mm_X} {n : Nat} {sh : mm_S} {d : mm_D} {g : mm_G} {r : mm_R} (hsh : shp sh) (hr : rfx r) {T : wo_T} {A : wo_A} (hT : rpC d r T) (hA0 : hA d 38 A) (hs : r 232 2 = some 38) {N : Nat} (hN : N ≤ 540) (w : Int32) (hnp1 : 1 ≤ tnp T) : ∀ (z k : Nat) (d1 : mm_D) (g1 : mm_G) (m : mm_D), z + k = tnp T → (∀ c, c ≠ 233 → g1 c = g c) → ag m d1 → prp d r T 38 N m → obOK (fun p => lateA T (awO T (bitC p)) A 0 N) k m → wp xs ext (n + 7) 112 39 [some (.ref 0), some (.int (nI N)), some (.int w), some (.int (nI k))] [] (sh, d1, g1, r) (fun v μ => v = some (.int (if w = 0 then (obA (fun p => lateA T (awO T (bitC p)) A 0 N) (tnp T)).1 else (obA (fun p => lateA T (awO T (bitC p)) A 0 N) (tnp T)).2)) ∧ ∃ d2 g2 m2, μ = (sh, d2, g2, r) ∧ (∀ c, c ≠ 233 → g2 c = g c) ∧ ag m2 d2 ∧ prp d r T 38 N m2) := by
  have hnp6 : tnp T ≤ 6 := hT.1.2.1
  intro z
  induction z with
  | zero =>
    intro k d1 g1 m hm hg ha hp hob
    have hvb : k = tnp T := by omega
    subst hvb
    have hp4 : m 4 5 = nI (tnp T) := by rw [hp.1 4 (by omega)]; exact hT.1.1
    have hd4 : d1 4 5 = nI (tnp T) := by rw [ha 4 (by unfold scr; omega)]; exact hp4
    refine wp_iload_n (j := 3) rfl q112_ok d112_39 ?_
    refine wp_aload_n (j := 0) rfl q112_ok d112_40 ?_
    refine wp_getR q112_ok d112_41 fl_10_28 rfl (by first | assumption | exact so0 hsh rfl) (by first | assumption | exact hr _ _ _ rfl) ?_
    refine wp_getI q112_ok d112_44 fl_10_139 rfl (by first | assumption | exact so0 hsh rfl) (by first | assumption | exact congrFun (ha _ (by unfold scr; omega)) _ | rfl) ?_
    refine wp_icmp_ge q112_ok d112_47 (t := 90) rfl (fun h47 => ?_) (fun h47 => ?_)
    · refine wp_iload_n (j := 2) rfl q112_ok d112_90 ?_
      refine wp_if_ne q112_ok d112_91 (t := 104) rfl (fun h91 => ?_) (fun h91 => ?_)
      · refine wp_aload_n (j := 0) rfl q112_ok d112_104 ?_
        refine wp_getR q112_ok d112_105 fl_10_98 rfl (by first | assumption | exact so0 hsh rfl) (by first | assumption | exact hr _ _ _ rfl) ?_
        refine wp_getI q112_ok d112_108 fl_10_285 rfl (by first | assumption | exact so0 hsh rfl) (by first | assumption | exact congrFun (ha _ (by unfold scr; omega)) _ | rfl) ?_
        refine wp_iret q112_ok d112_111 rfl ?_
        exact ⟨by rw [if_neg h91]; exact congrArg (fun x => some (Value.int x)) (hob.2 hnp1), d1, g1, m, rfl, hg, ha, hp⟩
      · have h91 := Classical.not_not.mp h91
        refine wp_aload_n (j := 0) rfl q112_ok d112_94 ?_
        refine wp_getR q112_ok d112_95 fl_10_98 rfl (by first | assumption | exact so0 hsh rfl) (by first | assumption | exact hr _ _ _ rfl) ?_
        refine wp_getI q112_ok d112_98 fl_10_282 rfl (by first | assumption | exact so0 hsh rfl) (by first | assumption | exact congrFun (ha _ (by unfold scr; omega)) _ | rfl) ?_
        refine wp_goto (t := 111) rfl q112_ok d112_101 ?_
        refine wp_iret q112_ok d112_111 rfl ?_
        exact ⟨by rw [if_pos h91]; exact congrArg (fun x => some (Value.int x)) hob.1, d1, g1, m, rfl, hg, ha, hp⟩
    · exact absurd (nI_le (Nat.le_refl _) (by omega)) h47
  | succ z ih =>
    intro k d1 g1 m hm hg ha hp hob
    have hlt : k < tnp T := by omega
    have hp4 : m 4 5 = nI (tnp T) := by rw [hp.1 4 (by omega)]; exact hT.1.1
    have hd4 : d1 4 5 = nI (tnp T) := by rw [ha 4 (by unfold scr; omega)]; exact hp4
    have hsm0 := sm_rst hT hA0 hp hN
    have hsm := sm_away hsm0 (bitC k)
    have hTC := TC_rdy hsm.2.1 hs (so0 hsh rfl) ntw38.1
    refine wp_iload_n (j := 3) rfl q112_ok d112_39 ?_
    refine wp_aload_n (j := 0) rfl q112_ok d112_40 ?_
    refine wp_getR q112_ok d112_41 fl_10_28 rfl (by first | assumption | exact so0 hsh rfl) (by first | assumption | exact hr _ _ _ rfl) ?_
    refine wp_getI q112_ok d112_44 fl_10_139 rfl (by first | assumption | exact so0 hsh rfl) (by first | assumption | exact congrFun (ha _ (by unfold scr; omega)) _ | rfl) ?_
    refine wp_icmp_ge q112_ok d112_47 (t := 90) rfl (fun h47 => ?_) (fun h47 => ?_)
    · exact absurd h47 (nI_ge hlt (by omega))
    · refine wp_aload_n (j := 0) rfl q112_ok d112_50 ?_
      refine wp_getR q112_ok d112_51 fl_10_98 rfl (by first | assumption | exact so0 hsh rfl) (by first | assumption | exact hr _ _ _ rfl) ?_
      refine wp_cV q112_ok d112_54 ml_10_270 rfl q79_ok (u := 9) rfl (by first | assumption | exact so0 hsh rfl) rfl (Nat.le_of_ble_eq_true rfl) (Nat.le_of_ble_eq_true rfl) (c_restart (d := m) hsh hr hs (tw38 hsh hr) ntw38 hp4 hnp6 d1 ha) (fun v54 μ54 hc => ?_)
      obtain ⟨rfl, d2, rfl, ha2⟩ := hc
      refine ⟨mm_le_same rfl, ?_⟩
      refine wp_aload_n (j := 0) rfl q112_ok d112_57 ?_
      refine wp_getR q112_ok d112_58 fl_10_98 rfl (by first | assumption | exact so0 hsh rfl) (by first | assumption | exact hr _ _ _ rfl) ?_
      refine wp_iconst (v := 1) (by decide) q112_ok d112_61 ?_
      refine wp_iload_n (j := 3) rfl q112_ok d112_62 ?_
      refine wp_ishl rfl q112_ok d112_63 ?_
      refine wp_putI q112_ok d112_64 fl_10_271 rfl (by first | assumption | exact so0 hsh rfl) (Or.inl rfl) ?_
      refine wp_aload_n (j := 0) rfl q112_ok d112_67 ?_
      refine wp_getR q112_ok d112_68 fl_10_98 rfl (by first | assumption | exact so0 hsh rfl) (by first | assumption | exact hr _ _ _ rfl) ?_
      refine wp_iload_n (j := 3) rfl q112_ok d112_71 ?_
      refine wp_aload_n (j := 0) rfl q112_ok d112_72 ?_
      refine wp_getR q112_ok d112_73 fl_10_98 rfl (by first | assumption | exact so0 hsh rfl) (by first | assumption | exact hr _ _ _ rfl) ?_
      refine wp_iconst (v := 0) (by decide) q112_ok d112_76 ?_
      refine wp_iload_n (j := 1) rfl q112_ok d112_77 ?_
      refine wp_cV q112_ok d112_78 ml_10_250 rfl q84_ok (u := 9) rfl (by first | assumption | exact so0 hsh rfl) rfl (Nat.le_of_ble_eq_true rfl) (Nat.le_of_ble_eq_true rfl) (c_late (d := mm_up (rstD m 38 (tnp T)) 232 7 (bitC k)) hsh hr (show 0 < 2 by decide) (show N < 2 ^ 31 by omega) hTC _ (ag_up ha2 _ _ _)) (fun v78 μ78 hc => ?_)
      obtain ⟨rfl, d3, rfl, ha3⟩ := hc
      refine ⟨mm_le_same rfl, ?_⟩
      rw [late_c hsm (by decide) N (Nat.le_refl _)]
      refine wp_cV q112_ok d112_81 ml_10_278 rfl q85_ok (u := 9) rfl (by first | assumption | exact so0 hsh rfl) rfl (Nat.le_of_ble_eq_true rfl) (Nat.le_of_ble_eq_true rfl) (c_offer hsh hr _ _) (fun v81 μ81 hc => ?_)
      obtain ⟨rfl, rfl⟩ := hc
      refine ⟨mm_le_same rfl, ?_⟩
      refine wp_iinc (j := 3) rfl (by first | exact inc1 | rfl) (rfl : _ = [_, _, _, _]) q112_ok d112_84 ?_
      refine wp_goto (t := 39) rfl q112_ok d112_87 ?_
      refine ih (k + 1) _ _ (offD (stpN (mm_up (rstD m 38 (tnp T)) 232 7 (bitC k)) r 38 (tnp T) (tnb T) N) (nI k) ((fun p => lateA T (awO T (bitC p)) A 0 N) k)) (by omega) (fun c hc => (mm_up_ne hc).trans (hg c hc)) (off_ag ha3 _ _) (prp_off (prp_stp (prp_up (prp_rst hp) (by decide) _) N) _ _) (ob_off (by omega) (ob_same hob ?_ ?_))
      · rw [stpN_col (by decide) (by decide) (by decide) (by decide)]
        rw [mm_up_at, if_neg (by decide)]
        exact rst_keep _ _ _ (Or.inl rfl)
      · rw [stpN_col (by decide) (by decide) (by decide) (by decide)]
        rw [mm_up_at, if_neg (by decide)]
        exact rst_keep _ _ _ (Or.inr rfl)
theorem c_errand_l {xs : List Int32} {ext : mm_X} {n : Nat} {sh : mm_S} {d : mm_D} {g : mm_G} {r : mm_R} (hsh : shp sh) (hr : rfx r) {T : wo_T} {A : wo_A} (hT : rpC d r T) (hA0 : hA d 38 A) (hs : r 232 2 = some 38) {N : Nat} (hN : N ≤ 540) (w : Int32) {p : Nat} (hpp : p < tnp T) : ∀ (z k : Nat) (d1 : mm_D) (g1 : mm_G) (m : mm_D), z + k = 60 → (∀ c, c ≠ 233 → g1 c = g c) → ag m d1 → prp d r T 38 N m → obOK (fun f => lateA T (mvO T p (nI f)) A 0 N) k m → wp xs ext (n + 7) 113 41 [some (.ref 0), some (.int (nI p)), some (.int (nI N)), some (.int w), some (.int (nI k))] [] (sh, d1, g1, r) (fun v μ => v = some (.int (if w = 0 then (obA (fun f => lateA T (mvO T p (nI f)) A 0 N) (60)).1 else (obA (fun f => lateA T (mvO T p (nI f)) A 0 N) (60)).2)) ∧ ∃ d2 g2 m2, μ = (sh, d2, g2, r) ∧ (∀ c, c ≠ 233 → g2 c = g c) ∧ ag m2 d2 ∧ prp d r T 38 N m2) := by
  have hnp6 : tnp T ≤ 6 := hT.1.2.1
  intro z
  induction z with
  | zero =>
    intro k d1 g1 m hm hg ha hp hob
    have hvb : k = 60 := by omega
    subst hvb
    have hp4 : m 4 5 = nI (tnp T) := by rw [hp.1 4 (by omega)]; exact hT.1.1
    have hd4 : d1 4 5 = nI (tnp T) := by rw [ha 4 (by unfold scr; omega)]; exact hp4
    refine wp_iload (j := 4) rfl q113_ok d113_41 ?_
    refine wp_bipush (v := 60) (by decide) q113_ok d113_43 ?_
    refine wp_icmp_ge q113_ok d113_45 (t := 89) rfl (fun h45 => ?_) (fun h45 => ?_)
    · refine wp_iload_n (j := 3) rfl q113_ok d113_89 ?_
      refine wp_if_ne q113_ok d113_90 (t := 103) rfl (fun h90 => ?_) (fun h90 => ?_)
      · refine wp_aload_n (j := 0) rfl q113_ok d113_103 ?_
        refine wp_getR q113_ok d113_104 fl_10_98 rfl (by first | assumption | exact so0 hsh rfl) (by first | assumption | exact hr _ _ _ rfl) ?_
        refine wp_getI q113_ok d113_107 fl_10_285 rfl (by first | assumption | exact so0 hsh rfl) (by first | assumption | exact congrFun (ha _ (by unfold scr; omega)) _ | rfl) ?_
        refine wp_iret q113_ok d113_110 rfl ?_
        exact ⟨by rw [if_neg h90]; exact congrArg (fun x => some (Value.int x)) (hob.2 (by decide)), d1, g1, m, rfl, hg, ha, hp⟩
      · have h90 := Classical.not_not.mp h90
        refine wp_aload_n (j := 0) rfl q113_ok d113_93 ?_
        refine wp_getR q113_ok d113_94 fl_10_98 rfl (by first | assumption | exact so0 hsh rfl) (by first | assumption | exact hr _ _ _ rfl) ?_
        refine wp_getI q113_ok d113_97 fl_10_282 rfl (by first | assumption | exact so0 hsh rfl) (by first | assumption | exact congrFun (ha _ (by unfold scr; omega)) _ | rfl) ?_
        refine wp_goto (t := 110) rfl q113_ok d113_100 ?_
        refine wp_iret q113_ok d113_110 rfl ?_
        exact ⟨by rw [if_pos h90]; exact congrArg (fun x => some (Value.int x)) hob.1, d1, g1, m, rfl, hg, ha, hp⟩
    · exact absurd (nI_le (Nat.le_refl _) (by decide)) h45
  | succ z ih =>
    intro k d1 g1 m hm hg ha hp hob
    have hlt : k < 60 := by omega
    have hp4 : m 4 5 = nI (tnp T) := by rw [hp.1 4 (by omega)]; exact hT.1.1
    have hd4 : d1 4 5 = nI (tnp T) := by rw [ha 4 (by unfold scr; omega)]; exact hp4
    have hsm0 := sm_rst hT hA0 hp hN
    have hsm := sm_move hsm0 hpp (nI k)
    have hTC := TC_rdy hsm.2.1 hs (so0 hsh rfl) ntw38.1
    refine wp_iload (j := 4) rfl q113_ok d113_41 ?_
    refine wp_bipush (v := 60) (by decide) q113_ok d113_43 ?_
    refine wp_icmp_ge q113_ok d113_45 (t := 89) rfl (fun h45 => ?_) (fun h45 => ?_)
    · exact absurd h45 (nI_ge hlt (by decide))
    · refine wp_aload_n (j := 0) rfl q113_ok d113_48 ?_
      refine wp_getR q113_ok d113_49 fl_10_98 rfl (by first | assumption | exact so0 hsh rfl) (by first | assumption | exact hr _ _ _ rfl) ?_
      refine wp_cV q113_ok d113_52 ml_10_270 rfl q79_ok (u := 9) rfl (by first | assumption | exact so0 hsh rfl) rfl (Nat.le_of_ble_eq_true rfl) (Nat.le_of_ble_eq_true rfl) (c_restart (d := m) hsh hr hs (tw38 hsh hr) ntw38 hp4 hnp6 d1 ha) (fun v52 μ52 hc => ?_)
      obtain ⟨rfl, d2, rfl, ha2⟩ := hc
      refine ⟨mm_le_same rfl, ?_⟩
      refine wp_aload_n (j := 0) rfl q113_ok d113_55 ?_
      refine wp_getR q113_ok d113_56 fl_10_98 rfl (by first | assumption | exact so0 hsh rfl) (by first | assumption | exact hr _ _ _ rfl) ?_
      refine wp_iload_n (j := 1) rfl q113_ok d113_59 ?_
      refine wp_iload (j := 4) rfl q113_ok d113_60 ?_
      refine wp_cV q113_ok d113_62 ml_10_291 rfl q80_ok (u := 9) rfl (by first | assumption | exact so0 hsh rfl) rfl (Nat.le_of_ble_eq_true rfl) (Nat.le_of_ble_eq_true rfl) (c_move hsh hr _ _) (fun v62 μ62 hc => ?_)
      obtain ⟨rfl, rfl⟩ := hc
      refine ⟨mm_le_same rfl, ?_⟩
      refine wp_aload_n (j := 0) rfl q113_ok d113_65 ?_
      refine wp_getR q113_ok d113_66 fl_10_98 rfl (by first | assumption | exact so0 hsh rfl) (by first | assumption | exact hr _ _ _ rfl) ?_
      refine wp_iload (j := 4) rfl q113_ok d113_69 ?_
      refine wp_aload_n (j := 0) rfl q113_ok d113_71 ?_
      refine wp_getR q113_ok d113_72 fl_10_98 rfl (by first | assumption | exact so0 hsh rfl) (by first | assumption | exact hr _ _ _ rfl) ?_
      refine wp_iconst (v := 0) (by decide) q113_ok d113_75 ?_
      refine wp_iload_n (j := 2) rfl q113_ok d113_76 ?_
      refine wp_cV q113_ok d113_77 ml_10_250 rfl q84_ok (u := 9) rfl (by first | assumption | exact so0 hsh rfl) rfl (Nat.le_of_ble_eq_true rfl) (Nat.le_of_ble_eq_true rfl) (c_late (d := mm_up (mm_up (rstD m 38 (tnp T)) 232 9 (nI p)) 232 10 (nI k)) hsh hr (show 0 < 2 by decide) (show N < 2 ^ 31 by omega) hTC _ (ag_up (ag_up ha2 _ _ _) _ _ _)) (fun v77 μ77 hc => ?_)
      obtain ⟨rfl, d3, rfl, ha3⟩ := hc
      refine ⟨mm_le_same rfl, ?_⟩
      rw [late_c hsm (by decide) N (Nat.le_refl _)]
      refine wp_cV q113_ok d113_80 ml_10_278 rfl q85_ok (u := 9) rfl (by first | assumption | exact so0 hsh rfl) rfl (Nat.le_of_ble_eq_true rfl) (Nat.le_of_ble_eq_true rfl) (c_offer hsh hr _ _) (fun v80 μ80 hc => ?_)
      obtain ⟨rfl, rfl⟩ := hc
      refine ⟨mm_le_same rfl, ?_⟩
      refine wp_iinc (j := 4) rfl (by first | exact inc1 | rfl) (rfl : _ = [_, _, _, _, _]) q113_ok d113_83 ?_
      refine wp_goto (t := 41) rfl q113_ok d113_86 ?_
      refine ih (k + 1) _ _ (offD (stpN (mm_up (mm_up (rstD m 38 (tnp T)) 232 9 (nI p)) 232 10 (nI k)) r 38 (tnp T) (tnb T) N) (nI k) ((fun f => lateA T (mvO T p (nI f)) A 0 N) k)) (by omega) (fun c hc => (mm_up_ne hc).trans (hg c hc)) (off_ag ha3 _ _) (prp_off (prp_stp (prp_up (prp_up (prp_rst hp) (by decide) _) (by decide) _) N) _ _) (ob_off (by omega) (ob_same hob ?_ ?_))
      · rw [stpN_col (by decide) (by decide) (by decide) (by decide)]
        rw [mm_up_at, if_neg (by decide), mm_up_at, if_neg (by decide)]
        exact rst_keep _ _ _ (Or.inl rfl)
      · rw [stpN_col (by decide) (by decide) (by decide) (by decide)]
        rw [mm_up_at, if_neg (by decide), mm_up_at, if_neg (by decide)]
        exact rst_keep _ _ _ (Or.inr rfl)
theorem c_veil_l {xs : List Int32} {ext : mm_X} {n : Nat} {sh : mm_S} {d : mm_D} {g : mm_G} {r : mm_R} (hsh : shp sh) (hr : rfx r) {T : wo_T} {A : wo_A} (hT : rpC d r T) (hA0 : hA d 38 A) (hs : r 232 2 = some 38) {N : Nat} (hN : N ≤ 540) (w : Int32)  : ∀ (z k : Nat) (d1 : mm_D) (g1 : mm_G) (m : mm_D), z + k = 10 → (∀ c, c ≠ 233 → g1 c = g c) → ag m d1 → prp d r T 38 N m → obOK (fun v => lateA T (vwO (nI v)) A 0 N) k m → wp xs ext (n + 7) 124 49 [some (.ref 0), some (.int (nI N)), some (.int w), some (.int (nI k))] [] (sh, d1, g1, r) (fun v μ => v = some (.int (if w = 0 then (obA (fun v => lateA T (vwO (nI v)) A 0 N) (10)).1 else (obA (fun v => lateA T (vwO (nI v)) A 0 N) (10)).2)) ∧ ∃ d2 g2 m2, μ = (sh, d2, g2, r) ∧ (∀ c, c ≠ 233 → g2 c = g c) ∧ ag m2 d2 ∧ prp d r T 38 N m2) := by
  have hnp6 : tnp T ≤ 6 := hT.1.2.1
  intro z
  induction z with
  | zero =>
    intro k d1 g1 m hm hg ha hp hob
    have hvb : k = 10 := by omega
    subst hvb
    have hp4 : m 4 5 = nI (tnp T) := by rw [hp.1 4 (by omega)]; exact hT.1.1
    have hd4 : d1 4 5 = nI (tnp T) := by rw [ha 4 (by unfold scr; omega)]; exact hp4
    refine wp_iload_n (j := 3) rfl q124_ok d124_49 ?_
    refine wp_bipush (v := 10) (by decide) q124_ok d124_50 ?_
    refine wp_icmp_ge q124_ok d124_52 (t := 100) rfl (fun h52 => ?_) (fun h52 => ?_)
    · refine wp_iload_n (j := 2) rfl q124_ok d124_100 ?_
      refine wp_if_ne q124_ok d124_101 (t := 114) rfl (fun h101 => ?_) (fun h101 => ?_)
      · refine wp_aload_n (j := 0) rfl q124_ok d124_114 ?_
        refine wp_getR q124_ok d124_115 fl_10_98 rfl (by first | assumption | exact so0 hsh rfl) (by first | assumption | exact hr _ _ _ rfl) ?_
        refine wp_getI q124_ok d124_118 fl_10_285 rfl (by first | assumption | exact so0 hsh rfl) (by first | assumption | exact congrFun (ha _ (by unfold scr; omega)) _ | rfl) ?_
        refine wp_iret q124_ok d124_121 rfl ?_
        exact ⟨by rw [if_neg h101]; exact congrArg (fun x => some (Value.int x)) (hob.2 (by decide)), d1, g1, m, rfl, hg, ha, hp⟩
      · have h101 := Classical.not_not.mp h101
        refine wp_aload_n (j := 0) rfl q124_ok d124_104 ?_
        refine wp_getR q124_ok d124_105 fl_10_98 rfl (by first | assumption | exact so0 hsh rfl) (by first | assumption | exact hr _ _ _ rfl) ?_
        refine wp_getI q124_ok d124_108 fl_10_282 rfl (by first | assumption | exact so0 hsh rfl) (by first | assumption | exact congrFun (ha _ (by unfold scr; omega)) _ | rfl) ?_
        refine wp_goto (t := 121) rfl q124_ok d124_111 ?_
        refine wp_iret q124_ok d124_121 rfl ?_
        exact ⟨by rw [if_pos h101]; exact congrArg (fun x => some (Value.int x)) hob.1, d1, g1, m, rfl, hg, ha, hp⟩
    · exact absurd (nI_le (Nat.le_refl _) (by decide)) h52
  | succ z ih =>
    intro k d1 g1 m hm hg ha hp hob
    have hlt : k < 10 := by omega
    have hp4 : m 4 5 = nI (tnp T) := by rw [hp.1 4 (by omega)]; exact hT.1.1
    have hd4 : d1 4 5 = nI (tnp T) := by rw [ha 4 (by unfold scr; omega)]; exact hp4
    have hsm0 := sm_rst hT hA0 hp hN
    have hsm := sm_near hsm0 (nI k)
    have hTC := TC_rdy hsm.2.1 hs (so0 hsh rfl) ntw38.1
    refine wp_iload_n (j := 3) rfl q124_ok d124_49 ?_
    refine wp_bipush (v := 10) (by decide) q124_ok d124_50 ?_
    refine wp_icmp_ge q124_ok d124_52 (t := 100) rfl (fun h52 => ?_) (fun h52 => ?_)
    · exact absurd h52 (nI_ge hlt (by decide))
    · refine wp_aload_n (j := 0) rfl q124_ok d124_55 ?_
      refine wp_getR q124_ok d124_56 fl_10_98 rfl (by first | assumption | exact so0 hsh rfl) (by first | assumption | exact hr _ _ _ rfl) ?_
      refine wp_cV q124_ok d124_59 ml_10_270 rfl q79_ok (u := 9) rfl (by first | assumption | exact so0 hsh rfl) rfl (Nat.le_of_ble_eq_true rfl) (Nat.le_of_ble_eq_true rfl) (c_restart (d := m) hsh hr hs (tw38 hsh hr) ntw38 hp4 hnp6 d1 ha) (fun v59 μ59 hc => ?_)
      obtain ⟨rfl, d2, rfl, ha2⟩ := hc
      refine ⟨mm_le_same rfl, ?_⟩
      refine wp_aload_n (j := 0) rfl q124_ok d124_62 ?_
      refine wp_getR q124_ok d124_63 fl_10_98 rfl (by first | assumption | exact so0 hsh rfl) (by first | assumption | exact hr _ _ _ rfl) ?_
      refine wp_aload_n (j := 0) rfl q124_ok d124_66 ?_
      refine wp_getR q124_ok d124_67 fl_10_28 rfl (by first | assumption | exact so0 hsh rfl) (by first | assumption | exact hr _ _ _ rfl) ?_
      refine wp_iload_n (j := 3) rfl q124_ok d124_70 ?_
      refine wp_cV q124_ok d124_71 ml_10_227 rfl q67_ok (u := 7) rfl (by first | assumption | exact so0 hsh rfl) rfl (Nat.le_of_ble_eq_true rfl) (Nat.le_of_ble_eq_true rfl) (c_near (d := d2) hsh hr (by rw [ha2 4 (by unfold scr; omega), rstD_row (by omega) (by omega) (by omega) (by omega)]; exact hp4) hnp6 _) (fun v71 μ71 hc => ?_)
      obtain ⟨rfl, rfl⟩ := hc
      refine ⟨mm_le_same rfl, ?_⟩
      rw [nearC_ag ha2 _ _ hnp6]
      refine wp_putI q124_ok d124_74 fl_10_332 rfl (by first | assumption | exact so0 hsh rfl) (Or.inl rfl) ?_
      refine wp_aload_n (j := 0) rfl q124_ok d124_77 ?_
      refine wp_getR q124_ok d124_78 fl_10_98 rfl (by first | assumption | exact so0 hsh rfl) (by first | assumption | exact hr _ _ _ rfl) ?_
      refine wp_iload_n (j := 3) rfl q124_ok d124_81 ?_
      refine wp_aload_n (j := 0) rfl q124_ok d124_82 ?_
      refine wp_getR q124_ok d124_83 fl_10_98 rfl (by first | assumption | exact so0 hsh rfl) (by first | assumption | exact hr _ _ _ rfl) ?_
      refine wp_iconst (v := 0) (by decide) q124_ok d124_86 ?_
      refine wp_iload_n (j := 1) rfl q124_ok d124_87 ?_
      refine wp_cV q124_ok d124_88 ml_10_250 rfl q84_ok (u := 9) rfl (by first | assumption | exact so0 hsh rfl) rfl (Nat.le_of_ble_eq_true rfl) (Nat.le_of_ble_eq_true rfl) (c_late (d := mm_up (rstD m 38 (tnp T)) 232 11 (nearC (rstD m 38 (tnp T)) (nI k) (tnp T))) hsh hr (show 0 < 2 by decide) (show N < 2 ^ 31 by omega) hTC _ (ag_up ha2 _ _ _)) (fun v88 μ88 hc => ?_)
      obtain ⟨rfl, d3, rfl, ha3⟩ := hc
      refine ⟨mm_le_same rfl, ?_⟩
      rw [late_c hsm (by decide) N (Nat.le_refl _)]
      refine wp_cV q124_ok d124_91 ml_10_278 rfl q85_ok (u := 9) rfl (by first | assumption | exact so0 hsh rfl) rfl (Nat.le_of_ble_eq_true rfl) (Nat.le_of_ble_eq_true rfl) (c_offer hsh hr _ _) (fun v91 μ91 hc => ?_)
      obtain ⟨rfl, rfl⟩ := hc
      refine ⟨mm_le_same rfl, ?_⟩
      refine wp_iinc (j := 3) rfl (by first | exact inc1 | rfl) (rfl : _ = [_, _, _, _]) q124_ok d124_94 ?_
      refine wp_goto (t := 49) rfl q124_ok d124_97 ?_
      refine ih (k + 1) _ _ (offD (stpN (mm_up (rstD m 38 (tnp T)) 232 11 (nearC (rstD m 38 (tnp T)) (nI k) (tnp T))) r 38 (tnp T) (tnb T) N) (nI k) ((fun v => lateA T (vwO (nI v)) A 0 N) k)) (by omega) (fun c hc => (mm_up_ne hc).trans (hg c hc)) (off_ag ha3 _ _) (prp_off (prp_stp (prp_up (prp_rst hp) (by decide) _) N) _ _) (ob_off (by omega) (ob_same hob ?_ ?_))
      · rw [stpN_col (by decide) (by decide) (by decide) (by decide)]
        rw [mm_up_at, if_neg (by decide)]
        exact rst_keep _ _ _ (Or.inl rfl)
      · rw [stpN_col (by decide) (by decide) (by decide) (by decide)]
        rw [mm_up_at, if_neg (by decide)]
        exact rst_keep _ _ _ (Or.inr rfl)
