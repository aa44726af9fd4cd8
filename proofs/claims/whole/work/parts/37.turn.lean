/-! ===== turn and stare ===== -/
def innA (gf : Nat → Int32) (f : Int32) : Nat → Nat → Option Nat
  | 0, _ => none
  | z + 1, b => if bcC (nI b) = f then (if gf b = 0 then some b else innA gf f z (b + 1)) else innA gf f z (b + 1)
def outA (gf : Nat → Int32) (M : Nat) : Nat → Nat → Int32
  | 0, _ => -1
  | z + 1, f => match innA gf (nI f) M 0 with
    | some b => nI b
    | none => outA gf M z (f + 1)
theorem pw_np {np : Nat} (h : np ≤ 6) : (1 : Int32) <<< (nI np &&& 31) = nI (2 ^ np) := by
  have : ∀ k, k ≤ 6 → (1 : Int32) <<< (nI k &&& 31) = nI (2 ^ k) := by decide
  exact this np h
theorem pw_le {np : Nat} (h : np ≤ 6) : 2 ^ np ≤ 64 := Nat.pow_le_pow_right (by decide) h (n := 2)
theorem gb_nI (b i : Nat) : gb (nI b) i = (decide (i < 32) && b.testBit i) := by
  unfold gb
  show (BitVec.ofNat 32 b).getLsbD i = _
  rw [BitVec.getLsbD_ofNat]
theorem gb_small {b np : Nat} (h : b < 2 ^ np) (i : Nat) (hi : np ≤ i) : gb (nI b) i = false := by
  rw [gb_nI, Nat.testBit_lt_two_pow (Nat.lt_of_lt_of_le h (Nat.pow_le_pow_right (by decide) hi)), Bool.and_false]
/-- how often bell 0 rings -/
def cntA (T : wo_T) (o : wo_O) (A : wo_A) : Nat → Nat → Nat
  | 0, _ => 0
  | z + 1, k => (if 0 < tnb T ∧ ¬ rrA T o A 0 k = 0 then 1 else 0) + cntA T o A z (k + 1)
theorem cnt_le (T : wo_T) (o : wo_O) (A : wo_A) : ∀ z k, cntA T o A z k ≤ z
  | 0, _ => Nat.le_refl _
  | z + 1, k => by
    rw [cntA]
    have := cnt_le T o A z (k + 1)
    split <;> omega
theorem cnt_rung (T : wo_T) (o : wo_O) (A : wo_A) : ∀ z k, (aN T o A (k + z)).2.2 0 = (aN T o A k).2.2 0 + nI (cntA T o A z k)
  | 0, k => (Int32.add_zero _).symm
  | z + 1, k => by
    have ih := cnt_rung T o A z (k + 1)
    rw [show k + 1 + z = k + (z + 1) by omega] at ih
    rw [ih, cntA]
    have stp : (aN T o A (k + 1)).2.2 0 = (aN T o A k).2.2 0 + nI (if 0 < tnb T ∧ ¬ rrA T o A 0 k = 0 then 1 else 0) := by
      show (if 0 < tnb T then (if rrA T o A 0 k = 0 then (aN T o A k).2.2 0 else (aN T o A k).2.2 0 + 1) else (aN T o A k).2.2 0) = _
      by_cases h1 : 0 < tnb T
      · by_cases h2 : rrA T o A 0 k = 0
        · rw [if_pos h1, if_pos h2, if_neg (fun q => q.2 h2)]
          exact (Int32.add_zero _).symm
        · rw [if_pos h1, if_neg h2, if_pos ⟨h1, h2⟩]
          rfl
      · rw [if_neg h1, if_neg (fun q => h1 q.1)]
        exact (Int32.add_zero _).symm
    rw [stp, Int32.add_assoc]
    exact congrArg _ (Int32.ofNat_add _ _).symm
theorem und_c {X : mm_D} {r : mm_R} {T : wo_T} {o : wo_O} {t n : Nat} {A : wo_A} (h : smC X r T o t n A) : ∀ z k, k + z = n → undS X r t (tnp T) (tnb T) z k = if cntA T o A z k = 0 then 1 else 0
  | 0, _, _ => rfl
  | z + 1, k, hk => by
    have h2 : tnb T ≤ 2 := h.2.1.1.1.2.2.2.1
    have e : (stpN X r t (tnp T) (tnb T) (k + 1) 232 14 &&& 1 = 0) ↔ ¬ (0 < tnb T ∧ ¬ rrA T o A 0 k = 0) := by
      rw [(sm_12 h (show k < n by omega)).2.2, and1]
      unfold rbA
      rw [gb_bts _ _ _ (by omega)]
      unfold rrA
      by_cases q : 0 < tnb T <;> simp [q]
    rw [undS, cntA]
    by_cases q : 0 < tnb T ∧ ¬ rrA T o A 0 k = 0
    · rw [if_neg (fun w => e.mp w q), if_pos q, if_neg (by omega)]
    · rw [if_pos (e.mpr q), if_neg q, und_c h z (k + 1) (by omega), Nat.zero_add]
theorem und_0 {X : mm_D} {r : mm_R} {T : wo_T} {o : wo_O} {t n : Nat} {A : wo_A} (h : smC X r T o t n A) : undS X r t (tnp T) (tnb T) n 0 = 0 ↔ ¬ (aN T o A n).2.2 0 - A.2.2 0 = 0 := by
  have hn : n ≤ 540 := h.2.1.2.2.2.1
  rw [und_c h n 0 (by omega)]
  have e := cnt_rung T o A n 0
  rw [Nat.zero_add] at e
  have hl := cnt_le T o A n 0
  have e2 : (aN T o A n).2.2 0 - A.2.2 0 = nI (cntA T o A n 0) := by
    rw [e]
    show A.2.2 0 + nI (cntA T o A n 0) - A.2.2 0 = _
    generalize A.2.2 0 = x
    generalize nI (cntA T o A n 0) = y
    grind
  rw [e2]
  by_cases q : cntA T o A n 0 = 0
  · rw [if_pos q, q]
    exact ⟨fun w => absurd w (by decide), fun w => absurd rfl w⟩
  · rw [if_neg q]
    exact ⟨fun _ w => q (nI_inj (b := 0) (by omega) (by decide) w), fun _ => rfl⟩
def turG (T : wo_T) (A : wo_A) (N b : Nat) : Int32 := (aN T (awO T (nI b)) A N).2.1 0
def staG (T : wo_T) (A : wo_A) (N b : Nat) : Int32 := (aN T (stO T (nI b)) A N).2.2 0 - A.2.2 0
theorem c_under2 {xs : List Int32} {ext : mm_X} {n : Nat} {sh : mm_S} {d : mm_D} {g : mm_G} {r : mm_R} (hsh : shp sh) (hr : rfx r) {np nb s N : Nat} (hN : N < 2 ^ 31) (hs : r 232 2 = some s) (hnp : d 4 5 = nI np) (h6 : np ≤ 6) (htw : tw sh r s) (hns : ntw s) (w : Int32) (hX : TC sh (mm_up (rstD d s np) 232 8 w) r np nb s) (d1 : mm_D) (ha : ag d d1) : wp xs ext (n + 6) 86 0 [some (.ref 232), some (.int w), some (.int (nI N)), none] [] (sh, d1, g, r) (fun v μ => v = some (.int (undS (mm_up (rstD d s np) 232 8 w) r s np nb N 0)) ∧ ∃ d2 j, μ = (sh, d2, mm_up g 233 3 (g s 3), r) ∧ ag (stpN (mm_up (rstD d s np) 232 8 w) r s np nb j) d2) := by
  refine wp_aload_n (j := 0) rfl q86_ok d86_0 ?_
  refine wp_cV q86_ok d86_1 ml_9_52 rfl q79_ok (u := 9) rfl (by first | assumption | exact so0 hsh rfl) rfl (Nat.le_of_ble_eq_true rfl) (Nat.le_of_ble_eq_true rfl) (c_restart hsh hr hs htw hns hnp h6 d1 ha) (fun v1 μ1 hc => ?_)
  obtain ⟨rfl, d2, rfl, ha2⟩ := hc
  refine ⟨mm_le_same rfl, ?_⟩
  refine wp_aload_n (j := 0) rfl q86_ok d86_4 ?_
  refine wp_iload_n (j := 1) rfl q86_ok d86_5 ?_
  refine wp_putI q86_ok d86_6 fl_9_65 rfl (by first | assumption | exact so0 hsh rfl) (Or.inl rfl) ?_
  refine wp_iconst (v := 0) (by decide) q86_ok d86_9 ?_
  refine wp_istore_n (j := 3) (Nat.le_of_ble_eq_true rfl) (rfl : _ = [_, _, _, _]) q86_ok d86_10 ?_
  exact c_under_l hsh hr hN hX w N 0 _ (by omega) (ag_up ha2 _ _ _)
theorem c_turn_i {xs : List Int32} {ext : mm_X} {n : Nat} {sh : mm_S} {d : mm_D} {g : mm_G} {r : mm_R} (hsh : shp sh) (hr : rfx r) {T : wo_T} {A : wo_A} (hT : rpC d r T) (hA0 : hA d 38 A) (hs : r 232 2 = some 38) {N : Nat} (hN : N ≤ 540) (f : Nat) (Q : Option Value → mm_M → Prop) : ∀ (z b : Nat) (d1 : mm_D) (g1 : mm_G) (m : mm_D), z + b = 2 ^ tnp T → (∀ c, c ≠ 233 → g1 c = g c) → ag m d1 → prp d r T 38 N m → (∀ b2, innA (turG T A N) (nI f) z b = some b2 → ∀ d2 g2 m2, (∀ c, c ≠ 233 → g2 c = g c) → ag m2 d2 → prp d r T 38 N m2 → Q (some (.int (nI b2))) (sh, d2, g2, r)) → (innA (turG T A N) (nI f) z b = none → ∀ d2 g2 m2, (∀ c, c ≠ 233 → g2 c = g c) → ag m2 d2 → prp d r T 38 N m2 → wp xs ext (n + 7) 109 113 [some (.ref 0), some (.int (nI N)), some (.int (nI f)), some (.int (nI (2 ^ tnp T)))] [] (sh, d2, g2, r) (Q)) → wp xs ext (n + 7) 109 43 [some (.ref 0), some (.int (nI N)), some (.int (nI f)), some (.int (nI b))] [] (sh, d1, g1, r) (Q) := by
  have hnp6 : tnp T ≤ 6 := hT.1.2.1
  have hpw := pw_le hnp6
  intro z
  induction z with
  | zero =>
    intro b d1 g1 m hm hg ha hp hret hgo
    have hvb : b = 2 ^ tnp T := by omega
    subst hvb
    have hp4 : m 4 5 = nI (tnp T) := by rw [hp.1 4 (by omega)]; exact hT.1.1
    have hd4 : d1 4 5 = nI (tnp T) := by rw [ha 4 (by unfold scr; omega)]; exact hp4
    refine wp_iload_n (j := 3) rfl q109_ok d109_43 ?_
    refine wp_iconst (v := 1) (by decide) q109_ok d109_44 ?_
    refine wp_aload_n (j := 0) rfl q109_ok d109_45 ?_
    refine wp_getR q109_ok d109_46 fl_10_28 rfl (by first | assumption | exact so0 hsh rfl) (by first | assumption | exact hr _ _ _ rfl) ?_
    refine wp_getI q109_ok d109_49 fl_10_139 rfl (by first | assumption | exact so0 hsh rfl) (by first | assumption | exact congrFun (ha _ (by unfold scr; omega)) _ | rfl) ?_
    refine wp_ishl (pw_np hnp6) q109_ok d109_52 ?_
    refine wp_icmp_ge q109_ok d109_53 (t := 113) rfl (fun h53 => ?_) (fun h53 => ?_)
    · exact hgo rfl _ _ _ hg ha hp
    · exact absurd (nI_le (Nat.le_refl _) (by omega)) h53
  | succ z ih =>
    intro b d1 g1 m hm hg ha hp hret hgo
    have hlt : b < 2 ^ tnp T := by omega
    have hp4 : m 4 5 = nI (tnp T) := by rw [hp.1 4 (by omega)]; exact hT.1.1
    have hd4 : d1 4 5 = nI (tnp T) := by rw [ha 4 (by unfold scr; omega)]; exact hp4
    have hsm0 := sm_rst hT hA0 hp hN
    refine wp_iload_n (j := 3) rfl q109_ok d109_43 ?_
    refine wp_iconst (v := 1) (by decide) q109_ok d109_44 ?_
    refine wp_aload_n (j := 0) rfl q109_ok d109_45 ?_
    refine wp_getR q109_ok d109_46 fl_10_28 rfl (by first | assumption | exact so0 hsh rfl) (by first | assumption | exact hr _ _ _ rfl) ?_
    refine wp_getI q109_ok d109_49 fl_10_139 rfl (by first | assumption | exact so0 hsh rfl) (by first | assumption | exact congrFun (ha _ (by unfold scr; omega)) _ | rfl) ?_
    refine wp_ishl (pw_np hnp6) q109_ok d109_52 ?_
    refine wp_icmp_ge q109_ok d109_53 (t := 113) rfl (fun h53 => ?_) (fun h53 => ?_)
    · exact absurd h53 (nI_ge hlt (by omega))
    · refine wp_iload_n (j := 3) rfl q109_ok d109_56 ?_
      refine wp_cS q109_ok d109_57 ml_10_265 rfl q225_ok rfl rfl rfl (Nat.le_of_ble_eq_true rfl) (Nat.le_of_ble_eq_true rfl) (c_bc _) (fun v57 μ57 hc => ?_)
      obtain ⟨rfl, rfl⟩ := hc
      refine ⟨mm_le_same rfl, ?_⟩
      refine wp_iload_n (j := 2) rfl q109_ok d109_60 ?_
      refine wp_icmp_eq q109_ok d109_61 (t := 67) rfl (fun h61 => ?_) (fun h61 => ?_)
      · refine wp_aload_n (j := 0) rfl q109_ok d109_67 ?_
        refine wp_getR q109_ok d109_68 fl_10_98 rfl (by first | assumption | exact so0 hsh rfl) (by first | assumption | exact hr _ _ _ rfl) ?_
        refine wp_cV q109_ok d109_71 ml_10_270 rfl q79_ok (u := 9) rfl (by first | assumption | exact so0 hsh rfl) rfl (Nat.le_of_ble_eq_true rfl) (Nat.le_of_ble_eq_true rfl) (c_restart (d := m) hsh hr hs (tw38 hsh hr) ntw38 hp4 hnp6 d1 ha) (fun v71 μ71 hc => ?_)
        obtain ⟨rfl, d2, rfl, ha2⟩ := hc
        refine ⟨mm_le_same rfl, ?_⟩
        refine wp_aload_n (j := 0) rfl q109_ok d109_74 ?_
        refine wp_getR q109_ok d109_75 fl_10_98 rfl (by first | assumption | exact so0 hsh rfl) (by first | assumption | exact hr _ _ _ rfl) ?_
        refine wp_iload_n (j := 3) rfl q109_ok d109_78 ?_
        refine wp_putI q109_ok d109_79 fl_10_271 rfl (by first | assumption | exact so0 hsh rfl) (Or.inl rfl) ?_
        refine wp_aload_n (j := 0) rfl q109_ok d109_82 ?_
        refine wp_getR q109_ok d109_83 fl_10_98 rfl (by first | assumption | exact so0 hsh rfl) (by first | assumption | exact hr _ _ _ rfl) ?_
        refine wp_iload_n (j := 1) rfl q109_ok d109_86 ?_
        refine wp_cV q109_ok d109_87 ml_10_244 rfl q83_ok (u := 9) rfl (by first | assumption | exact so0 hsh rfl) rfl (Nat.le_of_ble_eq_true rfl) (Nat.le_of_ble_eq_true rfl) (c_run (d := mm_up (rstD m 38 (tnp T)) 232 7 (nI b)) hsh hr (show N < 2 ^ 31 by omega) (TC_rdy (sm_away hsm0 (nI b)).2.1 hs (so0 hsh rfl) ntw38.1) _ (ag_up ha2 _ _ _)) (fun v87 μ87 hc => ?_)
        obtain ⟨rfl, d3, rfl, ha3⟩ := hc
        refine ⟨mm_le_same rfl, ?_⟩
        refine wp_aload_n (j := 0) rfl q109_ok d109_90 ?_
        refine wp_getR q109_ok d109_91 fl_10_98 rfl (by first | assumption | exact so0 hsh rfl) (by first | assumption | exact hr _ _ _ rfl) ?_
        refine wp_getR q109_ok d109_94 fl_10_247 rfl (by first | assumption | exact so0 hsh rfl) (by first | assumption | exact hr _ _ _ rfl) ?_
        refine wp_getR q109_ok d109_97 fl_10_182 rfl (by first | assumption | exact so0 hsh rfl) (by first | assumption | exact hr _ _ _ rfl) ?_
        refine wp_iconst (v := 0) (by decide) q109_ok d109_100 ?_
        refine wp_iald (m := 2) q109_ok d109_101 (by first | assumption | exact so0 hsh rfl) (by first | assumption | exact shl hsh (Nat.le_of_ble_eq_true rfl) rfl) (ixn_nI (j := 0) (Nat.le_of_ble_eq_true rfl)) ((congrFun (ha3 234 (by unfold scr; omega)) 0).trans ((sm_A (sm_away hsm0 (nI b)) (Nat.le_refl N)).2 0 (by decide)).1) ?_ (shK hsh)
        refine wp_if_ne q109_ok d109_102 (t := 107) rfl (fun h102 => ?_) (fun h102 => ?_)
        · refine wp_iinc (j := 3) rfl (by first | exact inc1 | rfl) (rfl : _ = [_, _, _, _]) q109_ok d109_107 ?_
          refine wp_goto (t := 43) rfl q109_ok d109_110 ?_
          refine ih (b + 1) _ _ (stpN (mm_up (rstD m 38 (tnp T)) 232 7 (nI b)) r 38 (tnp T) (tnb T) N) (by omega) (fun c hc => (mm_up_ne hc).trans (hg c hc)) ha3 (prp_stp (prp_up (prp_rst hp) (by decide) _) N) (fun b2 he => hret b2 ?_) (fun he => hgo ?_)
          · rw [innA, if_pos h61, if_neg (show ¬ turG T A N b = 0 from h102)]; exact he
          · rw [innA, if_pos h61, if_neg (show ¬ turG T A N b = 0 from h102)]; exact he
        · have h102 := Classical.not_not.mp h102
          refine wp_iload_n (j := 3) rfl q109_ok d109_105 ?_
          refine wp_iret q109_ok d109_106 rfl ?_
          exact hret b (by rw [innA, if_pos h61, if_pos (show turG T A N b = 0 from h102)]) _ _ _ (fun c hc => (mm_up_ne hc).trans (hg c hc)) ha3 (prp_stp (prp_up (prp_rst hp) (by decide) _) N)
      · refine wp_goto (t := 107) rfl q109_ok d109_64 ?_
        refine wp_iinc (j := 3) rfl (by first | exact inc1 | rfl) (rfl : _ = [_, _, _, _]) q109_ok d109_107 ?_
        refine wp_goto (t := 43) rfl q109_ok d109_110 ?_
        refine ih (b + 1) _ _ m (by omega) hg ha hp (fun b2 he => hret b2 ?_) (fun he => hgo ?_)
        · rw [innA, if_neg h61]; exact he
        · rw [innA, if_neg h61]; exact he
theorem c_turn_o {xs : List Int32} {ext : mm_X} {n : Nat} {sh : mm_S} {d : mm_D} {g : mm_G} {r : mm_R} (hsh : shp sh) (hr : rfx r) {T : wo_T} {A : wo_A} (hT : rpC d r T) (hA0 : hA d 38 A) (hs : r 232 2 = some 38) {N : Nat} (hN : N ≤ 540) : ∀ (z f : Nat) (u : Option Value) (d1 : mm_D) (g1 : mm_G) (m : mm_D), z + f = tnp T + 1 → (∀ c, c ≠ 233 → g1 c = g c) → ag m d1 → prp d r T 38 N m → wp xs ext (n + 7) 109 30 [some (.ref 0), some (.int (nI N)), some (.int (nI f)), u] [] (sh, d1, g1, r) (fun v μ => v = some (.int (outA (turG T A N) (2 ^ tnp T) z f)) ∧ ∃ d2 g2 m2, μ = (sh, d2, g2, r) ∧ (∀ c, c ≠ 233 → g2 c = g c) ∧ ag m2 d2 ∧ prp d r T 38 N m2) := by
  have hnp6 : tnp T ≤ 6 := hT.1.2.1
  intro z
  induction z with
  | zero =>
    intro f u d1 g1 m hm hg ha hp
    have hvb : f = tnp T + 1 := by omega
    subst hvb
    have hp4 : m 4 5 = nI (tnp T) := by rw [hp.1 4 (by omega)]; exact hT.1.1
    have hd4 : d1 4 5 = nI (tnp T) := by rw [ha 4 (by unfold scr; omega)]; exact hp4
    refine wp_iload_n (j := 2) rfl q109_ok d109_30 ?_
    refine wp_aload_n (j := 0) rfl q109_ok d109_31 ?_
    refine wp_getR q109_ok d109_32 fl_10_28 rfl (by first | assumption | exact so0 hsh rfl) (by first | assumption | exact hr _ _ _ rfl) ?_
    refine wp_getI q109_ok d109_35 fl_10_139 rfl (by first | assumption | exact so0 hsh rfl) (by first | assumption | exact congrFun (ha _ (by unfold scr; omega)) _ | rfl) ?_
    refine wp_icmp_gt q109_ok d109_38 (t := 119) rfl (fun h38 => ?_) (fun h38 => ?_)
    · refine wp_iconst (v := -1) (by decide) q109_ok d109_119 ?_
      refine wp_iret q109_ok d109_120 rfl ?_
      exact ⟨rfl, d1, g1, m, rfl, hg, ha, hp⟩
    · exact absurd ((nI_ltI (by omega) (by omega)).mpr (Nat.lt_succ_self _)) h38
  | succ z ih =>
    intro f u d1 g1 m hm hg ha hp
    have hlt : f ≤ tnp T := by omega
    have hp4 : m 4 5 = nI (tnp T) := by rw [hp.1 4 (by omega)]; exact hT.1.1
    have hd4 : d1 4 5 = nI (tnp T) := by rw [ha 4 (by unfold scr; omega)]; exact hp4
    refine wp_iload_n (j := 2) rfl q109_ok d109_30 ?_
    refine wp_aload_n (j := 0) rfl q109_ok d109_31 ?_
    refine wp_getR q109_ok d109_32 fl_10_28 rfl (by first | assumption | exact so0 hsh rfl) (by first | assumption | exact hr _ _ _ rfl) ?_
    refine wp_getI q109_ok d109_35 fl_10_139 rfl (by first | assumption | exact so0 hsh rfl) (by first | assumption | exact congrFun (ha _ (by unfold scr; omega)) _ | rfl) ?_
    refine wp_icmp_gt q109_ok d109_38 (t := 119) rfl (fun h38 => ?_) (fun h38 => ?_)
    · exact absurd ((nI_ltI (by omega) (by omega)).mp h38) (by omega)
    · refine wp_iconst (v := 0) (by decide) q109_ok d109_41 ?_
      refine wp_istore_n (j := 3) (Nat.le_of_ble_eq_true rfl) (rfl : _ = [_, _, _, _]) q109_ok d109_42 ?_
      refine c_turn_i hsh hr hT hA0 hs hN f _ (2 ^ tnp T) 0 d1 g1 m (by omega) hg ha hp (fun b2 he d2 g2 m2 hg2 ha2 hp2 => ?_) (fun he d2 g2 m2 hg2 ha2 hp2 => ?_)
      · exact ⟨by rw [outA, he], d2, g2, m2, rfl, hg2, ha2, hp2⟩
      · refine wp_iinc (j := 2) rfl (by first | exact inc1 | rfl) (rfl : _ = [_, _, _, _]) q109_ok d109_113 ?_
        refine wp_goto (t := 30) rfl q109_ok d109_116 ?_
        have this := ih (f + 1) (some (.int (nI (2 ^ tnp T)))) d2 g2 m2 (by omega) hg2 ha2 hp2
        rw [outA, he]
        exact this
theorem c_stare_i {xs : List Int32} {ext : mm_X} {n : Nat} {sh : mm_S} {d : mm_D} {g : mm_G} {r : mm_R} (hsh : shp sh) (hr : rfx r) {T : wo_T} {A : wo_A} (hT : rpC d r T) (hA0 : hA d 38 A) (hs : r 232 2 = some 38) {N : Nat} (hN : N ≤ 540) (f : Nat) (Q : Option Value → mm_M → Prop) : ∀ (z b : Nat) (d1 : mm_D) (g1 : mm_G) (m : mm_D), z + b = 2 ^ tnp T → (∀ c, c ≠ 233 → g1 c = g c) → ag m d1 → prp d r T 38 N m → (∀ b2, innA (staG T A N) (nI f) z b = some b2 → ∀ d2 g2 m2, (∀ c, c ≠ 233 → g2 c = g c) → ag m2 d2 → prp d r T 38 N m2 → Q (some (.int (nI b2))) (sh, d2, g2, r)) → (innA (staG T A N) (nI f) z b = none → ∀ d2 g2 m2, (∀ c, c ≠ 233 → g2 c = g c) → ag m2 d2 → prp d r T 38 N m2 → wp xs ext (n + 7) 110 84 [some (.ref 0), some (.int (nI N)), some (.int (nI f)), some (.int (nI (2 ^ tnp T)))] [] (sh, d2, g2, r) (Q)) → wp xs ext (n + 7) 110 43 [some (.ref 0), some (.int (nI N)), some (.int (nI f)), some (.int (nI b))] [] (sh, d1, g1, r) (Q) := by
  have hnp6 : tnp T ≤ 6 := hT.1.2.1
  have hpw := pw_le hnp6
  intro z
  induction z with
  | zero =>
    intro b d1 g1 m hm hg ha hp hret hgo
    have hvb : b = 2 ^ tnp T := by omega
    subst hvb
    have hp4 : m 4 5 = nI (tnp T) := by rw [hp.1 4 (by omega)]; exact hT.1.1
    have hd4 : d1 4 5 = nI (tnp T) := by rw [ha 4 (by unfold scr; omega)]; exact hp4
    refine wp_iload_n (j := 3) rfl q110_ok d110_43 ?_
    refine wp_iconst (v := 1) (by decide) q110_ok d110_44 ?_
    refine wp_aload_n (j := 0) rfl q110_ok d110_45 ?_
    refine wp_getR q110_ok d110_46 fl_10_28 rfl (by first | assumption | exact so0 hsh rfl) (by first | assumption | exact hr _ _ _ rfl) ?_
    refine wp_getI q110_ok d110_49 fl_10_139 rfl (by first | assumption | exact so0 hsh rfl) (by first | assumption | exact congrFun (ha _ (by unfold scr; omega)) _ | rfl) ?_
    refine wp_ishl (pw_np hnp6) q110_ok d110_52 ?_
    refine wp_icmp_ge q110_ok d110_53 (t := 84) rfl (fun h53 => ?_) (fun h53 => ?_)
    · exact hgo rfl _ _ _ hg ha hp
    · exact absurd (nI_le (Nat.le_refl _) (by omega)) h53
  | succ z ih =>
    intro b d1 g1 m hm hg ha hp hret hgo
    have hlt : b < 2 ^ tnp T := by omega
    have hp4 : m 4 5 = nI (tnp T) := by rw [hp.1 4 (by omega)]; exact hT.1.1
    have hd4 : d1 4 5 = nI (tnp T) := by rw [ha 4 (by unfold scr; omega)]; exact hp4
    have hsm0 := sm_rst hT hA0 hp hN
    refine wp_iload_n (j := 3) rfl q110_ok d110_43 ?_
    refine wp_iconst (v := 1) (by decide) q110_ok d110_44 ?_
    refine wp_aload_n (j := 0) rfl q110_ok d110_45 ?_
    refine wp_getR q110_ok d110_46 fl_10_28 rfl (by first | assumption | exact so0 hsh rfl) (by first | assumption | exact hr _ _ _ rfl) ?_
    refine wp_getI q110_ok d110_49 fl_10_139 rfl (by first | assumption | exact so0 hsh rfl) (by first | assumption | exact congrFun (ha _ (by unfold scr; omega)) _ | rfl) ?_
    refine wp_ishl (pw_np hnp6) q110_ok d110_52 ?_
    refine wp_icmp_ge q110_ok d110_53 (t := 84) rfl (fun h53 => ?_) (fun h53 => ?_)
    · exact absurd h53 (nI_ge hlt (by omega))
    · refine wp_iload_n (j := 3) rfl q110_ok d110_56 ?_
      refine wp_cS q110_ok d110_57 ml_10_265 rfl q225_ok rfl rfl rfl (Nat.le_of_ble_eq_true rfl) (Nat.le_of_ble_eq_true rfl) (c_bc _) (fun v57 μ57 hc => ?_)
      obtain ⟨rfl, rfl⟩ := hc
      refine ⟨mm_le_same rfl, ?_⟩
      refine wp_iload_n (j := 2) rfl q110_ok d110_60 ?_
      refine wp_icmp_ne q110_ok d110_61 (t := 78) rfl (fun h61 => ?_) (fun h61 => ?_)
      · refine wp_iinc (j := 3) rfl (by first | exact inc1 | rfl) (rfl : _ = [_, _, _, _]) q110_ok d110_78 ?_
        refine wp_goto (t := 43) rfl q110_ok d110_81 ?_
        refine ih (b + 1) _ _ m (by omega) hg ha hp (fun b2 he => hret b2 ?_) (fun he => hgo ?_)
        · rw [innA, if_neg h61]; exact he
        · rw [innA, if_neg h61]; exact he
      · have h61 := Classical.not_not.mp h61
        refine wp_aload_n (j := 0) rfl q110_ok d110_64 ?_
        refine wp_getR q110_ok d110_65 fl_10_98 rfl (by first | assumption | exact so0 hsh rfl) (by first | assumption | exact hr _ _ _ rfl) ?_
        refine wp_iload_n (j := 3) rfl q110_ok d110_68 ?_
        refine wp_iload_n (j := 1) rfl q110_ok d110_69 ?_
        refine wp_cV q110_ok d110_70 ml_10_274 rfl q86_ok (u := 9) rfl (by first | assumption | exact so0 hsh rfl) rfl (Nat.le_of_ble_eq_true rfl) (Nat.le_of_ble_eq_true rfl) (c_under2 (d := m) hsh hr (show N < 2 ^ 31 by omega) hs hp4 hnp6 (tw38 hsh hr) ntw38 (nI b) (TC_rdy (sm_star hsm0 (nI b) (gb_small hlt)).2.1 hs (so0 hsh rfl) ntw38.1) d1 ha) (fun v70 μ70 hc => ?_)
        obtain ⟨rfl, d3, j3, rfl, ha3⟩ := hc
        refine ⟨mm_le_same rfl, ?_⟩
        refine wp_if_eq q110_ok d110_73 (t := 78) rfl (fun h73 => ?_) (fun h73 => ?_)
        · refine wp_iinc (j := 3) rfl (by first | exact inc1 | rfl) (rfl : _ = [_, _, _, _]) q110_ok d110_78 ?_
          refine wp_goto (t := 43) rfl q110_ok d110_81 ?_
          have hz : ¬ staG T A N b = 0 := (und_0 (sm_star hsm0 (nI b) (gb_small hlt))).mp h73
          refine ih (b + 1) _ _ (stpN (mm_up (rstD m 38 (tnp T)) 232 8 (nI b)) r 38 (tnp T) (tnb T) j3) (by omega) (fun c hc => (mm_up_ne hc).trans (hg c hc)) ha3 (prp_stp (prp_up (prp_rst hp) (by decide) _) j3) (fun b2 he => hret b2 ?_) (fun he => hgo ?_)
          · rw [innA, if_pos h61, if_neg hz]; exact he
          · rw [innA, if_pos h61, if_neg hz]; exact he
        · refine wp_iload_n (j := 3) rfl q110_ok d110_76 ?_
          refine wp_iret q110_ok d110_77 rfl ?_
          have hz : staG T A N b = 0 := Classical.byContradiction (fun q => h73 ((und_0 (sm_star hsm0 (nI b) (gb_small hlt))).mpr q))
          exact hret b (by rw [innA, if_pos h61, if_pos hz]) _ _ _ (fun c hc => (mm_up_ne hc).trans (hg c hc)) ha3 (prp_stp (prp_up (prp_rst hp) (by decide) _) j3)
theorem c_stare_o {xs : List Int32} {ext : mm_X} {n : Nat} {sh : mm_S} {d : mm_D} {g : mm_G} {r : mm_R} (hsh : shp sh) (hr : rfx r) {T : wo_T} {A : wo_A} (hT : rpC d r T) (hA0 : hA d 38 A) (hs : r 232 2 = some 38) {N : Nat} (hN : N ≤ 540) : ∀ (z f : Nat) (u : Option Value) (d1 : mm_D) (g1 : mm_G) (m : mm_D), z + f = tnp T + 1 → (∀ c, c ≠ 233 → g1 c = g c) → ag m d1 → prp d r T 38 N m → wp xs ext (n + 7) 110 30 [some (.ref 0), some (.int (nI N)), some (.int (nI f)), u] [] (sh, d1, g1, r) (fun v μ => v = some (.int (outA (staG T A N) (2 ^ tnp T) z f)) ∧ ∃ d2 g2 m2, μ = (sh, d2, g2, r) ∧ (∀ c, c ≠ 233 → g2 c = g c) ∧ ag m2 d2 ∧ prp d r T 38 N m2) := by
  have hnp6 : tnp T ≤ 6 := hT.1.2.1
  intro z
  induction z with
  | zero =>
    intro f u d1 g1 m hm hg ha hp
    have hvb : f = tnp T + 1 := by omega
    subst hvb
    have hp4 : m 4 5 = nI (tnp T) := by rw [hp.1 4 (by omega)]; exact hT.1.1
    have hd4 : d1 4 5 = nI (tnp T) := by rw [ha 4 (by unfold scr; omega)]; exact hp4
    refine wp_iload_n (j := 2) rfl q110_ok d110_30 ?_
    refine wp_aload_n (j := 0) rfl q110_ok d110_31 ?_
    refine wp_getR q110_ok d110_32 fl_10_28 rfl (by first | assumption | exact so0 hsh rfl) (by first | assumption | exact hr _ _ _ rfl) ?_
    refine wp_getI q110_ok d110_35 fl_10_139 rfl (by first | assumption | exact so0 hsh rfl) (by first | assumption | exact congrFun (ha _ (by unfold scr; omega)) _ | rfl) ?_
    refine wp_icmp_gt q110_ok d110_38 (t := 90) rfl (fun h38 => ?_) (fun h38 => ?_)
    · refine wp_iconst (v := -1) (by decide) q110_ok d110_90 ?_
      refine wp_iret q110_ok d110_91 rfl ?_
      exact ⟨rfl, d1, g1, m, rfl, hg, ha, hp⟩
    · exact absurd ((nI_ltI (by omega) (by omega)).mpr (Nat.lt_succ_self _)) h38
  | succ z ih =>
    intro f u d1 g1 m hm hg ha hp
    have hlt : f ≤ tnp T := by omega
    have hp4 : m 4 5 = nI (tnp T) := by rw [hp.1 4 (by omega)]; exact hT.1.1
    have hd4 : d1 4 5 = nI (tnp T) := by rw [ha 4 (by unfold scr; omega)]; exact hp4
    refine wp_iload_n (j := 2) rfl q110_ok d110_30 ?_
    refine wp_aload_n (j := 0) rfl q110_ok d110_31 ?_
    refine wp_getR q110_ok d110_32 fl_10_28 rfl (by first | assumption | exact so0 hsh rfl) (by first | assumption | exact hr _ _ _ rfl) ?_
    refine wp_getI q110_ok d110_35 fl_10_139 rfl (by first | assumption | exact so0 hsh rfl) (by first | assumption | exact congrFun (ha _ (by unfold scr; omega)) _ | rfl) ?_
    refine wp_icmp_gt q110_ok d110_38 (t := 90) rfl (fun h38 => ?_) (fun h38 => ?_)
    · exact absurd ((nI_ltI (by omega) (by omega)).mp h38) (by omega)
    · refine wp_iconst (v := 0) (by decide) q110_ok d110_41 ?_
      refine wp_istore_n (j := 3) (Nat.le_of_ble_eq_true rfl) (rfl : _ = [_, _, _, _]) q110_ok d110_42 ?_
      refine c_stare_i hsh hr hT hA0 hs hN f _ (2 ^ tnp T) 0 d1 g1 m (by omega) hg ha hp (fun b2 he d2 g2 m2 hg2 ha2 hp2 => ?_) (fun he d2 g2 m2 hg2 ha2 hp2 => ?_)
      · exact ⟨by rw [outA, he], d2, g2, m2, rfl, hg2, ha2, hp2⟩
      · refine wp_iinc (j := 2) rfl (by first | exact inc1 | rfl) (rfl : _ = [_, _, _, _]) q110_ok d110_84 ?_
        refine wp_goto (t := 30) rfl q110_ok d110_87 ?_
        have this := ih (f + 1) (some (.int (nI (2 ^ tnp T)))) d2 g2 m2 (by omega) hg2 ha2 hp2
        rw [outA, he]
        exact this
