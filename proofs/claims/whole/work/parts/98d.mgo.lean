/-! ===== go, feed of the model ===== -/
theorem sgM_A {T : wo_T} {B : wo_A} {st : Int32} (h : st = 0 ∨ st = 1) : sgM T (o0 T) B st = sgA T B st := by
  unfold sgM sgA snA b01
  by_cases q : seB T (o0 T) B.1 (B.2.1 0) = 0
  · rw [if_pos q, if_pos rfl, if_pos q]
    rcases h with rfl | rfl <;> rfl
  · rw [if_neg q, if_neg q, if_neg (by decide)]
theorem strG01 (rk : Int32) (dr : Int64) : strG rk dr = 0 ∨ strG rk dr = 1 := by
  unfold strG
  split
  · exact Or.inl rfl
  · split
    · exact Or.inl rfl
    · exact Or.inr rfl
theorem m_go_l {xs : List Int32} {ext : mm_X} {n : Nat} {sh : mm_S} {r : mm_R} {S : wo_S} (hsh : shp sh) (hr : rfx r) (ok : okW (sW S) (sH S).1) {N : Nat} (hN : N < 2 ^ 31) : ∀ (z k : Nat) (u : Option Value) (d : mm_D) (g : mm_G) (x : wo_X), z + k = N → repM d g (sNow S x) → wp xs ext (n + 9) 193 12 [some (.ref 250), some (.int (nI N)), some (.int (nI k)), u] [] (sh, d, g, r) (fun v μ => v = some (.int (goN (sT S) (sK S) x z).1.1) ∧ ∃ d2 g2, μ = (sh, d2, g2, r) ∧ repM d2 g2 (sNow S (goN (sT S) (sK S) x z)) ∧ frK d g d2 g2) := by
  intro z
  induction z with
  | zero =>
    intro k u d g x hz h
    have hvb : N = k := by omega
    subst hvb
    refine wp_iload_n (j := 2) rfl q193_ok d193_12 ?_
    refine wp_iload_n (j := 1) rfl q193_ok d193_13 ?_
    refine wp_icmp_ge q193_ok d193_14 (t := 83) rfl (fun h14 => ?_) (fun h14 => ?_)
    · refine wp_aload_n (j := 0) rfl q193_ok d193_83 ?_
      refine wp_getI q193_ok d193_84 fl_11_274 rfl (by first | assumption | exact so0 hsh rfl) h.2.2.1.1.1 ?_
      refine wp_iret q193_ok d193_87 rfl ?_
      exact ⟨rfl, d, g, rfl, h, fun _ _ => ⟨rfl, rfl⟩⟩
    · exact absurd (nI_le (Nat.le_refl _) (by omega)) h14
  | succ z ih =>
    intro k u d g x hz h
    have hlt : k < N := by omega
    refine wp_iload_n (j := 2) rfl q193_ok d193_12 ?_
    refine wp_iload_n (j := 1) rfl q193_ok d193_13 ?_
    refine wp_icmp_ge q193_ok d193_14 (t := 83) rfl (fun h14 => ?_) (fun h14 => ?_)
    · exact absurd h14 (nI_ge hlt (by omega))
    · refine wp_aload_n (j := 0) rfl q193_ok d193_17 ?_
      refine wp_cV q193_ok d193_18 ml_11_340 rfl q191_ok (u := 11) rfl (by first | assumption | exact so0 hsh rfl) rfl (Nat.le_of_ble_eq_true rfl) (Nat.le_of_ble_eq_true rfl) (m_keep hsh hr h.2.2.1.1 h.2.2.1.2.1 h.2.2.1.2.2) (fun v18 μ18 hc => ?_)
      obtain ⟨rfl, d2, g2, rfl, k2, p2⟩ := hc
      refine ⟨mm_le_same rfl, ?_⟩
      have R2 : repM d2 g2 (sNow S (x.1, x.2.1, pshN x.2.2.1, pshF x.2.2.1 x.2.2.2 (x.1, x.2.1))) := repM_now (S := sNow S x) h (fun c h1 h2 h3 h4 h5 => k2.1 c (by omega) (by omega) (by omega)) (fun j h1 h2 h3 h4 => k2.2.1 j h3) (congrFun (k2.2.2 250 (by decide)) 53) ⟨⟨(k2.2.1 32 (by decide)).trans h.2.2.1.1.1, fun b hb => by rw [k2.1 268 (by decide) (by decide) (by decide), k2.1 269 (by decide) (by decide) (by decide)]; exact h.2.2.1.1.2 b hb⟩, (congrFun (k2.2.2 250 (by decide)) 34).trans h.2.2.1.2.1, p2⟩
      have hk2 : d2 250 33 = sK S := R2.2.2.2.1
      refine wp_iconst (v := 0) (by decide) q193_ok d193_21 ?_
      refine wp_istore_n (j := 3) (Nat.le_of_ble_eq_true rfl) (rfl : _ = [_, _, _, _]) q193_ok d193_22 ?_
      refine wp_aload_n (j := 0) rfl q193_ok d193_23 ?_
      refine wp_getI q193_ok d193_24 fl_11_330 rfl (by first | assumption | exact so0 hsh rfl) hk2 ?_
      refine wp_if_le q193_ok d193_27 (t := 72) rfl (fun h27 => ?_) (fun h27 => ?_)
      · have hR' : MR d2 (sT S) (o0 (sT S)) := MR_rep (S := sNow S (x.1, x.2.1, pshN x.2.2.1, pshF x.2.2.1 x.2.2.2 (x.1, x.2.1))) ok R2
        have hB' : hM d2 x.1 := R2.2.2.1.1
        refine wp_aload_n (j := 0) rfl q193_ok d193_72 ?_
        refine wp_iload_n (j := 3) rfl q193_ok d193_73 ?_
        refine wp_cV q193_ok d193_74 ml_11_349 rfl q184_ok (u := 11) rfl (by first | assumption | exact so0 hsh rfl) rfl (Nat.le_of_ble_eq_true rfl) (Nat.le_of_ble_eq_true rfl) (m_pass (n := n) hsh hr hR' hB' 0) (fun v74 μ74 hc => ?_)
        obtain ⟨rfl, d4, rfl, f4, hM4, _, _⟩ := hc
        refine ⟨mm_le_same rfl, ?_⟩
        refine wp_iinc (j := 2) rfl (by first | exact inc1 | rfl) (rfl : _ = [_, _, _, _]) q193_ok d193_77 ?_
        refine wp_goto (t := 12) rfl q193_ok d193_80 ?_
        have hst : strG (sK S) x.2.1 = 0 := if_pos h27
        have hM5 : hM d4 (stA (sT S) x.1 (sgA (sT S) x.1 (strG (sK S) x.2.1))) := by
          have h6 : hM d4 (stA (sT S) x.1 (sgM (sT S) (o0 (sT S)) x.1 0)) := hM4
          rw [← hst, sgM_A (strG01 _ _)] at h6
          exact h6
        have hdr : (if sK S ≤ 0 then x.2.1 else drwX x.2.1) = x.2.1 := if_pos h27
        have R4 : repM d4 (g2) (sNow S (goX (sT S) (sK S) x)) := by
          refine repM_now (S := sNow S (x.1, x.2.1, pshN x.2.2.1, pshF x.2.2.1 x.2.2.2 (x.1, x.2.1))) R2 (fun c h1 h2 h3 h4 h5 => f4.1 c (by omega) (by omega) (by omega) (by omega) (by omega) (by omega)) (fun j h1 h2 h3 h4 => f4.2 j h1 h2) rfl ⟨hM5, ?_, ?_⟩
          · show _ = (if sK S ≤ 0 then x.2.1 else drwX x.2.1)
            rw [hdr]
            exact R2.2.2.1.2.1
          · exact pstM_x R2.2.2.1.2.2 (f4.1 271 (by decide) (by decide) (by decide) (by decide) (by decide) (by decide)) (f4.1 272 (by decide) (by decide) (by decide) (by decide) (by decide) (by decide)) rfl (f4.2 42 (by decide) (by decide))
        refine wp_post (ih (k + 1) _ d4 _ (goX (sT S) (sK S) x) (by omega) R4) (fun v μ hc => ?_)
        obtain ⟨rfl, d5, g5, rfl, R5, fr5⟩ := hc
        refine ⟨rfl, d5, g5, rfl, R5, fun c hc => ⟨(fr5 c hc).1.trans ((f4.1 c (by omega) (by omega) (by omega) (by omega) (by omega) (by omega)).trans (k2.1 c (by omega) (by omega) (by omega))), (fr5 c hc).2.trans ?_⟩⟩
        exact k2.2.2 c (by omega)
      · refine wp_aload_n (j := 0) rfl q193_ok d193_30 ?_
        refine wp_aload_n (j := 0) rfl q193_ok d193_31 ?_
        refine wp_getJ q193_ok d193_32 fl_11_333 rfl (by first | assumption | exact so0 hsh rfl) R2.2.2.1.2.1 ?_
        refine wp_ldc2 kl_11_343 q193_ok d193_35 ?_
        refine wp_lmul rfl q193_ok d193_38 ?_
        refine wp_ldc2 kl_11_345 q193_ok d193_39 ?_
        refine wp_ladd (show x.2.1 * 6364136223846793005 + 1442695040888963407 = drwX x.2.1 from rfl) q193_ok d193_42 ?_
        refine wp_putJ q193_ok d193_43 fl_11_333 rfl (by first | assumption | exact so0 hsh rfl) (Or.inl rfl) ?_
        refine wp_aload_n (j := 0) rfl q193_ok d193_46 ?_
        refine wp_getJ q193_ok d193_47 fl_11_333 rfl (by first | assumption | exact so0 hsh rfl) ((mm_up_at 34).trans (if_pos rfl)) ?_
        refine wp_bipush (v := 33) (by decide) q193_ok d193_50 ?_
        refine wp_lushr rfl q193_ok d193_52 ?_
        refine wp_ldc2 kl_11_347 q193_ok d193_53 ?_
        refine wp_lrem (by decide) rfl q193_ok d193_56 ?_
        refine wp_aload_n (j := 0) rfl q193_ok d193_57 ?_
        refine wp_getI q193_ok d193_58 fl_11_330 rfl (by first | assumption | exact so0 hsh rfl) hk2 ?_
        refine wp_i2l rfl q193_ok d193_61 ?_
        refine wp_lcmp rfl q193_ok d193_62 ?_
        refine wp_if_ge q193_ok d193_63 (t := 70) rfl (fun h63 => ?_) (fun h63 => ?_)
        · refine wp_iconst (v := 0) (by decide) q193_ok d193_70 ?_
          refine wp_istore_n (j := 3) (Nat.le_of_ble_eq_true rfl) (rfl : _ = [_, _, _, _]) q193_ok d193_71 ?_
          have R3 : repM d2 (mm_up g2 250 34 (drwX x.2.1)) (sNow S (x.1, drwX x.2.1, pshN x.2.2.1, pshF x.2.2.1 x.2.2.2 (x.1, x.2.1))) := repM_now (S := sNow S (x.1, x.2.1, pshN x.2.2.1, pshF x.2.2.1 x.2.2.2 (x.1, x.2.1))) R2 (fun _ _ _ _ _ _ => rfl) (fun _ _ _ _ _ => rfl) ((mm_up_at 53).trans (if_neg (by decide))) ⟨R2.2.2.1.1, (mm_up_at 34).trans (if_pos rfl), pstM_x R2.2.2.1.2.2 rfl rfl (mm_up_ne (by decide)) rfl⟩
          have hR' : MR d2 (sT S) (o0 (sT S)) := MR_rep (S := sNow S (x.1, x.2.1, pshN x.2.2.1, pshF x.2.2.1 x.2.2.2 (x.1, x.2.1))) ok R2
          have hB' : hM d2 x.1 := R2.2.2.1.1
          refine wp_aload_n (j := 0) rfl q193_ok d193_72 ?_
          refine wp_iload_n (j := 3) rfl q193_ok d193_73 ?_
          refine wp_cV q193_ok d193_74 ml_11_349 rfl q184_ok (u := 11) rfl (by first | assumption | exact so0 hsh rfl) rfl (Nat.le_of_ble_eq_true rfl) (Nat.le_of_ble_eq_true rfl) (m_pass (n := n) hsh hr hR' hB' 0) (fun v74 μ74 hc => ?_)
          obtain ⟨rfl, d4, rfl, f4, hM4, _, _⟩ := hc
          refine ⟨mm_le_same rfl, ?_⟩
          refine wp_iinc (j := 2) rfl (by first | exact inc1 | rfl) (rfl : _ = [_, _, _, _]) q193_ok d193_77 ?_
          refine wp_goto (t := 12) rfl q193_ok d193_80 ?_
          have hst : strG (sK S) x.2.1 = 0 := by unfold strG; rw [if_neg h27, if_pos (show sK S ≤ drwV x.2.1 from (drw_cmp (drwX x.2.1) (sK S)).mp h63)]
          have hM5 : hM d4 (stA (sT S) x.1 (sgA (sT S) x.1 (strG (sK S) x.2.1))) := by
            have h6 : hM d4 (stA (sT S) x.1 (sgM (sT S) (o0 (sT S)) x.1 0)) := hM4
            rw [← hst, sgM_A (strG01 _ _)] at h6
            exact h6
          have hdr : (if sK S ≤ 0 then x.2.1 else drwX x.2.1) = drwX x.2.1 := if_neg h27
          have R4 : repM d4 (mm_up g2 250 34 (drwX x.2.1)) (sNow S (goX (sT S) (sK S) x)) := by
            refine repM_now (S := sNow S (x.1, drwX x.2.1, pshN x.2.2.1, pshF x.2.2.1 x.2.2.2 (x.1, x.2.1))) R3 (fun c h1 h2 h3 h4 h5 => f4.1 c (by omega) (by omega) (by omega) (by omega) (by omega) (by omega)) (fun j h1 h2 h3 h4 => f4.2 j h1 h2) rfl ⟨hM5, ?_, ?_⟩
            · show _ = (if sK S ≤ 0 then x.2.1 else drwX x.2.1)
              rw [hdr]
              exact (mm_up_at 34).trans (if_pos rfl)
            · exact pstM_x R2.2.2.1.2.2 (f4.1 271 (by decide) (by decide) (by decide) (by decide) (by decide) (by decide)) (f4.1 272 (by decide) (by decide) (by decide) (by decide) (by decide) (by decide)) (mm_up_ne (by decide)) (f4.2 42 (by decide) (by decide))
          refine wp_post (ih (k + 1) _ d4 _ (goX (sT S) (sK S) x) (by omega) R4) (fun v μ hc => ?_)
          obtain ⟨rfl, d5, g5, rfl, R5, fr5⟩ := hc
          refine ⟨rfl, d5, g5, rfl, R5, fun c hc => ⟨(fr5 c hc).1.trans ((f4.1 c (by omega) (by omega) (by omega) (by omega) (by omega) (by omega)).trans (k2.1 c (by omega) (by omega) (by omega))), (fr5 c hc).2.trans ?_⟩⟩
          exact (mm_up_ne (by omega)).trans (k2.2.2 c (by omega))
        · refine wp_iconst (v := 1) (by decide) q193_ok d193_66 ?_
          refine wp_goto (t := 71) rfl q193_ok d193_67 ?_
          refine wp_istore_n (j := 3) (Nat.le_of_ble_eq_true rfl) (rfl : _ = [_, _, _, _]) q193_ok d193_71 ?_
          have R3 : repM d2 (mm_up g2 250 34 (drwX x.2.1)) (sNow S (x.1, drwX x.2.1, pshN x.2.2.1, pshF x.2.2.1 x.2.2.2 (x.1, x.2.1))) := repM_now (S := sNow S (x.1, x.2.1, pshN x.2.2.1, pshF x.2.2.1 x.2.2.2 (x.1, x.2.1))) R2 (fun _ _ _ _ _ _ => rfl) (fun _ _ _ _ _ => rfl) ((mm_up_at 53).trans (if_neg (by decide))) ⟨R2.2.2.1.1, (mm_up_at 34).trans (if_pos rfl), pstM_x R2.2.2.1.2.2 rfl rfl (mm_up_ne (by decide)) rfl⟩
          have hR' : MR d2 (sT S) (o0 (sT S)) := MR_rep (S := sNow S (x.1, x.2.1, pshN x.2.2.1, pshF x.2.2.1 x.2.2.2 (x.1, x.2.1))) ok R2
          have hB' : hM d2 x.1 := R2.2.2.1.1
          refine wp_aload_n (j := 0) rfl q193_ok d193_72 ?_
          refine wp_iload_n (j := 3) rfl q193_ok d193_73 ?_
          refine wp_cV q193_ok d193_74 ml_11_349 rfl q184_ok (u := 11) rfl (by first | assumption | exact so0 hsh rfl) rfl (Nat.le_of_ble_eq_true rfl) (Nat.le_of_ble_eq_true rfl) (m_pass (n := n) hsh hr hR' hB' 1) (fun v74 μ74 hc => ?_)
          obtain ⟨rfl, d4, rfl, f4, hM4, _, _⟩ := hc
          refine ⟨mm_le_same rfl, ?_⟩
          refine wp_iinc (j := 2) rfl (by first | exact inc1 | rfl) (rfl : _ = [_, _, _, _]) q193_ok d193_77 ?_
          refine wp_goto (t := 12) rfl q193_ok d193_80 ?_
          have hst : strG (sK S) x.2.1 = 1 := by unfold strG; rw [if_neg h27, if_neg (show ¬ sK S ≤ drwV x.2.1 from fun q => h63 ((drw_cmp (drwX x.2.1) (sK S)).mpr q))]
          have hM5 : hM d4 (stA (sT S) x.1 (sgA (sT S) x.1 (strG (sK S) x.2.1))) := by
            have h6 : hM d4 (stA (sT S) x.1 (sgM (sT S) (o0 (sT S)) x.1 1)) := hM4
            rw [← hst, sgM_A (strG01 _ _)] at h6
            exact h6
          have hdr : (if sK S ≤ 0 then x.2.1 else drwX x.2.1) = drwX x.2.1 := if_neg h27
          have R4 : repM d4 (mm_up g2 250 34 (drwX x.2.1)) (sNow S (goX (sT S) (sK S) x)) := by
            refine repM_now (S := sNow S (x.1, drwX x.2.1, pshN x.2.2.1, pshF x.2.2.1 x.2.2.2 (x.1, x.2.1))) R3 (fun c h1 h2 h3 h4 h5 => f4.1 c (by omega) (by omega) (by omega) (by omega) (by omega) (by omega)) (fun j h1 h2 h3 h4 => f4.2 j h1 h2) rfl ⟨hM5, ?_, ?_⟩
            · show _ = (if sK S ≤ 0 then x.2.1 else drwX x.2.1)
              rw [hdr]
              exact (mm_up_at 34).trans (if_pos rfl)
            · exact pstM_x R2.2.2.1.2.2 (f4.1 271 (by decide) (by decide) (by decide) (by decide) (by decide) (by decide)) (f4.1 272 (by decide) (by decide) (by decide) (by decide) (by decide) (by decide)) (mm_up_ne (by decide)) (f4.2 42 (by decide) (by decide))
          refine wp_post (ih (k + 1) _ d4 _ (goX (sT S) (sK S) x) (by omega) R4) (fun v μ hc => ?_)
          obtain ⟨rfl, d5, g5, rfl, R5, fr5⟩ := hc
          refine ⟨rfl, d5, g5, rfl, R5, fun c hc => ⟨(fr5 c hc).1.trans ((f4.1 c (by omega) (by omega) (by omega) (by omega) (by omega) (by omega)).trans (k2.1 c (by omega) (by omega) (by omega))), (fr5 c hc).2.trans ?_⟩⟩
          exact (mm_up_ne (by omega)).trans (k2.2.2 c (by omega))
theorem j_go {xs : List Int32} {ext : mm_X} {n : Nat} {sh : mm_S} {d : mm_D} {g : mm_G} {r : mm_R} {S : wo_S} {m : Nat} (hsh : shp sh) (hr : rfx r) (ok : okS m S) (hm : m < 2 ^ 22) (h : repM d g S) (n1 : Int32) : wp xs ext (n + 9) 193 0 [some (.ref 250), some (.int n1), none, none] [] (sh, d, g, r) (mpost sh d g r (goS S n1) (some (.int (goQ S n1)))) := by
  have hR := MR_rep ok.1 h
  have hA0 := h.2.2.1.1
  have hnp : tnp (sT S) ≤ 6 := ok.1.1
  have hnb : tnb (sT S) ≤ 2 := ok.1.2.1
  refine wp_aload_n (j := 0) rfl q193_ok d193_0 ?_
  refine wp_iload_n (j := 1) rfl q193_ok d193_1 ?_
  refine wp_cV q193_ok d193_2 ml_11_337 rfl q192_ok (u := 11) rfl (by first | assumption | exact so0 hsh rfl) rfl (Nat.le_of_ble_eq_true rfl) (Nat.le_of_ble_eq_true rfl) (m_are hsh hr _) (fun v2 μ2 hc => ?_)
  obtain ⟨rfl, rfl⟩ := hc
  refine ⟨mm_le_same rfl, ?_⟩
  rw [mare_v hR n1]
  by_cases c0 : hasT (sT S) ∧ ahdT n1
  · rw [if_pos c0]
    refine wp_if_ne q193_ok d193_5 (t := 10) rfl (fun h5 => ?_) (fun h5 => ?_)
    · refine wp_iconst (v := 0) (by decide) q193_ok d193_10 ?_
      refine wp_istore_n (j := 2) (Nat.le_of_ble_eq_true rfl) (rfl : _ = [_, _, _, _]) q193_ok d193_11 ?_
      have hT : goT S n1 := c0
      obtain ⟨N, hN1, hN, hNe⟩ := ahd_of (fun e => (ahd_T n1).mp e c0.2)
      have hNc : n1.toNatClampNeg = N := by rw [hNe]; exact nI_clamp (by omega)
      unfold goS goQ
      rw [if_pos hT, if_pos hT, hNc, hNe]
      refine wp_post (m_go_l (n := n) hsh hr ok.1 (N := N) (by omega) N 0 none d g (sX S) (by omega) h) (fun v μ hc => ?_)
      obtain ⟨rfl, d2, g2, rfl, R2, f2⟩ := hc
      exact ⟨rfl, d2, g2, rfl, R2, f2⟩
    · have h5 := Classical.not_not.mp h5
      exact absurd h5 (by decide)
  · rw [if_neg c0]
    refine wp_if_ne q193_ok d193_5 (t := 10) rfl (fun h5 => ?_) (fun h5 => ?_)
    · exact absurd rfl h5
    · have h5 := Classical.not_not.mp h5
      refine wp_iconst (v := -1) (by decide) q193_ok d193_8 ?_
      refine wp_iret q193_ok d193_9 rfl ?_
      have hT : ¬ goT S n1 := c0
      unfold goS goQ
      rw [if_neg hT, if_neg hT]
      exact mp_same h rfl
theorem sar_byt {w : Int32} {s : Nat} (h : s ≤ 24) : (w >>> (nI s &&& 31)) &&& 255 = byt w s := by
  have k1 : ∀ s, s ≤ 24 → ((nI s &&& 31).toBitVec.smod 32).toNat = s := by decide
  have k2 : ∀ s, s ≤ 24 → ((nI s).toUInt32 &&& Int32.toUInt32 31).toNat % 32 = s := by decide
  have k3 : ∀ i, i < 32 → (255 : Int32).toBitVec.getLsbD i = decide (i < 8) := by decide
  have e1 : (w >>> (nI s &&& 31)).toBitVec = w.toBitVec.sshiftRight s := by
    show w.toBitVec.sshiftRight' ((nI s &&& 31).toBitVec.smod 32) = _
    unfold BitVec.sshiftRight'
    rw [k1 s h]
  have e2 : (us32 w (nI s)).toBitVec = w.toBitVec >>> s := by
    apply BitVec.eq_of_toNat_eq
    rw [BitVec.toNat_ushiftRight]
    show (w.toUInt32 >>> ((nI s).toUInt32 &&& Int32.toUInt32 31)).toNat = _
    rw [UInt32.toNat_shiftRight, k2 s h]
    rfl
  apply Int32.toBitVec_inj.mp
  unfold byt
  rw [Int32.toBitVec_and, Int32.toBitVec_and, e1, e2]
  apply BitVec.eq_of_getLsbD_eq
  intro i hi
  rw [BitVec.getLsbD_and, BitVec.getLsbD_and, k3 i hi, BitVec.getLsbD_sshiftRight, BitVec.getLsbD_ushiftRight]
  by_cases q : i < 8
  · rw [if_pos (show s + i < 32 by omega), decide_eq_false (show ¬ 32 ≤ i by omega)]
    rfl
  · rw [decide_eq_false q, Bool.and_false, Bool.and_false]
theorem rem4 {k : Nat} (h : k < 20) : nI k - nI k / 4 * 4 = nI (k % 4) := by
  have : ∀ k, k < 20 → nI k - nI k / 4 * 4 = nI (k % 4) := by decide
  exact this k h
theorem sub24 {m : Nat} (h : m < 4) : (24 : Int32) - nI (8 * m) = nI (24 - 8 * m) := by
  have : ∀ m, m < 4 → (24 : Int32) - nI (8 * m) = nI (24 - 8 * m) := by decide
  exact this m h
def wrdM (a b c e f : Int32) (k : Nat) : Int32 := if k < 4 then a else if k < 8 then b else if k < 12 then c else if k < 16 then e else f
def bytM (a b c e f : Int32) (k : Nat) : Int32 := byt (wrdM a b c e f k) (24 - 8 * (k % 4))
def cntM (a b c e f : Int32) : Nat → Nat
  | 0 => 0
  | k + 1 => cntM a b c e f k + (if bytM a b c e f k = 0 then 0 else 1)
def pshM (L : wo_P) (a b c e f : Int32) : Nat → wo_P
  | 0 => L
  | k + 1 => psh (pshM L a b c e f k) (bytM a b c e f k)
theorem pshM_1 (L : wo_P) (a b c e f : Int32) : ∀ k, (pshM L a b c e f k).1 = L.1 + cntM a b c e f k
  | 0 => rfl
  | k + 1 => by
    rw [pshM, cntM]
    unfold psh
    by_cases q : bytM a b c e f k = 0
    · rw [if_pos q, if_pos q]; exact pshM_1 L a b c e f k
    · rw [if_neg q, if_neg q]
      show (pshM L a b c e f k).1 + 1 = _
      rw [pshM_1 L a b c e f k]
      omega
theorem cntM_mono (a b c e f : Int32) : ∀ z k, cntM a b c e f k ≤ cntM a b c e f (k + z)
  | 0, _ => Nat.le_refl _
  | z + 1, k => by
    have := cntM_mono a b c e f z k
    show _ ≤ cntM a b c e f (k + z) + _
    omega
theorem cntM_le (a b c e f : Int32) : ∀ k, cntM a b c e f k ≤ k
  | 0 => Nat.le_refl _
  | k + 1 => by
    have := cntM_le a b c e f k
    rw [cntM]
    split <;> omega
theorem pshM_20 (L : wo_P) (a b c e f : Int32) : pshM L a b c e f 20 = fdL L a b c e f := rfl
theorem cntM_20 (a b c e f : Int32) : cntM a b c e f 20 = fdN a b c e f := by
  have h1 := pshM_1 (0, fun _ => 0) a b c e f 20
  rw [pshM_20] at h1
  unfold fdL at h1
  rw [pshW_1, pshW_1, pshW_1, pshW_1, pshW_1] at h1
  unfold fdN
  have h1 : 0 + cntW a 4 + cntW b 4 + cntW c 4 + cntW e 4 + cntW f 4 = 0 + cntM a b c e f 20 := h1
  omega
theorem m_byt_t {xs : List Int32} {ext : mm_X} {n : Nat} {sh : mm_S} {d : mm_D} {g : mm_G} {r : mm_R} {u1 u2 u3 u4 u5 : Option Value} {k : Nat} (hk : k < 20) (w : Int32) : wp xs ext (n + 0) 137 47 [u1, u2, u3, u4, u5, some (.int (nI k)), some (.int w)] [] (sh, d, g, r) (fun v μ => v = some (.int (byt w (24 - 8 * (k % 4)))) ∧ μ = (sh, d, g, r)) := by
  refine wp_iload (j := 6) rfl q137_ok d137_47 ?_
  refine wp_bipush (v := 24) (by decide) q137_ok d137_49 ?_
  refine wp_bipush (v := 8) (by decide) q137_ok d137_51 ?_
  refine wp_iload (j := 5) rfl q137_ok d137_53 ?_
  refine wp_iconst (v := 4) (by decide) q137_ok d137_55 ?_
  refine wp_irem (by decide) (rem4 hk) q137_ok d137_56 ?_
  refine wp_imul (nI_x 8 (k % 4)) q137_ok d137_57 ?_
  refine wp_isub (sub24 (Nat.mod_lt k (by decide))) q137_ok d137_58 ?_
  refine wp_ishr rfl q137_ok d137_59 ?_
  refine wp_sipush (v := 255) (by decide) q137_ok d137_60 ?_
  refine wp_iand (sar_byt (by omega)) q137_ok d137_63 ?_
  refine wp_iret q137_ok d137_64 rfl ?_
  exact ⟨rfl, rfl⟩
theorem m_byt {xs : List Int32} {ext : mm_X} {n : Nat} {sh : mm_S} {d : mm_D} {g : mm_G} {r : mm_R} {k : Nat} (hk : k < 20) (a b c e f : Int32) : wp xs ext (n + 0) 137 0 [some (.int a), some (.int b), some (.int c), some (.int e), some (.int f), some (.int (nI k)), none] [] (sh, d, g, r) (fun v μ => v = some (.int (bytM a b c e f k)) ∧ μ = (sh, d, g, r)) := by
  refine wp_iload (j := 5) rfl q137_ok d137_0 ?_
  refine wp_iconst (v := 4) (by decide) q137_ok d137_2 ?_
  refine wp_icmp_ge q137_ok d137_3 (t := 10) rfl (fun h3 => ?_) (fun h3 => ?_)
  · refine wp_iload (j := 5) rfl q137_ok d137_10 ?_
    refine wp_bipush (v := 8) (by decide) q137_ok d137_12 ?_
    refine wp_icmp_ge q137_ok d137_14 (t := 21) rfl (fun h14 => ?_) (fun h14 => ?_)
    · refine wp_iload (j := 5) rfl q137_ok d137_21 ?_
      refine wp_bipush (v := 12) (by decide) q137_ok d137_23 ?_
      refine wp_icmp_ge q137_ok d137_25 (t := 32) rfl (fun h25 => ?_) (fun h25 => ?_)
      · refine wp_iload (j := 5) rfl q137_ok d137_32 ?_
        refine wp_bipush (v := 16) (by decide) q137_ok d137_34 ?_
        refine wp_icmp_ge q137_ok d137_36 (t := 43) rfl (fun h36 => ?_) (fun h36 => ?_)
        · refine wp_iload (j := 4) rfl q137_ok d137_43 ?_
          refine wp_istore (j := 6) (Nat.le_of_ble_eq_true rfl) (rfl : _ = [_, _, _, _, _, _, _]) q137_ok d137_45 ?_
          have hw : bytM a b c e f k = byt f (24 - 8 * (k % 4)) := by
            unfold bytM wrdM
            rw [if_neg (show ¬ k < 4 from fun q => absurd ((nI_ltI (by omega) (by decide)).mpr q) (Int32.not_lt.mpr (show nI 4 ≤ nI k from h3))), if_neg (show ¬ k < 8 from fun q => absurd ((nI_ltI (by omega) (by decide)).mpr q) (Int32.not_lt.mpr (show nI 8 ≤ nI k from h14))), if_neg (show ¬ k < 12 from fun q => absurd ((nI_ltI (by omega) (by decide)).mpr q) (Int32.not_lt.mpr (show nI 12 ≤ nI k from h25))), if_neg (show ¬ k < 16 from fun q => absurd ((nI_ltI (by omega) (by decide)).mpr q) (Int32.not_lt.mpr (show nI 16 ≤ nI k from h36)))]
          rw [hw]
          exact m_byt_t hk f
        · refine wp_iload_n (j := 3) rfl q137_ok d137_39 ?_
          refine wp_goto (t := 45) rfl q137_ok d137_40 ?_
          refine wp_istore (j := 6) (Nat.le_of_ble_eq_true rfl) (rfl : _ = [_, _, _, _, _, _, _]) q137_ok d137_45 ?_
          have hw : bytM a b c e f k = byt e (24 - 8 * (k % 4)) := by
            unfold bytM wrdM
            rw [if_neg (show ¬ k < 4 from fun q => absurd ((nI_ltI (by omega) (by decide)).mpr q) (Int32.not_lt.mpr (show nI 4 ≤ nI k from h3))), if_neg (show ¬ k < 8 from fun q => absurd ((nI_ltI (by omega) (by decide)).mpr q) (Int32.not_lt.mpr (show nI 8 ≤ nI k from h14))), if_neg (show ¬ k < 12 from fun q => absurd ((nI_ltI (by omega) (by decide)).mpr q) (Int32.not_lt.mpr (show nI 12 ≤ nI k from h25))), if_pos (show k < 16 from (nI_ltI (by omega) (by decide)).mp (show nI k < nI 16 from Int32.not_le.mp h36))]
          rw [hw]
          exact m_byt_t hk e
      · refine wp_iload_n (j := 2) rfl q137_ok d137_28 ?_
        refine wp_goto (t := 45) rfl q137_ok d137_29 ?_
        refine wp_istore (j := 6) (Nat.le_of_ble_eq_true rfl) (rfl : _ = [_, _, _, _, _, _, _]) q137_ok d137_45 ?_
        have hw : bytM a b c e f k = byt c (24 - 8 * (k % 4)) := by
          unfold bytM wrdM
          rw [if_neg (show ¬ k < 4 from fun q => absurd ((nI_ltI (by omega) (by decide)).mpr q) (Int32.not_lt.mpr (show nI 4 ≤ nI k from h3))), if_neg (show ¬ k < 8 from fun q => absurd ((nI_ltI (by omega) (by decide)).mpr q) (Int32.not_lt.mpr (show nI 8 ≤ nI k from h14))), if_pos (show k < 12 from (nI_ltI (by omega) (by decide)).mp (show nI k < nI 12 from Int32.not_le.mp h25))]
        rw [hw]
        exact m_byt_t hk c
    · refine wp_iload_n (j := 1) rfl q137_ok d137_17 ?_
      refine wp_goto (t := 45) rfl q137_ok d137_18 ?_
      refine wp_istore (j := 6) (Nat.le_of_ble_eq_true rfl) (rfl : _ = [_, _, _, _, _, _, _]) q137_ok d137_45 ?_
      have hw : bytM a b c e f k = byt b (24 - 8 * (k % 4)) := by
        unfold bytM wrdM
        rw [if_neg (show ¬ k < 4 from fun q => absurd ((nI_ltI (by omega) (by decide)).mpr q) (Int32.not_lt.mpr (show nI 4 ≤ nI k from h3))), if_pos (show k < 8 from (nI_ltI (by omega) (by decide)).mp (show nI k < nI 8 from Int32.not_le.mp h14))]
      rw [hw]
      exact m_byt_t hk b
  · refine wp_iload_n (j := 0) rfl q137_ok d137_6 ?_
    refine wp_goto (t := 45) rfl q137_ok d137_7 ?_
    refine wp_istore (j := 6) (Nat.le_of_ble_eq_true rfl) (rfl : _ = [_, _, _, _, _, _, _]) q137_ok d137_45 ?_
    have hw : bytM a b c e f k = byt a (24 - 8 * (k % 4)) := by
      unfold bytM wrdM
      rw [if_pos (show k < 4 from (nI_ltI (by omega) (by decide)).mp (show nI k < nI 4 from Int32.not_le.mp h3))]
    rw [hw]
    exact m_byt_t hk a
theorem m_fd1 {xs : List Int32} {ext : mm_X} {n : Nat} {sh : mm_S} {d : mm_D} {g : mm_G} {r : mm_R} (hsh : shp sh) (hr : rfx r) (a b c e f : Int32) {Q : Option Value → mm_M → Prop} (hx : wp xs ext (n + 1) 138 44 [some (.ref 250), some (.int a), some (.int b), some (.int c), some (.int e), some (.int f), some (.int (nI (cntM a b c e f 20))), some (.int (nI 20)), none] [] (sh, d, g, r) Q) : ∀ (z k : Nat), z + k = 20 → wp xs ext (n + 1) 138 6 [some (.ref 250), some (.int a), some (.int b), some (.int c), some (.int e), some (.int f), some (.int (nI (cntM a b c e f k))), some (.int (nI k)), none] [] (sh, d, g, r) Q := by
  intro z
  induction z with
  | zero =>
    intro k hz
    have hvb : k = 20 := by omega
    subst hvb
    refine wp_iload (j := 7) rfl q138_ok d138_6 ?_
    refine wp_bipush (v := 20) (by decide) q138_ok d138_8 ?_
    refine wp_icmp_ge q138_ok d138_10 (t := 44) rfl (fun h10 => ?_) (fun h10 => ?_)
    · exact hx
    · exact absurd (nI_le (Nat.le_refl _) (by decide)) h10
  | succ z ih =>
    intro k hz
    have hlt : k < 20 := by omega
    have h1 := ih (k + 1) (by omega)
    rw [cntM] at h1
    refine wp_iload (j := 7) rfl q138_ok d138_6 ?_
    refine wp_bipush (v := 20) (by decide) q138_ok d138_8 ?_
    refine wp_icmp_ge q138_ok d138_10 (t := 44) rfl (fun h10 => ?_) (fun h10 => ?_)
    · exact absurd h10 (nI_ge hlt (by decide))
    · refine wp_iload (j := 6) rfl q138_ok d138_13 ?_
      refine wp_iload_n (j := 1) rfl q138_ok d138_15 ?_
      refine wp_iload_n (j := 2) rfl q138_ok d138_16 ?_
      refine wp_iload_n (j := 3) rfl q138_ok d138_17 ?_
      refine wp_iload (j := 4) rfl q138_ok d138_18 ?_
      refine wp_iload (j := 5) rfl q138_ok d138_20 ?_
      refine wp_iload (j := 7) rfl q138_ok d138_22 ?_
      refine wp_cS q138_ok d138_24 ml_11_106 rfl q137_ok rfl rfl rfl (Nat.le_of_ble_eq_true rfl) (Nat.le_of_ble_eq_true rfl) (m_byt hlt a b c e f) (fun v24 μ24 hc => ?_)
      obtain ⟨rfl, rfl⟩ := hc
      refine ⟨mm_le_same rfl, ?_⟩
      refine wp_if_eq q138_ok d138_27 (t := 34) rfl (fun h27 => ?_) (fun h27 => ?_)
      · refine wp_iconst (v := 0) (by decide) q138_ok d138_34 ?_
        refine wp_iadd (by first | exact Int32.add_zero _ | exact nI_1 _) q138_ok d138_35 ?_
        refine wp_istore (j := 6) (Nat.le_of_ble_eq_true rfl) (rfl : _ = [_, _, _, _, _, _, _, _, _]) q138_ok d138_36 ?_
        refine wp_iinc (j := 7) rfl (by first | exact inc1 | rfl) (rfl : _ = [_, _, _, _, _, _, _, _, _]) q138_ok d138_38 ?_
        refine wp_goto (t := 6) rfl q138_ok d138_41 ?_
        rw [if_pos h27] at h1
        exact h1
      · refine wp_iconst (v := 1) (by decide) q138_ok d138_30 ?_
        refine wp_goto (t := 35) rfl q138_ok d138_31 ?_
        refine wp_iadd (by first | exact Int32.add_zero _ | exact nI_1 _) q138_ok d138_35 ?_
        refine wp_istore (j := 6) (Nat.le_of_ble_eq_true rfl) (rfl : _ = [_, _, _, _, _, _, _, _, _]) q138_ok d138_36 ?_
        refine wp_iinc (j := 7) rfl (by first | exact inc1 | rfl) (rfl : _ = [_, _, _, _, _, _, _, _, _]) q138_ok d138_38 ?_
        refine wp_goto (t := 6) rfl q138_ok d138_41 ?_
        rw [if_neg h27] at h1
        exact h1
theorem m_fd2 {xs : List Int32} {ext : mm_X} {n : Nat} {sh : mm_S} {g : mm_G} {r : mm_R} (hsh : shp sh) (hr : rfx r) (a b c e f : Int32) {L : wo_P} {n1 : Int32} (hs : L.1 + cntM a b c e f 20 ≤ 160) (D : mm_D) : ∀ (z k : Nat) (u : Option Value) (d : mm_D), z + k = 20 → tapM d (pshM L a b c e f k) → (∀ c, c ≠ 250 → c ≠ 251 → d c = D c) → (∀ j, j ≠ 2 → d 250 j = D 250 j) → wp xs ext (n + 1) 138 62 [some (.ref 250), some (.int a), some (.int b), some (.int c), some (.int e), some (.int f), some (.int n1), some (.int (nI k)), u] [] (sh, d, g, r) (fun v μ => v = some (.int (nI (L.1 + cntM a b c e f 20))) ∧ ∃ d2, μ = (sh, d2, g, r) ∧ tapM d2 (pshM L a b c e f 20) ∧ (∀ c, c ≠ 250 → c ≠ 251 → d2 c = D c) ∧ ∀ j, j ≠ 2 → d2 250 j = D 250 j) := by
  intro z
  induction z with
  | zero =>
    intro k u d hz hL h1 h2
    have hvb : k = 20 := by omega
    subst hvb
    refine wp_iload (j := 7) rfl q138_ok d138_62 ?_
    refine wp_bipush (v := 20) (by decide) q138_ok d138_64 ?_
    refine wp_icmp_ge q138_ok d138_66 (t := 115) rfl (fun h66 => ?_) (fun h66 => ?_)
    · refine wp_aload_n (j := 0) rfl q138_ok d138_115 ?_
      refine wp_getI q138_ok d138_116 fl_11_110 rfl (by first | assumption | exact so0 hsh rfl) (hL.1.trans (by rw [pshM_1])) ?_
      refine wp_iret q138_ok d138_119 rfl ?_
      exact ⟨rfl, d, rfl, hL, h1, h2⟩
    · exact absurd (nI_le (Nat.le_refl _) (by decide)) h66
  | succ z ih =>
    intro k u d hz hL h1 h2
    have hlt : k < 20 := by omega
    have h0 := pshM_1 L a b c e f k
    have hm := cntM_mono a b c e f (20 - (k + 1)) (k + 1)
    rw [show k + 1 + (20 - (k + 1)) = 20 by omega, cntM] at hm
    refine wp_iload (j := 7) rfl q138_ok d138_62 ?_
    refine wp_bipush (v := 20) (by decide) q138_ok d138_64 ?_
    refine wp_icmp_ge q138_ok d138_66 (t := 115) rfl (fun h66 => ?_) (fun h66 => ?_)
    · exact absurd h66 (nI_ge hlt (by decide))
    · refine wp_iload_n (j := 1) rfl q138_ok d138_69 ?_
      refine wp_iload_n (j := 2) rfl q138_ok d138_70 ?_
      refine wp_iload_n (j := 3) rfl q138_ok d138_71 ?_
      refine wp_iload (j := 4) rfl q138_ok d138_72 ?_
      refine wp_iload (j := 5) rfl q138_ok d138_74 ?_
      refine wp_iload (j := 7) rfl q138_ok d138_76 ?_
      refine wp_cS q138_ok d138_78 ml_11_106 rfl q137_ok rfl rfl rfl (Nat.le_of_ble_eq_true rfl) (Nat.le_of_ble_eq_true rfl) (m_byt hlt a b c e f) (fun v78 μ78 hc => ?_)
      obtain ⟨rfl, rfl⟩ := hc
      refine ⟨mm_le_same rfl, ?_⟩
      refine wp_istore (j := 8) (Nat.le_of_ble_eq_true rfl) (rfl : _ = [_, _, _, _, _, _, _, _, _]) q138_ok d138_81 ?_
      refine wp_iload (j := 8) rfl q138_ok d138_83 ?_
      refine wp_if_eq q138_ok d138_85 (t := 109) rfl (fun h85 => ?_) (fun h85 => ?_)
      · have e1 : pshM L a b c e f (k + 1) = pshM L a b c e f k := if_pos h85
        refine wp_iinc (j := 7) rfl (by first | exact inc1 | rfl) (rfl : _ = [_, _, _, _, _, _, _, _, _]) q138_ok d138_109 ?_
        refine wp_goto (t := 62) rfl q138_ok d138_112 ?_
        exact ih (k + 1) _ d (by omega) (by rw [e1]; exact hL) h1 h2
      · have e1 : pshM L a b c e f (k + 1) = ((pshM L a b c e f k).1 + 1, fun i => if i = (pshM L a b c e f k).1 then bytM a b c e f k else (pshM L a b c e f k).2 i) := if_neg h85
        rw [if_neg h85] at hm
        refine wp_aload_n (j := 0) rfl q138_ok d138_88 ?_
        refine wp_getR q138_ok d138_89 fl_11_9 rfl (by first | assumption | exact so0 hsh rfl) (by first | assumption | exact hr _ _ _ rfl) ?_
        refine wp_aload_n (j := 0) rfl q138_ok d138_92 ?_
        refine wp_getI q138_ok d138_93 fl_11_110 rfl (by first | assumption | exact so0 hsh rfl) hL.1 ?_
        refine wp_iload (j := 8) rfl q138_ok d138_96 ?_
        refine wp_iast (m := 160) q138_ok d138_98 (by first | assumption | exact so0 hsh rfl) (shl hsh (m := 160) (Nat.le_of_ble_eq_true rfl) rfl) (ixn_nI (show (pshM L a b c e f k).1 < 160 by omega)) ?_
        refine wp_aload_n (j := 0) rfl q138_ok d138_99 ?_
        refine wp_dup rfl q138_ok d138_100 ?_
        refine wp_getI q138_ok d138_101 fl_11_110 rfl (by first | assumption | exact so0 hsh rfl) hL.1 ?_
        refine wp_iconst (v := 1) (by decide) q138_ok d138_104 ?_
        refine wp_iadd (nI_1 _) q138_ok d138_105 ?_
        refine wp_putI q138_ok d138_106 fl_11_110 rfl (by first | assumption | exact so0 hsh rfl) (Or.inl rfl) ?_
        refine wp_iinc (j := 7) rfl (by first | exact inc1 | rfl) (rfl : _ = [_, _, _, _, _, _, _, _, _]) q138_ok d138_109 ?_
        refine wp_goto (t := 62) rfl q138_ok d138_112 ?_
        refine ih (k + 1) _ _ (by omega) (by
          rw [e1]
          refine ⟨(mm_up_at 2).trans (if_pos rfl), by show (pshM L a b c e f k).1 + 1 ≤ 160; omega, fun i hi => ?_⟩
          have hi : i < (pshM L a b c e f k).1 + 1 := hi
          rw [mm_up_ne (show 251 ≠ 250 by decide), mm_up_at]
          show _ = (if i = (pshM L a b c e f k).1 then bytM a b c e f k else (pshM L a b c e f k).2 i)
          by_cases q : i = (pshM L a b c e f k).1
          · rw [if_pos q, if_pos q]
          · rw [if_neg q, if_neg q]; exact hL.2.2 i (by omega)) (fun c h3 h4 => by rw [mm_up_ne h3, mm_up_ne h4]; exact h1 c h3 h4) (fun j hj => by rw [mm_up_at, if_neg hj, mm_up_ne (by decide)]; exact h2 j hj)
theorem j_feed {xs : List Int32} {ext : mm_X} {n : Nat} {sh : mm_S} {d : mm_D} {g : mm_G} {r : mm_R} {S : wo_S} {m : Nat} (hsh : shp sh) (hr : rfx r) (ok : okS m S) (hm : m < 2 ^ 22) (h : repM d g S) (a b c e f : Int32) : wp xs ext (n + 1) 138 0 [some (.ref 250), some (.int a), some (.int b), some (.int c), some (.int e), some (.int f), none, none, none] [] (sh, d, g, r) (mpost sh d g r (feedS S a b c e f) (some (.int (feedQ S a b c e f)))) := by
  have hL := h.2.2.2.2.1
  have h160 := hL.2.1
  have h20 := cntM_le a b c e f 20
  refine wp_iconst (v := 0) (by decide) q138_ok d138_0 ?_
  refine wp_istore (j := 6) (Nat.le_of_ble_eq_true rfl) (rfl : _ = [_, _, _, _, _, _, _, _, _]) q138_ok d138_1 ?_
  refine wp_iconst (v := 0) (by decide) q138_ok d138_3 ?_
  refine wp_istore (j := 7) (Nat.le_of_ble_eq_true rfl) (rfl : _ = [_, _, _, _, _, _, _, _, _]) q138_ok d138_4 ?_
  refine m_fd1 hsh hr a b c e f ?_ 20 0 rfl
  refine wp_aload_n (j := 0) rfl q138_ok d138_44 ?_
  refine wp_getI q138_ok d138_45 fl_11_110 rfl (by first | assumption | exact so0 hsh rfl) hL.1 ?_
  refine wp_iload (j := 6) rfl q138_ok d138_48 ?_
  refine wp_iadd (nI_pl _ _) q138_ok d138_50 ?_
  refine wp_sipush (v := 160) (by decide) q138_ok d138_51 ?_
  refine wp_icmp_le q138_ok d138_54 (t := 59) rfl (fun h54 => ?_) (fun h54 => ?_)
  · refine wp_iconst (v := 0) (by decide) q138_ok d138_59 ?_
    refine wp_istore (j := 7) (Nat.le_of_ble_eq_true rfl) (rfl : _ = [_, _, _, _, _, _, _, _, _]) q138_ok d138_60 ?_
    have hle : (sP S).1 + cntM a b c e f 20 ≤ 160 := (nI_leI (by omega) (by decide)).mp (show nI ((sP S).1 + cntM a b c e f 20) ≤ nI 160 from h54)
    refine wp_post (m_fd2 hsh hr a b c e f (L := sP S) hle d 20 0 none d rfl hL (fun _ _ _ => rfl) (fun _ _ => rfl)) (fun v μ hc => ?_)
    obtain ⟨rfl, d2, rfl, t1, t2, t3⟩ := hc
    rw [pshM_20] at t1
    rw [cntM_20] at hle ⊢
    unfold feedS feedQ
    rw [if_pos hle, if_pos hle]
    exact ⟨rfl, d2, g, rfl, repM_tap h (fun c h1 h2 => t2 c h2 h1) t3 t1, fun c hc => ⟨t2 c (by omega) (by omega), rfl⟩⟩
  · refine wp_iconst (v := -1) (by decide) q138_ok d138_57 ?_
    refine wp_iret q138_ok d138_58 rfl ?_
    have hgt : ¬ (sP S).1 + cntM a b c e f 20 ≤ 160 := fun q => h54 ((nI_leI (by omega) (by decide)).mpr q)
    rw [cntM_20] at hgt
    unfold feedS feedQ
    rw [if_neg hgt, if_neg hgt]
    exact mp_same h rfl
