/-! ===== times and whose of the model ===== -/
def ntM (d : mm_D) (len : Nat) (mt : Nat → Nat) (rs : Nat → Int32) : Prop := d 250 48 = nI len ∧ len ≤ 20 ∧ ∀ i, i < len → mt i ≤ 60 ∧ d 276 i = nI (mt i) ∧ d 277 i = rs i
theorem ntM_uf {d d2 : mm_D} {len : Nat} {mt : Nat → Nat} {rs : Nat → Int32} (h : ntM d len mt rs) (u : uf d d2) : ntM d2 len mt rs := by
  unfold ntM
  rw [u.2 48 (by decide) (by decide) (by decide), u.1 276 (by decide) (by decide) (by decide) (by decide) (by decide) (by decide) (by decide) (by decide) (by decide) (by decide), u.1 277 (by decide) (by decide) (by decide) (by decide) (by decide) (by decide) (by decide) (by decide) (by decide) (by decide)]
  exact h
theorem rrA01 (T : wo_T) (o : wo_O) (B : wo_A) (b k : Nat) : rrA T o B b k = 0 ∨ rrA T o B b k = 1 := by
  unfold rrA rgA
  split
  · exact Or.inl rfl
  · exact Or.inr rfl
theorem rgB_rr {T : wo_T} (o : wo_O) (B : wo_A) (h0 : 0 < tnb T) (h2 : tnb T ≤ 2) (k : Nat) : rgB T o B k = rrA T o B 0 k := by
  unfold rgB
  have e : rbA T o (aN T o B k) &&& 1 = 0 ↔ rrA T o B 0 k = 0 := by
    rw [and1]
    unfold rbA
    rw [gb_bts _ 0 _ (by omega)]
    show (decide (0 < tnb T) && !decide (rrA T o B 0 k = 0)) = false ↔ _
    simp [h0]
  unfold b01
  rcases rrA01 T o B 0 k with q | q
  · rw [if_pos (e.mpr q), q]
  · rw [if_neg (fun w => by have := e.mp w; rw [q] at this; exact absurd this (by decide)), q]
theorem aN_in {T : wo_T} {o : wo_O} {A B : wo_A} (h1 : A.1 = B.1) (h2 : A.2.1 = B.2.1) : ∀ k, (aN T o A k).1 = (aN T o B k).1 ∧ (aN T o A k).2.1 = (aN T o B k).2.1
  | 0 => ⟨h1, h2⟩
  | k + 1 => by
    obtain ⟨a, b⟩ := aN_in h1 h2 k
    refine ⟨by show (aN T o A k).1 + 1 = (aN T o B k).1 + 1; rw [a], ?_⟩
    show (fun b' => if b' < tnb T then lfA T (aN T o A k) (snA T o (aN T o A k)) b' else (aN T o A k).2.1 b') = (fun b' => if b' < tnb T then lfA T (aN T o B k) (snA T o (aN T o B k)) b' else (aN T o B k).2.1 b')
    have e1 : snA T o (aN T o A k) = snA T o (aN T o B k) := by unfold snA; rw [a, b]
    have e2 : ∀ b', owA T (aN T o A k) b' = owA T (aN T o B k) b' := fun b' => by unfold owA; rw [a, b]
    funext b'
    rw [e1, b]
    unfold lfA
    rw [e2]
theorem rr_in {T : wo_T} {o : wo_O} {A B : wo_A} (h1 : A.1 = B.1) (h2 : A.2.1 = B.2.1) (b k : Nat) : rrA T o A b k = rrA T o B b k := by
  obtain ⟨p, q⟩ := aN_in (T := T) (o := o) h1 h2 k
  have e1 : snA T o (aN T o A k) = snA T o (aN T o B k) := by unfold snA; rw [p, q]
  have e2 : ∀ b', owA T (aN T o A k) b' = owA T (aN T o B k) b' := fun b' => by unfold owA; rw [p, q]
  unfold rrA rgA lfA
  rw [e1, e2]
def whF (fit : Nat → Int32) (i : Int32) : Nat → Nat → Int32 → Int32 → Int32
  | 0, _, c, f => if i = -1 then c else f
  | z + 1, k, c, f => if fit k = 0 then whF fit i z (k + 1) c f else whF fit i z (k + 1) (c + Int32.ofInt 1) (if c = i then nI k else f)
theorem whF_b {fit : Nat → Int32} {x : Nat} : ∀ (z k c : Nat) (f : Int32), x < c → c + z < 2 ^ 30 → whF fit (nI x) z k (nI c) f = f
  | 0, k, c, f, h, hc => by rw [whF, if_neg (nI_nm1 (by omega))]
  | z + 1, k, c, f, h, hc => by
    rw [whF]
    by_cases q : fit k = 0
    · rw [if_pos q]; exact whF_b z (k + 1) c f h (by omega)
    · rw [if_neg q, if_neg (show ¬ nI c = nI x from fun e => by have := (nI_leI (show c < 2 ^ 31 by omega) (show x < 2 ^ 31 by omega)).mp (by rw [e]; exact Int32.le_refl _); omega), inc1]
      exact whF_b z (k + 1) (c + 1) f (by omega) (by omega)
theorem whF_a {fit : Nat → Int32} {i : Int32} : ∀ (z k c : Nat), (i = -1 ∨ nI c ≤ i) → c + z < 2 ^ 30 → whF fit i z k (nI c) (-1) = timF fit i z k (nI c)
  | 0, k, c, h, hc => by rw [whF, timF]
  | z + 1, k, c, h, hc => by
    rw [whF, timF]
    by_cases q : fit k = 0
    · rw [if_pos q, if_pos q]; exact whF_a z (k + 1) c h (by omega)
    · rw [if_neg q, if_neg q]
      by_cases e : nI c = i
      · rw [if_pos e, if_pos e, ← e, inc1]
        exact whF_b z (k + 1) (c + 1) (nI k) (by omega) (by omega)
      · rw [if_neg e, if_neg e, inc1]
        refine whF_a z (k + 1) (c + 1) ?_ (by omega)
        rcases h with h | h
        · exact Or.inl h
        · exact Or.inr (nI_lt1 (by omega) h e)
theorem m_agr_l {xs : List Int32} {ext : mm_X} {n : Nat} {sh : mm_S} {d : mm_D} {g : mm_G} {r : mm_R} (hsh : shp sh) (hr : rfx r) {len : Nat} {mt : Nat → Nat} {rs : Nat → Int32} (hn : ntM d len mt rs) {R : Nat → Int32} {f : Nat} (hf : f ≤ 480) (hR : ∀ j, j ≤ f + 60 → d 278 j = R j) : ∀ (z k : Nat), z + k = len → wp xs ext (n + 0) 217 2 [some (.ref 250), some (.int (nI f)), some (.int (nI k))] [] (sh, d, g, r) (fun v μ => v = some (.int (fitN R mt rs f z k)) ∧ μ = (sh, d, g, r)) := by
  obtain ⟨n1, n2, n3⟩ := hn
  intro z
  induction z with
  | zero =>
    intro k hz
    have hvb : len = k := by omega
    subst hvb
    refine wp_iload_n (j := 2) rfl q217_ok d217_2 ?_
    refine wp_aload_n (j := 0) rfl q217_ok d217_3 ?_
    refine wp_getI q217_ok d217_4 fl_11_280 rfl (by first | assumption | exact so0 hsh rfl) n1 ?_
    refine wp_icmp_ge q217_ok d217_7 (t := 40) rfl (fun h7 => ?_) (fun h7 => ?_)
    · refine wp_iconst (v := 1) (by decide) q217_ok d217_40 ?_
      refine wp_zret q217_ok d217_41 rfl (by first | assumption | exact Or.inl rfl | exact Or.inr rfl) ?_
      exact ⟨rfl, rfl⟩
    · exact absurd (nI_le (Nat.le_refl _) (by omega)) h7
  | succ z ih =>
    intro k hz
    have hlt : k < len := by omega
    obtain ⟨m60, e1, e2⟩ := n3 k hlt
    have e3 := hR (f + mt k) (by omega)
    refine wp_iload_n (j := 2) rfl q217_ok d217_2 ?_
    refine wp_aload_n (j := 0) rfl q217_ok d217_3 ?_
    refine wp_getI q217_ok d217_4 fl_11_280 rfl (by first | assumption | exact so0 hsh rfl) n1 ?_
    refine wp_icmp_ge q217_ok d217_7 (t := 40) rfl (fun h7 => ?_) (fun h7 => ?_)
    · exact absurd h7 (nI_ge hlt (by omega))
    · refine wp_aload_n (j := 0) rfl q217_ok d217_10 ?_
      refine wp_getR q217_ok d217_11 fl_11_93 rfl (by first | assumption | exact so0 hsh rfl) (by first | assumption | exact hr _ _ _ rfl) ?_
      refine wp_iload_n (j := 1) rfl q217_ok d217_14 ?_
      refine wp_aload_n (j := 0) rfl q217_ok d217_15 ?_
      refine wp_getR q217_ok d217_16 fl_11_87 rfl (by first | assumption | exact so0 hsh rfl) (by first | assumption | exact hr _ _ _ rfl) ?_
      refine wp_iload_n (j := 2) rfl q217_ok d217_19 ?_
      refine wp_iald (m := 20) q217_ok d217_20 (by first | assumption | exact so0 hsh rfl) (shl hsh (m := 20) (Nat.le_of_ble_eq_true rfl) rfl) (ixn_nI (by omega)) e1 ?_ (shK hsh)
      refine wp_iadd (nI_pl f (mt k)) q217_ok d217_21 ?_
      refine wp_bald (m := 541) q217_ok d217_22 (by first | assumption | exact so0 hsh rfl) (shl hsh (m := 541) (Nat.le_of_ble_eq_true rfl) rfl) (ixn_nI (by omega)) e3 ?_
      refine wp_aload_n (j := 0) rfl q217_ok d217_23 ?_
      refine wp_getR q217_ok d217_24 fl_11_90 rfl (by first | assumption | exact so0 hsh rfl) (by first | assumption | exact hr _ _ _ rfl) ?_
      refine wp_iload_n (j := 2) rfl q217_ok d217_27 ?_
      refine wp_bald (m := 20) q217_ok d217_28 (by first | assumption | exact so0 hsh rfl) (shl hsh (m := 20) (Nat.le_of_ble_eq_true rfl) rfl) (ixn_nI (by omega)) e2 ?_
      refine wp_icmp_eq q217_ok d217_29 (t := 34) rfl (fun h29 => ?_) (fun h29 => ?_)
      · refine wp_iinc (j := 2) rfl (by first | exact inc1 | rfl) (rfl : _ = [_, _, _]) q217_ok d217_34 ?_
        refine wp_goto (t := 2) rfl q217_ok d217_37 ?_
        rw [fitN, if_pos h29]
        exact ih (k + 1) (by omega)
      · refine wp_iconst (v := 0) (by decide) q217_ok d217_32 ?_
        refine wp_zret q217_ok d217_33 rfl (by first | assumption | exact Or.inl rfl | exact Or.inr rfl) ?_
        exact ⟨by rw [fitN, if_neg h29], rfl⟩
theorem m_agr {xs : List Int32} {ext : mm_X} {n : Nat} {sh : mm_S} {d : mm_D} {g : mm_G} {r : mm_R} (hsh : shp sh) (hr : rfx r) {len : Nat} {mt : Nat → Nat} {rs : Nat → Int32} (hn : ntM d len mt rs) {R : Nat → Int32} {f : Nat} (hf : f ≤ 480) (hR : ∀ j, j ≤ f + 60 → d 278 j = R j) : wp xs ext (n + 0) 217 0 [some (.ref 250), some (.int (nI f)), none] [] (sh, d, g, r) (fun v μ => v = some (.int (fitN R mt rs f len 0)) ∧ μ = (sh, d, g, r)) := by
  refine wp_iconst (v := 0) (by decide) q217_ok d217_0 ?_
  refine wp_istore_n (j := 2) (Nat.le_of_ble_eq_true rfl) (rfl : _ = [_, _, _]) q217_ok d217_1 ?_
  exact m_agr_l hsh hr hn hf hR len 0 (by omega)
theorem hS_278 {d : mm_D} {B : wo_A} {k : Nat} {x : Int32} (h : hS d B) : hS (mm_up d 278 k x) B := by
  unfold hS
  rw [mm_up_ne (show 250 ≠ 278 by decide), mm_up_ne (show 274 ≠ 278 by decide), mm_up_ne (show 275 ≠ 278 by decide)]
  exact h
theorem m_tim_r {xs : List Int32} {ext : mm_X} {n : Nat} {sh : mm_S} {d : mm_D} {g : mm_G} {r : mm_R} {T : wo_T} {o : wo_O} {B : wo_A} (hsh : shp sh) (hr : rfx r) (hR : MR d T o) {B0 : wo_A} (h0 : 0 < tnb T) (i : Int32) (u3 : Option Value) (Q : Option Value → mm_M → Prop) (K : ∀ d2, uf d d2 → hS d2 B → (∀ j, j < 541 → d2 278 j = rrA T o B0 0 j) → wp xs ext (n + 9) 218 77 [some (.ref 250), some (.int i), some (.int (nI 541)), u3] [] (sh, d2, g, r) Q) : ∀ (z k : Nat) (d1 : mm_D), z + k = 541 → uf d d1 → hM d1 (aN T o B0 k) → hS d1 B → (∀ j, j < k → d1 278 j = rrA T o B0 0 j) → wp xs ext (n + 9) 218 45 [some (.ref 250), some (.int i), some (.int (nI k)), u3] [] (sh, d1, g, r) Q := by
  have hnb2 := hR.2.1
  intro z
  induction z with
  | zero =>
    intro k d1 hz u1 hM1 hS1 hw
    have hvb : k = 541 := by omega
    subst hvb
    refine wp_iload_n (j := 2) rfl q218_ok d218_45 ?_
    refine wp_aload_n (j := 0) rfl q218_ok d218_46 ?_
    refine wp_getR q218_ok d218_47 fl_11_93 rfl (by first | assumption | exact so0 hsh rfl) (by first | assumption | exact hr _ _ _ rfl) ?_
    refine wp_alen (m := 541) q218_ok d218_50 (shlt hsh (Nat.le_of_ble_eq_true rfl)) (sht hsh (Nat.le_of_ble_eq_true rfl) (Nat.le_of_ble_eq_true rfl)) (by first | assumption | exact shl hsh (Nat.le_of_ble_eq_true rfl) rfl) rfl ?_ (shK hsh)
    refine wp_icmp_ge q218_ok d218_51 (t := 77) rfl (fun h51 => ?_) (fun h51 => ?_)
    · exact K d1 u1 hS1 hw
    · exact absurd (nI_le (Nat.le_refl _) (by decide)) h51
  | succ z ih =>
    intro k d1 hz u1 hM1 hS1 hw
    have hlt : k < 541 := by omega
    have hR1 := MR_uf hR u1
    refine wp_iload_n (j := 2) rfl q218_ok d218_45 ?_
    refine wp_aload_n (j := 0) rfl q218_ok d218_46 ?_
    refine wp_getR q218_ok d218_47 fl_11_93 rfl (by first | assumption | exact so0 hsh rfl) (by first | assumption | exact hr _ _ _ rfl) ?_
    refine wp_alen (m := 541) q218_ok d218_50 (shlt hsh (Nat.le_of_ble_eq_true rfl)) (sht hsh (Nat.le_of_ble_eq_true rfl) (Nat.le_of_ble_eq_true rfl)) (by first | assumption | exact shl hsh (Nat.le_of_ble_eq_true rfl) rfl) rfl ?_ (shK hsh)
    refine wp_icmp_ge q218_ok d218_51 (t := 77) rfl (fun h51 => ?_) (fun h51 => ?_)
    · exact absurd h51 (nI_ge hlt (by decide))
    · refine wp_aload_n (j := 0) rfl q218_ok d218_54 ?_
      refine wp_iconst (v := 0) (by decide) q218_ok d218_55 ?_
      refine wp_cV q218_ok d218_56 ml_11_349 rfl q184_ok (u := 11) rfl (by first | assumption | exact so0 hsh rfl) rfl (Nat.le_of_ble_eq_true rfl) (Nat.le_of_ble_eq_true rfl) (m_pass (n := n) hsh hr hR1 hM1 0) (fun v56 μ56 hc => ?_)
      obtain ⟨rfl, d2, rfl, f2, hM2, rg2, sn2⟩ := hc
      refine ⟨mm_le_same rfl, ?_⟩
      rw [sgM0] at hM2 rg2 sn2
      have rg0 := rg2 0 h0
      refine wp_aload_n (j := 0) rfl q218_ok d218_59 ?_
      refine wp_getR q218_ok d218_60 fl_11_93 rfl (by first | assumption | exact so0 hsh rfl) (by first | assumption | exact hr _ _ _ rfl) ?_
      refine wp_iload_n (j := 2) rfl q218_ok d218_63 ?_
      refine wp_aload_n (j := 0) rfl q218_ok d218_64 ?_
      refine wp_getR q218_ok d218_65 fl_11_67 rfl (by first | assumption | exact so0 hsh rfl) (by first | assumption | exact hr _ _ _ rfl) ?_
      refine wp_iconst (v := 0) (by decide) q218_ok d218_68 ?_
      refine wp_bald (m := 2) q218_ok d218_69 (by first | assumption | exact so0 hsh rfl) (shl hsh (m := 2) (Nat.le_of_ble_eq_true rfl) rfl) (ixn_nI (j := 0) (by decide)) (by first | assumption | rfl) ?_
      refine wp_bast (m := 541) q218_ok d218_70 (by first | assumption | exact so0 hsh rfl) (shl hsh (m := 541) (Nat.le_of_ble_eq_true rfl) rfl) (ixn_nI (by omega)) (rrA01 T o B0 0 k) ?_
      refine wp_iinc (j := 2) rfl (by first | exact inc1 | rfl) (rfl : _ = [_, _, _, _]) q218_ok d218_71 ?_
      refine wp_goto (t := 45) rfl q218_ok d218_74 ?_
      refine ih (k + 1) _ (by omega) ?_ ?_ ?_ ?_
      · exact uf_trans u1 (uf_trans (uf_qf (qf_pf f2)) ⟨fun c _ _ _ _ _ _ _ _ a9 _ => mm_up_ne a9, fun j _ _ _ => congrFun (mm_up_ne (by decide)) j⟩)
      · exact ⟨(congrFun (mm_up_ne (by decide)) 32).trans hM2.1, fun b hb => by rw [mm_up_ne (by decide), mm_up_ne (by decide)]; exact hM2.2 b hb⟩
      · exact hS_278 (hS_pf hS1 f2)
      · intro j hj
        rw [mm_up_at]
        by_cases q : j = k
        · rw [if_pos q, q]; rfl
        · rw [if_neg q, f2.1 278 (by decide) (by decide) (by decide) (by decide) (by decide) (by decide)]; exact hw j (by omega)
theorem m_tim_c {xs : List Int32} {ext : mm_X} {n : Nat} {sh : mm_S} {d : mm_D} {g : mm_G} {r : mm_R} (hsh : shp sh) (hr : rfx r) {len : Nat} {mt : Nat → Nat} {rs : Nat → Int32} (hn : ntM d len mt rs) {R : Nat → Int32} (hR : ∀ j, j < 541 → d 278 j = R j) (i : Int32) : ∀ (z k : Nat) (c : Int32), z + k = 480 → wp xs ext (n + 9) 218 85 [some (.ref 250), some (.int i), some (.int c), some (.int (nI k))] [] (sh, d, g, r) (fun v μ => v = some (.int (timF (fun f => fitN R mt rs f len 0) i z k c)) ∧ μ = (sh, d, g, r)) := by
  intro z
  induction z with
  | zero =>
    intro k c hz
    have hvb : k = 480 := by omega
    subst hvb
    refine wp_iload_n (j := 3) rfl q218_ok d218_85 ?_
    refine wp_sipush (v := 480) (by decide) q218_ok d218_86 ?_
    refine wp_icmp_ge q218_ok d218_89 (t := 116) rfl (fun h89 => ?_) (fun h89 => ?_)
    · refine wp_iload_n (j := 1) rfl q218_ok d218_116 ?_
      refine wp_iconst (v := -1) (by decide) q218_ok d218_117 ?_
      refine wp_icmp_ne q218_ok d218_118 (t := 125) rfl (fun h118 => ?_) (fun h118 => ?_)
      · refine wp_iconst (v := -1) (by decide) q218_ok d218_125 ?_
        refine wp_iret q218_ok d218_126 rfl ?_
        exact ⟨by rw [timF, if_neg h118], rfl⟩
      · have h118 := Classical.not_not.mp h118
        refine wp_iload_n (j := 2) rfl q218_ok d218_121 ?_
        refine wp_goto (t := 126) rfl q218_ok d218_122 ?_
        refine wp_iret q218_ok d218_126 rfl ?_
        exact ⟨by rw [timF, if_pos h118], rfl⟩
    · exact absurd (nI_le (Nat.le_refl _) (by decide)) h89
  | succ z ih =>
    intro k c hz
    have hlt : k < 480 := by omega
    refine wp_iload_n (j := 3) rfl q218_ok d218_85 ?_
    refine wp_sipush (v := 480) (by decide) q218_ok d218_86 ?_
    refine wp_icmp_ge q218_ok d218_89 (t := 116) rfl (fun h89 => ?_) (fun h89 => ?_)
    · exact absurd h89 (nI_ge hlt (by decide))
    · refine wp_aload_n (j := 0) rfl q218_ok d218_92 ?_
      refine wp_iload_n (j := 3) rfl q218_ok d218_93 ?_
      refine wp_cV q218_ok d218_94 ml_11_379 rfl q217_ok (u := 11) rfl (by first | assumption | exact so0 hsh rfl) rfl (Nat.le_of_ble_eq_true rfl) (Nat.le_of_ble_eq_true rfl) (m_agr (n := n + 8) (f := k) hsh hr hn (by omega) (fun j hj => hR j (by omega))) (fun v94 μ94 hc => ?_)
      obtain ⟨rfl, rfl⟩ := hc
      refine ⟨mm_le_same rfl, ?_⟩
      refine wp_if_eq q218_ok d218_97 (t := 110) rfl (fun h97 => ?_) (fun h97 => ?_)
      · refine wp_iinc (j := 3) rfl (by first | exact inc1 | rfl) (rfl : _ = [_, _, _, _]) q218_ok d218_110 ?_
        refine wp_goto (t := 85) rfl q218_ok d218_113 ?_
        rw [timF, if_pos h97]
        exact ih (k + 1) c (by omega)
      · refine wp_iload_n (j := 2) rfl q218_ok d218_100 ?_
        refine wp_iload_n (j := 1) rfl q218_ok d218_101 ?_
        refine wp_icmp_ne q218_ok d218_102 (t := 107) rfl (fun h102 => ?_) (fun h102 => ?_)
        · refine wp_iinc (j := 2) rfl (by first | exact inc1 | rfl) (rfl : _ = [_, _, _, _]) q218_ok d218_107 ?_
          refine wp_iinc (j := 3) rfl (by first | exact inc1 | rfl) (rfl : _ = [_, _, _, _]) q218_ok d218_110 ?_
          refine wp_goto (t := 85) rfl q218_ok d218_113 ?_
          rw [timF, if_neg h97, if_neg h102]
          exact ih (k + 1) _ (by omega)
        · have h102 := Classical.not_not.mp h102
          refine wp_iload_n (j := 3) rfl q218_ok d218_105 ?_
          refine wp_iret q218_ok d218_106 rfl ?_
          exact ⟨by rw [timF, if_neg h97, if_pos h102], rfl⟩
theorem nI0 {n : Nat} (h : n ≤ 6) (e : nI n = 0) : n = 0 := by
  have := (nI_leI (show n < 2 ^ 31 by omega) (show 0 < 2 ^ 31 by decide)).mp (by rw [e]; exact Int32.le_refl _)
  omega
theorem hS_m0 {d : mm_D} {B : wo_A} {x : Int32} (h : hS d B) : hS (mm_up d 250 32 x) B := by
  refine ⟨((mm_up_at 45).trans (if_neg (by decide))).trans h.1, fun b hb => ?_⟩
  rw [mm_up_ne (by decide), mm_up_ne (by decide)]
  exact h.2 b hb
theorem m_tim_z {xs : List Int32} {ext : mm_X} {n : Nat} {sh : mm_S} {g : mm_G} {r : mm_R} {B : wo_A} (hsh : shp sh) (hr : rfx r) {u3 : Option Value} (i : Int32) (Q : Option Value → mm_M → Prop) {d : mm_D} (h : ∀ b, b < 2 → d 268 b = B.2.1 b ∧ d 269 b = B.2.2 b) (hm : d 250 32 = 0) (hs : hS d B) (K : ∀ D, uf d D → hM D (0, fun _ => 0, B.2.2) → hS D B → wp xs ext (n + 9) 218 43 [some (.ref 250), some (.int i), some (.int (nI 2)), u3] [] (sh, D, g, r) Q) : wp xs ext (n + 9) 218 25 [some (.ref 250), some (.int i), some (.int 0), u3] [] (sh, d, g, r) Q := by
  refine wp_iload_n (j := 2) rfl q218_ok d218_25 ?_
  refine wp_iconst (v := 2) (by decide) q218_ok d218_26 ?_
  refine wp_icmp_ge q218_ok d218_27 (t := 43) rfl (fun h27 => ?_) (fun h27 => ?_)
  · exact absurd h27 (by decide)
  · refine wp_aload_n (j := 0) rfl q218_ok d218_30 ?_
    refine wp_getR q218_ok d218_31 fl_11_61 rfl (by first | assumption | exact so0 hsh rfl) (by first | assumption | exact hr _ _ _ rfl) ?_
    refine wp_iload_n (j := 2) rfl q218_ok d218_34 ?_
    refine wp_iconst (v := 0) (by decide) q218_ok d218_35 ?_
    refine wp_iast (m := 2) q218_ok d218_36 (by first | assumption | exact so0 hsh rfl) (shl hsh (m := 2) (Nat.le_of_ble_eq_true rfl) rfl) (ixn_nI (j := 0) (by decide)) ?_
    refine wp_iinc (j := 2) rfl (by first | exact inc1 | rfl) (rfl : _ = [_, _, _, _]) q218_ok d218_37 ?_
    refine wp_goto (t := 25) rfl q218_ok d218_40 ?_
    refine wp_iload_n (j := 2) rfl q218_ok d218_25 ?_
    refine wp_iconst (v := 2) (by decide) q218_ok d218_26 ?_
    refine wp_icmp_ge q218_ok d218_27 (t := 43) rfl (fun h27 => ?_) (fun h27 => ?_)
    · exact absurd h27 (by decide)
    · refine wp_aload_n (j := 0) rfl q218_ok d218_30 ?_
      refine wp_getR q218_ok d218_31 fl_11_61 rfl (by first | assumption | exact so0 hsh rfl) (by first | assumption | exact hr _ _ _ rfl) ?_
      refine wp_iload_n (j := 2) rfl q218_ok d218_34 ?_
      refine wp_iconst (v := 0) (by decide) q218_ok d218_35 ?_
      refine wp_iast (m := 2) q218_ok d218_36 (by first | assumption | exact so0 hsh rfl) (shl hsh (m := 2) (Nat.le_of_ble_eq_true rfl) rfl) (ixn_nI (j := 1) (by decide)) ?_
      refine wp_iinc (j := 2) rfl (by first | exact inc1 | rfl) (rfl : _ = [_, _, _, _]) q218_ok d218_37 ?_
      refine wp_goto (t := 25) rfl q218_ok d218_40 ?_
      refine wp_iload_n (j := 2) rfl q218_ok d218_25 ?_
      refine wp_iconst (v := 2) (by decide) q218_ok d218_26 ?_
      refine wp_icmp_ge q218_ok d218_27 (t := 43) rfl (fun h27 => ?_) (fun h27 => ?_)
      · refine K _ ⟨fun c _ _ _ a4 _ _ _ _ _ _ => ?_, fun j _ _ _ => ?_⟩ ⟨?_, fun b hb => ⟨?_, ?_⟩⟩ ?_
        · rw [mm_up_ne a4, mm_up_ne a4]
        · rw [mm_up_ne (by decide), mm_up_ne (by decide)]
        · rw [mm_up_ne (by decide), mm_up_ne (by decide)]; exact hm
        · rw [mm_up_at, mm_up_at]
          show (if b = 1 then (0 : Int32) else if b = 0 then 0 else _) = 0
          by_cases q : b = 1
          · rw [if_pos q]
          · rw [if_neg q, if_pos (by omega)]
        · rw [mm_up_ne (by decide), mm_up_ne (by decide)]; exact (h b hb).2
        · unfold hS
          rw [mm_up_ne (show 250 ≠ 268 by decide), mm_up_ne (show 250 ≠ 268 by decide), mm_up_ne (show 274 ≠ 268 by decide), mm_up_ne (show 274 ≠ 268 by decide), mm_up_ne (show 275 ≠ 268 by decide), mm_up_ne (show 275 ≠ 268 by decide)]
          exact hs
      · exact absurd (show (2 : Int32) ≤ 0 + Int32.ofInt 1 + Int32.ofInt 1 from by decide) h27
theorem m_times {xs : List Int32} {ext : mm_X} {n : Nat} {sh : mm_S} {d : mm_D} {g : mm_G} {r : mm_R} {T : wo_T} {B : wo_A} (hsh : shp sh) (hr : rfx r) (hR : MR d T (o0 T)) (hB : hM d B) (hbn : tnb T ≠ 0 → tnp T ≠ 0) {len : Nat} {mt : Nat → Nat} {rs : Nat → Int32} (hn : ntM d len mt rs) (i : Int32) : wp xs ext (n + 11) 218 0 [some (.ref 250), some (.int i), none, none] [] (sh, d, g, r) (fun v μ => v = some (.int (timesQ T dwn len mt rs i)) ∧ ∃ d2, μ = (sh, d2, g, r) ∧ uf d d2 ∧ hM d2 B) := by
  refine wp_aload_n (j := 0) rfl q218_ok d218_0 ?_
  refine wp_getI q218_ok d218_1 fl_11_265 rfl (by first | assumption | exact so0 hsh rfl) hR.2.2.2.1 ?_
  refine wp_if_eq q218_ok d218_4 (t := 12) rfl (fun h4 => ?_) (fun h4 => ?_)
  · refine wp_iconst (v := -1) (by decide) q218_ok d218_12 ?_
    refine wp_iret q218_ok d218_13 rfl ?_
    exact ⟨by unfold timesQ; rw [if_neg (fun q => q (nI0 hR.1 h4))], d, rfl, uf_refl d, hB⟩
  · have c0 : hasT T := fun q => h4 (by rw [q]; rfl)
    refine wp_iload_n (j := 1) rfl q218_ok d218_7 ?_
    refine wp_iconst (v := -1) (by decide) q218_ok d218_8 ?_
    refine wp_icmp_ge q218_ok d218_9 (t := 14) rfl (fun h9 => ?_) (fun h9 => ?_)
    · have c1 : -1 ≤ i := h9
      have h0 : 0 < tnb T := hR.2.2.1 c0
      refine wp_aload_n (j := 0) rfl q218_ok d218_14 ?_
      refine wp_cV q218_ok d218_15 ml_11_356 rfl q195_ok (u := 11) rfl (by first | assumption | exact so0 hsh rfl) rfl (Nat.le_of_ble_eq_true rfl) (Nat.le_of_ble_eq_true rfl) (m_put hsh hr hB) (fun v15 μ15 hc => ?_)
      obtain ⟨rfl, d1, rfl, q1, hM1, hS1⟩ := hc
      refine ⟨mm_le_same rfl, ?_⟩
      refine wp_aload_n (j := 0) rfl q218_ok d218_18 ?_
      refine wp_iconst (v := 0) (by decide) q218_ok d218_19 ?_
      refine wp_putI q218_ok d218_20 fl_11_274 rfl (by first | assumption | exact so0 hsh rfl) (Or.inl rfl) ?_
      refine wp_iconst (v := 0) (by decide) q218_ok d218_23 ?_
      refine wp_istore_n (j := 2) (Nat.le_of_ble_eq_true rfl) (rfl : _ = [_, _, _, _]) q218_ok d218_24 ?_
      refine m_tim_z (B := B) hsh hr (u3 := none) i _ ?_ ?_ (hS_m0 hS1) ?_
      · exact fun b hb => ⟨(congrFun (mm_up_ne (by decide)) b).trans (hM1.2 b hb).1, (congrFun (mm_up_ne (by decide)) b).trans (hM1.2 b hb).2⟩
      · exact (mm_up_at 32).trans (if_pos rfl)
      intro D hD hMD hSD
      refine wp_iconst (v := 0) (by decide) q218_ok d218_43 ?_
      refine wp_istore_n (j := 2) (Nat.le_of_ble_eq_true rfl) (rfl : _ = [_, _, _, _]) q218_ok d218_44 ?_
      have uD : uf d D := uf_trans (uf_qf q1) (uf_trans ⟨fun c a1 _ _ _ _ _ _ _ _ _ => mm_up_ne a1, fun j a1 _ _ => (mm_up_at j).trans (if_neg a1)⟩ hD)
      refine m_tim_r (d := d) (B := B) hsh hr hR h0 i _ _ ?_ 541 0 D (by omega) uD hMD hSD (fun j hj => absurd hj (Nat.not_lt_zero _))
      intro d2 u2 hS2 hw
      refine wp_aload_n (j := 0) rfl q218_ok d218_77 ?_
      refine wp_cV q218_ok d218_78 ml_11_362 rfl q196_ok (u := 11) rfl (by first | assumption | exact so0 hsh rfl) rfl (Nat.le_of_ble_eq_true rfl) (Nat.le_of_ble_eq_true rfl) (m_back hsh hr hS2) (fun v78 μ78 hc => ?_)
      obtain ⟨rfl, d9, rfl, q9, hM9⟩ := hc
      refine ⟨mm_le_same rfl, ?_⟩
      refine wp_iconst (v := 0) (by decide) q218_ok d218_81 ?_
      refine wp_istore_n (j := 2) (Nat.le_of_ble_eq_true rfl) (rfl : _ = [_, _, _, _]) q218_ok d218_82 ?_
      refine wp_iconst (v := 0) (by decide) q218_ok d218_83 ?_
      refine wp_istore_n (j := 3) (Nat.le_of_ble_eq_true rfl) (rfl : _ = [_, _, _, _]) q218_ok d218_84 ?_
      have u9 := uf_trans u2 (uf_qf q9)
      refine wp_post (m_tim_c hsh hr (ntM_uf hn u9) (R := rgB T (o0 T) dwn) (fun j hj => ?_) i 480 0 0 (by omega)) (fun v μ hc => ?_)
      · rw [q9.1 278 (by decide) (by decide) (by decide) (by decide) (by decide) (by decide) (by decide) (by decide), hw j hj, rgB_rr _ _ h0 hR.2.1]
        exact rr_in (A := (0, fun _ => 0, B.2.2)) (B := dwn) rfl rfl 0 j
      · obtain ⟨rfl, rfl⟩ := hc
        exact ⟨by unfold timesQ; rw [if_pos c0, if_pos c1], d9, rfl, u9, hM9⟩
    · refine wp_iconst (v := -1) (by decide) q218_ok d218_12 ?_
      refine wp_iret q218_ok d218_13 rfl ?_
      exact ⟨by unfold timesQ; rw [if_pos c0, if_neg (h9)], d, rfl, uf_refl d, hB⟩
theorem m_who_r {xs : List Int32} {ext : mm_X} {n : Nat} {sh : mm_S} {d : mm_D} {g : mm_G} {r : mm_R} {T : wo_T} {o : wo_O} {B : wo_A} (hsh : shp sh) (hr : rfx r) (hR : MR d T o) (h0 : 0 < tnb T) (i j wa c f y : Int32) (Q : Option Value → mm_M → Prop) (K : ∀ d2, uf d d2 → hM d2 B → (∀ j, j < 61 → d2 278 j = rrA T o B 0 j) → wp xs ext (n + 9) 219 102 [some (.ref 250), some (.int i), some (.int j), some (.int wa), some (.int c), some (.int f), some (.int y), some (.int (nI 61))] [] (sh, d2, g, r) Q) : ∀ (z k : Nat) (d1 : mm_D), z + k = 61 → uf d d1 → hM d1 (aN T o B k) → hS d1 B → (∀ j, j < k → d1 278 j = rrA T o B 0 j) → wp xs ext (n + 9) 219 67 [some (.ref 250), some (.int i), some (.int j), some (.int wa), some (.int c), some (.int f), some (.int y), some (.int (nI k))] [] (sh, d1, g, r) Q := by
  have hnb2 := hR.2.1
  intro z
  induction z with
  | zero =>
    intro k d1 hz u1 hM1 hS1 hw
    have hvb : k = 61 := by omega
    subst hvb
    refine wp_iload (j := 7) rfl q219_ok d219_67 ?_
    refine wp_bipush (v := 60) (by decide) q219_ok d219_69 ?_
    refine wp_icmp_gt q219_ok d219_71 (t := 98) rfl (fun h71 => ?_) (fun h71 => ?_)
    · refine wp_aload_n (j := 0) rfl q219_ok d219_98 ?_
      refine wp_cV q219_ok d219_99 ml_11_362 rfl q196_ok (u := 11) rfl (by first | assumption | exact so0 hsh rfl) rfl (Nat.le_of_ble_eq_true rfl) (Nat.le_of_ble_eq_true rfl) (m_back hsh hr hS1) (fun v99 μ99 hc => ?_)
      obtain ⟨rfl, d9, rfl, q9, hM9⟩ := hc
      refine ⟨mm_le_same rfl, ?_⟩
      refine K d9 (uf_trans u1 (uf_qf q9)) hM9 (fun j hj => ?_)
      rw [q9.1 278 (by decide) (by decide) (by decide) (by decide) (by decide) (by decide) (by decide) (by decide)]
      exact hw j hj
    · exact absurd (show nI 60 < nI 61 from (nI_ltI (by decide) (by decide)).mpr (by decide)) h71
  | succ z ih =>
    intro k d1 hz u1 hM1 hS1 hw
    have hlt : k < 61 := by omega
    have hR1 := MR_uf hR u1
    refine wp_iload (j := 7) rfl q219_ok d219_67 ?_
    refine wp_bipush (v := 60) (by decide) q219_ok d219_69 ?_
    refine wp_icmp_gt q219_ok d219_71 (t := 98) rfl (fun h71 => ?_) (fun h71 => ?_)
    · exact absurd ((nI_ltI (by decide) (by omega)).mp (show nI 60 < nI k from h71)) (by omega)
    · refine wp_aload_n (j := 0) rfl q219_ok d219_74 ?_
      refine wp_iconst (v := 0) (by decide) q219_ok d219_75 ?_
      refine wp_cV q219_ok d219_76 ml_11_349 rfl q184_ok (u := 11) rfl (by first | assumption | exact so0 hsh rfl) rfl (Nat.le_of_ble_eq_true rfl) (Nat.le_of_ble_eq_true rfl) (m_pass (n := n) hsh hr hR1 hM1 0) (fun v76 μ76 hc => ?_)
      obtain ⟨rfl, d2, rfl, f2, hM2, rg2, sn2⟩ := hc
      refine ⟨mm_le_same rfl, ?_⟩
      rw [sgM0] at hM2 rg2 sn2
      have rg0 := rg2 0 h0
      refine wp_aload_n (j := 0) rfl q219_ok d219_79 ?_
      refine wp_getR q219_ok d219_80 fl_11_93 rfl (by first | assumption | exact so0 hsh rfl) (by first | assumption | exact hr _ _ _ rfl) ?_
      refine wp_iload (j := 7) rfl q219_ok d219_83 ?_
      refine wp_aload_n (j := 0) rfl q219_ok d219_85 ?_
      refine wp_getR q219_ok d219_86 fl_11_67 rfl (by first | assumption | exact so0 hsh rfl) (by first | assumption | exact hr _ _ _ rfl) ?_
      refine wp_iconst (v := 0) (by decide) q219_ok d219_89 ?_
      refine wp_bald (m := 2) q219_ok d219_90 (by first | assumption | exact so0 hsh rfl) (shl hsh (m := 2) (Nat.le_of_ble_eq_true rfl) rfl) (ixn_nI (j := 0) (by decide)) (by first | assumption | rfl) ?_
      refine wp_bast (m := 541) q219_ok d219_91 (by first | assumption | exact so0 hsh rfl) (shl hsh (m := 541) (Nat.le_of_ble_eq_true rfl) rfl) (ixn_nI (by omega)) (rrA01 T o B 0 k) ?_
      refine wp_iinc (j := 7) rfl (by first | exact inc1 | rfl) (rfl : _ = [_, _, _, _, _, _, _, _]) q219_ok d219_92 ?_
      refine wp_goto (t := 67) rfl q219_ok d219_95 ?_
      refine ih (k + 1) _ (by omega) ?_ ?_ ?_ ?_
      · exact uf_trans u1 (uf_trans (uf_qf (qf_pf f2)) ⟨fun c _ _ _ _ _ _ _ _ a9 _ => mm_up_ne a9, fun j _ _ _ => congrFun (mm_up_ne (by decide)) j⟩)
      · exact ⟨(congrFun (mm_up_ne (by decide)) 32).trans hM2.1, fun b hb => by rw [mm_up_ne (by decide), mm_up_ne (by decide)]; exact hM2.2 b hb⟩
      · exact hS_278 (hS_pf hS1 f2)
      · intro j hj
        rw [mm_up_at]
        by_cases q : j = k
        · rw [if_pos q, q]; rfl
        · rw [if_neg q, f2.1 278 (by decide) (by decide) (by decide) (by decide) (by decide) (by decide)]; exact hw j (by omega)
theorem m_who_l {xs : List Int32} {ext : mm_X} {n : Nat} {sh : mm_S} {d : mm_D} {g : mm_G} {r : mm_R} {T : wo_T} {B : wo_A} (hsh : shp sh) (hr : rfx r) (hR : MR d T (o0 T)) {len : Nat} {mt : Nat → Nat} {rs : Nat → Int32} (hn : ntM d len mt rs) {p : Nat} (j wa : Int32) (hwa : d 264 (4 * p) = wa) (hp : p < tnp T) (hf : d 267 p = -1) (hs : ∀ f m, onC m f (d 264 (4 * p + 1)) (d 264 (4 * p + 2)) = tsp T p f m) : ∀ (z k : Nat) (d1 : mm_D) (c f : Int32) (u7 : Option Value), z + k = 60 → wq 264 (4 * p) d d1 → hM d1 B → wp xs ext (n + 10) 219 43 [some (.ref 250), some (.int (nI p)), some (.int j), some (.int wa), some (.int c), some (.int f), some (.int (nI k)), u7] [] (sh, d1, g, r) (fun v μ => v = some (.int (whF (fun f => fitN (rgB T (mvO T p (nI f)) B) mt rs 0 len 0) j z k c f)) ∧ ∃ d2, μ = (sh, d2, g, r) ∧ uf d d2 ∧ hM d2 B) := by
  have h6 := hR.1
  have h0 : 0 < tnb T := hR.2.2.1 (by omega)
  intro z
  induction z with
  | zero =>
    intro k d1 c f u7 hz ht hM1
    have hvb : k = 60 := by omega
    subst hvb
    refine wp_iload (j := 6) rfl q219_ok d219_43 ?_
    refine wp_bipush (v := 60) (by decide) q219_ok d219_45 ?_
    refine wp_icmp_ge q219_ok d219_47 (t := 134) rfl (fun h47 => ?_) (fun h47 => ?_)
    · refine wp_aload_n (j := 0) rfl q219_ok d219_134 ?_
      refine wp_getR q219_ok d219_135 fl_11_49 rfl (by first | assumption | exact so0 hsh rfl) (by first | assumption | exact hr _ _ _ rfl) ?_
      refine wp_iconst (v := 4) (by decide) q219_ok d219_138 ?_
      refine wp_iload_n (j := 1) rfl q219_ok d219_139 ?_
      refine wp_imul rfl q219_ok d219_140 ?_
      refine wp_iload_n (j := 3) rfl q219_ok d219_141 ?_
      refine wp_iast (m := 24) q219_ok d219_142 (by first | assumption | exact so0 hsh rfl) (shl hsh (m := 24) (Nat.le_of_ble_eq_true rfl) rfl) (show ixn (4 * nI p) (4 * p) 24 from by rw [show (4 : Int32) * nI p = nI (4 * p) from (Int32.ofNat_mul 4 p).symm]; exact ixn_nI (by omega)) ?_
      refine wp_iload_n (j := 2) rfl q219_ok d219_143 ?_
      refine wp_iconst (v := -1) (by decide) q219_ok d219_144 ?_
      refine wp_icmp_ne q219_ok d219_145 (t := 153) rfl (fun h145 => ?_) (fun h145 => ?_)
      · refine wp_iload (j := 5) rfl q219_ok d219_153 ?_
        refine wp_iret q219_ok d219_155 rfl ?_
        exact ⟨by rw [whF, if_neg h145], _, rfl, wq_fin (Or.inl rfl) ht hwa, hM_row hM1 (Or.inl rfl)⟩
      · have h145 := Classical.not_not.mp h145
        refine wp_iload (j := 4) rfl q219_ok d219_148 ?_
        refine wp_goto (t := 155) rfl q219_ok d219_150 ?_
        refine wp_iret q219_ok d219_155 rfl ?_
        exact ⟨by rw [whF, if_pos h145], _, rfl, wq_fin (Or.inl rfl) ht hwa, hM_row hM1 (Or.inl rfl)⟩
    · exact absurd (nI_le (Nat.le_refl _) (by decide)) h47
  | succ z ih =>
    intro k d1 c f u7 hz ht hM1
    have hlt : k < 60 := by omega
    have hR2 := MR_mv hR hp ht hf hs (nI k)
    have ht2 := wq_up (x := nI k) (Or.inl rfl) ht
    refine wp_iload (j := 6) rfl q219_ok d219_43 ?_
    refine wp_bipush (v := 60) (by decide) q219_ok d219_45 ?_
    refine wp_icmp_ge q219_ok d219_47 (t := 134) rfl (fun h47 => ?_) (fun h47 => ?_)
    · exact absurd h47 (nI_ge hlt (by decide))
    · refine wp_aload_n (j := 0) rfl q219_ok d219_50 ?_
      refine wp_getR q219_ok d219_51 fl_11_49 rfl (by first | assumption | exact so0 hsh rfl) (by first | assumption | exact hr _ _ _ rfl) ?_
      refine wp_iconst (v := 4) (by decide) q219_ok d219_54 ?_
      refine wp_iload_n (j := 1) rfl q219_ok d219_55 ?_
      refine wp_imul rfl q219_ok d219_56 ?_
      refine wp_iload (j := 6) rfl q219_ok d219_57 ?_
      refine wp_iast (m := 24) q219_ok d219_59 (by first | assumption | exact so0 hsh rfl) (shl hsh (m := 24) (Nat.le_of_ble_eq_true rfl) rfl) (show ixn (4 * nI p) (4 * p) 24 from by rw [show (4 : Int32) * nI p = nI (4 * p) from (Int32.ofNat_mul 4 p).symm]; exact ixn_nI (by omega)) ?_
      refine wp_aload_n (j := 0) rfl q219_ok d219_60 ?_
      refine wp_cV q219_ok d219_61 ml_11_356 rfl q195_ok (u := 11) rfl (by first | assumption | exact so0 hsh rfl) rfl (Nat.le_of_ble_eq_true rfl) (Nat.le_of_ble_eq_true rfl) (m_put hsh hr (hM_row hM1 (Or.inl rfl))) (fun v61 μ61 hc => ?_)
      obtain ⟨rfl, d3, rfl, q3, hM3, hS3⟩ := hc
      refine ⟨mm_le_same rfl, ?_⟩
      refine wp_iconst (v := 0) (by decide) q219_ok d219_64 ?_
      refine wp_istore (j := 7) (Nat.le_of_ble_eq_true rfl) (rfl : _ = [_, _, _, _, _, _, _, _]) q219_ok d219_65 ?_
      refine m_who_r (d := mm_up d1 264 (4 * p) (nI k)) (o := mvO T p (nI k)) (B := B) hsh hr hR2 h0 _ _ _ _ _ _ _ ?_ 61 0 d3 (by omega) (uf_qf q3) hM3 hS3 (fun j hj => absurd hj (Nat.not_lt_zero _))
      intro d2 u2 hM2 hw
      have ht3 := wq_uf (Or.inl rfl) ht2 u2
      have hn2 : ntM d2 len mt rs := by
        unfold ntM
        rw [ht3.2.2 48 (by decide) (by decide) (by decide), ht3.1 276 (by decide) (by decide) (by decide) (by decide) (by decide) (by decide) (by decide) (by decide) (by decide) (by decide) (by decide), ht3.1 277 (by decide) (by decide) (by decide) (by decide) (by decide) (by decide) (by decide) (by decide) (by decide) (by decide) (by decide)]
        exact hn
      refine wp_aload_n (j := 0) rfl q219_ok d219_102 ?_
      refine wp_iconst (v := 0) (by decide) q219_ok d219_103 ?_
      refine wp_cV q219_ok d219_104 ml_11_379 rfl q217_ok (u := 11) rfl (by first | assumption | exact so0 hsh rfl) rfl (Nat.le_of_ble_eq_true rfl) (Nat.le_of_ble_eq_true rfl) (m_agr (n := n + 9) (f := 0) (R := rgB T (mvO T p (nI k)) B) hsh hr hn2 (by decide) (fun j hj => by rw [rgB_rr _ _ h0 hR.2.1]; exact hw j (by omega))) (fun v104 μ104 hc => ?_)
      obtain ⟨rfl, rfl⟩ := hc
      refine ⟨mm_le_same rfl, ?_⟩
      refine wp_if_eq q219_ok d219_107 (t := 128) rfl (fun h107 => ?_) (fun h107 => ?_)
      · refine wp_iinc (j := 6) rfl (by first | exact inc1 | rfl) (rfl : _ = [_, _, _, _, _, _, _, _]) q219_ok d219_128 ?_
        refine wp_goto (t := 43) rfl q219_ok d219_131 ?_
        rw [whF, if_pos h107]
        exact ih (k + 1) d2 _ _ _ (by omega) ht3 hM2
      · refine wp_iload (j := 4) rfl q219_ok d219_110 ?_
        refine wp_iload_n (j := 2) rfl q219_ok d219_112 ?_
        refine wp_icmp_ne q219_ok d219_113 (t := 121) rfl (fun h113 => ?_) (fun h113 => ?_)
        · refine wp_iload (j := 5) rfl q219_ok d219_121 ?_
          refine wp_istore (j := 5) (Nat.le_of_ble_eq_true rfl) (rfl : _ = [_, _, _, _, _, _, _, _]) q219_ok d219_123 ?_
          refine wp_iinc (j := 4) rfl (by first | exact inc1 | rfl) (rfl : _ = [_, _, _, _, _, _, _, _]) q219_ok d219_125 ?_
          refine wp_iinc (j := 6) rfl (by first | exact inc1 | rfl) (rfl : _ = [_, _, _, _, _, _, _, _]) q219_ok d219_128 ?_
          refine wp_goto (t := 43) rfl q219_ok d219_131 ?_
          rw [whF, if_neg h107, if_neg h113]
          exact ih (k + 1) d2 _ _ _ (by omega) ht3 hM2
        · have h113 := Classical.not_not.mp h113
          refine wp_iload (j := 6) rfl q219_ok d219_116 ?_
          refine wp_goto (t := 123) rfl q219_ok d219_118 ?_
          refine wp_istore (j := 5) (Nat.le_of_ble_eq_true rfl) (rfl : _ = [_, _, _, _, _, _, _, _]) q219_ok d219_123 ?_
          refine wp_iinc (j := 4) rfl (by first | exact inc1 | rfl) (rfl : _ = [_, _, _, _, _, _, _, _]) q219_ok d219_125 ?_
          refine wp_iinc (j := 6) rfl (by first | exact inc1 | rfl) (rfl : _ = [_, _, _, _, _, _, _, _]) q219_ok d219_128 ?_
          refine wp_goto (t := 43) rfl q219_ok d219_131 ?_
          rw [whF, if_neg h107, if_pos h113]
          exact ih (k + 1) d2 _ _ _ (by omega) ht3 hM2
theorem m_whose {xs : List Int32} {ext : mm_X} {n : Nat} {sh : mm_S} {d : mm_D} {g : mm_G} {r : mm_R} {T : wo_T} {B : wo_A} (hsh : shp sh) (hr : rfx r) (hR : MR d T (o0 T)) (hB : hM d B) (hbn : tnb T ≠ 0 → tnp T ≠ 0) {len : Nat} {mt : Nat → Nat} {rs : Nat → Int32} (hn : ntM d len mt rs) {fr : Nat → Bool} (hfr : ∀ p, p < tnp T → (d 267 p = -1 ↔ fr p = true)) (hs : ∀ p, p < tnp T → ∀ f m, onC m f (d 264 (4 * p + 1)) (d 264 (4 * p + 2)) = tsp T p f m) (i j : Int32) : wp xs ext (n + 11) 219 0 [some (.ref 250), some (.int i), some (.int j), none, none, none, none, none] [] (sh, d, g, r) (fun v μ => v = some (.int (whoseQ T B fr len mt rs i j)) ∧ ∃ d2, μ = (sh, d2, g, r) ∧ uf d d2 ∧ hM d2 B) := by
  refine wp_aload_n (j := 0) rfl q219_ok d219_0 ?_
  refine wp_iload_n (j := 1) rfl q219_ok d219_1 ?_
  refine wp_cV q219_ok d219_2 ml_11_324 rfl q177_ok (u := 11) rfl (by first | assumption | exact so0 hsh rfl) rfl (Nat.le_of_ble_eq_true rfl) (Nat.le_of_ble_eq_true rfl) (m_isPerson hsh hr _) (fun v2 μ2 hc => ?_)
  obtain ⟨rfl, rfl⟩ := hc
  refine ⟨mm_le_same rfl, ?_⟩
  rw [mper_v hR i]
  by_cases cp : perT T i
  · have hh : hasT T := by have := per_lt cp hR.1; intro q; omega
    have hip : i.toNatClampNeg < tnp T := per_lt cp hR.1
    have hie := nI_ofn cp.1
    generalize hic : i.toNatClampNeg = p at hip hie
    rw [if_pos cp]
    refine wp_if_eq q219_ok d219_5 (t := 23) rfl (fun h5 => ?_) (fun h5 => ?_)
    · exact absurd h5 (by decide)
    · refine wp_aload_n (j := 0) rfl q219_ok d219_8 ?_
      refine wp_getR q219_ok d219_9 fl_11_58 rfl (by first | assumption | exact so0 hsh rfl) (by first | assumption | exact hr _ _ _ rfl) ?_
      refine wp_iload_n (j := 1) rfl q219_ok d219_12 ?_
      refine wp_iald (m := 6) q219_ok d219_13 (by first | assumption | exact so0 hsh rfl) (shl hsh (m := 6) (Nat.le_of_ble_eq_true rfl) rfl) (show ixn i p 6 from by rw [hie]; exact ixn_nI (by have := hR.1; omega)) (by first | assumption | rfl) ?_ (shK hsh)
      refine wp_iconst (v := -1) (by decide) q219_ok d219_14 ?_
      refine wp_icmp_ne q219_ok d219_15 (t := 23) rfl (fun h15 => ?_) (fun h15 => ?_)
      · refine wp_iconst (v := -1) (by decide) q219_ok d219_23 ?_
        refine wp_iret q219_ok d219_24 rfl ?_
        exact ⟨by unfold whoseQ; rw [if_neg (fun q => h15 ((hfr p hip).mpr (by rw [← hic]; exact q.2)))], d, rfl, uf_refl d, hB⟩
      · have h15 := Classical.not_not.mp h15
        have c0 : spT T fr i := ⟨cp, by rw [hic]; exact (hfr p hip).mp h15⟩
        refine wp_iload_n (j := 2) rfl q219_ok d219_18 ?_
        refine wp_iconst (v := -1) (by decide) q219_ok d219_19 ?_
        refine wp_icmp_ge q219_ok d219_20 (t := 25) rfl (fun h20 => ?_) (fun h20 => ?_)
        · have c1 : -1 ≤ j := h20
          subst hie
          have hp6 := hR.1
          refine wp_aload_n (j := 0) rfl q219_ok d219_25 ?_
          refine wp_getR q219_ok d219_26 fl_11_49 rfl (by first | assumption | exact so0 hsh rfl) (by first | assumption | exact hr _ _ _ rfl) ?_
          refine wp_iconst (v := 4) (by decide) q219_ok d219_29 ?_
          refine wp_iload_n (j := 1) rfl q219_ok d219_30 ?_
          refine wp_imul rfl q219_ok d219_31 ?_
          refine wp_iald (m := 24) q219_ok d219_32 (by first | assumption | exact so0 hsh rfl) (shl hsh (m := 24) (Nat.le_of_ble_eq_true rfl) rfl) (show ixn (4 * nI p) (4 * p) 24 from by rw [show (4 : Int32) * nI p = nI (4 * p) from (Int32.ofNat_mul 4 p).symm]; exact ixn_nI (by omega)) (by first | assumption | rfl) ?_ (shK hsh)
          refine wp_istore_n (j := 3) (Nat.le_of_ble_eq_true rfl) (rfl : _ = [_, _, _, _, _, _, _, _]) q219_ok d219_33 ?_
          refine wp_iconst (v := 0) (by decide) q219_ok d219_34 ?_
          refine wp_istore (j := 4) (Nat.le_of_ble_eq_true rfl) (rfl : _ = [_, _, _, _, _, _, _, _]) q219_ok d219_35 ?_
          refine wp_iconst (v := -1) (by decide) q219_ok d219_37 ?_
          refine wp_istore (j := 5) (Nat.le_of_ble_eq_true rfl) (rfl : _ = [_, _, _, _, _, _, _, _]) q219_ok d219_38 ?_
          refine wp_iconst (v := 0) (by decide) q219_ok d219_40 ?_
          refine wp_istore (j := 6) (Nat.le_of_ble_eq_true rfl) (rfl : _ = [_, _, _, _, _, _, _, _]) q219_ok d219_41 ?_
          refine wp_post (m_who_l hsh hr hR hn j _ rfl hip h15 (hs p hip) 60 0 d 0 (-1) none (by omega) (wq_refl _ _ d) hB) (fun v μ hc => ?_)
          obtain ⟨rfl, d9, rfl, q9, hM9⟩ := hc
          have hji : j = -1 ∨ nI 0 ≤ j := by
            by_cases q : j = -1
            · exact Or.inl q
            · have a1 := Int32.le_iff_toInt_le.mp c1
              have a2 : ¬ j.toInt = (-1 : Int32).toInt := fun w => q (Int32.toInt_inj.mp w)
              rw [show (-1 : Int32).toInt = -1 from by decide] at a1 a2
              exact Or.inr (Int32.le_iff_toInt_le.mpr (by rw [show (nI 0).toInt = 0 from by decide]; omega))
          exact ⟨by unfold whoseQ; rw [if_pos c0, if_pos c1, hic]; rw [show (0 : Int32) = nI 0 from rfl, whF_a 60 0 0 hji (by decide)], d9, rfl, q9, hM9⟩
        · refine wp_iconst (v := -1) (by decide) q219_ok d219_23 ?_
          refine wp_iret q219_ok d219_24 rfl ?_
          exact ⟨by unfold whoseQ; rw [if_pos c0, if_neg (h20)], d, rfl, uf_refl d, hB⟩
  · rw [if_neg cp]
    refine wp_if_eq q219_ok d219_5 (t := 23) rfl (fun h5 => ?_) (fun h5 => ?_)
    · refine wp_iconst (v := -1) (by decide) q219_ok d219_23 ?_
      refine wp_iret q219_ok d219_24 rfl ?_
      exact ⟨by unfold whoseQ; rw [if_neg (fun q => cp q.1)], d, rfl, uf_refl d, hB⟩
    · exact absurd rfl h5
