/-! ===== alone and hour of the model ===== -/
def aloI (T : wo_T) (o : wo_O) (B : wo_A) (p : Nat) : Nat → Nat → Int32 → Int32
  | 0, _, v => v
  | z + 1, m, v => aloI T o B p z (m + 1) (if v = 0 then 0 else if m = p then 1 else if seO T o m B.1 (B.2.1 0) = 0 then 1 else 0)
theorem aloI_0 {T : wo_T} {o : wo_O} {B : wo_A} {p : Nat} : ∀ (z m : Nat) (v : Int32), aloI T o B p z m v = 0 ↔ (v = 0 ∨ ∃ i, m ≤ i ∧ i < m + z ∧ i ≠ p ∧ ¬ seO T o i B.1 (B.2.1 0) = 0)
  | 0, m, v => by
    rw [aloI]
    constructor
    · intro h; exact Or.inl h
    · rintro (h | ⟨i, a, b, _⟩)
      · exact h
      · omega
  | z + 1, m, v => by
    rw [aloI, aloI_0 z (m + 1)]
    by_cases hv : v = 0
    · rw [if_pos hv]
      exact ⟨fun _ => Or.inl hv, fun _ => Or.inl rfl⟩
    · rw [if_neg hv]
      by_cases hm : m = p
      · rw [if_pos hm]
        constructor
        · rintro (h | ⟨i, a, b, c⟩)
          · exact absurd h (by decide)
          · exact Or.inr ⟨i, by omega, by omega, c⟩
        · rintro (h | ⟨i, a, b, c⟩)
          · exact absurd h hv
          · have : i ≠ m := fun q => c.1 (q.trans hm)
            exact Or.inr ⟨i, by omega, by omega, c⟩
      · rw [if_neg hm]
        by_cases hs : seO T o m B.1 (B.2.1 0) = 0
        · rw [if_pos hs]
          constructor
          · rintro (h | ⟨i, a, b, c⟩)
            · exact absurd h (by decide)
            · exact Or.inr ⟨i, by omega, by omega, c⟩
          · rintro (h | ⟨i, a, b, c⟩)
            · exact absurd h hv
            · have : i ≠ m := fun q => c.2 (by rw [q]; exact hs)
              exact Or.inr ⟨i, by omega, by omega, c⟩
        · rw [if_neg hs]
          exact ⟨fun _ => Or.inr ⟨m, Nat.le_refl _, by omega, hm, hs⟩, fun _ => Or.inl rfl⟩
theorem bts_bitC {f : Nat → Int32} {n p : Nat} (h6 : n ≤ 6) (hp : p < n) : bts f n = bitC p ↔ (¬ f p = 0 ∧ ∀ i, i < n → i ≠ p → f i = 0) := by
  constructor
  · intro h
    have key : ∀ i, (decide (i < n) && !decide (f i = 0)) = decide (i = p) := fun i => by rw [← gb_bts f i n h6, h, gb_bitC (by omega)]
    refine ⟨fun q => ?_, fun i hi hn => Classical.byContradiction (fun q => ?_)⟩
    · have := key p
      simp [q] at this
    · have := key i
      simp [hi, q, hn] at this
  · rintro ⟨h1, h2⟩
    refine gb_ext (fun i _ => ?_)
    rw [gb_bts f i n h6, gb_bitC (by omega)]
    by_cases e : i = p
    · subst e; simp [hp, h1]
    · by_cases hi : i < n
      · simp [hi, h2 i hi e, e]
      · simp [hi, e]
theorem aloI_ss {T : wo_T} {o : wo_O} {B : wo_A} {p : Nat} (h6 : tnp T ≤ 6) (hp : p < tnp T) : aloI T o B p (tnp T) 0 (seO T o p B.1 (B.2.1 0)) = 0 ↔ ¬ seB T o B.1 (B.2.1 0) = bitC p := by
  rw [aloI_0]
  unfold seB
  rw [bts_bitC h6 hp]
  constructor
  · rintro (h | ⟨i, a, b, c, e⟩) ⟨q1, q2⟩
    · exact q1 h
    · exact e (q2 i (by omega) c)
  · intro h
    by_cases q1 : seO T o p B.1 (B.2.1 0) = 0
    · exact Or.inl q1
    · refine Or.inr (Classical.byContradiction (fun w => h ⟨q1, fun i hi hn => Classical.byContradiction (fun x => w ⟨i, by omega, by omega, hn, x⟩)⟩))
theorem nI_inj6 {a b : Nat} (ha : a < 6) (hb : b < 6) (h : nI a = nI b) : a = b := by
  have h1 := (nI_leI (show a < 2 ^ 31 by omega) (show b < 2 ^ 31 by omega)).mp (by rw [h]; exact Int32.le_refl _)
  have h2 := (nI_leI (show b < 2 ^ 31 by omega) (show a < 2 ^ 31 by omega)).mp (by rw [h]; exact Int32.le_refl _)
  omega
theorem m_alo_i {xs : List Int32} {ext : mm_X} {n : Nat} {sh : mm_S} {d : mm_D} {g : mm_G} {r : mm_R} {T : wo_T} {o : wo_O} {B : wo_A} (hsh : shp sh) (hr : rfx r) (hR : MR d T o) (hM0 : hM d B) {N p : Nat} (hp6 : p < 6) (s kk : Int32) (Q : Option Value → mm_M → Prop) : ∀ (z m : Nat) (v : Int32) (d1 : mm_D), z + m = tnp T → lf d d1 → (∀ d2, lf d d2 → wp xs ext (n + 9) 213 85 [some (.ref 250), some (.int (nI p)), some (.int (nI N)), some (.int s), some (.int kk), some (.int (aloI T o B p z m v)), some (.int (nI (tnp T)))] [] (sh, d2, g, r) Q) → wp xs ext (n + 9) 213 43 [some (.ref 250), some (.int (nI p)), some (.int (nI N)), some (.int s), some (.int kk), some (.int v), some (.int (nI m))] [] (sh, d1, g, r) Q := by
  have hnp6 := hR.1
  intro z
  induction z with
  | zero =>
    intro m v d1 hz hf K
    have hvb : m = tnp T := by omega
    subst hvb
    have hnp := (MR_lf hR hf).2.2.2.1
    refine wp_iload (j := 6) rfl q213_ok d213_43 ?_
    refine wp_aload_n (j := 0) rfl q213_ok d213_45 ?_
    refine wp_getI q213_ok d213_46 fl_11_265 rfl (by first | assumption | exact so0 hsh rfl) (by first | assumption | rfl) ?_
    refine wp_icmp_ge q213_ok d213_49 (t := 85) rfl (fun h49 => ?_) (fun h49 => ?_)
    · exact K d1 hf
    · exact absurd (nI_le (Nat.le_refl _) (by omega)) h49
  | succ z ih =>
    intro m v d1 hz hf K
    have hlt : m < tnp T := by omega
    have hR1 := MR_lf hR hf
    have hM1 := hM_lf hM0 hf
    have hnp := hR1.2.2.2.1
    refine wp_iload (j := 6) rfl q213_ok d213_43 ?_
    refine wp_aload_n (j := 0) rfl q213_ok d213_45 ?_
    refine wp_getI q213_ok d213_46 fl_11_265 rfl (by first | assumption | exact so0 hsh rfl) (by first | assumption | rfl) ?_
    refine wp_icmp_ge q213_ok d213_49 (t := 85) rfl (fun h49 => ?_) (fun h49 => ?_)
    · exact absurd h49 (nI_ge hlt (by omega))
    · refine wp_iload (j := 5) rfl q213_ok d213_52 ?_
      refine wp_if_eq q213_ok d213_54 (t := 76) rfl (fun h54 => ?_) (fun h54 => ?_)
      · refine wp_iconst (v := 0) (by decide) q213_ok d213_76 ?_
        refine wp_istore (j := 5) (Nat.le_of_ble_eq_true rfl) (rfl : _ = [_, _, _, _, _, _, _]) q213_ok d213_77 ?_
        refine wp_iinc (j := 6) rfl (by first | exact inc1 | rfl) (rfl : _ = [_, _, _, _, _, _, _]) q213_ok d213_79 ?_
        refine wp_goto (t := 43) rfl q213_ok d213_82 ?_
        refine ih (m + 1) _ d1 (by omega) hf (fun d3 f3 => ?_)
        have this := K d3 f3
        rw [aloI, if_pos h54] at this
        exact this
      · refine wp_iload (j := 6) rfl q213_ok d213_57 ?_
        refine wp_iload_n (j := 1) rfl q213_ok d213_59 ?_
        refine wp_icmp_eq q213_ok d213_60 (t := 72) rfl (fun h60 => ?_) (fun h60 => ?_)
        · refine wp_iconst (v := 1) (by decide) q213_ok d213_72 ?_
          refine wp_goto (t := 77) rfl q213_ok d213_73 ?_
          refine wp_istore (j := 5) (Nat.le_of_ble_eq_true rfl) (rfl : _ = [_, _, _, _, _, _, _]) q213_ok d213_77 ?_
          refine wp_iinc (j := 6) rfl (by first | exact inc1 | rfl) (rfl : _ = [_, _, _, _, _, _, _]) q213_ok d213_79 ?_
          refine wp_goto (t := 43) rfl q213_ok d213_82 ?_
          refine ih (m + 1) _ d1 (by omega) hf (fun d3 f3 => ?_)
          have this := K d3 f3
          rw [aloI, if_neg h54, if_pos (nI_inj6 (show m < 6 by omega) hp6 h60)] at this
          exact this
        · refine wp_aload_n (j := 0) rfl q213_ok d213_63 ?_
          refine wp_iload (j := 6) rfl q213_ok d213_64 ?_
          refine wp_cV q213_ok d213_66 ml_11_314 rfl q182_ok (u := 11) rfl (by first | assumption | exact so0 hsh rfl) rfl (Nat.le_of_ble_eq_true rfl) (Nat.le_of_ble_eq_true rfl) (m_sees (n := n + 2) hsh hr hR1 hM1 hlt) (fun v66 μ66 hc => ?_)
          obtain ⟨rfl, da, rfl, fa⟩ := hc
          refine ⟨mm_le_same rfl, ?_⟩
          refine wp_if_ne q213_ok d213_69 (t := 76) rfl (fun h69 => ?_) (fun h69 => ?_)
          · refine wp_iconst (v := 0) (by decide) q213_ok d213_76 ?_
            refine wp_istore (j := 5) (Nat.le_of_ble_eq_true rfl) (rfl : _ = [_, _, _, _, _, _, _]) q213_ok d213_77 ?_
            refine wp_iinc (j := 6) rfl (by first | exact inc1 | rfl) (rfl : _ = [_, _, _, _, _, _, _]) q213_ok d213_79 ?_
            refine wp_goto (t := 43) rfl q213_ok d213_82 ?_
            have hmp : ¬ m = p := fun q => h60 (by rw [q])
            refine ih (m + 1) _ da (by omega) (lf_trans hf fa) (fun d3 f3 => ?_)
            have this := K d3 f3
            rw [aloI, if_neg h54, if_neg hmp, if_neg h69] at this
            exact this
          · have h69 := Classical.not_not.mp h69
            refine wp_iconst (v := 1) (by decide) q213_ok d213_72 ?_
            refine wp_goto (t := 77) rfl q213_ok d213_73 ?_
            refine wp_istore (j := 5) (Nat.le_of_ble_eq_true rfl) (rfl : _ = [_, _, _, _, _, _, _]) q213_ok d213_77 ?_
            refine wp_iinc (j := 6) rfl (by first | exact inc1 | rfl) (rfl : _ = [_, _, _, _, _, _, _]) q213_ok d213_79 ?_
            refine wp_goto (t := 43) rfl q213_ok d213_82 ?_
            have hmp : ¬ m = p := fun q => h60 (by rw [q])
            refine ih (m + 1) _ da (by omega) (lf_trans hf fa) (fun d3 f3 => ?_)
            have this := K d3 f3
            rw [aloI, if_neg h54, if_neg hmp, if_pos h69] at this
            exact this
theorem m_alo_l {xs : List Int32} {ext : mm_X} {n : Nat} {sh : mm_S} {d : mm_D} {g : mm_G} {r : mm_R} {T : wo_T} {o : wo_O} {B : wo_A} (hsh : shp sh) (hr : rfx r) (hR : MR d T o) (hSd : hS d B) {N p : Nat} (hN : N < 2 ^ 31) (hp : p < tnp T) : ∀ (z k : Nat) (d1 : mm_D) (u5 : Option Value) (u6 : Option Value), z + k = N → pf d d1 → hM d1 (aN T o B k) → wp xs ext (n + 9) 213 27 [some (.ref 250), some (.int (nI p)), some (.int (nI N)), some (.int (aloA T o B p k)), some (.int (nI k)), u5, u6] [] (sh, d1, g, r) (fun v μ => v = some (.int (aloA T o B p N)) ∧ ∃ d2, μ = (sh, d2, g, r) ∧ qf d d2 ∧ hM d2 B) := by
  have hnb2 := hR.2.1
  intro z
  induction z with
  | zero =>
    intro k d1 u5 u6 hz p1 hM1
    have hvb : N = k := by omega
    subst hvb
    have hR1 := MR_pf hR p1
    refine wp_iload (j := 4) rfl q213_ok d213_27 ?_
    refine wp_iload_n (j := 2) rfl q213_ok d213_29 ?_
    refine wp_icmp_ge q213_ok d213_30 (t := 109) rfl (fun h30 => ?_) (fun h30 => ?_)
    · refine wp_aload_n (j := 0) rfl q213_ok d213_109 ?_
      refine wp_cV q213_ok d213_110 ml_11_362 rfl q196_ok (u := 11) rfl (by first | assumption | exact so0 hsh rfl) rfl (Nat.le_of_ble_eq_true rfl) (Nat.le_of_ble_eq_true rfl) (m_back hsh hr (hS_pf hSd p1)) (fun v110 μ110 hc => ?_)
      obtain ⟨rfl, d9, rfl, q9, hM9⟩ := hc
      refine ⟨mm_le_same rfl, ?_⟩
      refine wp_iload_n (j := 3) rfl q213_ok d213_113 ?_
      refine wp_iret q213_ok d213_114 rfl ?_
      exact ⟨rfl, d9, rfl, qf_trans (qf_pf p1) q9, hM9⟩
    · exact absurd (nI_le (Nat.le_refl _) (by omega)) h30
  | succ z ih =>
    intro k d1 u5 u6 hz p1 hM1
    have hlt : k < N := by omega
    have hR1 := MR_pf hR p1
    refine wp_iload (j := 4) rfl q213_ok d213_27 ?_
    refine wp_iload_n (j := 2) rfl q213_ok d213_29 ?_
    refine wp_icmp_ge q213_ok d213_30 (t := 109) rfl (fun h30 => ?_) (fun h30 => ?_)
    · exact absurd h30 (nI_ge hlt (by omega))
    · refine wp_aload_n (j := 0) rfl q213_ok d213_33 ?_
      refine wp_iload_n (j := 1) rfl q213_ok d213_34 ?_
      refine wp_cV q213_ok d213_35 ml_11_314 rfl q182_ok (u := 11) rfl (by first | assumption | exact so0 hsh rfl) rfl (Nat.le_of_ble_eq_true rfl) (Nat.le_of_ble_eq_true rfl) (m_sees (n := n + 2) hsh hr hR1 hM1 hp) (fun v35 μ35 hc => ?_)
      obtain ⟨rfl, da, rfl, fa⟩ := hc
      refine ⟨mm_le_same rfl, ?_⟩
      refine wp_istore (j := 5) (Nat.le_of_ble_eq_true rfl) (rfl : _ = [_, _, _, _, _, _, _]) q213_ok d213_38 ?_
      refine wp_iconst (v := 0) (by decide) q213_ok d213_40 ?_
      refine wp_istore (j := 6) (Nat.le_of_ble_eq_true rfl) (rfl : _ = [_, _, _, _, _, _, _]) q213_ok d213_41 ?_
      have hnp6 := hR.1
      refine m_alo_i hsh hr hR1 hM1 (show p < 6 by omega) _ _ _ (tnp T) 0 _ da (by omega) fa (fun d3 f3 => ?_)
      refine wp_iload_n (j := 3) rfl q213_ok d213_85 ?_
      refine wp_iload (j := 5) rfl q213_ok d213_86 ?_
      refine wp_if_eq q213_ok d213_88 (t := 95) rfl (fun h88 => ?_) (fun h88 => ?_)
      · refine wp_iconst (v := 0) (by decide) q213_ok d213_95 ?_
        have this := aloI_ss hnp6 hp (B := aN T o B k) (o := o)
        have hRn := MR_lf hR1 f3
        have hMn := hM_lf hM1 f3
        have pn := pf_trans p1 (pf_lf f3)
        have e0 : ¬ ssA T o B k = bitC p := this.mp h88
        refine wp_iadd rfl q213_ok d213_96 ?_
        refine wp_istore_n (j := 3) (Nat.le_of_ble_eq_true rfl) (rfl : _ = [_, _, _, _, _, _, _]) q213_ok d213_97 ?_
        refine wp_aload_n (j := 0) rfl q213_ok d213_98 ?_
        refine wp_iconst (v := 0) (by decide) q213_ok d213_99 ?_
        refine wp_cV q213_ok d213_100 ml_11_349 rfl q184_ok (u := 11) rfl (by first | assumption | exact so0 hsh rfl) rfl (Nat.le_of_ble_eq_true rfl) (Nat.le_of_ble_eq_true rfl) (m_pass (n := n) hsh hr hRn hMn 0) (fun v100 μ100 hc => ?_)
        obtain ⟨rfl, d2, rfl, f2, hM2, rg2, sn2⟩ := hc
        refine ⟨mm_le_same rfl, ?_⟩
        rw [sgM0] at hM2 rg2 sn2
        have hM2 : hM d2 (aN T o B (k + 1)) := hM2
        have p2 := pf_trans pn f2
        refine wp_iinc (j := 4) rfl (by first | exact inc1 | rfl) (rfl : _ = [_, _, _, _, _, _, _]) q213_ok d213_103 ?_
        refine wp_goto (t := 27) rfl q213_ok d213_106 ?_
        have ea : aloA T o B p (k + 1) = aloA T o B p k + 0 := by rw [aloA, if_neg e0]
        have this := fun a b => ih (k + 1) d2 a b (by omega) p2 hM2
        rw [ea] at this
        exact this _ _
      · refine wp_iconst (v := 1) (by decide) q213_ok d213_91 ?_
        refine wp_goto (t := 96) rfl q213_ok d213_92 ?_
        have this := aloI_ss hnp6 hp (B := aN T o B k) (o := o)
        have hRn := MR_lf hR1 f3
        have hMn := hM_lf hM1 f3
        have pn := pf_trans p1 (pf_lf f3)
        have e0 : ssA T o B k = bitC p := Classical.byContradiction (fun q => h88 (this.mpr q))
        refine wp_iadd rfl q213_ok d213_96 ?_
        refine wp_istore_n (j := 3) (Nat.le_of_ble_eq_true rfl) (rfl : _ = [_, _, _, _, _, _, _]) q213_ok d213_97 ?_
        refine wp_aload_n (j := 0) rfl q213_ok d213_98 ?_
        refine wp_iconst (v := 0) (by decide) q213_ok d213_99 ?_
        refine wp_cV q213_ok d213_100 ml_11_349 rfl q184_ok (u := 11) rfl (by first | assumption | exact so0 hsh rfl) rfl (Nat.le_of_ble_eq_true rfl) (Nat.le_of_ble_eq_true rfl) (m_pass (n := n) hsh hr hRn hMn 0) (fun v100 μ100 hc => ?_)
        obtain ⟨rfl, d2, rfl, f2, hM2, rg2, sn2⟩ := hc
        refine ⟨mm_le_same rfl, ?_⟩
        rw [sgM0] at hM2 rg2 sn2
        have hM2 : hM d2 (aN T o B (k + 1)) := hM2
        have p2 := pf_trans pn f2
        refine wp_iinc (j := 4) rfl (by first | exact inc1 | rfl) (rfl : _ = [_, _, _, _, _, _, _]) q213_ok d213_103 ?_
        refine wp_goto (t := 27) rfl q213_ok d213_106 ?_
        have ea : aloA T o B p (k + 1) = aloA T o B p k + 1 := by rw [aloA, if_pos e0]
        have this := fun a b => ih (k + 1) d2 a b (by omega) p2 hM2
        rw [ea] at this
        exact this _ _
theorem m_alone {xs : List Int32} {ext : mm_X} {n : Nat} {sh : mm_S} {d : mm_D} {g : mm_G} {r : mm_R} {T : wo_T} {B : wo_A} (hsh : shp sh) (hr : rfx r) (hR : MR d T (o0 T)) (hB : hM d B) (hbn : tnb T ≠ 0 → tnp T ≠ 0) (i n1 : Int32) : wp xs ext (n + 10) 213 0 [some (.ref 250), some (.int i), some (.int n1), none, none, none, none] [] (sh, d, g, r) (fun v μ => v = some (.int (aloneQ T B i n1)) ∧ ∃ d2, μ = (sh, d2, g, r) ∧ qf d d2 ∧ hM d2 B) := by
  refine wp_aload_n (j := 0) rfl q213_ok d213_0 ?_
  refine wp_iload_n (j := 1) rfl q213_ok d213_1 ?_
  refine wp_cV q213_ok d213_2 ml_11_324 rfl q177_ok (u := 11) rfl (by first | assumption | exact so0 hsh rfl) rfl (Nat.le_of_ble_eq_true rfl) (Nat.le_of_ble_eq_true rfl) (m_isPerson hsh hr _) (fun v2 μ2 hc => ?_)
  obtain ⟨rfl, rfl⟩ := hc
  refine ⟨mm_le_same rfl, ?_⟩
  rw [mper_v hR i]
  by_cases c0 : perT T i
  · rw [if_pos c0]
    have hh : hasT T := by have := per_lt c0 hR.1; intro q; omega
    refine wp_if_eq q213_ok d213_5 (t := 16) rfl (fun h5 => ?_) (fun h5 => ?_)
    · exact absurd h5 (by decide)
    · refine wp_aload_n (j := 0) rfl q213_ok d213_8 ?_
      refine wp_iload_n (j := 2) rfl q213_ok d213_9 ?_
      refine wp_cV q213_ok d213_10 ml_11_337 rfl q192_ok (u := 11) rfl (by first | assumption | exact so0 hsh rfl) rfl (Nat.le_of_ble_eq_true rfl) (Nat.le_of_ble_eq_true rfl) (m_are hsh hr _) (fun v10 μ10 hc => ?_)
      obtain ⟨rfl, rfl⟩ := hc
      refine ⟨mm_le_same rfl, ?_⟩
      rw [mare_v hR n1]
      by_cases c1 : ahdT n1
      · rw [if_pos ⟨hh, c1⟩]
        refine wp_if_ne q213_ok d213_13 (t := 18) rfl (fun h13 => ?_) (fun h13 => ?_)
        · have hip : i.toNatClampNeg < tnp T := per_lt c0 hR.1
          have hie := nI_ofn c0.1
          generalize hic : i.toNatClampNeg = p at hip hie
          obtain ⟨N, hN1, hN, hNe⟩ := ahd_of (fun e => (ahd_T n1).mp e c1)
          have hNc : n1.toNatClampNeg = N := by rw [hNe]; exact nI_clamp (by omega)
          subst hNe
          subst hie
          refine wp_aload_n (j := 0) rfl q213_ok d213_18 ?_
          refine wp_cV q213_ok d213_19 ml_11_356 rfl q195_ok (u := 11) rfl (by first | assumption | exact so0 hsh rfl) rfl (Nat.le_of_ble_eq_true rfl) (Nat.le_of_ble_eq_true rfl) (m_put hsh hr hB) (fun v19 μ19 hc => ?_)
          obtain ⟨rfl, d1, rfl, q1, hM1, hS1⟩ := hc
          refine ⟨mm_le_same rfl, ?_⟩
          refine wp_iconst (v := 0) (by decide) q213_ok d213_22 ?_
          refine wp_istore_n (j := 3) (Nat.le_of_ble_eq_true rfl) (rfl : _ = [_, _, _, _, _, _, _]) q213_ok d213_23 ?_
          refine wp_iconst (v := 0) (by decide) q213_ok d213_24 ?_
          refine wp_istore (j := 4) (Nat.le_of_ble_eq_true rfl) (rfl : _ = [_, _, _, _, _, _, _]) q213_ok d213_25 ?_
          refine wp_post (m_alo_l hsh hr (MR_qf hR q1) hS1 (show N < 2 ^ 31 by omega) hip N 0 d1 none none (by omega) (pf_refl d1) hM1) (fun v μ hc => ?_)
          obtain ⟨rfl, d9, rfl, q9, hM9⟩ := hc
          exact ⟨by unfold aloneQ; rw [if_pos c0, if_pos c1, hic, hNc], d9, rfl, qf_trans q1 q9, hM9⟩
        · have h13 := Classical.not_not.mp h13
          exact absurd h13 (by decide)
      · rw [if_neg (fun q => c1 q.2)]
        refine wp_if_ne q213_ok d213_13 (t := 18) rfl (fun h13 => ?_) (fun h13 => ?_)
        · exact absurd rfl h13
        · have h13 := Classical.not_not.mp h13
          refine wp_iconst (v := -1) (by decide) q213_ok d213_16 ?_
          refine wp_iret q213_ok d213_17 rfl ?_
          exact ⟨by unfold aloneQ; rw [if_pos c0, if_neg c1], d, rfl, qf_refl d, hB⟩
  · rw [if_neg c0]
    refine wp_if_eq q213_ok d213_5 (t := 16) rfl (fun h5 => ?_) (fun h5 => ?_)
    · refine wp_iconst (v := -1) (by decide) q213_ok d213_16 ?_
      refine wp_iret q213_ok d213_17 rfl ?_
      exact ⟨by unfold aloneQ; rw [if_neg c0], d, rfl, qf_refl d, hB⟩
    · exact absurd rfl h5
