/-! ===== hour of the model ===== -/
theorem nI_pl (a b : Nat) : nI a + nI b = nI (a + b) := (Int32.ofNat_add a b).symm
theorem i32_div {x h : Int32} (hx : 0 ≤ x) (hh : 1 ≤ h) : (x / h).toInt = x.toInt / h.toInt ∧ 0 ≤ x.toInt / h.toInt ∧ x.toInt / h.toInt ≤ x.toInt := by
  have h0 := Int32.le_iff_toInt_le.mp hx
  have h1 := Int32.le_iff_toInt_le.mp hh
  rw [show (0 : Int32).toInt = 0 from by decide] at h0
  rw [show (1 : Int32).toInt = 1 from by decide] at h1
  have l := Int32.toInt_lt x
  have a1 := Int.ediv_nonneg (a := x.toInt) (b := h.toInt) h0 (by omega)
  have a2 := Int.ediv_le_self (a := x.toInt) h.toInt h0
  refine ⟨?_, a1, a2⟩
  rw [Int32.toInt_div, Int.tdiv_eq_ediv_of_nonneg h0, Int.bmod_eq_of_le (by omega) (by omega)]
theorem rem12 {x : Int32} (hx : 0 ≤ x) : ∃ u, u < 12 ∧ x - x / 12 * 12 = nI u := by
  obtain ⟨e, a1, a2⟩ := i32_div hx (show (1 : Int32) ≤ 12 from by decide)
  have h0 := Int32.le_iff_toInt_le.mp hx
  rw [show (0 : Int32).toInt = 0 from by decide] at h0
  have l := Int32.toInt_lt x
  have e12 : (12 : Int32).toInt = 12 := by decide
  rw [e12] at e a1 a2
  have em : (x / 12 * 12).toInt = x.toInt / 12 * 12 := by
    rw [Int32.toInt_mul, e, e12, Int.bmod_eq_of_le (by omega) (by omega)]
  have es : (x - x / 12 * 12).toInt = x.toInt % 12 := by
    rw [Int32.toInt_sub, em, Int.bmod_eq_of_le (by omega) (by omega)]
    omega
  refine ⟨(x.toInt % 12).toNat, by omega, Int32.toInt_inj.mp ?_⟩
  rw [es, nI_toInt (show (x.toInt % 12).toNat < 2 ^ 31 by omega)]
  omega
theorem due_n {h m : Int32} (hh : 1 ≤ h) (hm : 0 ≤ m) : ∃ u, u ≤ 12 ∧ dueC h m = nI u ∧ (¬ m - m / h * h = 0 → u = 0) ∧ (m - m / h * h = 0 → u ≠ 0 ∧ nI u = (if m / h - m / h / 12 * 12 = 0 then 12 else m / h - m / h / 12 * 12)) := by
  have hq : 0 ≤ m / h := by
    obtain ⟨e, a1, _⟩ := i32_div hm hh
    exact Int32.le_iff_toInt_le.mpr (by rw [e]; exact a1)
  obtain ⟨u, hu, eu⟩ := rem12 hq
  unfold dueC
  rw [if_neg (Int32.not_lt.mpr hh)]
  by_cases h1 : m - m / h * h = 0
  · rw [if_neg (Classical.not_not.mpr h1)]
    by_cases h2 : m / h - m / h / 12 * 12 = 0
    · rw [if_neg (Classical.not_not.mpr h2)]
      exact ⟨12, Nat.le_refl _, rfl, fun q => absurd h1 q, fun _ => ⟨by decide, by rw [if_pos h2]; rfl⟩⟩
    · rw [if_pos h2]
      exact ⟨u, by omega, eu, fun q => absurd h1 q, fun _ => ⟨fun q => h2 (by rw [eu, q]; rfl), by rw [if_neg h2]; exact eu.symm⟩⟩
  · rw [if_pos h1]
    exact ⟨0, by omega, rfl, fun _ => rfl, fun q => absurd q h1⟩
theorem rg_c (T : wo_T) (B : wo_A) {s : Int32} (b : Nat) : (rgA T B s b = 0 ∧ lfA T B s b = owA T B b) ∨ (rgA T B s b = 1 ∧ lfA T B s b = owA T B b - 1 ∧ ¬ owA T B b ≤ 0) := by
  by_cases h0 : owA T B b ≤ 0
  · have := rg_0 (s := s) h0
    exact Or.inl ⟨this.2, this.1⟩
  · by_cases h : s = (if tkd T b = 1 then (1 : Int32) else 0)
    · have := rg_2 h0 h
      exact Or.inr ⟨this.2, this.1, h0⟩
    · have := rg_1 (T := T) (B := B) (b := b) h
      exact Or.inl ⟨this.2, this.1⟩
/-- minutes and hours owed are counts -/
def okB (m : Nat) (B : wo_A) : Prop := (∃ mn, mn ≤ m ∧ B.1 = nI mn) ∧ ∀ b, b < 2 → ∃ l, l ≤ 12 * m ∧ B.2.1 b = nI l
theorem okB_st {T : wo_T} {B : wo_A} {m : Nat} {s : Int32} (hth : ∀ b, b < tnb T → 1 ≤ thr T b) (h : okB m B) (hm : m < 2 ^ 24) : okB (m + 1) (stA T B s) := by
  obtain ⟨⟨mn, h1, h2⟩, h3⟩ := h
  refine ⟨⟨mn + 1, by omega, by show B.1 + 1 = _; rw [h2]; exact nI_1 mn⟩, fun b hb => ?_⟩
  obtain ⟨l, l1, l2⟩ := h3 b hb
  show ∃ l, _ ∧ (if b < tnb T then lfA T B s b else B.2.1 b) = nI l
  by_cases hbn : b < tnb T
  · rw [if_pos hbn]
    have hm0 : 0 ≤ B.1 := by rw [h2]; exact nI_pos' (by omega)
    obtain ⟨u, u1, u2, _⟩ := due_n (hth b hbn) hm0
    have eo : owA T B b = nI (l + u) := by unfold owA; rw [l2, u2, nI_pl]
    rcases rg_c T B (s := s) b with ⟨_, q⟩ | ⟨_, q, q2⟩
    · exact ⟨l + u, by omega, by rw [q, eo]⟩
    · have hne : l + u ≠ 0 := fun w => q2 (by rw [eo, w]; decide)
      obtain ⟨v, hv⟩ : ∃ v, l + u = v + 1 := ⟨l + u - 1, by omega⟩
      refine ⟨v, by omega, ?_⟩
      rw [q, eo, hv, ← nI_1 v]
      grind
  · rw [if_neg hbn]
    exact ⟨l, by omega, l2⟩
theorem okB_N {T : wo_T} {o : wo_O} {B : wo_A} {m : Nat} (hth : ∀ b, b < tnb T → 1 ≤ thr T b) (h : okB m B) : ∀ k, m + k < 2 ^ 24 → okB (m + k) (aN T o B k)
  | 0, _ => h
  | k + 1, hk => okB_st (m := m + k) hth (okB_N hth h k (by omega)) (by omega)
theorem aN_min {T : wo_T} {o : wo_O} {B : wo_A} : ∀ k, (aN T o B k).1 = B.1 + nI k
  | 0 => (Int32.add_zero _).symm
  | k + 1 => by
    show (aN T o B k).1 + 1 = _
    rw [aN_min k, Int32.add_assoc]
    exact congrArg _ (nI_1 k)
/-- before bell b strikes minute k -/
def houJ (T : wo_T) (o : wo_O) (B : wo_A) (b : Nat) (i : Int32) (k l c : Nat) : Prop := c ≤ k ∧ l ≤ 2 ^ 29 + 12 * (k + 1) ∧ (aN T o B k).2.2 b - B.2.2 b = nI c ∧ houSA T o B b i (k + 1) = nI (l + c) ∧ (houCA T o B b i (k + 1) ≤ i → owA T (aN T o B k) b = nI l) ∧ (i < houCA T o B b i (k + 1) → l ≠ 0)
def houI (T : wo_T) (o : wo_O) (B : wo_A) (b : Nat) (i : Int32) (k l c : Nat) : Prop := c ≤ k ∧ l ≤ 2 ^ 29 + 12 * k ∧ (aN T o B k).2.2 b - B.2.2 b = nI c ∧ houSA T o B b i k = nI (l + c) ∧ (houCA T o B b i k ≤ i → (aN T o B k).2.1 b = nI l)
theorem houJ_I {T : wo_T} {o : wo_O} {B : wo_A} {b k l c : Nat} {i : Int32} (hb : b < tnb T) (h : houJ T o B b i k l c) (hk : k < 240) : (rrA T o B b k = 0 → houI T o B b i (k + 1) l c) ∧ (¬ rrA T o B b k = 0 → l ≠ 0 ∧ houI T o B b i (k + 1) (l - 1) (c + 1)) := by
  obtain ⟨h1, h2, h3, h4, h5, h6⟩ := h
  have eow : (aN T o B (k + 1)).2.1 b = lfA T (aN T o B k) (snA T o (aN T o B k)) b := if_pos hb
  have er := rung_s (T := T) (o := o) (B := B) (k := k) hb
  rcases rg_c T (aN T o B k) (s := snA T o (aN T o B k)) b with ⟨q, w⟩ | ⟨q, w, w2⟩
  · have q0 : rrA T o B b k = 0 := q
    refine ⟨fun _ => ⟨by omega, by omega, by rw [er, if_pos q0]; exact h3, h4, fun x => by rw [eow, w]; exact h5 x⟩, fun x => absurd q0 x⟩
  · have q0 : ¬ rrA T o B b k = 0 := fun x => by have e : rrA T o B b k = 1 := q; rw [e] at x; exact absurd x (by decide)
    have hl : l ≠ 0 := by
      by_cases x : houCA T o B b i (k + 1) ≤ i
      · intro y
        exact w2 (by rw [h5 x, y]; decide)
      · exact h6 (Int32.not_le.mp x)
    obtain ⟨v, rfl⟩ : ∃ v, l = v + 1 := ⟨l - 1, by omega⟩
    refine ⟨fun x => absurd x q0, fun _ => ⟨hl, by omega, by show v ≤ _; omega, by rw [er, if_neg q0, i32_as, h3]; exact nI_1 c, by rw [h4]; congr 1; omega, fun x => ?_⟩⟩
    rw [eow, w, h5 x]
    show nI (v + 1) - 1 = nI v
    rw [← nI_1 v]
    grind
theorem m_hou_fin {xs : List Int32} {ext : mm_X} {n : Nat} {sh : mm_S} {d : mm_D} {g : mm_G} {r : mm_R} {B : wo_A} (hsh : shp sh) (hr : rfx r) (hSd : hS d B) (i w a b f y : Int32) (u7 : Option Value) (hf : ¬ f = -1) : wp xs ext (n + 9) 214 34 [some (.ref 250), some (.int i), some (.int w), some (.int a), some (.int b), some (.int f), some (.int y), u7] [] (sh, d, g, r) (fun v μ => v = some (.int (f)) ∧ ∃ d2, μ = (sh, d2, g, r) ∧ qf d d2 ∧ hM d2 B) := by
  refine wp_iload (j := 6) rfl q214_ok d214_34 ?_
  refine wp_sipush (v := 240) (by decide) q214_ok d214_36 ?_
  refine wp_icmp_ge q214_ok d214_39 (t := 152) rfl (fun h39 => ?_) (fun h39 => ?_)
  · refine wp_aload_n (j := 0) rfl q214_ok d214_152 ?_
    refine wp_cV q214_ok d214_153 ml_11_362 rfl q196_ok (u := 11) rfl (by first | assumption | exact so0 hsh rfl) rfl (Nat.le_of_ble_eq_true rfl) (Nat.le_of_ble_eq_true rfl) (m_back hsh hr hSd) (fun v153 μ153 hc => ?_)
    obtain ⟨rfl, d9, rfl, q9, hM9⟩ := hc
    refine ⟨mm_le_same rfl, ?_⟩
    refine wp_iload (j := 5) rfl q214_ok d214_156 ?_
    refine wp_iret q214_ok d214_158 rfl ?_
    exact ⟨rfl, d9, rfl, q9, hM9⟩
  · refine wp_iload (j := 5) rfl q214_ok d214_42 ?_
    refine wp_iconst (v := -1) (by decide) q214_ok d214_44 ?_
    refine wp_icmp_ne q214_ok d214_45 (t := 152) rfl (fun h45 => ?_) (fun h45 => ?_)
    · refine wp_aload_n (j := 0) rfl q214_ok d214_152 ?_
      refine wp_cV q214_ok d214_153 ml_11_362 rfl q196_ok (u := 11) rfl (by first | assumption | exact so0 hsh rfl) rfl (Nat.le_of_ble_eq_true rfl) (Nat.le_of_ble_eq_true rfl) (m_back hsh hr hSd) (fun v153 μ153 hc => ?_)
      obtain ⟨rfl, d9, rfl, q9, hM9⟩ := hc
      refine ⟨mm_le_same rfl, ?_⟩
      refine wp_iload (j := 5) rfl q214_ok d214_156 ?_
      refine wp_iret q214_ok d214_158 rfl ?_
      exact ⟨rfl, d9, rfl, q9, hM9⟩
    · have h45 := Classical.not_not.mp h45
      exact absurd h45 hf
theorem m_hou_t {xs : List Int32} {ext : mm_X} {n : Nat} {sh : mm_S} {d : mm_D} {g : mm_G} {r : mm_R} {T : wo_T} {o : wo_O} {B : wo_A} (hsh : shp sh) (hr : rfx r) (hR : MR d T o) (hSd : hS d B) {b k z l c : Nat} {w lv hv : Int32} (u7 : Option Value) {d1 : mm_D} (hb : b < tnb T) (hk : k < 240) (p1 : pf d d1) (hM1 : hM d1 (aN T o B k)) (hJ : houJ T o B b w k l c) (hl : lv = nI l) (hh : hv = houCA T o B b w (k + 1)) (ih : ∀ (d2 : mm_D) (l2 c2 : Nat), pf d d2 → hM d2 (aN T o B (k + 1)) → houI T o B b w (k + 1) l2 c2 → (w < houCA T o B b w (k + 1) → l2 ≠ 0) → wp xs ext (n + 9) 214 34 [some (.ref 250), some (.int (nI b)), some (.int w), some (.int (nI l2)), some (.int (houCA T o B b w (k + 1))), some (.int (-1)), some (.int (nI (k + 1))), u7] [] (sh, d2, g, r) (fun v μ => v = some (.int (houFA T o B b w z (k + 1))) ∧ ∃ d2, μ = (sh, d2, g, r) ∧ qf d d2 ∧ hM d2 B)) : wp xs ext (n + 9) 214 106 [some (.ref 250), some (.int (nI b)), some (.int w), some (.int lv), some (.int hv), some (.int (-1)), some (.int (nI k)), u7] [] (sh, d1, g, r) (fun v μ => v = some (.int (houFA T o B b w (z + 1) k)) ∧ ∃ d2, μ = (sh, d2, g, r) ∧ qf d d2 ∧ hM d2 B) := by
  subst hl
  subst hh
  have hR1 := MR_pf hR p1
  have hJI := houJ_I hb hJ hk
  refine wp_aload_n (j := 0) rfl q214_ok d214_106 ?_
  refine wp_iconst (v := 0) (by decide) q214_ok d214_107 ?_
  refine wp_cV q214_ok d214_108 ml_11_349 rfl q184_ok (u := 11) rfl (by first | assumption | exact so0 hsh rfl) rfl (Nat.le_of_ble_eq_true rfl) (Nat.le_of_ble_eq_true rfl) (m_pass (n := n) hsh hr hR1 hM1 0) (fun v108 μ108 hc => ?_)
  obtain ⟨rfl, d2, rfl, f2, hM2, rg2, sn2⟩ := hc
  refine ⟨mm_le_same rfl, ?_⟩
  rw [sgM0] at hM2 rg2 sn2
  have hM2 : hM d2 (aN T o B (k + 1)) := hM2
  have p2 := pf_trans p1 f2
  refine wp_iload_n (j := 3) rfl q214_ok d214_111 ?_
  refine wp_aload_n (j := 0) rfl q214_ok d214_112 ?_
  refine wp_getR q214_ok d214_113 fl_11_67 rfl (by first | assumption | exact so0 hsh rfl) (by first | assumption | exact hr _ _ _ rfl) ?_
  refine wp_iload_n (j := 1) rfl q214_ok d214_116 ?_
  refine wp_bald (m := 2) q214_ok d214_117 (by first | assumption | exact so0 hsh rfl) (shl hsh (m := 2) (Nat.le_of_ble_eq_true rfl) rfl) (ixn_nI (show b < 2 by have := hR.2.1; omega)) (rg2 b hb) ?_
  refine wp_if_eq q214_ok d214_118 (t := 125) rfl (fun h118 => ?_) (fun h118 => ?_)
  · refine wp_iconst (v := 0) (by decide) q214_ok d214_125 ?_
    refine wp_isub rfl q214_ok d214_126 ?_
    refine wp_istore_n (j := 3) (Nat.le_of_ble_eq_true rfl) (rfl : _ = [_, _, _, _, _, _, _, _]) q214_ok d214_127 ?_
    have hI := hJI.1 h118
    rw [show nI l - 0 = nI l from Int32.sub_zero _]
    generalize l = l2 at hI
    generalize c = c2 at hI
    refine wp_iload (j := 4) rfl q214_ok d214_128 ?_
    refine wp_iload_n (j := 2) rfl q214_ok d214_130 ?_
    refine wp_icmp_le q214_ok d214_131 (t := 143) rfl (fun h131 => ?_) (fun h131 => ?_)
    · refine wp_iconst (v := -1) (by decide) q214_ok d214_143 ?_
      refine wp_istore (j := 5) (Nat.le_of_ble_eq_true rfl) (rfl : _ = [_, _, _, _, _, _, _, _]) q214_ok d214_144 ?_
      refine wp_iinc (j := 6) rfl (by first | exact inc1 | rfl) (rfl : _ = [_, _, _, _, _, _, _, _]) q214_ok d214_146 ?_
      refine wp_goto (t := 34) rfl q214_ok d214_149 ?_
      rw [houFA, if_pos h131]
      exact ih d2 _ _ p2 hM2 hI (fun q => absurd h131 (Int32.not_le.mpr q))
    · refine wp_iload_n (j := 3) rfl q214_ok d214_134 ?_
      refine wp_if_ne q214_ok d214_135 (t := 143) rfl (fun h135 => ?_) (fun h135 => ?_)
      · refine wp_iconst (v := -1) (by decide) q214_ok d214_143 ?_
        refine wp_istore (j := 5) (Nat.le_of_ble_eq_true rfl) (rfl : _ = [_, _, _, _, _, _, _, _]) q214_ok d214_144 ?_
        refine wp_iinc (j := 6) rfl (by first | exact inc1 | rfl) (rfl : _ = [_, _, _, _, _, _, _, _]) q214_ok d214_146 ?_
        refine wp_goto (t := 34) rfl q214_ok d214_149 ?_
        have hl0 : l2 ≠ 0 := fun q => h135 (by rw [q]; rfl)
        rw [houFA, if_neg h131, if_pos (by rw [hI.2.2.1, hI.2.2.2.1]; exact (nI_ltI (by have := hI.1; omega) (by have := hI.1; have := hI.2.1; omega)).mpr (by omega))]
        exact ih d2 _ _ p2 hM2 hI (fun _ => hl0)
      · have h135 := Classical.not_not.mp h135
        refine wp_iload (j := 6) rfl q214_ok d214_138 ?_
        refine wp_goto (t := 144) rfl q214_ok d214_140 ?_
        refine wp_istore (j := 5) (Nat.le_of_ble_eq_true rfl) (rfl : _ = [_, _, _, _, _, _, _, _]) q214_ok d214_144 ?_
        refine wp_iinc (j := 6) rfl (by first | exact inc1 | rfl) (rfl : _ = [_, _, _, _, _, _, _, _]) q214_ok d214_146 ?_
        refine wp_goto (t := 34) rfl q214_ok d214_149 ?_
        have hl0 : l2 = 0 := by
          have := hI.2.1
          have h2 := (nI_leI (show l2 < 2 ^ 31 by omega) (show 0 < 2 ^ 31 by decide)).mp (by rw [h135]; exact Int32.le_refl _)
          omega
        rw [houFA, if_neg h131, if_neg (by rw [hI.2.2.1, hI.2.2.2.1, hl0, Nat.zero_add]; exact Int32.not_lt.mpr (Int32.le_refl _))]
        refine wp_post (m_hou_fin hsh hr (hS_pf hSd p2) _ _ _ _ (nI k) _ _ (nI_nm1 (by omega))) (fun v μ hc => ?_)
        obtain ⟨rfl, d9, rfl, q9, hM9⟩ := hc
        exact ⟨rfl, d9, rfl, qf_trans (qf_pf p2) q9, hM9⟩
  · refine wp_iconst (v := 1) (by decide) q214_ok d214_121 ?_
    refine wp_goto (t := 126) rfl q214_ok d214_122 ?_
    refine wp_isub rfl q214_ok d214_126 ?_
    refine wp_istore_n (j := 3) (Nat.le_of_ble_eq_true rfl) (rfl : _ = [_, _, _, _, _, _, _, _]) q214_ok d214_127 ?_
    obtain ⟨hl1, hI⟩ := hJI.2 h118
    rw [show nI l - 1 = nI (l - 1) from by obtain ⟨v, rfl⟩ : ∃ v, l = v + 1 := ⟨l - 1, by omega⟩; rw [← nI_1 v]; show nI v + 1 - 1 = nI v; grind]
    generalize l - 1 = l2 at hI
    generalize c + 1 = c2 at hI
    refine wp_iload (j := 4) rfl q214_ok d214_128 ?_
    refine wp_iload_n (j := 2) rfl q214_ok d214_130 ?_
    refine wp_icmp_le q214_ok d214_131 (t := 143) rfl (fun h131 => ?_) (fun h131 => ?_)
    · refine wp_iconst (v := -1) (by decide) q214_ok d214_143 ?_
      refine wp_istore (j := 5) (Nat.le_of_ble_eq_true rfl) (rfl : _ = [_, _, _, _, _, _, _, _]) q214_ok d214_144 ?_
      refine wp_iinc (j := 6) rfl (by first | exact inc1 | rfl) (rfl : _ = [_, _, _, _, _, _, _, _]) q214_ok d214_146 ?_
      refine wp_goto (t := 34) rfl q214_ok d214_149 ?_
      rw [houFA, if_pos h131]
      exact ih d2 _ _ p2 hM2 hI (fun q => absurd h131 (Int32.not_le.mpr q))
    · refine wp_iload_n (j := 3) rfl q214_ok d214_134 ?_
      refine wp_if_ne q214_ok d214_135 (t := 143) rfl (fun h135 => ?_) (fun h135 => ?_)
      · refine wp_iconst (v := -1) (by decide) q214_ok d214_143 ?_
        refine wp_istore (j := 5) (Nat.le_of_ble_eq_true rfl) (rfl : _ = [_, _, _, _, _, _, _, _]) q214_ok d214_144 ?_
        refine wp_iinc (j := 6) rfl (by first | exact inc1 | rfl) (rfl : _ = [_, _, _, _, _, _, _, _]) q214_ok d214_146 ?_
        refine wp_goto (t := 34) rfl q214_ok d214_149 ?_
        have hl0 : l2 ≠ 0 := fun q => h135 (by rw [q]; rfl)
        rw [houFA, if_neg h131, if_pos (by rw [hI.2.2.1, hI.2.2.2.1]; exact (nI_ltI (by have := hI.1; omega) (by have := hI.1; have := hI.2.1; omega)).mpr (by omega))]
        exact ih d2 _ _ p2 hM2 hI (fun _ => hl0)
      · have h135 := Classical.not_not.mp h135
        refine wp_iload (j := 6) rfl q214_ok d214_138 ?_
        refine wp_goto (t := 144) rfl q214_ok d214_140 ?_
        refine wp_istore (j := 5) (Nat.le_of_ble_eq_true rfl) (rfl : _ = [_, _, _, _, _, _, _, _]) q214_ok d214_144 ?_
        refine wp_iinc (j := 6) rfl (by first | exact inc1 | rfl) (rfl : _ = [_, _, _, _, _, _, _, _]) q214_ok d214_146 ?_
        refine wp_goto (t := 34) rfl q214_ok d214_149 ?_
        have hl0 : l2 = 0 := by
          have := hI.2.1
          have h2 := (nI_leI (show l2 < 2 ^ 31 by omega) (show 0 < 2 ^ 31 by decide)).mp (by rw [h135]; exact Int32.le_refl _)
          omega
        rw [houFA, if_neg h131, if_neg (by rw [hI.2.2.1, hI.2.2.2.1, hl0, Nat.zero_add]; exact Int32.not_lt.mpr (Int32.le_refl _))]
        refine wp_post (m_hou_fin hsh hr (hS_pf hSd p2) _ _ _ _ (nI k) _ _ (nI_nm1 (by omega))) (fun v μ hc => ?_)
        obtain ⟨rfl, d9, rfl, q9, hM9⟩ := hc
        exact ⟨rfl, d9, rfl, qf_trans (qf_pf p2) q9, hM9⟩
theorem m_hou_l {xs : List Int32} {ext : mm_X} {n : Nat} {sh : mm_S} {d : mm_D} {g : mm_G} {r : mm_R} {T : wo_T} {o : wo_O} {B : wo_A} (hsh : shp sh) (hr : rfx r) (hR : MR d T o) (hSd : hS d B) {b m : Nat} (w : Int32) (hb : b < tnb T) (hok : okB m B) (hm : m < 2 ^ 22) : ∀ (z k : Nat) (d1 : mm_D) (l : Nat) (c : Nat) (u7 : Option Value) (hI : houI T o B b w k l c ∧ (w < houCA T o B b w k → l ≠ 0)), z + k = 240 → pf d d1 → hM d1 (aN T o B k) → wp xs ext (n + 9) 214 34 [some (.ref 250), some (.int (nI b)), some (.int w), some (.int (nI l)), some (.int (houCA T o B b w k)), some (.int (-1)), some (.int (nI k)), u7] [] (sh, d1, g, r) (fun v μ => v = some (.int (houFA T o B b w z k)) ∧ ∃ d2, μ = (sh, d2, g, r) ∧ qf d d2 ∧ hM d2 B) := by
  have hnb2 := hR.2.1
  intro z
  induction z with
  | zero =>
    intro k d1 l c u7 hI hz p1 hM1
    have hvb : k = 240 := by omega
    subst hvb
    have hR1 := MR_pf hR p1
    refine wp_iload (j := 6) rfl q214_ok d214_34 ?_
    refine wp_sipush (v := 240) (by decide) q214_ok d214_36 ?_
    refine wp_icmp_ge q214_ok d214_39 (t := 152) rfl (fun h39 => ?_) (fun h39 => ?_)
    · refine wp_aload_n (j := 0) rfl q214_ok d214_152 ?_
      refine wp_cV q214_ok d214_153 ml_11_362 rfl q196_ok (u := 11) rfl (by first | assumption | exact so0 hsh rfl) rfl (Nat.le_of_ble_eq_true rfl) (Nat.le_of_ble_eq_true rfl) (m_back hsh hr (hS_pf hSd p1)) (fun v153 μ153 hc => ?_)
      obtain ⟨rfl, d9, rfl, q9, hM9⟩ := hc
      refine ⟨mm_le_same rfl, ?_⟩
      refine wp_iload (j := 5) rfl q214_ok d214_156 ?_
      refine wp_iret q214_ok d214_158 rfl ?_
      exact ⟨rfl, d9, rfl, qf_trans (qf_pf p1) q9, hM9⟩
    · exact absurd (nI_le (Nat.le_refl _) (by decide)) h39
  | succ z ih =>
    intro k d1 l c u7 hI hz p1 hM1
    have hlt : k < 240 := by omega
    have hR1 := MR_pf hR p1
    refine wp_iload (j := 6) rfl q214_ok d214_34 ?_
    refine wp_sipush (v := 240) (by decide) q214_ok d214_36 ?_
    refine wp_icmp_ge q214_ok d214_39 (t := 152) rfl (fun h39 => ?_) (fun h39 => ?_)
    · exact absurd h39 (nI_ge hlt (by decide))
    · refine wp_iload (j := 5) rfl q214_ok d214_42 ?_
      refine wp_iconst (v := -1) (by decide) q214_ok d214_44 ?_
      refine wp_icmp_ne q214_ok d214_45 (t := 152) rfl (fun h45 => ?_) (fun h45 => ?_)
      · exact absurd rfl h45
      · have h45 := Classical.not_not.mp h45
        have hb2 := hR.2.1
        obtain ⟨e0, _, _, e1⟩ := hR1.2.2.2.2.2.2.2.2.2.2.1 b hb
        have hne : ¬ thr T b = 0 := fun e => by rw [e] at e1; exact absurd e1 (by decide)
        have hm0 : 0 ≤ (aN T o B k).1 := by
          obtain ⟨⟨mn, m1, m2⟩, _⟩ := okB_N (o := o) (fun b hb => (hR.2.2.2.2.2.2.2.2.2.2.1 b hb).2.2.2) hok k (by omega)
          rw [m2]; exact nI_pos' (by omega)
        obtain ⟨u, u1, u2, u3, u4⟩ := due_n e1 hm0
        have eD : houDA T o B b k = nI u := u2
        obtain ⟨i1, i2, i3, i4, i5⟩ := hI.1
        have i6 := hI.2
        refine wp_aload_n (j := 0) rfl q214_ok d214_48 ?_
        refine wp_getI q214_ok d214_49 fl_11_274 rfl (by first | assumption | exact so0 hsh rfl) hM1.1 ?_
        refine wp_aload_n (j := 0) rfl q214_ok d214_52 ?_
        refine wp_getR q214_ok d214_53 fl_11_55 rfl (by first | assumption | exact so0 hsh rfl) (by first | assumption | exact hr _ _ _ rfl) ?_
        refine wp_iconst (v := 3) (by decide) q214_ok d214_56 ?_
        refine wp_iload_n (j := 1) rfl q214_ok d214_57 ?_
        refine wp_imul rfl q214_ok d214_58 ?_
        refine wp_iald (m := 6) q214_ok d214_59 (by first | assumption | exact so0 hsh rfl) (shl hsh (m := 6) (Nat.le_of_ble_eq_true rfl) rfl) (show ixn (3 * nI b) (3 * b) 6 from by rw [show (3 : Int32) * nI b = nI (3 * b) from (Int32.ofNat_mul 3 b).symm]; exact ixn_nI (by omega)) e0 ?_ (shK hsh)
        refine wp_irem hne rfl q214_ok d214_60 ?_
        refine wp_if_ne q214_ok d214_61 (t := 106) rfl (fun h61 => ?_) (fun h61 => ?_)
        · have hu := u3 h61
          have hD0 : houDA T o B b k ≤ 0 := by rw [eD, hu]; exact Int32.le_refl _
          have eC : houCA T o B b w (k + 1) = houCA T o B b w k := by rw [houCA, if_pos hD0]
          have eS : houSA T o B b w (k + 1) = houSA T o B b w k := by rw [houSA, if_pos hD0]
          refine m_hou_t (l := l) (c := c) hsh hr hR hSd _ hb hlt p1 hM1 ⟨i1, by omega, i3, by rw [eS]; exact i4, fun q => ?_, fun q => i6 (by rw [← eC]; exact q)⟩ rfl eC.symm (fun d2 l2 c2 p2 hM2 hI2 hn2 => ih (k + 1) d2 l2 c2 _ ⟨hI2, hn2⟩ (by omega) p2 hM2)
          unfold owA
          rw [i5 (by rw [← eC]; exact q), u2, hu]
          exact Int32.add_zero _
        · have h61 := Classical.not_not.mp h61
          refine wp_iload (j := 4) rfl q214_ok d214_64 ?_
          refine wp_iload_n (j := 2) rfl q214_ok d214_66 ?_
          refine wp_icmp_gt q214_ok d214_67 (t := 106) rfl (fun h67 => ?_) (fun h67 => ?_)
          · have hu := (u4 h61).1
            have hD0 : ¬ houDA T o B b k ≤ 0 := by rw [eD]; exact fun q => hu (by have := (nI_leI (by omega) (by decide)).mp (show nI u ≤ nI 0 from q); omega)
            have eC : houCA T o B b w (k + 1) = houCA T o B b w k := by rw [houCA, if_neg hD0, if_pos h67]
            have eS : houSA T o B b w (k + 1) = houSA T o B b w k := by rw [houSA, if_neg hD0, if_pos h67]
            exact m_hou_t (l := l) (c := c) hsh hr hR hSd _ hb hlt p1 hM1 ⟨i1, by omega, i3, by rw [eS]; exact i4, fun q => absurd h67 (by rw [← eC]; exact Int32.not_lt.mpr q), fun q => i6 h67⟩ rfl eC.symm (fun d2 l2 c2 p2 hM2 hI2 hn2 => ih (k + 1) d2 l2 c2 _ ⟨hI2, hn2⟩ (by omega) p2 hM2)
          · refine wp_aload_n (j := 0) rfl q214_ok d214_70 ?_
            refine wp_getI q214_ok d214_71 fl_11_274 rfl (by first | assumption | exact so0 hsh rfl) hM1.1 ?_
            refine wp_aload_n (j := 0) rfl q214_ok d214_74 ?_
            refine wp_getR q214_ok d214_75 fl_11_55 rfl (by first | assumption | exact so0 hsh rfl) (by first | assumption | exact hr _ _ _ rfl) ?_
            refine wp_iconst (v := 3) (by decide) q214_ok d214_78 ?_
            refine wp_iload_n (j := 1) rfl q214_ok d214_79 ?_
            refine wp_imul rfl q214_ok d214_80 ?_
            refine wp_iald (m := 6) q214_ok d214_81 (by first | assumption | exact so0 hsh rfl) (shl hsh (m := 6) (Nat.le_of_ble_eq_true rfl) rfl) (show ixn (3 * nI b) (3 * b) 6 from by rw [show (3 : Int32) * nI b = nI (3 * b) from (Int32.ofNat_mul 3 b).symm]; exact ixn_nI (by omega)) e0 ?_ (shK hsh)
            refine wp_idiv hne rfl q214_ok d214_82 ?_
            refine wp_bipush (v := 12) (by decide) q214_ok d214_83 ?_
            refine wp_irem (by decide) rfl q214_ok d214_85 ?_
            refine wp_istore (j := 7) (Nat.le_of_ble_eq_true rfl) (rfl : _ = [_, _, _, _, _, _, _, _]) q214_ok d214_86 ?_
            refine wp_iload_n (j := 3) rfl q214_ok d214_88 ?_
            refine wp_iload (j := 7) rfl q214_ok d214_89 ?_
            refine wp_if_ne q214_ok d214_91 (t := 99) rfl (fun h91 => ?_) (fun h91 => ?_)
            · refine wp_iload (j := 7) rfl q214_ok d214_99 ?_
              refine wp_iadd rfl q214_ok d214_101 ?_
              refine wp_istore_n (j := 3) (Nat.le_of_ble_eq_true rfl) (rfl : _ = [_, _, _, _, _, _, _, _]) q214_ok d214_102 ?_
              refine wp_iinc (j := 4) rfl (by first | exact inc1 | rfl) (rfl : _ = [_, _, _, _, _, _, _, _]) q214_ok d214_103 ?_
              have hu := (u4 h61).1
              have hue := (u4 h61).2
              rw [if_neg h91] at hue
              have hD0 : ¬ houDA T o B b k ≤ 0 := by rw [eD]; exact fun q => hu (by have := (nI_leI (by omega) (by decide)).mp (show nI u ≤ nI 0 from q); omega)
              have eC : houCA T o B b w (k + 1) = houCA T o B b w k + Int32.ofInt 1 := by rw [houCA, if_neg hD0, if_neg h67]
              have eS : houSA T o B b w (k + 1) = houSA T o B b w k + houDA T o B b k := by rw [houSA, if_neg hD0, if_neg h67]
              refine m_hou_t (l := l + u) (c := c) hsh hr hR hSd _ hb hlt p1 hM1 ⟨i1, by omega, i3, by rw [eS, i4, eD, nI_pl]; congr 1; omega, fun q => ?_, fun q => by omega⟩ (by rw [← hue, nI_pl]) eC.symm (fun d2 l2 c2 p2 hM2 hI2 hn2 => ih (k + 1) d2 l2 c2 _ ⟨hI2, hn2⟩ (by omega) p2 hM2)
              unfold owA
              rw [i5 (Int32.not_lt.mp h67), u2, nI_pl]
            · have h91 := Classical.not_not.mp h91
              refine wp_bipush (v := 12) (by decide) q214_ok d214_94 ?_
              refine wp_goto (t := 101) rfl q214_ok d214_96 ?_
              refine wp_iadd rfl q214_ok d214_101 ?_
              refine wp_istore_n (j := 3) (Nat.le_of_ble_eq_true rfl) (rfl : _ = [_, _, _, _, _, _, _, _]) q214_ok d214_102 ?_
              refine wp_iinc (j := 4) rfl (by first | exact inc1 | rfl) (rfl : _ = [_, _, _, _, _, _, _, _]) q214_ok d214_103 ?_
              have hu := (u4 h61).1
              have hue := (u4 h61).2
              rw [if_pos h91] at hue
              have hD0 : ¬ houDA T o B b k ≤ 0 := by rw [eD]; exact fun q => hu (by have := (nI_leI (by omega) (by decide)).mp (show nI u ≤ nI 0 from q); omega)
              have eC : houCA T o B b w (k + 1) = houCA T o B b w k + Int32.ofInt 1 := by rw [houCA, if_neg hD0, if_neg h67]
              have eS : houSA T o B b w (k + 1) = houSA T o B b w k + houDA T o B b k := by rw [houSA, if_neg hD0, if_neg h67]
              refine m_hou_t (l := l + u) (c := c) hsh hr hR hSd _ hb hlt p1 hM1 ⟨i1, by omega, i3, by rw [eS, i4, eD, nI_pl]; congr 1; omega, fun q => ?_, fun q => by omega⟩ (by rw [← hue, nI_pl]) eC.symm (fun d2 l2 c2 p2 hM2 hI2 hn2 => ih (k + 1) d2 l2 c2 _ ⟨hI2, hn2⟩ (by omega) p2 hM2)
              unfold owA
              rw [i5 (Int32.not_lt.mp h67), u2, nI_pl]
theorem m_hour {xs : List Int32} {ext : mm_X} {n : Nat} {sh : mm_S} {d : mm_D} {g : mm_G} {r : mm_R} {T : wo_T} {B : wo_A} (hsh : shp sh) (hr : rfx r) (hR : MR d T (o0 T)) (hB : hM d B) (hbn : tnb T ≠ 0 → tnp T ≠ 0) {m : Nat} (hok : okB m B) (hm22 : m < 2 ^ 22) (i n1 : Int32) : wp xs ext (n + 10) 214 0 [some (.ref 250), some (.int i), some (.int n1), none, none, none, none, none] [] (sh, d, g, r) (fun v μ => v = some (.int (hourQ T B i n1)) ∧ ∃ d2, μ = (sh, d2, g, r) ∧ qf d d2 ∧ hM d2 B) := by
  refine wp_aload_n (j := 0) rfl q214_ok d214_0 ?_
  refine wp_iload_n (j := 1) rfl q214_ok d214_1 ?_
  refine wp_cV q214_ok d214_2 ml_11_327 rfl q178_ok (u := 11) rfl (by first | assumption | exact so0 hsh rfl) rfl (Nat.le_of_ble_eq_true rfl) (Nat.le_of_ble_eq_true rfl) (m_isBell hsh hr _) (fun v2 μ2 hc => ?_)
  obtain ⟨rfl, rfl⟩ := hc
  refine ⟨mm_le_same rfl, ?_⟩
  rw [mbel_v hR i]
  by_cases c0 : belT T i
  · rw [if_pos c0]
    have hh : hasT T := hbn (by have := bel_lt c0 hR.2.1; omega)
    refine wp_if_eq q214_ok d214_5 (t := 12) rfl (fun h5 => ?_) (fun h5 => ?_)
    · exact absurd h5 (by decide)
    · refine wp_iload_n (j := 2) rfl q214_ok d214_8 ?_
      refine wp_if_ge q214_ok d214_9 (t := 14) rfl (fun h9 => ?_) (fun h9 => ?_)
      · have c1 : 0 ≤ n1 := Int32.not_lt.mp (Int32.not_lt.mpr h9)
        have hib : i.toNatClampNeg < tnb T := bel_lt c0 hR.2.1
        have hie := nI_ofn c0.1
        generalize hic : i.toNatClampNeg = b at hib hie
        subst hie
        have hb2 := hR.2.1
        obtain ⟨l0, l1, l2⟩ := hok.2 b (by omega)
        have hI0 : houI T (o0 T) B b n1 0 l0 0 := ⟨Nat.le_refl _, by omega, Int32.sub_self _, l2, fun _ => l2⟩
        refine wp_aload_n (j := 0) rfl q214_ok d214_14 ?_
        refine wp_cV q214_ok d214_15 ml_11_356 rfl q195_ok (u := 11) rfl (by first | assumption | exact so0 hsh rfl) rfl (Nat.le_of_ble_eq_true rfl) (Nat.le_of_ble_eq_true rfl) (m_put hsh hr hB) (fun v15 μ15 hc => ?_)
        obtain ⟨rfl, d1, rfl, q1, hM1, hS1⟩ := hc
        refine ⟨mm_le_same rfl, ?_⟩
        refine wp_aload_n (j := 0) rfl q214_ok d214_18 ?_
        refine wp_getR q214_ok d214_19 fl_11_61 rfl (by first | assumption | exact so0 hsh rfl) (by first | assumption | exact hr _ _ _ rfl) ?_
        refine wp_iload_n (j := 1) rfl q214_ok d214_22 ?_
        refine wp_iald (m := 2) q214_ok d214_23 (by first | assumption | exact so0 hsh rfl) (shl hsh (m := 2) (Nat.le_of_ble_eq_true rfl) rfl) (ixn_nI (show b < 2 by omega)) ((hM1.2 b (by omega)).1.trans l2) ?_ (shK hsh)
        refine wp_istore_n (j := 3) (Nat.le_of_ble_eq_true rfl) (rfl : _ = [_, _, _, _, _, _, _, _]) q214_ok d214_24 ?_
        refine wp_iconst (v := 0) (by decide) q214_ok d214_25 ?_
        refine wp_istore (j := 4) (Nat.le_of_ble_eq_true rfl) (rfl : _ = [_, _, _, _, _, _, _, _]) q214_ok d214_26 ?_
        refine wp_iconst (v := -1) (by decide) q214_ok d214_28 ?_
        refine wp_istore (j := 5) (Nat.le_of_ble_eq_true rfl) (rfl : _ = [_, _, _, _, _, _, _, _]) q214_ok d214_29 ?_
        refine wp_iconst (v := 0) (by decide) q214_ok d214_31 ?_
        refine wp_istore (j := 6) (Nat.le_of_ble_eq_true rfl) (rfl : _ = [_, _, _, _, _, _, _, _]) q214_ok d214_32 ?_
        refine wp_post (m_hou_l hsh hr (MR_qf hR q1) hS1 n1 hib hok hm22 240 0 d1 l0 0 none ⟨hI0, fun q => absurd c1 (Int32.not_le.mpr q)⟩ (by omega) (pf_refl d1) hM1) (fun v μ hc => ?_)
        obtain ⟨rfl, d9, rfl, q9, hM9⟩ := hc
        exact ⟨by unfold hourQ; rw [if_pos c0, if_pos c1, hic], d9, rfl, qf_trans q1 q9, hM9⟩
      · refine wp_iconst (v := -1) (by decide) q214_ok d214_12 ?_
        refine wp_iret q214_ok d214_13 rfl ?_
        exact ⟨by unfold hourQ; rw [if_pos c0, if_neg (fun q => h9 q)], d, rfl, qf_refl d, hB⟩
  · rw [if_neg c0]
    refine wp_if_eq q214_ok d214_5 (t := 12) rfl (fun h5 => ?_) (fun h5 => ?_)
    · refine wp_iconst (v := -1) (by decide) q214_ok d214_12 ?_
      refine wp_iret q214_ok d214_13 rfl ?_
      exact ⟨by unfold hourQ; rw [if_neg c0], d, rfl, qf_refl d, hB⟩
    · exact absurd rfl h5
