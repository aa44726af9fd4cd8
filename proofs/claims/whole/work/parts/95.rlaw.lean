/-! ===== the model reads a habit ===== -/
theorem clauS_b3 {L : wo_P} {p : Nat} (hp : p ≤ L.1) {x : Nat × wo_C} (h : clauS L p = .inr x) : p + 2 < x.1 ∧ x.1 ≤ L.1 := by
  have g1 := wsp_ge L p
  unfold clauS at h
  by_cases c : bAt L (wsp L p) = 121
  · rw [if_pos c] at h
    have l1 := bAt_lt c (by decide)
    have g3 := wsp_ge L (wsp L p + 1)
    by_cases c2 : bAt L (wsp L (wsp L p + 1)) = 58
    · rw [if_pos c2] at h
      have l2 := bAt_lt c2 (by decide)
      have g5 := wsp_ge L (wsp L (wsp L p + 1) + 1)
      have g6 := wsp_le L (show wsp L (wsp L p + 1) + 1 ≤ L.1 from l2)
      have hb := bodyS_bd g6
      rw [h] at hb
      have hb : _ < x.1 ∧ x.1 ≤ L.1 := hb
      exact ⟨by omega, hb.2⟩
    · rw [if_neg c2] at h; cases h
  · rw [if_neg c] at h; cases h
def linM : List wo_C → List Int32
  | [] => []
  | c :: cl => (c.1 ++ c.2) ++ linM cl
theorem linM_app : ∀ (cl : List wo_C) (c : wo_C), linM (cl ++ [c]) = linM cl ++ (c.1 ++ c.2)
  | [], c => by show (c.1 ++ c.2) ++ [] = _; rw [List.append_nil]; rfl
  | b :: cl, c => by
    show (b.1 ++ b.2) ++ linM (cl ++ [c]) = ((b.1 ++ b.2) ++ linM cl) ++ _
    rw [linM_app cl c]
    exact (List.append_assoc _ _ _).symm
def tabM (d : mm_D) (t : Nat) : Nat → Nat → List wo_C → Prop
  | _, _, [] => True
  | i, o, c :: cl => (d 256 (90 * t + i) = nI o ∧ d 257 (90 * t + i) = nI (o + c.1.length) ∧ d 258 (90 * t + i) = nI (o + c.1.length + c.2.length)) ∧ tabM d t (i + 1) (o + (c.1 ++ c.2).length) cl
theorem tabM_app {d : mm_D} {t : Nat} : ∀ {cl : List wo_C} {i o : Nat} {c : wo_C}, tabM d t i o cl → d 256 (90 * t + (i + cl.length)) = nI (o + (linM cl).length) → d 257 (90 * t + (i + cl.length)) = nI (o + (linM cl).length + c.1.length) → d 258 (90 * t + (i + cl.length)) = nI (o + (linM cl).length + c.1.length + c.2.length) → tabM d t i o (cl ++ [c])
  | [], i, o, c, _, h1, h2, h3 => ⟨⟨h1, h2, h3⟩, trivial⟩
  | b :: cl, i, o, c, h, h1, h2, h3 => by
    have e1 : i + (b :: cl).length = i + 1 + cl.length := by show i + (cl.length + 1) = _; omega
    have e2 : o + (linM (b :: cl)).length = o + (b.1 ++ b.2).length + (linM cl).length := by
      show o + ((b.1 ++ b.2) ++ linM cl).length = _
      rw [List.length_append (as := b.1 ++ b.2), Nat.add_assoc]
    rw [e1, e2] at h1 h2 h3
    exact ⟨h.1, tabM_app h.2 h1 h2 h3⟩
theorem tabM_eq {d d2 : mm_D} {t : Nat} : ∀ {cl : List wo_C} {i o : Nat}, (∀ j, j < 90 * t + (i + cl.length) → d2 256 j = d 256 j ∧ d2 257 j = d 257 j ∧ d2 258 j = d 258 j) → tabM d t i o cl → tabM d2 t i o cl
  | [], _, _, _, _ => trivial
  | b :: cl, i, o, he, h => by
    have hl : (b :: cl).length = cl.length + 1 := rfl
    obtain ⟨a1, a2, a3⟩ := he (90 * t + i) (by omega)
    exact ⟨⟨a1.trans h.1.1, a2.trans h.1.2.1, a3.trans h.1.2.2⟩, tabM_eq (fun j hj => he j (by omega)) h.2⟩
theorem lawM_of {d : mm_D} {t : Nat} : ∀ {cl : List wo_C} {i o : Nat}, tabM d t i o cl → segM d (340 * t + o) (linM cl) → o + (linM cl).length ≤ 340 → lawM d t i cl
  | [], _, _, _, _, _ => trivial
  | c :: cl, i, o, h, hs, hl => by
    have hs : segM d (340 * t + o) ((c.1 ++ c.2) ++ linM cl) := hs
    have hl : o + ((c.1 ++ c.2) ++ linM cl).length ≤ 340 := hl
    have hs2 := sgm_app.mp hs
    have hs3 := sgm_app.mp hs2.1
    rw [List.length_append (as := c.1 ++ c.2)] at hl
    have hl2 : (c.1 ++ c.2).length = c.1.length + c.2.length := List.length_append
    refine ⟨⟨o, o + c.1.length, h.1.1, h.1.2.1, h.1.2.2, rfl, by omega, hs3.1, by rw [← Nat.add_assoc]; exact hs3.2⟩, lawM_of h.2 (by rw [← Nat.add_assoc]; exact hs2.2) (by omega)⟩
/-- only the reading's rows -/
def vf (t : Nat) (d d2 : mm_D) : Prop := (∀ c, c ≠ 250 → ¬ (252 ≤ c ∧ c < 259) → d2 c = d c) ∧ (∀ j, j ≠ 3 → j ≠ 4 → j ≠ 5 → j ≠ 14 → d2 250 j = d 250 j) ∧ (∀ j, j < 340 * t → d2 252 j = d 252 j ∧ d2 253 j = d 253 j) ∧ (∀ j, j < 90 * t → d2 256 j = d 256 j ∧ d2 257 j = d 257 j ∧ d2 258 j = d 258 j) ∧ (∀ j, j ≠ t → d2 254 j = d 254 j ∧ d2 255 j = d 255 j)
theorem vf_trans {t : Nat} {d d1 d2 : mm_D} (h : vf t d d1) (h' : vf t d1 d2) : vf t d d2 := ⟨fun c a b => (h'.1 c a b).trans (h.1 c a b), fun j a b e f => (h'.2.1 j a b e f).trans (h.2.1 j a b e f), fun j a => ⟨(h'.2.2.1 j a).1.trans (h.2.2.1 j a).1, (h'.2.2.1 j a).2.trans (h.2.2.1 j a).2⟩, fun j a => ⟨(h'.2.2.2.1 j a).1.trans (h.2.2.2.1 j a).1, (h'.2.2.2.1 j a).2.1.trans (h.2.2.2.1 j a).2.1, (h'.2.2.2.1 j a).2.2.trans (h.2.2.2.1 j a).2.2⟩, fun j a => ⟨(h'.2.2.2.2 j a).1.trans (h.2.2.2.2 j a).1, (h'.2.2.2.2 j a).2.trans (h.2.2.2.2 j a).2⟩⟩
theorem vf_zf {t i : Nat} {d d2 : mm_D} (h : zf t i d d2) : vf t d d2 := ⟨h.1, fun j a b e _ => h.2.1 j a b e, h.2.2.1, fun j hj => h.2.2.2.1 j (by omega), h.2.2.2.2⟩
theorem vf_xf {t : Nat} {d d2 : mm_D} (h : xf t d d2) : vf t d d2 := vf_zf (zf_xf (i := 0) h)
def openD (d : mm_D) (t : Nat) : mm_D := mm_up (mm_up (mm_up (mm_up (mm_up (mm_up d 250 14 (nI t)) 250 3 0) 250 4 (-1)) 250 5 0) 254 t 0) 255 t 0
theorem vf_open (d : mm_D) (t : Nat) : vf t d (openD d t) := ⟨fun c a b => by unfold openD; rw [mm_up_ne (by omega), mm_up_ne (by omega), mm_up_ne a, mm_up_ne a, mm_up_ne a, mm_up_ne a], fun j a b e f => by show mm_up (mm_up (mm_up (mm_up d 250 14 (nI t)) 250 3 0) 250 4 (-1)) 250 5 0 250 j = _; rw [mm_up_at, if_neg e, mm_up_at, if_neg b, mm_up_at, if_neg a, mm_up_at, if_neg f], fun j _ => ⟨rfl, rfl⟩, fun j _ => ⟨rfl, rfl, rfl⟩, fun j hj => ⟨(congrFun (mm_up_ne (show 254 ≠ 255 by decide)) j).trans ((mm_up_at j).trans (if_neg hj)), (mm_up_at j).trans (if_neg hj)⟩⟩
theorem MS_open {d : mm_D} {L : wo_P} {t : Nat} (hL : tapM d L) (ht : t ≤ 4) : MS (openD d t) L t 6 0 0 [] := ⟨tapM_x hL rfl rfl, ⟨rfl, Nat.zero_le _⟩, rfl, rfl, ⟨rfl, ht⟩, (congrFun (mm_up_ne (show 254 ≠ 255 by decide)) t).trans ((mm_up_at t).trans (if_pos rfl)), Nat.le_refl _, trivial⟩
def LSt (d : mm_D) (L : wo_P) (t p : Nat) (cl : List wo_C) : Prop := MS d L t 6 p 0 (linM cl) ∧ d 255 t = nI cl.length ∧ 2 * cl.length ≤ p + 1 ∧ tabM d t 0 0 cl
def finS (L : wo_P) (cl : List wo_C) (res : Nat ⊕ (Nat × List wo_C)) : Nat ⊕ List wo_C := match res with
  | .inl w => .inl w
  | .inr x => if bAt L (wsp L x.1) = -1 then .inr (cl ++ x.2) else .inl (wsp L x.1)
def aftS (L : wo_P) (z p : Nat) : Nat ⊕ (Nat × List wo_C) := if bAt L (wsp L p) = 59 then habL L z (wsp L p + 1) else .inr (wsp L p, [])
theorem fin_habS (L : wo_P) : finS L [] (habL L 160 0) = habS L := by
  unfold habS finS
  cases habL L 160 0 with
  | inl w => rfl
  | inr x => rfl
theorem fin_step {L : wo_P} {z q : Nat} {x : Nat × wo_C} (cl : List wo_C) (h : clauS L q = .inr x) : finS L cl (habL L (z + 1) q) = finS L (cl ++ [x.2]) (aftS L z x.1) := by
  rw [habL, h]
  unfold aftS
  dsimp only
  by_cases c : bAt L (wsp L x.1) = 59
  · rw [if_pos c, if_pos c]
    cases habL L z (wsp L x.1 + 1) with
    | inl w => rfl
    | inr y =>
      show (if bAt L (wsp L y.1) = -1 then (.inr (cl ++ (x.2 :: y.2)) : Nat ⊕ List wo_C) else .inl (wsp L y.1)) = (if bAt L (wsp L y.1) = -1 then .inr (cl ++ [x.2] ++ y.2) else .inl (wsp L y.1))
      rw [List.append_assoc]
      rfl
  · rw [if_neg c, if_neg c]
    show (if bAt L (wsp L (wsp L x.1)) = -1 then (.inr (cl ++ [x.2]) : Nat ⊕ List wo_C) else .inl (wsp L (wsp L x.1))) = (if bAt L (wsp L (wsp L x.1)) = -1 then .inr (cl ++ [x.2] ++ []) else .inl (wsp L (wsp L x.1)))
    rw [List.append_nil]
theorem fin_no {L : wo_P} {z q w : Nat} (cl : List wo_C) (h : clauS L q = .inl w) : finS L cl (habL L (z + 1) q) = .inl w := by
  rw [habL, h]
  rfl
theorem LSt_step {d d2 : mm_D} {L : wo_P} {t p : Nat} {cl : List wo_C} {x : Nat × wo_C} (hz : zf t cl.length d d2) (hp : 2 * cl.length + 1 ≤ x.1) (ht : tabM d t 0 0 cl) (hm : MS d2 L t 6 x.1 0 (linM cl ++ (x.2.1 ++ x.2.2))) (h1 : d2 255 t = nI (cl.length + 1)) (h2 : d2 256 (90 * t + cl.length) = nI (linM cl).length) (h3 : d2 257 (90 * t + cl.length) = nI ((linM cl).length + x.2.1.length)) (h4 : d2 258 (90 * t + cl.length) = nI ((linM cl).length + x.2.1.length + x.2.2.length)) : LSt d2 L t x.1 (cl ++ [x.2]) := by
  refine ⟨by rw [linM_app]; exact hm, by rw [List.length_append]; exact h1, by rw [List.length_append]; show 2 * (cl.length + 1) ≤ _; omega, tabM_app (tabM_eq (d := d) (fun j hj => hz.2.2.2.1 j (by omega)) ht) ?_ ?_ ?_⟩
  · simp only [Nat.zero_add]; exact h2
  · simp only [Nat.zero_add]; exact h3
  · simp only [Nat.zero_add]; exact h4
def lpost (sh : mm_S) (g : mm_G) (r : mm_R) (t : Nat) (d : mm_D) (res : Nat ⊕ List wo_C) (v : Option Value) (μ : mm_M) : Prop := (match res with | .inl w => v = some (.int (nI w)) | .inr _ => v = some (.int (-1))) ∧ ∃ d2, μ = (sh, d2, g, r) ∧ vf t d d2 ∧ (match res with
  | .inl _ => True
  | .inr cl => cl.length ≤ 90 ∧ d2 255 t = nI cl.length ∧ lawM d2 t 0 cl)
theorem lp_trans {sh : mm_S} {g : mm_G} {r : mm_R} {t : Nat} {d d1 : mm_D} {res : Nat ⊕ List wo_C} {v : Option Value} {μ : mm_M} (hz : vf t d d1) (h : lpost sh g r t d1 res v μ) : lpost sh g r t d res v μ := by
  obtain ⟨h1, d2, h2, h3, h4⟩ := h
  exact ⟨h1, d2, h2, vf_trans hz h3, h4⟩
theorem r_open {xs : List Int32} {ext : mm_X} {sh : mm_S} {g : mm_G} {r : mm_R} {t : Nat} (hsh : shp sh) (hr : rfx r) {n : Nat} {d : mm_D} (ht : t ≤ 4) : wp xs ext (n + 0) 159 0 [some (.ref 250), some (.int (nI t))] [] (sh, d, g, r) (fun v μ => v = none ∧ μ = (sh, openD d t, g, r)) := by
  refine wp_aload_n (j := 0) rfl q159_ok d159_0 ?_
  refine wp_iload_n (j := 1) rfl q159_ok d159_1 ?_
  refine wp_putI q159_ok d159_2 fl_11_123 rfl (by first | assumption | exact so0 hsh rfl) (Or.inl rfl) ?_
  refine wp_aload_n (j := 0) rfl q159_ok d159_5 ?_
  refine wp_iconst (v := 0) (by decide) q159_ok d159_6 ?_
  refine wp_putI q159_ok d159_7 fl_11_113 rfl (by first | assumption | exact so0 hsh rfl) (Or.inl rfl) ?_
  refine wp_aload_n (j := 0) rfl q159_ok d159_10 ?_
  refine wp_iconst (v := -1) (by decide) q159_ok d159_11 ?_
  refine wp_putI q159_ok d159_12 fl_11_120 rfl (by first | assumption | exact so0 hsh rfl) (Or.inl rfl) ?_
  refine wp_aload_n (j := 0) rfl q159_ok d159_15 ?_
  refine wp_iconst (v := 0) (by decide) q159_ok d159_16 ?_
  refine wp_putI q159_ok d159_17 fl_11_126 rfl (by first | assumption | exact so0 hsh rfl) (Or.inl rfl) ?_
  refine wp_aload_n (j := 0) rfl q159_ok d159_20 ?_
  refine wp_getR q159_ok d159_21 fl_11_19 rfl (by first | assumption | exact so0 hsh rfl) (by first | assumption | exact hr _ _ _ rfl) ?_
  refine wp_iload_n (j := 1) rfl q159_ok d159_24 ?_
  refine wp_iconst (v := 0) (by decide) q159_ok d159_25 ?_
  refine wp_iast (m := 5) q159_ok d159_26 (by first | assumption | exact so0 hsh rfl) (shl hsh (m := 5) (Nat.le_of_ble_eq_true rfl) rfl) (ixn_nI (show t < 5 by omega)) ?_
  refine wp_aload_n (j := 0) rfl q159_ok d159_27 ?_
  refine wp_getR q159_ok d159_28 fl_11_22 rfl (by first | assumption | exact so0 hsh rfl) (by first | assumption | exact hr _ _ _ rfl) ?_
  refine wp_iload_n (j := 1) rfl q159_ok d159_31 ?_
  refine wp_iconst (v := 0) (by decide) q159_ok d159_32 ?_
  refine wp_iast (m := 5) q159_ok d159_33 (by first | assumption | exact so0 hsh rfl) (shl hsh (m := 5) (Nat.le_of_ble_eq_true rfl) rfl) (ixn_nI (show t < 5 by omega)) ?_
  refine wp_vret q159_ok d159_34 rfl ?_
  exact ⟨rfl, rfl⟩
theorem r_endw {xs : List Int32} {ext : mm_X} {sh : mm_S} {g : mm_G} {r : mm_R} (hsh : shp sh) (hr : rfx r) {n w : Nat} {d : mm_D} (hw : d 250 4 = nI w) (hl : w < 2 ^ 31) : wp xs ext (n + 0) 160 0 [some (.ref 250)] [] (sh, d, g, r) (fun v μ => v = some (.int (nI w)) ∧ μ = (sh, d, g, r)) := by
  refine wp_aload_n (j := 0) rfl q160_ok d160_0 ?_
  refine wp_getI q160_ok d160_1 fl_11_120 rfl (by first | assumption | exact so0 hsh rfl) hw ?_
  refine wp_iconst (v := -1) (by decide) q160_ok d160_4 ?_
  refine wp_icmp_ne q160_ok d160_5 (t := 20) rfl (fun h5 => ?_) (fun h5 => ?_)
  · refine wp_aload_n (j := 0) rfl q160_ok d160_20 ?_
    refine wp_getI q160_ok d160_21 fl_11_120 rfl (by first | assumption | exact so0 hsh rfl) hw ?_
    refine wp_iret q160_ok d160_24 rfl ?_
    exact ⟨rfl, rfl⟩
  · have h5 := Classical.not_not.mp h5
    exact absurd h5 (nI_nm1 hl)
theorem r_end {xs : List Int32} {ext : mm_X} {sh : mm_S} {g : mm_G} {r : mm_R} {L : wo_P} {t : Nat} (hsh : shp sh) (hr : rfx r) {n k p s : Nat} {d : mm_D} {cs : List Int32} (h : MS d L t k p s cs) : wp xs ext (n + 2) 160 0 [some (.ref 250)] [] (sh, d, g, r) (fun v μ => v = some (.int (if bAt L (wsp L p) = -1 then -1 else nI (wsp L p))) ∧ ∃ d2, μ = (sh, d2, g, r) ∧ xf t d d2 ∧ ∀ c, c ≠ 250 → d2 c = d c) := by
  have hpl := h.2.1.2
  have hwl := wsp_le L hpl
  have hwg := wsp_ge L p
  have hl := h.2.2.2.2.2.2.1
  have S1 := MS_at (s2 := 0) h hwl (by omega)
  refine wp_aload_n (j := 0) rfl q160_ok d160_0 ?_
  refine wp_getI q160_ok d160_1 fl_11_120 rfl (by first | assumption | exact so0 hsh rfl) h.2.2.1 ?_
  refine wp_iconst (v := -1) (by decide) q160_ok d160_4 ?_
  refine wp_icmp_ne q160_ok d160_5 (t := 20) rfl (fun h5 => ?_) (fun h5 => ?_)
  · exact absurd rfl h5
  · have h5 := Classical.not_not.mp h5
    refine wp_aload_n (j := 0) rfl q160_ok d160_8 ?_
    refine wp_cV q160_ok d160_9 ml_11_132 rfl q141_ok (u := 11) rfl (by first | assumption | exact so0 hsh rfl) rfl (Nat.le_of_ble_eq_true rfl) (Nat.le_of_ble_eq_true rfl) (m_look hsh hr h.1 h.2.1.1 h.2.1.2) (fun v9 μ9 hc => ?_)
    obtain ⟨rfl, rfl⟩ := hc
    refine ⟨mm_le_same rfl, ?_⟩
    refine wp_iconst (v := -1) (by decide) q160_ok d160_12 ?_
    refine wp_icmp_eq q160_ok d160_13 (t := 20) rfl (fun h13 => ?_) (fun h13 => ?_)
    · refine wp_aload_n (j := 0) rfl q160_ok d160_20 ?_
      refine wp_getI q160_ok d160_21 fl_11_120 rfl (by first | assumption | exact so0 hsh rfl) S1.2.2.1 ?_
      refine wp_iret q160_ok d160_24 rfl ?_
      exact ⟨by rw [if_pos h13], _, rfl, xf_3, fun c hc => mm_up_ne hc⟩
    · refine wp_aload_n (j := 0) rfl q160_ok d160_16 ?_
      refine wp_cV q160_ok d160_17 ml_11_129 rfl q142_ok (u := 11) rfl (by first | assumption | exact so0 hsh rfl) rfl (Nat.le_of_ble_eq_true rfl) (Nat.le_of_ble_eq_true rfl) (m_bad0 hsh hr S1.2.2.1 S1.2.1.1) (fun v17 μ17 hc => ?_)
      obtain ⟨rfl, rfl⟩ := hc
      refine ⟨mm_le_same rfl, ?_⟩
      refine wp_aload_n (j := 0) rfl q160_ok d160_20 ?_
      refine wp_getI q160_ok d160_21 fl_11_120 rfl (by first | assumption | exact so0 hsh rfl) (by first | assumption | rfl) ?_
      refine wp_iret q160_ok d160_24 rfl ?_
      exact ⟨by rw [if_neg h13]; rfl, _, rfl, xf_trans xf_3 xf_4, fun c hc => (mm_up_ne hc).trans (mm_up_ne hc)⟩
theorem r_law_l {xs : List Int32} {ext : mm_X} {sh : mm_S} {g : mm_G} {r : mm_R} {L : wo_P} {t : Nat} (hsh : shp sh) (hr : rfx r) {n : Nat} (hs : RMsum xs ext sh g r L t (n + 3) 6) (hcm : RMcmp xs ext sh g r L t (n + 3) 6) (ha : RMand xs ext sh g r L t (n + 3) 6) (ho : RMor xs ext sh g r L t (n + 3) 6) (hcn : RMcon xs ext sh g r L t (n + 3) 6) : ∀ (z : Nat) (d : mm_D) (p : Nat) (cl : List wo_C) (u : Option Value), L.1 + 1 ≤ z + p → LSt d L t p cl → wp xs ext (n + 5) 161 9 [some (.ref 250), u] [] (sh, d, g, r) (lpost sh g r t d (finS L cl (aftS L z p))) := by
  intro z
  induction z with
  | zero =>
    intro d p cl u hz h
    have := h.1.2.1.2
    omega
  | succ z ih =>
    intro d p cl u hz hh
    have h := hh.1
    have hpl := h.2.1.2
    have h160 := h.1.2.1
    have hwl := wsp_le L hpl
    have hwg := wsp_ge L p
    have hl := h.2.2.2.2.2.2.1
    have S1 := MS_at (s2 := 0) h hwl (by omega)
    refine wp_aload_n (j := 0) rfl q161_ok d161_9 ?_
    refine wp_getI q161_ok d161_10 fl_11_120 rfl (by first | assumption | exact so0 hsh rfl) h.2.2.1 ?_
    refine wp_iconst (v := -1) (by decide) q161_ok d161_13 ?_
    refine wp_icmp_ne q161_ok d161_14 (t := 43) rfl (fun h14 => ?_) (fun h14 => ?_)
    · exact absurd rfl h14
    · have h14 := Classical.not_not.mp h14
      refine wp_aload_n (j := 0) rfl q161_ok d161_17 ?_
      refine wp_cV q161_ok d161_18 ml_11_132 rfl q141_ok (u := 11) rfl (by first | assumption | exact so0 hsh rfl) rfl (Nat.le_of_ble_eq_true rfl) (Nat.le_of_ble_eq_true rfl) (m_look hsh hr h.1 h.2.1.1 h.2.1.2) (fun v18 μ18 hc => ?_)
      obtain ⟨rfl, rfl⟩ := hc
      refine ⟨mm_le_same rfl, ?_⟩
      refine wp_bipush (v := 59) (by decide) q161_ok d161_21 ?_
      refine wp_icmp_ne q161_ok d161_23 (t := 43) rfl (fun h23 => ?_) (fun h23 => ?_)
      · have ea : aftS L (z + 1) p = .inr (wsp L p, []) := if_neg h23
        refine wp_aload_n (j := 0) rfl q161_ok d161_43 ?_
        refine wp_cV q161_ok d161_44 ml_11_190 rfl q160_ok (u := 11) rfl (by first | assumption | exact so0 hsh rfl) rfl (Nat.le_of_ble_eq_true rfl) (Nat.le_of_ble_eq_true rfl) (r_end hsh hr S1) (fun v44 μ44 hc => ?_)
        obtain ⟨rfl, d4, rfl, x4, y4⟩ := hc
        refine ⟨mm_le_same rfl, ?_⟩
        refine wp_iret q161_ok d161_47 rfl ?_
        rw [ea, show finS L cl (.inr (wsp L p, [])) = if bAt L (wsp L (wsp L p)) = -1 then .inr (cl ++ []) else .inl (wsp L (wsp L p)) from rfl]
        by_cases q : bAt L (wsp L (wsp L p)) = -1
        · rw [if_pos q, if_pos q]
          refine ⟨rfl, d4, rfl, vf_trans (vf_xf xf_3) (vf_xf x4), ?_⟩
          show (cl ++ []).length ≤ 90 ∧ d4 255 t = nI (cl ++ []).length ∧ lawM d4 t 0 (cl ++ [])
          rw [List.append_nil]
          have h5 := x4.1 255 (by decide) (by decide)
          have h22 := hh.2.2.1
          have hl2 := hl
          have hlw := lawM_of hh.2.2.2 (show segM d (340 * t + 0) (linM cl) from h.2.2.2.2.2.2.2) (by omega)
          exact ⟨by omega, (congrFun h5 t).trans hh.2.1, law_x (fun c h1 h2 => (y4 c (by omega)).trans (mm_up_ne (by omega))) hlw⟩
        · rw [if_neg q, if_neg q]
          exact ⟨rfl, d4, rfl, vf_trans (vf_xf xf_3) (vf_xf x4), trivial⟩
      · have h23 := Classical.not_not.mp h23
        have hc : bAt L (wsp L p) = 59 := h23
        have hql := bAt_lt hc (by decide)
        have S2 := MS_at (s2 := 0) S1 hql (by omega)
        have ea : aftS L (z + 1) p = habL L (z + 1) (wsp L p + 1) := if_pos hc
        refine wp_aload_n (j := 0) rfl q161_ok d161_26 ?_
        refine wp_dup rfl q161_ok d161_27 ?_
        refine wp_getI q161_ok d161_28 fl_11_113 rfl (by first | assumption | exact so0 hsh rfl) S1.2.1.1 ?_
        refine wp_iconst (v := 1) (by decide) q161_ok d161_31 ?_
        refine wp_iadd (nI_1 _) q161_ok d161_32 ?_
        refine wp_putI q161_ok d161_33 fl_11_113 rfl (by first | assumption | exact so0 hsh rfl) (Or.inl rfl) ?_
        refine wp_aload_n (j := 0) rfl q161_ok d161_36 ?_
        refine wp_cV q161_ok d161_37 ml_11_187 rfl q158_ok (u := 11) rfl (by first | assumption | exact so0 hsh rfl) rfl (Nat.le_of_ble_eq_true rfl) (Nat.le_of_ble_eq_true rfl) (r_clause hsh hr hs hcm ha ho hcn S2 hh.2.1 (by have := hh.2.2.1; omega)) (fun v37 μ37 hc => ?_)
        obtain ⟨rfl, d3, rfl, z3, m3⟩ := hc
        refine ⟨mm_le_same rfl, ?_⟩
        refine wp_goto (t := 9) rfl q161_ok d161_40 ?_
        cases e3 : clauS L (wsp L p + 1) with
        | inl w =>
          rw [e3] at m3
          have hw3 := m3.1
          have hwl3 := m3.2
          rw [ea, fin_no _ e3]
          refine wp_aload_n (j := 0) rfl q161_ok d161_9 ?_
          refine wp_getI q161_ok d161_10 fl_11_120 rfl (by first | assumption | exact so0 hsh rfl) (by first | assumption | rfl) ?_
          refine wp_iconst (v := -1) (by decide) q161_ok d161_13 ?_
          refine wp_icmp_ne q161_ok d161_14 (t := 43) rfl (fun h14 => ?_) (fun h14 => ?_)
          · refine wp_aload_n (j := 0) rfl q161_ok d161_43 ?_
            refine wp_cV q161_ok d161_44 ml_11_190 rfl q160_ok (u := 11) rfl (by first | assumption | exact so0 hsh rfl) rfl (Nat.le_of_ble_eq_true rfl) (Nat.le_of_ble_eq_true rfl) (r_endw hsh hr hw3 (by omega)) (fun v44 μ44 hc => ?_)
            obtain ⟨rfl, rfl⟩ := hc
            refine ⟨mm_le_same rfl, ?_⟩
            refine wp_iret q161_ok d161_47 rfl ?_
            exact ⟨rfl, d3, rfl, vf_trans (vf_trans (vf_xf xf_3) (vf_xf xf_3)) (vf_zf z3), trivial⟩
          · have h14 := Classical.not_not.mp h14
            exact absurd h14 (nI_nm1 (by omega))
        | inr x =>
          rw [e3] at m3
          obtain ⟨m31, m32, m33, m34, m35⟩ := m3
          have hx := clauS_b3 hql e3
          rw [ea, fin_step _ e3]
          have H := LSt_step (p := p) (L := L) z3 (by have := hh.2.2.1; omega) (tabM_eq (d := d) (fun j _ => ⟨rfl, rfl, rfl⟩) hh.2.2.2) m31 m32 m33 m34 m35
          exact wp_post (ih d3 x.1 (cl ++ [x.2]) u (by omega) H) (fun v μ hc => lp_trans (vf_trans (vf_trans (vf_xf xf_3) (vf_xf xf_3)) (vf_zf z3)) hc)
theorem r_law {xs : List Int32} {ext : mm_X} {sh : mm_S} {g : mm_G} {r : mm_R} {L : wo_P} {t : Nat} (hsh : shp sh) (hr : rfx r) {n : Nat} {d : mm_D} (hs : RMsum xs ext sh g r L t (n + 3) 6) (hcm : RMcmp xs ext sh g r L t (n + 3) 6) (ha : RMand xs ext sh g r L t (n + 3) 6) (ho : RMor xs ext sh g r L t (n + 3) 6) (hcn : RMcon xs ext sh g r L t (n + 3) 6) (hL : tapM d L) (ht : t ≤ 4) : wp xs ext (n + 5) 161 0 [some (.ref 250), some (.int (nI t))] [] (sh, d, g, r) (lpost sh g r t d (habS L)) := by
  have h160 := hL.2.1
  have S1 := MS_open (t := t) hL ht
  have z1 := vf_open d t
  have ea : habS L = finS L [] (habL L (159 + 1) 0) := (fin_habS L).symm
  refine wp_aload_n (j := 0) rfl q161_ok d161_0 ?_
  refine wp_iload_n (j := 1) rfl q161_ok d161_1 ?_
  refine wp_cV q161_ok d161_2 ml_11_184 rfl q159_ok (u := 11) rfl (by first | assumption | exact so0 hsh rfl) rfl (Nat.le_of_ble_eq_true rfl) (Nat.le_of_ble_eq_true rfl) (r_open hsh hr ht) (fun v2 μ2 hc => ?_)
  obtain ⟨rfl, rfl⟩ := hc
  refine ⟨mm_le_same rfl, ?_⟩
  refine wp_aload_n (j := 0) rfl q161_ok d161_5 ?_
  refine wp_cV q161_ok d161_6 ml_11_187 rfl q158_ok (u := 11) rfl (by first | assumption | exact so0 hsh rfl) rfl (Nat.le_of_ble_eq_true rfl) (Nat.le_of_ble_eq_true rfl) (r_clause (i := 0) hsh hr hs hcm ha ho hcn S1 ((mm_up_at t).trans (if_pos rfl)) (by decide)) (fun v6 μ6 hc => ?_)
  obtain ⟨rfl, d3, rfl, z3, m3⟩ := hc
  refine ⟨mm_le_same rfl, ?_⟩
  cases e3 : clauS L 0 with
  | inl w =>
    rw [e3] at m3
    have hw3 := m3.1
    have hwl3 := m3.2
    rw [ea, fin_no _ e3]
    refine wp_aload_n (j := 0) rfl q161_ok d161_9 ?_
    refine wp_getI q161_ok d161_10 fl_11_120 rfl (by first | assumption | exact so0 hsh rfl) (by first | assumption | rfl) ?_
    refine wp_iconst (v := -1) (by decide) q161_ok d161_13 ?_
    refine wp_icmp_ne q161_ok d161_14 (t := 43) rfl (fun h14 => ?_) (fun h14 => ?_)
    · refine wp_aload_n (j := 0) rfl q161_ok d161_43 ?_
      refine wp_cV q161_ok d161_44 ml_11_190 rfl q160_ok (u := 11) rfl (by first | assumption | exact so0 hsh rfl) rfl (Nat.le_of_ble_eq_true rfl) (Nat.le_of_ble_eq_true rfl) (r_endw hsh hr hw3 (by omega)) (fun v44 μ44 hc => ?_)
      obtain ⟨rfl, rfl⟩ := hc
      refine ⟨mm_le_same rfl, ?_⟩
      refine wp_iret q161_ok d161_47 rfl ?_
      exact ⟨rfl, d3, rfl, vf_trans z1 (vf_zf z3), trivial⟩
    · have h14 := Classical.not_not.mp h14
      exact absurd h14 (nI_nm1 (by omega))
  | inr x =>
    rw [e3] at m3
    obtain ⟨m31, m32, m33, m34, m35⟩ := m3
    have hx := clauS_b3 (Nat.zero_le _) e3
    rw [ea, fin_step _ e3]
    have H := LSt_step (cl := []) (p := 0) (L := L) z3 (by show 2 * 0 + 1 ≤ _; omega) trivial m31 m32 m33 m34 m35
    exact wp_post (r_law_l hsh hr hs hcm ha ho hcn 159 d3 x.1 ([] ++ [x.2]) _ (by omega) H) (fun v μ hc => lp_trans (vf_trans z1 (vf_zf z3)) hc)
