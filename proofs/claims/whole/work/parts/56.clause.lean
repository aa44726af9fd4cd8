/-! ===== clauses, habits ===== -/
abbrev wo_C : Type := List Int32 × List Int32
def tailS (L : wo_P) (p : Nat) (t : List Int32) : Nat ⊕ (Nat × wo_C) := if bAt L (wsp L p) = 63 then (match sumK L 6 (wsp L p + 1) with
    | .inl w => .inl w
    | .inr y => .inr (y.1, (t, y.2))) else .inl (wsp L p)
def restS (L : wo_P) (p : Nat) : wo_R := thn (cmpS L 6 p) (fun q => thn (mulS L (unitK L 6) 38 (-13) 160 q) (mulS L (truS L (unitK L 6)) 124 (-12) 160))
def bodyS (L : wo_P) (q : Nat) : Nat ⊕ (Nat × wo_C) :=
  if bAt L q = 33 ∨ bAt L q = 40 then (match conS L (unitK L 6) q with
    | .inl w => .inl w
    | .inr x => tailS L x.1 x.2)
  else (match sumK L 6 q with
    | .inl w => .inl w
    | .inr x => if cmp (bAt L (wsp L x.1)) = -1 then .inr (wsp L x.1, ([], x.2))
      else (match restS L (wsp L x.1) with
        | .inl w => .inl w
        | .inr y => tailS L y.1 (x.2 ++ y.2)))
def clauS (L : wo_P) (p : Nat) : Nat ⊕ (Nat × wo_C) :=
  if bAt L (wsp L p) = 121 then (if bAt L (wsp L (wsp L p + 1)) = 58 then bodyS L (wsp L (wsp L (wsp L p + 1) + 1)) else .inl (wsp L (wsp L p + 1))) else .inl (wsp L p)
def linC (c : wo_C) : List Int32 := (if c.1 = [] then [] else c.1 ++ [-11]) ++ c.2
def cpost (sh : mm_S) (g : mm_G) (r : mm_R) (L : wo_P) (d : mm_D) (cs : List Int32) (res : Nat ⊕ (Nat × wo_C)) (v : Option Value) (μ : mm_M) : Prop := ∃ d2, μ = (sh, d2, g, r) ∧ hf d d2 ∧ (match res with | .inl w => v = some (.int 0) ∧ d2 3 2 = nI w | .inr x => v = some (.int 1) ∧ HS d2 L x.1 1 (cs ++ linC x.2))
theorem cp_fail {sh : mm_S} {g : mm_G} {r : mm_R} {L : wo_P} {d d2 : mm_D} {cs : List Int32} {res : Nat ⊕ (Nat × wo_C)} {w : Nat} (hf' : hf d d2) (e : res = .inl w) (hw : d2 3 2 = nI w) : cpost sh g r L d cs res (some (.int 0)) (sh, d2, g, r) := ⟨d2, rfl, hf', by rw [e]; exact ⟨rfl, hw⟩⟩
theorem cp_ok {sh : mm_S} {g : mm_G} {r : mm_R} {L : wo_P} {d d2 : mm_D} {q : Nat} {cs : List Int32} {c : wo_C} {res : Nat ⊕ (Nat × wo_C)} (hf' : hf d d2) (e : res = .inr (q, c)) (hS : HS d2 L q 1 (cs ++ linC c)) : cpost sh g r L d cs res (some (.int 1)) (sh, d2, g, r) := ⟨d2, rfl, hf', by rw [e]; exact ⟨rfl, hS⟩⟩
theorem HS_weak {d : mm_D} {L : wo_P} {p s s2 : Nat} {cs : List Int32} (h : HS d L p s cs) (hs : s2 ≤ s) : HS d L p s2 cs := ⟨h.1, h.2.1, by have := h.2.2.1; omega, h.2.2.2⟩
/-- what is read gives codes -/
theorem thn_ne {a : wo_R} {f : Nat → wo_R} {x : Nat × List Int32} (h : thn a f = .inr x) : ∃ y z, a = .inr y ∧ f y.1 = .inr z ∧ x = (z.1, y.2 ++ z.2) := by
  unfold thn at h
  cases ha : a with
  | inl w => rw [ha] at h; cases h
  | inr y =>
    rw [ha] at h
    cases hf : f y.1 with
    | inl w =>
      have h' : (match f y.1 with | .inl w => (.inl w : wo_R) | .inr z => .inr (z.1, y.2 ++ z.2)) = .inr x := h
      rw [hf] at h'
      cases h'
    | inr z =>
      have h' : (match f y.1 with | .inl w => (.inl w : wo_R) | .inr z => .inr (z.1, y.2 ++ z.2)) = .inr x := h
      rw [hf] at h'
      cases h'
      exact ⟨y, z, rfl, hf, rfl⟩
theorem thc_ne {a : wo_R} {c : Int32} {x : Nat × List Int32} (h : thc a c = .inr x) : ∃ y, a = .inr y ∧ x = (y.1, y.2 ++ [c]) := by
  unfold thc at h
  cases ha : a with
  | inl w => rw [ha] at h; cases h
  | inr y =>
    rw [ha] at h
    cases h
    exact ⟨y, rfl, rfl⟩
theorem cls_ne {L : wo_P} {a : wo_R} {s : Int32} {x : Nat × List Int32} (h : cls L a s = .inr x) : ∃ y, a = .inr y ∧ bAt L (wsp L y.1) = s ∧ x = (wsp L y.1 + 1, y.2) := by
  unfold cls at h
  cases ha : a with
  | inl w => rw [ha] at h; cases h
  | inr y =>
    rw [ha] at h
    by_cases q : bAt L (wsp L y.1) = s
    · have h' : (if bAt L (wsp L y.1) = s then (.inr (wsp L y.1 + 1, y.2) : wo_R) else .inl (wsp L y.1)) = .inr x := h
      rw [if_pos q] at h'
      cases h'
      exact ⟨y, rfl, q, rfl⟩
    · have h' : (if bAt L (wsp L y.1) = s then (.inr (wsp L y.1 + 1, y.2) : wo_R) else .inl (wsp L y.1)) = .inr x := h
      rw [if_neg q] at h'
      cases h'
theorem cmpS_ne {L : wo_P} {k p : Nat} {x : Nat × List Int32} (h : cmpS L k p = .inr x) : x.2 ≠ [] := by
  unfold cmpS at h
  by_cases q : cmp (bAt L (wsp L p)) = -1
  · rw [if_pos q] at h; cases h
  · rw [if_neg q] at h
    obtain ⟨y, _, rfl⟩ := thc_ne h
    simp
theorem unitK_ne {L : wo_P} : ∀ (k p : Nat) (x : Nat × List Int32), unitK L k p = .inr x → x.2 ≠ []
  | k, p, x, h => by
    unfold unitK unitS at h
    by_cases q1 : bAt L (wsp L p) = 33
    · rw [if_pos q1] at h
      cases k with
      | zero => cases h
      | succ k =>
        obtain ⟨y, _, rfl⟩ := thc_ne (show thc (unitK L k (wsp L p + 1)) (-14) = .inr x from h)
        simp
    · rw [if_neg q1] at h
      by_cases q2 : bAt L (wsp L p) = 40
      · rw [if_pos q2] at h
        cases k with
        | zero => cases h
        | succ k =>
          obtain ⟨y, hy, _, rfl⟩ := cls_ne (show cls L (conS L (unitK L k) (wsp L p + 1)) 41 = .inr x from h)
          obtain ⟨a, b, ha, _, rfl⟩ := thn_ne hy
          obtain ⟨c, e, hc, _, rfl⟩ := thn_ne ha
          have := unitK_ne k _ _ hc
          simp [this]
      · rw [if_neg q2] at h
        obtain ⟨y, z, _, hz, rfl⟩ := thn_ne h
        have := cmpS_ne hz
        simp [this]
theorem conS_ne {L : wo_P} {k p : Nat} {x : Nat × List Int32} (h : conS L (unitK L k) p = .inr x) : x.2 ≠ [] := by
  obtain ⟨a, b, ha, _, rfl⟩ := thn_ne h
  obtain ⟨c, e, hc, _, rfl⟩ := thn_ne ha
  have := unitK_ne k _ _ hc
  simp [this]
theorem restS_ne {L : wo_P} {p : Nat} {x : Nat × List Int32} (h : restS L p = .inr x) : x.2 ≠ [] := by
  obtain ⟨a, b, ha, _, rfl⟩ := thn_ne h
  have := cmpS_ne ha
  simp [this]
theorem lin_t {t s : List Int32} (h : t ≠ []) : linC (t, s) = t ++ ([-11] ++ s) := by
  unfold linC
  rw [if_neg h, List.append_assoc]
theorem lin_n (s : List Int32) : linC ([], s) = s := rfl
theorem c_tail {xs : List Int32} {ext : mm_X} {sh : mm_S} {g : mm_G} {r : mm_R} {L : wo_P} (hsh : shp sh) (hr : rfx r) {n : Nat} (hs : RDsum xs ext sh g r L (n + 2) 6) (d : mm_D) (q : Nat) (cs t : List Int32) (u w : Int32) (ht : t ≠ []) (hS : HS d L q 2 (cs ++ t)) : wp xs ext (n + 3) 12 129 [some (.ref 36), some (.int u), some (.int w)] [] (sh, d, g, r) (cpost sh g r L d cs (tailS L q t)) := by
  have hb3 := hb33 hsh hr
  have hg := hS.1
  have h160 := hg.1.2.1
  have hwl := wsp_le L hg.2.2
  have hwg := wsp_ge L q
  refine wp_aload_n (j := 0) rfl q12_ok d12_129 ?_
  refine wp_getR q12_ok d12_130 fl_1_15 rfl (by first | assumption | exact so0 hsh rfl) (by first | assumption | exact hr _ _ _ rfl) ?_
  refine wp_bipush (v := -11) (by decide) q12_ok d12_133 ?_
  refine wp_cV q12_ok d12_135 ml_1_37 rfl q5_ok (u := 0) rfl (by first | assumption | exact so0 hsh rfl) rfl (Nat.le_of_ble_eq_true rfl) (Nat.le_of_ble_eq_true rfl) (c_put hsh hr hb3 hS.2.1 (by have := hS.2.2.1; have := hg.2.2; omega) _) (fun v135 μ135 hc => ?_)
  obtain ⟨rfl, rfl⟩ := hc
  refine ⟨mm_le_same rfl, ?_⟩
  have hS3 := HS_put hS (-11)
  refine wp_aload_n (j := 0) rfl q12_ok d12_138 ?_
  refine wp_getR q12_ok d12_139 fl_1_9 rfl (by first | assumption | exact so0 hsh rfl) (by first | assumption | exact hr _ _ _ rfl) ?_
  refine wp_bipush (v := 63) (by decide) q12_ok d12_142 ?_
  refine wp_cV q12_ok d12_144 ml_1_52 rfl q38_ok (u := 4) rfl (by first | assumption | exact so0 hsh rfl) rfl (Nat.le_of_ble_eq_true rfl) (Nat.le_of_ble_eq_true rfl) (c_takes hsh hr hS3.1 63) (fun v144 μ144 hc => ?_)
  obtain ⟨t1, t2⟩ := hc
  refine ⟨(Decidable.byCases (p := bAt L (wsp L q) = 63) (fun q => by obtain ⟨_, d5, e5, _⟩ := t1 q; rw [e5]; exact mm_le_same rfl) (fun q => by obtain ⟨_, d5, e5, _⟩ := t2 q; rw [e5]; exact mm_le_same rfl)), ?_⟩
  by_cases hq : bAt L (wsp L q) = 63
  · obtain ⟨rfl, d5, rfl, f5, a5⟩ := t1 hq
    have hS5 := HS_sf (s2 := 1) hS3 f5 a5 (bAt_lt hq (by decide)) (show (cs ++ t ++ [-11]).length + 1 ≤ wsp L q + 1 by have := hS3.2.2.1; omega)
    refine wp_if_eq q12_ok d12_147 (t := 162) rfl (fun h147 => ?_) (fun h147 => ?_)
    · exact absurd h147 (by decide)
    · refine wp_aload_n (j := 0) rfl q12_ok d12_150 ?_
      refine wp_iconst (v := 0) (by decide) q12_ok d12_151 ?_
      refine wp_cV q12_ok d12_152 ml_1_58 rfl q21_ok (u := 1) rfl (by first | assumption | exact so0 hsh rfl) rfl (Nat.le_of_ble_eq_true rfl) (Nat.le_of_ble_eq_true rfl) (hs _ _ _ _ (Nat.le_refl 1) hS5) (fun v152 μ152 hc => ?_)
      obtain ⟨d6, rfl, f6, m6⟩ := hc
      refine ⟨mm_le_same rfl, ?_⟩
      cases e6 : sumK L 6 (wsp L q + 1) with
      | inl w =>
        rw [e6] at m6
        obtain ⟨rfl, m6⟩ := m6
        refine wp_if_eq q12_ok d12_155 (t := 162) rfl (fun h155 => ?_) (fun h155 => ?_)
        · refine wp_iconst (v := 0) (by decide) q12_ok d12_162 ?_
          refine wp_zret q12_ok d12_163 rfl (by first | assumption | exact Or.inl rfl | exact Or.inr rfl) ?_
          exact cp_fail (hf_trans (hf_trans (hf_put _ _ _ _) (hf_sf f5)) f6) (show tailS L q t = .inl w from by unfold tailS; rw [if_pos hq, e6]) m6
        · exact absurd rfl h155
      | inr y =>
        rw [e6] at m6
        obtain ⟨rfl, m6⟩ := m6
        refine wp_if_eq q12_ok d12_155 (t := 162) rfl (fun h155 => ?_) (fun h155 => ?_)
        · exact absurd h155 (by decide)
        · refine wp_iconst (v := 1) (by decide) q12_ok d12_158 ?_
          refine wp_goto (t := 163) rfl q12_ok d12_159 ?_
          refine wp_zret q12_ok d12_163 rfl (by first | assumption | exact Or.inl rfl | exact Or.inr rfl) ?_
          exact cp_ok (hf_trans (hf_trans (hf_put _ _ _ _) (hf_sf f5)) f6) (show tailS L q t = .inr (y.1, (t, y.2)) from by unfold tailS; rw [if_pos hq, e6]) (by rw [lin_t ht, ← List.append_assoc, ← List.append_assoc]; exact m6)
  · obtain ⟨rfl, d5, rfl, f5, a5⟩ := t2 hq
    refine wp_if_eq q12_ok d12_147 (t := 162) rfl (fun h147 => ?_) (fun h147 => ?_)
    · refine wp_iconst (v := 0) (by decide) q12_ok d12_162 ?_
      refine wp_zret q12_ok d12_163 rfl (by first | assumption | exact Or.inl rfl | exact Or.inr rfl) ?_
      exact cp_fail (hf_trans (hf_put _ _ _ _) (hf_sf f5)) (show tailS L q t = .inl (wsp L q) from if_neg hq) a5
    · exact absurd rfl h147
theorem cp_trans {sh : mm_S} {g : mm_G} {r : mm_R} {L : wo_P} {d d1 : mm_D} {cs : List Int32} {res : Nat ⊕ (Nat × wo_C)} {v : Option Value} {μ : mm_M} (hf' : hf d d1) (h : cpost sh g r L d1 cs res v μ) : cpost sh g r L d cs res v μ := by
  obtain ⟨d2, rfl, h1, h2⟩ := h
  exact ⟨d2, rfl, hf_trans hf' h1, h2⟩
section
variable {xs : List Int32} {ext : mm_X} {sh : mm_S} {g : mm_G} {r : mm_R} {L : wo_P}
theorem rd_sum6 (hsh : shp sh) (hr : rfx r) {m : Nat} (hm : 23 ≤ m) : RDsum xs ext sh g r L m 6 := by
  have := c_sums (xs := xs) (ext := ext) (g := g) (L := L) hsh hr 6 (m - 23) (by decide)
  rw [show m - 23 + (3 * 6 + 5) = m by omega] at this
  exact this
theorem rd_cmp6 (hsh : shp sh) (hr : rfx r) {m : Nat} (hm : 24 ≤ m) : RDcmp xs ext sh g r L m 6 := by
  have := c_cmpR hsh hr (rd_sum6 (xs := xs) (ext := ext) (g := g) (L := L) hsh hr (m := m - 1) (by omega))
  rw [show m - 1 + 1 = m by omega] at this
  exact this
theorem rd_unit6 (hsh : shp sh) (hr : rfx r) {m : Nat} (hm : 42 ≤ m) : RDunit xs ext sh g r L m 6 := by
  have := c_units (xs := xs) (ext := ext) (g := g) (L := L) hsh hr 6 (m - 42) (by decide)
  rw [show m - 42 + (5 * 6 + 12) = m by omega] at this
  exact this
theorem rd_mu6 (hsh : shp sh) (hr : rfx r) {m : Nat} (hm : 43 ≤ m) : RDmu xs ext sh g r L m 6 := by
  have := c_mu (n := m - 2) hsh hr (rd_unit6 (xs := xs) (ext := ext) (g := g) (L := L) hsh hr (m := m - 2 + 1) (by omega))
  rw [show m - 2 + 2 = m by omega] at this
  exact this
theorem rd_tru6 (hsh : shp sh) (hr : rfx r) {m : Nat} (hm : 44 ≤ m) : RDtru xs ext sh g r L m 6 := by
  have := c_tru (n := m - 1) hsh hr (rd_unit6 (xs := xs) (ext := ext) (g := g) (L := L) hsh hr (by omega)) (rd_mu6 hsh hr (by omega))
  rw [show m - 1 + 1 = m by omega] at this
  exact this
theorem rd_mt6 (hsh : shp sh) (hr : rfx r) {m : Nat} (hm : 45 ≤ m) : RDmt xs ext sh g r L m 6 := by
  have := c_mt (n := m - 2) hsh hr (rd_tru6 (xs := xs) (ext := ext) (g := g) (L := L) hsh hr (m := m - 2 + 1) (by omega))
  rw [show m - 2 + 2 = m by omega] at this
  exact this
theorem rd_con6 (hsh : shp sh) (hr : rfx r) {m : Nat} (hm : 46 ≤ m) : RDcon xs ext sh g r L m 6 := by
  have := c_con (n := m - 1) hsh hr (rd_tru6 (xs := xs) (ext := ext) (g := g) (L := L) hsh hr (by omega)) (rd_mt6 hsh hr (by omega))
  rw [show m - 1 + 1 = m by omega] at this
  exact this
end
theorem c_clause {xs : List Int32} {ext : mm_X} {sh : mm_S} {g : mm_G} {r : mm_R} {L : wo_P} (hsh : shp sh) (hr : rfx r) {n : Nat} (d : mm_D) (p : Nat) (cs : List Int32) (hS : HS d L p 0 cs) : wp xs ext (n + 60) 12 0 [some (.ref 36), none, none] [] (sh, d, g, r) (cpost sh g r L d cs (clauS L p)) := by
  have hg := hS.1
  have h160 := hg.1.2.1
  have hwl := wsp_le L hg.2.2
  have hwg := wsp_ge L p
  have hcp := hS.2.2.1
  refine wp_aload_n (j := 0) rfl q12_ok d12_0 ?_
  refine wp_getR q12_ok d12_1 fl_1_9 rfl (by first | assumption | exact so0 hsh rfl) (by first | assumption | exact hr _ _ _ rfl) ?_
  refine wp_bipush (v := 121) (by decide) q12_ok d12_4 ?_
  refine wp_cV q12_ok d12_6 ml_1_52 rfl q38_ok (u := 4) rfl (by first | assumption | exact so0 hsh rfl) rfl (Nat.le_of_ble_eq_true rfl) (Nat.le_of_ble_eq_true rfl) (c_takes hsh hr hg 121) (fun v6 μ6 hc => ?_)
  obtain ⟨t1, t2⟩ := hc
  refine ⟨(Decidable.byCases (p := bAt L (wsp L p) = 121) (fun q => by obtain ⟨_, d5, e5, _⟩ := t1 q; rw [e5]; exact mm_le_same rfl) (fun q => by obtain ⟨_, d5, e5, _⟩ := t2 q; rw [e5]; exact mm_le_same rfl)), ?_⟩
  by_cases c1 : bAt L (wsp L p) = 121
  · obtain ⟨rfl, d1, rfl, f1, a1⟩ := t1 c1
    have hS1 := HS_sf (s2 := 1) hS f1 a1 (bAt_lt c1 (by decide)) (show cs.length + 1 ≤ wsp L p + 1 by omega)
    have hl1 := wsp_le L hS1.1.2.2
    have hg1 := wsp_ge L (wsp L p + 1)
    refine wp_if_eq q12_ok d12_9 (t := 24) rfl (fun h9 => ?_) (fun h9 => ?_)
    · exact absurd h9 (by decide)
    · refine wp_aload_n (j := 0) rfl q12_ok d12_12 ?_
      refine wp_getR q12_ok d12_13 fl_1_9 rfl (by first | assumption | exact so0 hsh rfl) (by first | assumption | exact hr _ _ _ rfl) ?_
      refine wp_bipush (v := 58) (by decide) q12_ok d12_16 ?_
      refine wp_cV q12_ok d12_18 ml_1_52 rfl q38_ok (u := 4) rfl (by first | assumption | exact so0 hsh rfl) rfl (Nat.le_of_ble_eq_true rfl) (Nat.le_of_ble_eq_true rfl) (c_takes hsh hr hS1.1 58) (fun v18 μ18 hc => ?_)
      obtain ⟨u1, u2⟩ := hc
      refine ⟨(Decidable.byCases (p := bAt L (wsp L (wsp L p + 1)) = 58) (fun q => by obtain ⟨_, d5, e5, _⟩ := u1 q; rw [e5]; exact mm_le_same rfl) (fun q => by obtain ⟨_, d5, e5, _⟩ := u2 q; rw [e5]; exact mm_le_same rfl)), ?_⟩
      by_cases c2 : bAt L (wsp L (wsp L p + 1)) = 58
      · obtain ⟨rfl, d2, rfl, f2, a2⟩ := u1 c2
        have hSB := HS_sf (s2 := 2) hS1 f2 a2 (bAt_lt c2 (by decide)) (show cs.length + 2 ≤ wsp L (wsp L p + 1) + 1 by omega)
        have hfB : hf d d2 := hf_sf (sf_trans f1 f2)
        have ecl : clauS L p = bodyS L (wsp L (wsp L (wsp L p + 1) + 1)) := by unfold clauS; rw [if_pos c1, if_pos c2]
        refine wp_if_ne q12_ok d12_21 (t := 26) rfl (fun h21 => ?_) (fun h21 => ?_)
        · have hgB := hSB.1
          have hlB := wsp_le L hgB.2.2
          have hgeB := wsp_ge L (wsp L (wsp L p + 1) + 1)
          refine wp_aload_n (j := 0) rfl q12_ok d12_26 ?_
          refine wp_getR q12_ok d12_27 fl_1_9 rfl (by first | assumption | exact so0 hsh rfl) (by first | assumption | exact hr _ _ _ rfl) ?_
          refine wp_cV q12_ok d12_30 ml_1_45 rfl q35_ok (u := 4) rfl (by first | assumption | exact so0 hsh rfl) rfl (Nat.le_of_ble_eq_true rfl) (Nat.le_of_ble_eq_true rfl) (c_peek hsh hr hgB) (fun v30 μ30 hc => ?_)
          obtain ⟨rfl, d4, rfl, f4, a4, w4⟩ := hc
          refine ⟨mm_le_same rfl, ?_⟩
          have hS3 := HS_sf (s2 := 2) hSB f4 a4 hlB (show cs.length + 2 ≤ wsp L (wsp L (wsp L p + 1) + 1) by omega)
          refine wp_istore_n (j := 1) (Nat.le_of_ble_eq_true rfl) (rfl : _ = [_, _, _]) q12_ok d12_33 ?_
          refine wp_iload_n (j := 1) rfl q12_ok d12_34 ?_
          refine wp_bipush (v := 33) (by decide) q12_ok d12_35 ?_
          refine wp_icmp_eq q12_ok d12_37 (t := 46) rfl (fun h37 => ?_) (fun h37 => ?_)
          · have hqc : bAt L (wsp L (wsp L (wsp L p + 1) + 1)) = 33 ∨ bAt L (wsp L (wsp L (wsp L p + 1) + 1)) = 40 := Or.inl h37
            refine wp_iconst (v := 1) (by decide) q12_ok d12_46 ?_
            refine wp_goto (t := 51) rfl q12_ok d12_47 ?_
            refine wp_istore_n (j := 2) (Nat.le_of_ble_eq_true rfl) (rfl : _ = [_, _, _]) q12_ok d12_51 ?_
            refine wp_iload_n (j := 2) rfl q12_ok d12_52 ?_
            refine wp_if_eq q12_ok d12_53 (t := 67) rfl (fun h53 => ?_) (fun h53 => ?_)
            · exact absurd h53 (by decide)
            · refine wp_aload_n (j := 0) rfl q12_ok d12_56 ?_
              refine wp_iconst (v := 0) (by decide) q12_ok d12_57 ?_
              refine wp_cV q12_ok d12_58 ml_1_55 rfl q13_ok (u := 1) rfl (by first | assumption | exact so0 hsh rfl) rfl (Nat.le_of_ble_eq_true rfl) (Nat.le_of_ble_eq_true rfl) (rd_con6 hsh hr (by omega) _ _ _ _ (by decide) hS3) (fun v58 μ58 hc => ?_)
              obtain ⟨d6, rfl, f6, m6⟩ := hc
              refine ⟨mm_le_same rfl, ?_⟩
              cases e6 : conS L (unitK L 6) (wsp L (wsp L (wsp L p + 1) + 1)) with
              | inl w =>
                rw [e6] at m6
                obtain ⟨rfl, m6⟩ := m6
                refine wp_if_ne q12_ok d12_61 (t := 77) rfl (fun h61 => ?_) (fun h61 => ?_)
                · exact absurd rfl h61
                · have h61 := Classical.not_not.mp h61
                  refine wp_goto (t := 75) rfl q12_ok d12_64 ?_
                  refine wp_iconst (v := 0) (by decide) q12_ok d12_75 ?_
                  refine wp_zret q12_ok d12_76 rfl (by first | assumption | exact Or.inl rfl | exact Or.inr rfl) ?_
                  exact cp_fail (hf_trans hfB (hf_trans (hf_sf f4) f6)) (ecl.trans (show bodyS L (wsp L (wsp L (wsp L p + 1) + 1)) = .inl w from by unfold bodyS; rw [if_pos hqc, e6])) m6
              | inr x =>
                rw [e6] at m6
                obtain ⟨rfl, m6⟩ := m6
                refine wp_if_ne q12_ok d12_61 (t := 77) rfl (fun h61 => ?_) (fun h61 => ?_)
                · refine wp_iload_n (j := 2) rfl q12_ok d12_77 ?_
                  refine wp_if_ne q12_ok d12_78 (t := 123) rfl (fun h78 => ?_) (fun h78 => ?_)
                  · refine wp_iload_n (j := 2) rfl q12_ok d12_123 ?_
                    refine wp_if_ne q12_ok d12_124 (t := 129) rfl (fun h124 => ?_) (fun h124 => ?_)
                    · have eb : clauS L p = tailS L x.1 x.2 := ecl.trans (show bodyS L (wsp L (wsp L (wsp L p + 1) + 1)) = tailS L x.1 x.2 from by unfold bodyS; rw [if_pos hqc, e6])
                      refine wp_post (c_tail (n := n + 57) hsh hr (rd_sum6 hsh hr (by omega)) _ _ cs (x.2) _ _ (conS_ne e6) m6) (fun v μ hc => ?_)
                      rw [eb]
                      exact cp_trans (hf_trans hfB (hf_trans (hf_sf f4) f6)) hc
                    · have h124 := Classical.not_not.mp h124
                      exact absurd h124 (by decide)
                  · have h78 := Classical.not_not.mp h78
                    exact absurd h78 (by decide)
                · have h61 := Classical.not_not.mp h61
                  exact absurd h61 (by decide)
          · refine wp_iload_n (j := 1) rfl q12_ok d12_40 ?_
            refine wp_bipush (v := 40) (by decide) q12_ok d12_41 ?_
            refine wp_icmp_ne q12_ok d12_43 (t := 50) rfl (fun h43 => ?_) (fun h43 => ?_)
            · have hqc : ¬ (bAt L (wsp L (wsp L (wsp L p + 1) + 1)) = 33 ∨ bAt L (wsp L (wsp L (wsp L p + 1) + 1)) = 40) := fun q => q.elim h37 h43
              refine wp_iconst (v := 0) (by decide) q12_ok d12_50 ?_
              refine wp_istore_n (j := 2) (Nat.le_of_ble_eq_true rfl) (rfl : _ = [_, _, _]) q12_ok d12_51 ?_
              refine wp_iload_n (j := 2) rfl q12_ok d12_52 ?_
              refine wp_if_eq q12_ok d12_53 (t := 67) rfl (fun h53 => ?_) (fun h53 => ?_)
              · refine wp_aload_n (j := 0) rfl q12_ok d12_67 ?_
                refine wp_iconst (v := 0) (by decide) q12_ok d12_68 ?_
                refine wp_cV q12_ok d12_69 ml_1_58 rfl q21_ok (u := 1) rfl (by first | assumption | exact so0 hsh rfl) rfl (Nat.le_of_ble_eq_true rfl) (Nat.le_of_ble_eq_true rfl) (rd_sum6 hsh hr (by omega) _ _ _ _ (by decide) hS3) (fun v69 μ69 hc => ?_)
                obtain ⟨d6, rfl, f6, m6⟩ := hc
                refine ⟨mm_le_same rfl, ?_⟩
                cases e6 : sumK L 6 (wsp L (wsp L (wsp L p + 1) + 1)) with
                | inl w =>
                  rw [e6] at m6
                  obtain ⟨rfl, m6⟩ := m6
                  refine wp_if_ne q12_ok d12_72 (t := 77) rfl (fun h72 => ?_) (fun h72 => ?_)
                  · exact absurd rfl h72
                  · have h72 := Classical.not_not.mp h72
                    refine wp_iconst (v := 0) (by decide) q12_ok d12_75 ?_
                    refine wp_zret q12_ok d12_76 rfl (by first | assumption | exact Or.inl rfl | exact Or.inr rfl) ?_
                    exact cp_fail (hf_trans hfB (hf_trans (hf_sf f4) f6)) (ecl.trans (show bodyS L (wsp L (wsp L (wsp L p + 1) + 1)) = .inl w from by unfold bodyS; rw [if_neg hqc, e6])) m6
                | inr x =>
                  rw [e6] at m6
                  obtain ⟨rfl, m6⟩ := m6
                  have hx1 := m6.1.2.2
                  have hxl := wsp_le L hx1
                  have hxg := wsp_ge L x.1
                  have hxc := m6.2.2.1
                  have ebd : ∀ z, (if cmp (bAt L (wsp L x.1)) = -1 then .inr (wsp L x.1, (([] : List Int32), x.2)) else (match restS L (wsp L x.1) with | .inl w => .inl w | .inr y => tailS L y.1 (x.2 ++ y.2))) = z → clauS L p = z := fun z hz => ecl.trans (show bodyS L (wsp L (wsp L (wsp L p + 1) + 1)) = z from by unfold bodyS; rw [if_neg hqc, e6]; exact hz)
                  refine wp_if_ne q12_ok d12_72 (t := 77) rfl (fun h72 => ?_) (fun h72 => ?_)
                  · refine wp_iload_n (j := 2) rfl q12_ok d12_77 ?_
                    refine wp_if_ne q12_ok d12_78 (t := 123) rfl (fun h78 => ?_) (fun h78 => ?_)
                    · exact absurd rfl h78
                    · have h78 := Classical.not_not.mp h78
                      refine wp_aload_n (j := 0) rfl q12_ok d12_81 ?_
                      refine wp_getR q12_ok d12_82 fl_1_9 rfl (by first | assumption | exact so0 hsh rfl) (by first | assumption | exact hr _ _ _ rfl) ?_
                      refine wp_cV q12_ok d12_85 ml_1_45 rfl q35_ok (u := 4) rfl (by first | assumption | exact so0 hsh rfl) rfl (Nat.le_of_ble_eq_true rfl) (Nat.le_of_ble_eq_true rfl) (c_peek hsh hr m6.1) (fun v85 μ85 hc => ?_)
                      obtain ⟨rfl, d7, rfl, f7, a7, w7⟩ := hc
                      refine ⟨mm_le_same rfl, ?_⟩
                      have hS7 := HS_sf (s2 := 2) m6 f7 a7 hxl (show (cs ++ x.2).length + 2 ≤ wsp L x.1 by omega)
                      refine wp_cS q12_ok d12_88 ml_1_61 rfl q20_ok rfl rfl rfl (Nat.le_of_ble_eq_true rfl) (Nat.le_of_ble_eq_true rfl) (c_cmp _) (fun v88 μ88 hc => ?_)
                      obtain ⟨rfl, rfl⟩ := hc
                      refine ⟨mm_le_same rfl, ?_⟩
                      refine wp_iconst (v := -1) (by decide) q12_ok d12_91 ?_
                      refine wp_icmp_eq q12_ok d12_92 (t := 123) rfl (fun h92 => ?_) (fun h92 => ?_)
                      · refine wp_iload_n (j := 2) rfl q12_ok d12_123 ?_
                        refine wp_if_ne q12_ok d12_124 (t := 129) rfl (fun h124 => ?_) (fun h124 => ?_)
                        · exact absurd rfl h124
                        · have h124 := Classical.not_not.mp h124
                          refine wp_iconst (v := 1) (by decide) q12_ok d12_127 ?_
                          refine wp_zret q12_ok d12_128 rfl (by first | assumption | exact Or.inl rfl | exact Or.inr rfl) ?_
                          exact cp_ok (hf_trans hfB (hf_trans (hf_sf f4) (hf_trans f6 (hf_sf f7)))) (ebd _ (if_pos (show cmp (bAt L (wsp L x.1)) = -1 from h92))) (HS_weak (by rw [lin_n]; exact hS7) (by decide))
                      · have hne : ¬ cmp (bAt L (wsp L x.1)) = -1 := h92
                        refine wp_iconst (v := 1) (by decide) q12_ok d12_95 ?_
                        refine wp_istore_n (j := 2) (Nat.le_of_ble_eq_true rfl) (rfl : _ = [_, _, _]) q12_ok d12_96 ?_
                        refine wp_aload_n (j := 0) rfl q12_ok d12_97 ?_
                        refine wp_iconst (v := 0) (by decide) q12_ok d12_98 ?_
                        refine wp_cV q12_ok d12_99 ml_1_65 rfl q19_ok (u := 1) rfl (by first | assumption | exact so0 hsh rfl) rfl (Nat.le_of_ble_eq_true rfl) (Nat.le_of_ble_eq_true rfl) (rd_cmp6 hsh hr (by omega) _ _ _ _ (by decide) hS7) (fun v99 μ99 hc => ?_)
                        obtain ⟨d8, rfl, f8, m8⟩ := hc
                        refine ⟨mm_le_same rfl, ?_⟩
                        cases e8 : cmpS L 6 (wsp L x.1) with
                        | inl w =>
                          rw [e8] at m8
                          obtain ⟨rfl, m8⟩ := m8
                          refine wp_if_eq q12_ok d12_102 (t := 121) rfl (fun h102 => ?_) (fun h102 => ?_)
                          · refine wp_iconst (v := 0) (by decide) q12_ok d12_121 ?_
                            refine wp_zret q12_ok d12_122 rfl (by first | assumption | exact Or.inl rfl | exact Or.inr rfl) ?_
                            exact cp_fail (hf_trans hfB (hf_trans (hf_sf f4) (hf_trans f6 (hf_trans (hf_sf f7) f8)))) (ebd _ (by rw [if_neg hne]; unfold restS; rw [thn_inl e8])) m8
                          · exact absurd rfl h102
                        | inr y =>
                          rw [e8] at m8
                          obtain ⟨rfl, m8⟩ := m8
                          refine wp_if_eq q12_ok d12_102 (t := 121) rfl (fun h102 => ?_) (fun h102 => ?_)
                          · exact absurd h102 (by decide)
                          · refine wp_aload_n (j := 0) rfl q12_ok d12_105 ?_
                            refine wp_iconst (v := 0) (by decide) q12_ok d12_106 ?_
                            refine wp_cV q12_ok d12_107 ml_1_68 rfl q16_ok (u := 1) rfl (by first | assumption | exact so0 hsh rfl) rfl (Nat.le_of_ble_eq_true rfl) (Nat.le_of_ble_eq_true rfl) (rd_mu6 hsh hr (by omega) _ _ _ _ (by decide) m8) (fun v107 μ107 hc => ?_)
                            obtain ⟨d9, rfl, f9, m9⟩ := hc
                            refine ⟨mm_le_same rfl, ?_⟩
                            cases e9 : mulS L (unitK L 6) 38 (-13) 160 y.1 with
                            | inl w =>
                              rw [e9] at m9
                              obtain ⟨rfl, m9⟩ := m9
                              refine wp_if_eq q12_ok d12_110 (t := 121) rfl (fun h110 => ?_) (fun h110 => ?_)
                              · refine wp_iconst (v := 0) (by decide) q12_ok d12_121 ?_
                                refine wp_zret q12_ok d12_122 rfl (by first | assumption | exact Or.inl rfl | exact Or.inr rfl) ?_
                                exact cp_fail (hf_trans hfB (hf_trans (hf_sf f4) (hf_trans f6 (hf_trans (hf_sf f7) (hf_trans f8 f9))))) (ebd _ (by rw [if_neg hne]; unfold restS thn; rw [e8]; dsimp only; rw [e9])) m9
                              · exact absurd rfl h110
                            | inr z =>
                              rw [e9] at m9
                              obtain ⟨rfl, m9⟩ := m9
                              refine wp_if_eq q12_ok d12_110 (t := 121) rfl (fun h110 => ?_) (fun h110 => ?_)
                              · exact absurd h110 (by decide)
                              · refine wp_aload_n (j := 0) rfl q12_ok d12_113 ?_
                                refine wp_iconst (v := 0) (by decide) q12_ok d12_114 ?_
                                refine wp_cV q12_ok d12_115 ml_1_71 rfl q14_ok (u := 1) rfl (by first | assumption | exact so0 hsh rfl) rfl (Nat.le_of_ble_eq_true rfl) (Nat.le_of_ble_eq_true rfl) (rd_mt6 hsh hr (by omega) _ _ _ _ (by decide) m9) (fun v115 μ115 hc => ?_)
                                obtain ⟨d10, rfl, f10, m10⟩ := hc
                                refine ⟨mm_le_same rfl, ?_⟩
                                cases e10 : mulS L (truS L (unitK L 6)) 124 (-12) 160 z.1 with
                                | inl w =>
                                  rw [e10] at m10
                                  obtain ⟨rfl, m10⟩ := m10
                                  refine wp_if_ne q12_ok d12_118 (t := 123) rfl (fun h118 => ?_) (fun h118 => ?_)
                                  · exact absurd rfl h118
                                  · have h118 := Classical.not_not.mp h118
                                    refine wp_iconst (v := 0) (by decide) q12_ok d12_121 ?_
                                    refine wp_zret q12_ok d12_122 rfl (by first | assumption | exact Or.inl rfl | exact Or.inr rfl) ?_
                                    exact cp_fail (hf_trans hfB (hf_trans (hf_sf f4) (hf_trans f6 (hf_trans (hf_sf f7) (hf_trans f8 (hf_trans f9 f10)))))) (ebd _ (by rw [if_neg hne]; unfold restS thn; rw [e8]; dsimp only; rw [e9]; dsimp only; rw [e10])) m10
                                | inr u =>
                                  rw [e10] at m10
                                  obtain ⟨rfl, m10⟩ := m10
                                  refine wp_if_ne q12_ok d12_118 (t := 123) rfl (fun h118 => ?_) (fun h118 => ?_)
                                  · refine wp_iload_n (j := 2) rfl q12_ok d12_123 ?_
                                    refine wp_if_ne q12_ok d12_124 (t := 129) rfl (fun h124 => ?_) (fun h124 => ?_)
                                    · have er : restS L (wsp L x.1) = .inr (u.1, y.2 ++ (z.2 ++ u.2)) := by unfold restS thn; rw [e8]; dsimp only; rw [e9]; dsimp only; rw [e10]
                                      have eb : clauS L p = tailS L u.1 (x.2 ++ (y.2 ++ (z.2 ++ u.2))) := ebd _ (by rw [if_neg hne, er])
                                      have hSu : HS d10 L u.1 2 (cs ++ (x.2 ++ (y.2 ++ (z.2 ++ u.2)))) := by rw [← List.append_assoc, ← List.append_assoc, ← List.append_assoc]; exact m10
                                      refine wp_post (c_tail (n := n + 57) hsh hr (rd_sum6 hsh hr (by omega)) _ _ cs (x.2 ++ (y.2 ++ (z.2 ++ u.2))) _ _ (by have := restS_ne er; intro w; exact this (List.append_eq_nil_iff.mp w).2) hSu) (fun v μ hc => ?_)
                                      rw [eb]
                                      exact cp_trans (hf_trans hfB (hf_trans (hf_sf f4) (hf_trans f6 (hf_trans (hf_sf f7) (hf_trans f8 (hf_trans f9 f10)))))) hc
                                    · have h124 := Classical.not_not.mp h124
                                      exact absurd h124 (by decide)
                                  · have h118 := Classical.not_not.mp h118
                                    exact absurd h118 (by decide)
                  · have h72 := Classical.not_not.mp h72
                    exact absurd h72 (by decide)
              · exact absurd rfl h53
            · have h43 := Classical.not_not.mp h43
              have hqc : bAt L (wsp L (wsp L (wsp L p + 1) + 1)) = 33 ∨ bAt L (wsp L (wsp L (wsp L p + 1) + 1)) = 40 := Or.inr h43
              refine wp_iconst (v := 1) (by decide) q12_ok d12_46 ?_
              refine wp_goto (t := 51) rfl q12_ok d12_47 ?_
              refine wp_istore_n (j := 2) (Nat.le_of_ble_eq_true rfl) (rfl : _ = [_, _, _]) q12_ok d12_51 ?_
              refine wp_iload_n (j := 2) rfl q12_ok d12_52 ?_
              refine wp_if_eq q12_ok d12_53 (t := 67) rfl (fun h53 => ?_) (fun h53 => ?_)
              · exact absurd h53 (by decide)
              · refine wp_aload_n (j := 0) rfl q12_ok d12_56 ?_
                refine wp_iconst (v := 0) (by decide) q12_ok d12_57 ?_
                refine wp_cV q12_ok d12_58 ml_1_55 rfl q13_ok (u := 1) rfl (by first | assumption | exact so0 hsh rfl) rfl (Nat.le_of_ble_eq_true rfl) (Nat.le_of_ble_eq_true rfl) (rd_con6 hsh hr (by omega) _ _ _ _ (by decide) hS3) (fun v58 μ58 hc => ?_)
                obtain ⟨d6, rfl, f6, m6⟩ := hc
                refine ⟨mm_le_same rfl, ?_⟩
                cases e6 : conS L (unitK L 6) (wsp L (wsp L (wsp L p + 1) + 1)) with
                | inl w =>
                  rw [e6] at m6
                  obtain ⟨rfl, m6⟩ := m6
                  refine wp_if_ne q12_ok d12_61 (t := 77) rfl (fun h61 => ?_) (fun h61 => ?_)
                  · exact absurd rfl h61
                  · have h61 := Classical.not_not.mp h61
                    refine wp_goto (t := 75) rfl q12_ok d12_64 ?_
                    refine wp_iconst (v := 0) (by decide) q12_ok d12_75 ?_
                    refine wp_zret q12_ok d12_76 rfl (by first | assumption | exact Or.inl rfl | exact Or.inr rfl) ?_
                    exact cp_fail (hf_trans hfB (hf_trans (hf_sf f4) f6)) (ecl.trans (show bodyS L (wsp L (wsp L (wsp L p + 1) + 1)) = .inl w from by unfold bodyS; rw [if_pos hqc, e6])) m6
                | inr x =>
                  rw [e6] at m6
                  obtain ⟨rfl, m6⟩ := m6
                  refine wp_if_ne q12_ok d12_61 (t := 77) rfl (fun h61 => ?_) (fun h61 => ?_)
                  · refine wp_iload_n (j := 2) rfl q12_ok d12_77 ?_
                    refine wp_if_ne q12_ok d12_78 (t := 123) rfl (fun h78 => ?_) (fun h78 => ?_)
                    · refine wp_iload_n (j := 2) rfl q12_ok d12_123 ?_
                      refine wp_if_ne q12_ok d12_124 (t := 129) rfl (fun h124 => ?_) (fun h124 => ?_)
                      · have eb : clauS L p = tailS L x.1 x.2 := ecl.trans (show bodyS L (wsp L (wsp L (wsp L p + 1) + 1)) = tailS L x.1 x.2 from by unfold bodyS; rw [if_pos hqc, e6])
                        refine wp_post (c_tail (n := n + 57) hsh hr (rd_sum6 hsh hr (by omega)) _ _ cs (x.2) _ _ (conS_ne e6) m6) (fun v μ hc => ?_)
                        rw [eb]
                        exact cp_trans (hf_trans hfB (hf_trans (hf_sf f4) f6)) hc
                      · have h124 := Classical.not_not.mp h124
                        exact absurd h124 (by decide)
                    · have h78 := Classical.not_not.mp h78
                      exact absurd h78 (by decide)
                  · have h61 := Classical.not_not.mp h61
                    exact absurd h61 (by decide)
        · have h21 := Classical.not_not.mp h21
          exact absurd h21 (by decide)
      · obtain ⟨rfl, d2, rfl, f2, a2⟩ := u2 c2
        refine wp_if_ne q12_ok d12_21 (t := 26) rfl (fun h21 => ?_) (fun h21 => ?_)
        · exact absurd rfl h21
        · have h21 := Classical.not_not.mp h21
          refine wp_iconst (v := 0) (by decide) q12_ok d12_24 ?_
          refine wp_zret q12_ok d12_25 rfl (by first | assumption | exact Or.inl rfl | exact Or.inr rfl) ?_
          exact cp_fail (hf_sf (sf_trans f1 f2)) (show clauS L p = .inl (wsp L (wsp L p + 1)) from by unfold clauS; rw [if_pos c1, if_neg c2]) a2
  · obtain ⟨rfl, d1, rfl, f1, a1⟩ := t2 c1
    refine wp_if_eq q12_ok d12_9 (t := 24) rfl (fun h9 => ?_) (fun h9 => ?_)
    · refine wp_iconst (v := 0) (by decide) q12_ok d12_24 ?_
      refine wp_zret q12_ok d12_25 rfl (by first | assumption | exact Or.inl rfl | exact Or.inr rfl) ?_
      exact cp_fail (hf_sf f1) (show clauS L p = .inl (wsp L p) from if_neg c1) a1
    · exact absurd rfl h9
