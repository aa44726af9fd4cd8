/-! ===== who looks ===== -/
theorem wrF_l {c l l' : Nat → Int32} (h : ∀ j, j < 6 → l j = l' j) : ∀ (m a : Nat) (y : Nat → Int32) (top : Nat) (p : Int32), wrF c l m a y top p = wrF c l' m a y top p := by
  intro m
  induction m with
  | zero => intros; rfl
  | succ m ih =>
    intro a y top p
    by_cases hx : -2 - c a < 0 ∨ 6 ≤ -2 - c a
    · simp only [wrF, ih, if_pos hx]
    · have hb := (ixn_of (fun q => hx (Or.inl q)) (fun q => hx (Or.inr q))).2.2
      simp only [wrF, ih, if_neg hx, h _ hb]
def lenC (d : mm_D) (h : Nat) : Nat := (d h 2).toNatClampNeg
/-- a habit: its length, and what it stands for hangs on no old number of its pile -/
def okH (d : mm_D) (h : Nat) : Prop := ∃ len, d h 2 = nI len ∧ len ≤ 160 ∧ ∀ L y y', wrF (d (h + 1)) L len 0 y 0 0 = wrF (d (h + 1)) L len 0 y' 0 0
theorem lenC_nI {d : mm_D} {h len : Nat} (e : d h 2 = nI len) (hl : len ≤ 160) : lenC d h = len := by
  unfold lenC
  rw [e]
  exact nI_clamp (by omega)
/-- the numbers of a habit's pile and the six letters hold nothing -/
def scr (c : Nat) : Prop := c = 17 ∨ c = 35 ∨ c = 240 ∨ c = 243 ∨ c = 246 ∨ c = 249
def ag (d d' : mm_D) : Prop := ∀ c, ¬ scr c → d' c = d c
theorem ag_refl (d : mm_D) : ag d d := fun _ _ => rfl
theorem ag_trans {d d' d'' : mm_D} (h : ag d d') (h' : ag d' d'') : ag d d'' := fun c hc => (h' c hc).trans (h c hc)
def hab (h : Nat) : Prop := h = 33 ∨ h = 238 ∨ h = 241 ∨ h = 244 ∨ h = 247
theorem hab_hb {sh : mm_S} {r : mm_R} (hsh : shp sh) (hr : rfx r) {h : Nat} (hh : hab h) : hb sh r h := by
  have e : ∀ c t m, lay c = (t, m) → c < 282 → so sh c t ∧ (sh.2.2.2 c).2 = m := fun c t m h1 h2 => ⟨⟨by rw [hsh.1]; exact h2, by rw [hsh.2 _ h2, h1]⟩, by rw [hsh.2 _ h2, h1]⟩
  rcases hh with rfl | rfl | rfl | rfl | rfl
  all_goals exact ⟨(e _ 0 _ rfl (by omega)).1, (e _ 20 160 rfl (by omega)).1, (e _ 20 160 rfl (by omega)).2, (e _ 20 32 rfl (by omega)).1, (e _ 20 32 rfl (by omega)).2, hr _ _ _ rfl, hr _ _ _ rfl⟩
theorem hab_scr {h : Nat} (hh : hab h) : scr (h + 2) := by
  unfold scr
  rcases hh with rfl | rfl | rfl | rfl | rfl <;> decide
theorem hab_nscr {h : Nat} (hh : hab h) : ¬ scr h ∧ ¬ scr (h + 1) := by
  unfold scr
  rcases hh with rfl | rfl | rfl | rfl | rfl <;> decide
theorem okH_ag {d d' : mm_D} (ha : ag d d') {h : Nat} (hh : hab h) (ho : okH d h) : okH d' h := by
  obtain ⟨len, h1, h2, h3⟩ := ho
  refine ⟨len, ?_, h2, ?_⟩
  · rw [ha _ (hab_nscr hh).1]; exact h1
  · rw [ha _ (hab_nscr hh).2]; exact h3
def letC (d : mm_D) (p : Nat) (m ow : Int32) : Nat → Int32 := fun j => if j = 5 then nI p else if j = 4 then d (6 + p) 3 else if j = 3 then ow else if j = 2 then (if d 14 0 ≤ 0 then 0 else m - m / d 14 0 * d 14 0) else if j = 1 then (if d 14 0 ≤ 0 then 0 else m / d 14 0) else m
def worthC (d : mm_D) (h : Nat) (L : Nat → Int32) : Int32 := wrF (d (h + 1)) L (lenC d h) 0 (fun _ => 0) 0 0
def lookC (d : mm_D) (r : mm_R) (p : Nat) (m ow : Int32) : Int32 := match r 12 p with
  | none => onC m (d (6 + p) 0) (d (6 + p) 1) (d (6 + p) 2)
  | some h => if worthC d h (letC d p m ow) ≤ 0 then 0 else 1
theorem lookC01 (d : mm_D) (r : mm_R) (p : Nat) (m ow : Int32) : lookC d r p m ow = 0 ∨ lookC d r p m ow = 1 := by
  unfold lookC
  split
  · exact onC01 _ _ _ _
  · split
    · exact Or.inl rfl
    · exact Or.inr rfl
/-- the town's habits stand -/
def habs (d : mm_D) (r : mm_R) : Prop := ∀ p h, p < 6 → r 12 p = some h → hab h ∧ okH d h
theorem habs_ag {d d' : mm_D} {r : mm_R} (ha : ag d d') (h : habs d r) : habs d' r := fun p x hp hx => ⟨(h p x hp hx).1, okH_ag ha (h p x hp hx).1 (h p x hp hx).2⟩
theorem lookC_ag {d d' : mm_D} {r : mm_R} (ha : ag d d') (hb : habs d r) {p : Nat} (hp : p < 6) (m ow : Int32) : lookC d' r p m ow = lookC d r p m ow := by
  have hp' : ∀ j, ¬ scr j → d' j = d j := ha
  have e6 : d' (6 + p) = d (6 + p) := ha _ (by unfold scr; omega)
  have e14 : d' 14 = d 14 := ha _ (by unfold scr; omega)
  unfold lookC
  cases hc : r 12 p with
  | none => simp only [e6]
  | some h =>
    have hh := (hb p h hp hc).1
    have e1 := ha _ (hab_nscr hh).1
    have e2 := ha _ (hab_nscr hh).2
    have eL : letC d' p m ow = letC d p m ow := by unfold letC; rw [e6, e14]
    have ew : worthC d' h (letC d' p m ow) = worthC d h (letC d p m ow) := by
      unfold worthC lenC
      rw [e1, e2, eL]
    show (if worthC d' h (letC d' p m ow) ≤ 0 then (0 : Int32) else 1) = if worthC d h (letC d p m ow) ≤ 0 then 0 else 1
    rw [ew]
def lookersC (d : mm_D) (r : mm_R) (m ow mask : Int32) : Nat → Int32
  | 0 => 0
  | k + 1 => if (mask >>> (nI k &&& 31)) &&& 1 = 0 then lookersC d r m ow mask k else if lookC d r k m ow = 0 then lookersC d r m ow mask k else lookersC d r m ow mask k ||| bitC k
theorem lookersC_ag {d d' : mm_D} {r : mm_R} (ha : ag d d') (hb : habs d r) (m ow mask : Int32) : ∀ k, k ≤ 6 → lookersC d' r m ow mask k = lookersC d r m ow mask k
  | 0, _ => rfl
  | k + 1, h => by rw [lookersC, lookersC, lookersC_ag ha hb m ow mask k (by omega), lookC_ag ha hb (by omega)]
def letD (d : mm_D) (p : Nat) (m ow x y : Int32) : mm_D := mm_up (mm_up (mm_up (mm_up (mm_up (mm_up d 17 0 m) 17 1 x) 17 2 y) 17 3 ow) 17 4 (d (6 + p) 3)) 17 5 (nI p)
theorem letD_ne {d : mm_D} {p c : Nat} {m ow x y : Int32} (h : c ≠ 17) : letD d p m ow x y c = d c := by
  unfold letD
  rw [mm_up_ne h, mm_up_ne h, mm_up_ne h, mm_up_ne h, mm_up_ne h, mm_up_ne h]
theorem letD_at {d : mm_D} {p : Nat} {m ow : Int32} : ∀ j, j < 6 → letD d p m ow (if d 14 0 ≤ 0 then 0 else m / d 14 0) (if d 14 0 ≤ 0 then 0 else m - m / d 14 0 * d 14 0) 17 j = letC d p m ow j := by
  intro j hj
  unfold letD letC
  simp only [mm_up_at]
  have : j = 0 ∨ j = 1 ∨ j = 2 ∨ j = 3 ∨ j = 4 ∨ j = 5 := by omega
  rcases this with rfl | rfl | rfl | rfl | rfl | rfl <;> rfl
theorem c_doesLook_t {xs : List Int32} {ext : mm_X} {n : Nat} {sh : mm_S} {d : mm_D} {g : mm_G} {r : mm_R} (hsh : shp sh) (hr : rfx r) {p h len : Nat} (hp6 : p < 6) (hh : hab h) (hlen : d h 2 = nI len) (hl : len ≤ 160) (m ow x y u : Int32) : wp xs ext (n + 3) 64 93 [some (.ref 4), some (.int (nI p)), some (.int m), some (.int ow), some (.ref h), some (.int u)] [] (sh, mm_up (mm_up (mm_up d 17 0 m) 17 1 x) 17 2 y, g, r) (fun v μ => v = some (.int (if wrF (d (h + 1)) (letD d p m ow x y 17) len 0 (d (h + 2)) 0 0 ≤ 0 then 0 else 1)) ∧ ∃ d', μ = (sh, d', g, r) ∧ ag d d') := by
  have hp6' := s6 hsh hp6
  obtain ⟨hs1, hs2⟩ := hp6'
  have hr5 := r5 hr hp6
  have hhb := hab_hb hsh hr hh
  have ho1 := hhb.1
  have hne : h ≠ 17 ∧ h + 1 ≠ 17 ∧ h + 2 ≠ 17 ∧ 33 ≤ h := by rcases hh with rfl | rfl | rfl | rfl | rfl <;> decide
  have hlen1 : letD d p m ow x y h 2 = nI len := by rw [letD_ne hne.1]; exact hlen
  have hag : ∀ y2, ag d (mm_rowset (letD d p m ow x y) (h + 2) y2) := by
    intro y2 c hc
    have h1 : c ≠ h + 2 := fun e => hc (e ▸ hab_scr hh)
    have h2 : c ≠ 17 := fun e => hc (Or.inl e)
    rw [mm_rs_ne h1, letD_ne h2]
  refine wp_aload_n (j := 0) rfl q64_ok d64_93 ?_
  refine wp_getR q64_ok d64_94 fl_7_29 rfl (by first | assumption | exact so0 hsh rfl) (by first | assumption | exact hr _ _ _ rfl) ?_
  refine wp_iconst (v := 3) (by decide) q64_ok d64_97 ?_
  refine wp_iload_n (j := 3) rfl q64_ok d64_98 ?_
  refine wp_iast (m := 6) q64_ok d64_99 (by first | assumption | exact so0 hsh rfl) (by first | assumption | exact shl hsh (Nat.le_of_ble_eq_true rfl) rfl) (ixn_nI (j := 3) (Nat.le_of_ble_eq_true rfl)) ?_
  refine wp_aload_n (j := 0) rfl q64_ok d64_100 ?_
  refine wp_getR q64_ok d64_101 fl_7_29 rfl (by first | assumption | exact so0 hsh rfl) (by first | assumption | exact hr _ _ _ rfl) ?_
  refine wp_iconst (v := 4) (by decide) q64_ok d64_104 ?_
  refine wp_aload_n (j := 0) rfl q64_ok d64_105 ?_
  refine wp_getR q64_ok d64_106 fl_7_11 rfl (by first | assumption | exact so0 hsh rfl) (by first | assumption | exact hr _ _ _ rfl) ?_
  refine wp_iload_n (j := 1) rfl q64_ok d64_109 ?_
  refine wp_aald (m := 6) q64_ok d64_110 (t := 25) (by decide) (by first | assumption | exact so0 hsh rfl) (by first | assumption | exact shl hsh (Nat.le_of_ble_eq_true rfl) rfl) (by first | assumption | exact ixn_nI (by omega)) (by first | assumption | exact hr _ _ _ rfl) ?_
  refine wp_iconst (v := 3) (by decide) q64_ok d64_111 ?_
  refine wp_iald (m := 4) q64_ok d64_112 (by first | assumption | exact so0 hsh rfl) (by first | assumption | exact shl hsh (Nat.le_of_ble_eq_true rfl) rfl) (ixn_nI (j := 3) (Nat.le_of_ble_eq_true rfl)) (show _ = d (6 + p) 3 by rw [mm_up_ne (by omega), mm_up_ne (by omega), mm_up_ne (by omega), mm_up_ne (by omega)]) ?_ (shK hsh)
  refine wp_iast (m := 6) q64_ok d64_113 (by first | assumption | exact so0 hsh rfl) (by first | assumption | exact shl hsh (Nat.le_of_ble_eq_true rfl) rfl) (ixn_nI (j := 4) (Nat.le_of_ble_eq_true rfl)) ?_
  refine wp_aload_n (j := 0) rfl q64_ok d64_114 ?_
  refine wp_getR q64_ok d64_115 fl_7_29 rfl (by first | assumption | exact so0 hsh rfl) (by first | assumption | exact hr _ _ _ rfl) ?_
  refine wp_iconst (v := 5) (by decide) q64_ok d64_118 ?_
  refine wp_iload_n (j := 1) rfl q64_ok d64_119 ?_
  refine wp_iast (m := 6) q64_ok d64_120 (by first | assumption | exact so0 hsh rfl) (by first | assumption | exact shl hsh (Nat.le_of_ble_eq_true rfl) rfl) (ixn_nI (j := 5) (Nat.le_of_ble_eq_true rfl)) ?_
  refine wp_aload (j := 4) rfl q64_ok d64_121 ?_
  refine wp_aload_n (j := 0) rfl q64_ok d64_123 ?_
  refine wp_getR q64_ok d64_124 fl_7_29 rfl (by first | assumption | exact so0 hsh rfl) (by first | assumption | exact hr _ _ _ rfl) ?_
  refine wp_cV q64_ok d64_127 ml_7_91 rfl q8_ok (u := 0) rfl (by first | assumption | exact so0 hsh rfl) rfl (Nat.le_of_ble_eq_true rfl) (Nat.le_of_ble_eq_true rfl) (c_worth (d := letD d p m ow x y) hsh hr hhb hne.2.2.2 hlen1 hl) (fun v127 μ127 hc => ?_)
  obtain ⟨rfl, y2, rfl⟩ := hc
  refine ⟨mm_le_same rfl, ?_⟩
  refine wp_if_le q64_ok d64_130 (t := 137) rfl (fun h130 => ?_) (fun h130 => ?_)
  · refine wp_iconst (v := 0) (by decide) q64_ok d64_137 ?_
    refine wp_zret q64_ok d64_138 rfl (by first | assumption | exact Or.inl rfl | exact Or.inr rfl) ?_
    have h9 := h130
    rw [letD_ne hne.2.1, letD_ne hne.2.2.1] at h9
    exact ⟨by first | rw [if_pos h9] | rw [if_neg h9], _, rfl, hag _⟩
  · refine wp_iconst (v := 1) (by decide) q64_ok d64_133 ?_
    refine wp_goto (t := 138) rfl q64_ok d64_134 ?_
    refine wp_zret q64_ok d64_138 rfl (by first | assumption | exact Or.inl rfl | exact Or.inr rfl) ?_
    have h9 := h130
    rw [letD_ne hne.2.1, letD_ne hne.2.2.1] at h9
    exact ⟨by first | rw [if_pos h9] | rw [if_neg h9], _, rfl, hag _⟩
theorem c_doesLook {xs : List Int32} {ext : mm_X} {n : Nat} {sh : mm_S} {d : mm_D} {g : mm_G} {r : mm_R} (hsh : shp sh) (hr : rfx r) {np p : Nat} (hnp : d 4 5 = nI np) (h6 : np ≤ 6) (hp : p < np) (m ow : Int32) (hbs : habs d r) : wp xs ext (n + 3) 64 0 [some (.ref 4), some (.int (nI p)), some (.int m), some (.int ow), none, none] [] (sh, d, g, r) (fun v μ => v = some (.int (lookC d r p m ow)) ∧ ∃ d', μ = (sh, d', g, r) ∧ ag d d') := by
  have hp6 : p < 6 := by omega
  obtain ⟨hs1, hs2⟩ := s6 hsh hp6
  have hr5 := r5 hr hp6
  cases hc : r 12 p with
  | none =>
    refine wp_aload_n (j := 0) rfl q64_ok d64_0 ?_
    refine wp_iload_n (j := 1) rfl q64_ok d64_1 ?_
    refine wp_cV q64_ok d64_2 ml_7_83 rfl q61_ok (u := 7) rfl (by first | assumption | exact so0 hsh rfl) rfl (Nat.le_of_ble_eq_true rfl) (Nat.le_of_ble_eq_true rfl) (c_lives hsh hr hnp h6 hp) (fun v2 μ2 hc => ?_)
    obtain ⟨rfl, rfl⟩ := hc
    refine ⟨mm_le_same rfl, ?_⟩
    refine wp_if_ne q64_ok d64_5 (t := 10) rfl (fun h5 => ?_) (fun h5 => ?_)
    · refine wp_aload_n (j := 0) rfl q64_ok d64_10 ?_
      refine wp_getR q64_ok d64_11 fl_7_18 rfl (by first | assumption | exact so0 hsh rfl) (by first | assumption | exact hr _ _ _ rfl) ?_
      refine wp_iload_n (j := 1) rfl q64_ok d64_14 ?_
      refine wp_aaldN (m := 6) q64_ok d64_15 (t := 23) (by decide) (by first | assumption | exact so0 hsh rfl) (by first | assumption | exact shl hsh (Nat.le_of_ble_eq_true rfl) rfl) (ixn_nI hp6) hc ?_
      refine wp_astoreN (j := 4) (Nat.le_of_ble_eq_true rfl) (rfl : _ = [_, _, _, _, _, _]) q64_ok d64_16 ?_
      refine wp_aloadN (j := 4) rfl q64_ok d64_18 ?_
      refine wp_ifnonnullN q64_ok d64_20 ?_
      refine wp_aload_n (j := 0) rfl q64_ok d64_23 ?_
      refine wp_iload_n (j := 1) rfl q64_ok d64_24 ?_
      refine wp_aload_n (j := 0) rfl q64_ok d64_25 ?_
      refine wp_getR q64_ok d64_26 fl_7_11 rfl (by first | assumption | exact so0 hsh rfl) (by first | assumption | exact hr _ _ _ rfl) ?_
      refine wp_iload_n (j := 1) rfl q64_ok d64_29 ?_
      refine wp_aald (m := 6) q64_ok d64_30 (t := 25) (by decide) (by first | assumption | exact so0 hsh rfl) (by first | assumption | exact shl hsh (Nat.le_of_ble_eq_true rfl) rfl) (by first | assumption | exact ixn_nI (by omega)) (by first | assumption | exact hr _ _ _ rfl) ?_
      refine wp_iconst (v := 0) (by decide) q64_ok d64_31 ?_
      refine wp_iald (m := 4) q64_ok d64_32 (by first | assumption | exact so0 hsh rfl) (by first | assumption | exact shl hsh (Nat.le_of_ble_eq_true rfl) rfl) (ixn_nI (j := 0) (Nat.le_of_ble_eq_true rfl)) (by first | assumption | rfl) ?_ (shK hsh)
      refine wp_iload_n (j := 2) rfl q64_ok d64_33 ?_
      refine wp_cV q64_ok d64_34 ml_7_87 rfl q63_ok (u := 7) rfl (by first | assumption | exact so0 hsh rfl) rfl (Nat.le_of_ble_eq_true rfl) (Nat.le_of_ble_eq_true rfl) (c_spanIsOn hsh hr hnp h6 hp _ _) (fun v34 μ34 hc => ?_)
      obtain ⟨rfl, rfl⟩ := hc
      refine ⟨mm_le_same rfl, ?_⟩
      refine wp_zret q64_ok d64_37 rfl (onC01 _ _ _ _) ?_
      exact ⟨by unfold lookC; rw [hc], d, rfl, ag_refl d⟩
    · have h5 := Classical.not_not.mp h5
      exact absurd h5 (by decide)
  | some h =>
    obtain hh := hbs p h hp6 hc
    obtain ⟨len, hlen, hl, hind⟩ := hh.2
    refine wp_aload_n (j := 0) rfl q64_ok d64_0 ?_
    refine wp_iload_n (j := 1) rfl q64_ok d64_1 ?_
    refine wp_cV q64_ok d64_2 ml_7_83 rfl q61_ok (u := 7) rfl (by first | assumption | exact so0 hsh rfl) rfl (Nat.le_of_ble_eq_true rfl) (Nat.le_of_ble_eq_true rfl) (c_lives hsh hr hnp h6 hp) (fun v2 μ2 hc => ?_)
    obtain ⟨rfl, rfl⟩ := hc
    refine ⟨mm_le_same rfl, ?_⟩
    refine wp_if_ne q64_ok d64_5 (t := 10) rfl (fun h5 => ?_) (fun h5 => ?_)
    · refine wp_aload_n (j := 0) rfl q64_ok d64_10 ?_
      refine wp_getR q64_ok d64_11 fl_7_18 rfl (by first | assumption | exact so0 hsh rfl) (by first | assumption | exact hr _ _ _ rfl) ?_
      refine wp_iload_n (j := 1) rfl q64_ok d64_14 ?_
      refine wp_aald (m := 6) q64_ok d64_15 (t := 23) (by decide) (by first | assumption | exact so0 hsh rfl) (by first | assumption | exact shl hsh (Nat.le_of_ble_eq_true rfl) rfl) (ixn_nI hp6) hc ?_
      refine wp_astore (j := 4) (Nat.le_of_ble_eq_true rfl) (rfl : _ = [_, _, _, _, _, _]) q64_ok d64_16 ?_
      refine wp_aload (j := 4) rfl q64_ok d64_18 ?_
      refine wp_ifnonnull (t := 38) rfl q64_ok d64_20 ?_
      refine wp_aload_n (j := 0) rfl q64_ok d64_38 ?_
      refine wp_getR q64_ok d64_39 fl_7_22 rfl (by first | assumption | exact so0 hsh rfl) (by first | assumption | exact hr _ _ _ rfl) ?_
      refine wp_iconst (v := 0) (by decide) q64_ok d64_42 ?_
      refine wp_aald (m := 2) q64_ok d64_43 (t := 25) (by decide) (by first | assumption | exact so0 hsh rfl) (by first | assumption | exact shl hsh (Nat.le_of_ble_eq_true rfl) rfl) (ixn_nI (j := 0) (Nat.le_of_ble_eq_true rfl)) (by first | assumption | exact hr _ _ _ rfl) ?_
      refine wp_iconst (v := 0) (by decide) q64_ok d64_44 ?_
      refine wp_iald (m := 3) q64_ok d64_45 (by first | assumption | exact so0 hsh rfl) (by first | assumption | exact shl hsh (Nat.le_of_ble_eq_true rfl) rfl) (ixn_nI (j := 0) (Nat.le_of_ble_eq_true rfl)) (by first | assumption | rfl) ?_ (shK hsh)
      refine wp_istore (j := 5) (Nat.le_of_ble_eq_true rfl) (rfl : _ = [_, _, _, _, _, _]) q64_ok d64_46 ?_
      refine wp_aload_n (j := 0) rfl q64_ok d64_48 ?_
      refine wp_getR q64_ok d64_49 fl_7_29 rfl (by first | assumption | exact so0 hsh rfl) (by first | assumption | exact hr _ _ _ rfl) ?_
      refine wp_iconst (v := 0) (by decide) q64_ok d64_52 ?_
      refine wp_iload_n (j := 2) rfl q64_ok d64_53 ?_
      refine wp_iast (m := 6) q64_ok d64_54 (by first | assumption | exact so0 hsh rfl) (by first | assumption | exact shl hsh (Nat.le_of_ble_eq_true rfl) rfl) (ixn_nI (j := 0) (Nat.le_of_ble_eq_true rfl)) ?_
      refine wp_aload_n (j := 0) rfl q64_ok d64_55 ?_
      refine wp_getR q64_ok d64_56 fl_7_29 rfl (by first | assumption | exact so0 hsh rfl) (by first | assumption | exact hr _ _ _ rfl) ?_
      refine wp_iconst (v := 1) (by decide) q64_ok d64_59 ?_
      refine wp_iload (j := 5) rfl q64_ok d64_60 ?_
      refine wp_if_le q64_ok d64_62 (t := 72) rfl (fun h62 => ?_) (fun h62 => ?_)
      · refine wp_iconst (v := 0) (by decide) q64_ok d64_72 ?_
        refine wp_iast (m := 6) q64_ok d64_73 (by first | assumption | exact so0 hsh rfl) (by first | assumption | exact shl hsh (Nat.le_of_ble_eq_true rfl) rfl) (ixn_nI (j := 1) (Nat.le_of_ble_eq_true rfl)) ?_
        refine wp_aload_n (j := 0) rfl q64_ok d64_74 ?_
        refine wp_getR q64_ok d64_75 fl_7_29 rfl (by first | assumption | exact so0 hsh rfl) (by first | assumption | exact hr _ _ _ rfl) ?_
        refine wp_iconst (v := 2) (by decide) q64_ok d64_78 ?_
        refine wp_iload (j := 5) rfl q64_ok d64_79 ?_
        refine wp_if_le q64_ok d64_81 (t := 91) rfl (fun h81 => ?_) (fun h81 => ?_)
        · refine wp_iconst (v := 0) (by decide) q64_ok d64_91 ?_
          refine wp_iast (m := 6) q64_ok d64_92 (by first | assumption | exact so0 hsh rfl) (by first | assumption | exact shl hsh (Nat.le_of_ble_eq_true rfl) rfl) (ixn_nI (j := 2) (Nat.le_of_ble_eq_true rfl)) ?_
          refine wp_post (c_doesLook_t hsh hr hp6 hh.1 hlen hl m ow _ _ _) (fun v μ hv => ?_)
          obtain ⟨rfl, d', rfl, ha⟩ := hv
          refine ⟨?_, d', rfl, ha⟩
          unfold lookC
          rw [hc]
          simp only [worthC, lenC_nI hlen hl]
          rw [← wrF_l (letD_at (d := d) (p := p) (m := m) (ow := ow)), hind _ (fun _ => 0) (d (h + 2))]
          simp only [if_pos h62]
        · exact absurd h62 h81
      · have hn0 : ¬ d 14 0 = 0 := fun e => h62 (by rw [e]; decide)
        refine wp_iload_n (j := 2) rfl q64_ok d64_65 ?_
        refine wp_iload (j := 5) rfl q64_ok d64_66 ?_
        refine wp_idiv (by assumption) rfl q64_ok d64_68 ?_
        refine wp_goto (t := 73) rfl q64_ok d64_69 ?_
        refine wp_iast (m := 6) q64_ok d64_73 (by first | assumption | exact so0 hsh rfl) (by first | assumption | exact shl hsh (Nat.le_of_ble_eq_true rfl) rfl) (ixn_nI (j := 1) (Nat.le_of_ble_eq_true rfl)) ?_
        refine wp_aload_n (j := 0) rfl q64_ok d64_74 ?_
        refine wp_getR q64_ok d64_75 fl_7_29 rfl (by first | assumption | exact so0 hsh rfl) (by first | assumption | exact hr _ _ _ rfl) ?_
        refine wp_iconst (v := 2) (by decide) q64_ok d64_78 ?_
        refine wp_iload (j := 5) rfl q64_ok d64_79 ?_
        refine wp_if_le q64_ok d64_81 (t := 91) rfl (fun h81 => ?_) (fun h81 => ?_)
        · exact absurd h81 h62
        · refine wp_iload_n (j := 2) rfl q64_ok d64_84 ?_
          refine wp_iload (j := 5) rfl q64_ok d64_85 ?_
          refine wp_irem (by assumption) rfl q64_ok d64_87 ?_
          refine wp_goto (t := 92) rfl q64_ok d64_88 ?_
          refine wp_iast (m := 6) q64_ok d64_92 (by first | assumption | exact so0 hsh rfl) (by first | assumption | exact shl hsh (Nat.le_of_ble_eq_true rfl) rfl) (ixn_nI (j := 2) (Nat.le_of_ble_eq_true rfl)) ?_
          refine wp_post (c_doesLook_t hsh hr hp6 hh.1 hlen hl m ow _ _ _) (fun v μ hv => ?_)
          obtain ⟨rfl, d', rfl, ha⟩ := hv
          refine ⟨?_, d', rfl, ha⟩
          unfold lookC
          rw [hc]
          simp only [worthC, lenC_nI hlen hl]
          rw [← wrF_l (letD_at (d := d) (p := p) (m := m) (ow := ow)), hind _ (fun _ => 0) (d (h + 2))]
          simp only [if_neg h62]
    · have h5 := Classical.not_not.mp h5
      exact absurd h5 (by decide)
theorem c_lookers_l {xs : List Int32} {ext : mm_X} {n : Nat} {sh : mm_S} {d : mm_D} {g : mm_G} {r : mm_R} (hsh : shp sh) (hr : rfx r) {np : Nat} (hnp : d 4 5 = nI np) (h6 : np ≤ 6) (m ow mask : Int32) (hbs : habs d r) : ∀ (z k : Nat) (d1 : mm_D), z + k = np → ag d d1 → wp xs ext (n + 4) 65 6 [some (.ref 4), some (.int m), some (.int ow), some (.int mask), some (.int (lookersC d r m ow mask k)), some (.int (nI k))] [] (sh, d1, g, r) (fun v μ => v = some (.int (lookersC d r m ow mask np)) ∧ ∃ d', μ = (sh, d', g, r) ∧ ag d d') := by
  intro z
  induction z with
  | zero =>
    intro k d1 hm ha
    have hvb : np = k := by omega
    subst hvb
    have hnp1 : d1 4 5 = nI np := by rw [ha _ (by unfold scr; omega)]; exact hnp
    refine wp_iload (j := 5) rfl q65_ok d65_6 ?_
    refine wp_aload_n (j := 0) rfl q65_ok d65_8 ?_
    refine wp_getI q65_ok d65_9 fl_7_32 rfl (by first | assumption | exact so0 hsh rfl) (by first | assumption | rfl) ?_
    refine wp_icmp_ge q65_ok d65_12 (t := 57) rfl (fun h12 => ?_) (fun h12 => ?_)
    · refine wp_iload (j := 4) rfl q65_ok d65_57 ?_
      refine wp_iret q65_ok d65_59 rfl ?_
      exact ⟨rfl, d1, rfl, ha⟩
    · exact absurd (nI_le (Nat.le_refl _) (by omega)) h12
  | succ z ih =>
    intro k d1 hm ha
    have hlt : k < np := by omega
    have hnp1 : d1 4 5 = nI np := by rw [ha _ (by unfold scr; omega)]; exact hnp
    refine wp_iload (j := 5) rfl q65_ok d65_6 ?_
    refine wp_aload_n (j := 0) rfl q65_ok d65_8 ?_
    refine wp_getI q65_ok d65_9 fl_7_32 rfl (by first | assumption | exact so0 hsh rfl) (by first | assumption | rfl) ?_
    refine wp_icmp_ge q65_ok d65_12 (t := 57) rfl (fun h12 => ?_) (fun h12 => ?_)
    · exact absurd h12 (nI_ge hlt (by omega))
    · refine wp_iload (j := 5) rfl q65_ok d65_15 ?_
      refine wp_bipush (v := 6) (by decide) q65_ok d65_17 ?_
      refine wp_icmp_ge q65_ok d65_19 (t := 57) rfl (fun h19 => ?_) (fun h19 => ?_)
      · exact absurd h19 (nI_ge (show k < 6 by omega) (by decide))
      · refine wp_iload_n (j := 3) rfl q65_ok d65_22 ?_
        refine wp_iload (j := 5) rfl q65_ok d65_23 ?_
        refine wp_ishr rfl q65_ok d65_25 ?_
        refine wp_iconst (v := 1) (by decide) q65_ok d65_26 ?_
        refine wp_iand rfl q65_ok d65_27 ?_
        refine wp_if_eq q65_ok d65_28 (t := 51) rfl (fun h28 => ?_) (fun h28 => ?_)
        · refine wp_iinc (j := 5) rfl (by first | exact inc1 | rfl) (rfl : _ = [_, _, _, _, _, _]) q65_ok d65_51 ?_
          refine wp_goto (t := 6) rfl q65_ok d65_54 ?_
          have := ih (k + 1) d1 (by omega) ha
          rw [lookersC, if_pos h28] at this
          exact this
        · refine wp_aload_n (j := 0) rfl q65_ok d65_31 ?_
          refine wp_iload (j := 5) rfl q65_ok d65_32 ?_
          refine wp_iload_n (j := 1) rfl q65_ok d65_34 ?_
          refine wp_iload_n (j := 2) rfl q65_ok d65_35 ?_
          refine wp_cV q65_ok d65_36 ml_7_95 rfl q64_ok (u := 7) rfl (by first | assumption | exact so0 hsh rfl) rfl (Nat.le_of_ble_eq_true rfl) (Nat.le_of_ble_eq_true rfl) (c_doesLook hsh hr hnp1 h6 hlt _ _ (habs_ag ha hbs)) (fun v36 μ36 hc => ?_)
          obtain ⟨rfl, d2, rfl, ha2⟩ := hc
          refine ⟨mm_le_same rfl, ?_⟩
          rw [lookC_ag ha hbs (show k < 6 by omega)]
          refine wp_if_eq q65_ok d65_39 (t := 51) rfl (fun h39 => ?_) (fun h39 => ?_)
          · refine wp_iinc (j := 5) rfl (by first | exact inc1 | rfl) (rfl : _ = [_, _, _, _, _, _]) q65_ok d65_51 ?_
            refine wp_goto (t := 6) rfl q65_ok d65_54 ?_
            have := ih (k + 1) d2 (by omega) (ag_trans ha ha2)
            rw [lookersC, if_neg h28, if_pos h39] at this
            exact this
          · refine wp_iload (j := 4) rfl q65_ok d65_42 ?_
            refine wp_iconst (v := 1) (by decide) q65_ok d65_44 ?_
            refine wp_iload (j := 5) rfl q65_ok d65_45 ?_
            refine wp_ishl rfl q65_ok d65_47 ?_
            refine wp_ior rfl q65_ok d65_48 ?_
            refine wp_istore (j := 4) (Nat.le_of_ble_eq_true rfl) (rfl : _ = [_, _, _, _, _, _]) q65_ok d65_49 ?_
            refine wp_iinc (j := 5) rfl (by first | exact inc1 | rfl) (rfl : _ = [_, _, _, _, _, _]) q65_ok d65_51 ?_
            refine wp_goto (t := 6) rfl q65_ok d65_54 ?_
            have := ih (k + 1) d2 (by omega) (ag_trans ha ha2)
            rw [lookersC, if_neg h28, if_neg h39] at this
            exact this
theorem c_lookers {xs : List Int32} {ext : mm_X} {n : Nat} {sh : mm_S} {d : mm_D} {g : mm_G} {r : mm_R} (hsh : shp sh) (hr : rfx r) {np : Nat} (hnp : d 4 5 = nI np) (h6 : np ≤ 6) (m ow mask : Int32) (hbs : habs d r) : wp xs ext (n + 4) 65 0 [some (.ref 4), some (.int m), some (.int ow), some (.int mask), none, none] [] (sh, d, g, r) (fun v μ => v = some (.int (lookersC d r m ow mask np)) ∧ ∃ d', μ = (sh, d', g, r) ∧ ag d d') := by
  refine wp_iconst (v := 0) (by decide) q65_ok d65_0 ?_
  refine wp_istore (j := 4) (Nat.le_of_ble_eq_true rfl) (rfl : _ = [_, _, _, _, _, _]) q65_ok d65_1 ?_
  refine wp_iconst (v := 0) (by decide) q65_ok d65_3 ?_
  refine wp_istore (j := 5) (Nat.le_of_ble_eq_true rfl) (rfl : _ = [_, _, _, _, _, _]) q65_ok d65_4 ?_
  exact c_lookers_l hsh hr hnp h6 m ow mask hbs np 0 d (by omega) (ag_refl d)
