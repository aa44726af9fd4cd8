/-! ===== go, undo ===== -/
theorem lookC_h {d d' : mm_D} {r r' : mm_R} (h : ∀ c, ¬ scr c → c < 38 ∨ 238 ≤ c → d' c = d c) (h12 : r' 12 = r 12) (hb : habs d r) {p : Nat} (hp : p < 6) (m ow : Int32) : lookC d' r' p m ow = lookC d r p m ow := by
  have e6 : d' (6 + p) = d (6 + p) := h _ (by unfold scr; omega) (by omega)
  have e14 : d' 14 = d 14 := h _ (by unfold scr; omega) (by omega)
  unfold lookC
  rw [h12]
  cases hc : r 12 p with
  | none => simp only [e6]
  | some x =>
    have hh := (hb p x hp hc).1
    have e1 : d' x = d x := h _ (hab_nscr hh).1 (by unfold hab at hh; omega)
    have e2 : d' (x + 1) = d (x + 1) := h _ (hab_nscr hh).2 (by unfold hab at hh; omega)
    have eL : letC d' p m ow = letC d p m ow := by unfold letC; rw [e6, e14]
    have ew : worthC d' x (letC d' p m ow) = worthC d x (letC d p m ow) := by
      unfold worthC lenC
      rw [e1, e2, eL]
    show (if worthC d' x (letC d' p m ow) ≤ 0 then (0 : Int32) else 1) = if worthC d x (letC d p m ow) ≤ 0 then 0 else 1
    rw [ew]
theorem habs_h {d d' : mm_D} {r r' : mm_R} (h : ∀ c, ¬ scr c → c < 38 ∨ 238 ≤ c → d' c = d c) (h12 : r' 12 = r 12) (hb : habs d r) : habs d' r' := by
  intro p x hp hx
  rw [h12] at hx
  obtain ⟨hh, len, h1, h2, h3⟩ := hb p x hp hx
  have e1 : d' x = d x := h _ (hab_nscr hh).1 (by unfold hab at hh; omega)
  have e2 : d' (x + 1) = d (x + 1) := h _ (hab_nscr hh).2 (by unfold hab at hh; omega)
  exact ⟨hh, len, by rw [e1]; exact h1, h2, by rw [e2]; exact h3⟩
theorem rpC_h {d d' : mm_D} {r r' : mm_R} {T : wo_T} (h : ∀ c, ¬ scr c → c < 38 ∨ 238 ≤ c → d' c = d c) (h12 : r' 12 = r 12) (hT : rpC d r T) : rpC d' r' T := by
  obtain ⟨⟨h1, h2, h3, h4, h5⟩, h6, h7, h8, h9, h10, h11⟩ := hT
  have e4 : d' 4 = d 4 := h _ (by unfold scr; omega) (by omega)
  have e16 : d' 16 = d 16 := h _ (by unfold scr; omega) (by omega)
  refine ⟨⟨by rw [e4]; exact h1, h2, by rw [e4]; exact h3, h4, habs_h h h12 h5⟩, fun p hp m ow => ?_, fun p hp f m => ?_, fun p hp => ?_, fun b hb => ?_, fun m => ?_, ?_⟩
  · rw [lookC_h h h12 h5 (by omega)]; exact h6 p hp m ow
  · rw [h (6 + p) (by unfold scr; omega) (by omega)]; exact h7 p hp f m
  · rw [h (6 + p) (by unfold scr; omega) (by omega)]; exact h8 p hp
  · rw [h (14 + b) (by unfold scr; omega) (by omega)]; exact h9 b hb
  · unfold foggyC; rw [e4, e16]; exact h10 m
  · unfold viewC; rw [e4, e16]; exact h11
/-- the latest minutes: so many, the eldest first -/
def pPast (d : mm_D) (g : mm_G) (len : Nat) (f : Nat → wo_A × Int64) : Prop := ∃ nx, nx < 60 ∧ d 47 1 = nI nx ∧ d 47 2 = nI len ∧ len ≤ 60 ∧ ∀ i, i < len → hA d (49 + 3 * ((nx + 60 - len + i) % 60)) (f i).1 ∧ g (49 + 3 * ((nx + 60 - len + i) % 60)) 3 = (f i).2
def pshN (len : Nat) : Nat := if len < 60 then len + 1 else 60
def pshF (len : Nat) (f : Nat → wo_A × Int64) (x : wo_A × Int64) (i : Nat) : wo_A × Int64 := if len < 60 then (if i = len then x else f i) else (if i = 59 then x else f (i + 1))
theorem kpD_row {d : mm_D} {nx len c : Nat} (h : c ≠ 47) (h0 : c ≠ 49 + 3 * nx) (h1 : c ≠ 49 + 3 * nx + 1) (h2 : c ≠ 49 + 3 * nx + 2) : kpD d nx len c = d c := by
  unfold kpD
  rw [mm_up_ne h, mm_up_ne h, cpT_row h0 h1 h2]
theorem past_row {d d' : mm_D} {g g' : mm_G} {len : Nat} {f : Nat → wo_A × Int64} (h : pPast d g len f) (hd : ∀ c, 47 ≤ c → c < 229 → d' c = d c) (hg : ∀ c, 49 ≤ c → c < 229 → g' c = g c) : pPast d' g' len f := by
  obtain ⟨nx, h1, h2, h3, h4, h5⟩ := h
  refine ⟨nx, h1, by rw [hd 47 (by omega) (by omega)]; exact h2, by rw [hd 47 (by omega) (by omega)]; exact h3, h4, fun i hi => ?_⟩
  obtain ⟨a, b⟩ := h5 i hi
  exact ⟨hA_row a (hd _ (by omega) (by omega)) (hd _ (by omega) (by omega)) (hd _ (by omega) (by omega)), by rw [hg _ (by omega) (by omega)]; exact b⟩
theorem past_keep {d : mm_D} {g : mm_G} {len nx : Nat} {f : Nat → wo_A × Int64} {A : wo_A} {dr : Int64} (hx : nx < 60) (h3 : d 47 2 = nI len) (h4 : len ≤ 60) (h5 : ∀ i, i < len → hA d (49 + 3 * ((nx + 60 - len + i) % 60)) (f i).1 ∧ g (49 + 3 * ((nx + 60 - len + i) % 60)) 3 = (f i).2) (hA0 : hA d 38 A) (hg : g 38 3 = dr) : pPast (kpD d nx len) (mm_up g (49 + 3 * nx) 3 (g 38 3)) (pshN len) (pshF len f (A, dr)) := by
  have e1 : nI nx + 1 = nI (nx + 1) := nI_1 nx
  have e2 : nI len + 1 = nI (len + 1) := nI_1 len
  have k1 : kpD d nx len 47 1 = nI ((nx + 1) % 60) := by
    unfold kpD
    rw [mm_up_at, if_neg (by decide), mm_up_at, if_pos rfl, e1]
    by_cases q : 60 ≤ nx + 1
    · rw [if_pos (show (60 : Int32) ≤ nI (nx + 1) from (nI_leI (by decide) (by omega)).mpr q), show (nx + 1) % 60 = 0 by omega]
      rfl
    · rw [if_neg (show ¬ (60 : Int32) ≤ nI (nx + 1) from fun w => q ((nI_leI (by decide) (by omega)).mp (show nI 60 ≤ nI (nx + 1) from w))), show (nx + 1) % 60 = nx + 1 by omega]
  have k2 : kpD d nx len 47 2 = nI (pshN len) := by
    unfold kpD
    rw [mm_up_at, if_pos rfl, e2]
    unfold pshN
    by_cases q : len < 60
    · rw [if_pos q, if_neg (show ¬ (60 : Int32) < nI (len + 1) from fun w => absurd (show 60 < len + 1 from (nI_ltI (show 60 < 2 ^ 31 by decide) (show len + 1 < 2 ^ 31 by omega)).mp (show nI 60 < nI (len + 1) from w)) (by omega))]
    · rw [if_neg q, if_pos (show (60 : Int32) < nI (len + 1) from (nI_ltI (show 60 < 2 ^ 31 by decide) (show len + 1 < 2 ^ 31 by omega)).mpr (show 60 < len + 1 by omega))]
      rfl
  have kA : hA (kpD d nx len) (49 + 3 * nx) A := by
    have := hA_cpT (a := 49 + 3 * nx) (by omega) hA0
    refine hA_row this ?_ ?_ ?_ <;> (unfold kpD; rw [mm_up_ne (by omega), mm_up_ne (by omega)])
  have kr : ∀ s, s < 60 → s ≠ nx → ∀ B, hA d (49 + 3 * s) B → hA (kpD d nx len) (49 + 3 * s) B := fun s hs hn B hB => hA_row hB (kpD_row (by omega) (by omega) (by omega) (by omega)) (kpD_row (by omega) (by omega) (by omega) (by omega)) (kpD_row (by omega) (by omega) (by omega) (by omega))
  have gr : ∀ s, s ≠ nx → mm_up g (49 + 3 * nx) 3 (g 38 3) (49 + 3 * s) = g (49 + 3 * s) := fun s hs => mm_up_ne (by omega)
  have gx : mm_up g (49 + 3 * nx) 3 (g 38 3) (49 + 3 * nx) 3 = dr := by rw [mm_up_at, if_pos rfl]; exact hg
  refine ⟨(nx + 1) % 60, by omega, k1, k2, by unfold pshN; split <;> omega, fun i hi => ?_⟩
  unfold pshN at hi ⊢
  unfold pshF
  by_cases q : len < 60
  · rw [if_pos q] at hi ⊢
    rw [if_pos q]
    by_cases w : i = len
    · rw [if_pos w, show ((nx + 1) % 60 + 60 - (len + 1) + i) % 60 = nx by omega]
      exact ⟨kA, gx⟩
    · rw [if_neg w]
      have e : ((nx + 1) % 60 + 60 - (len + 1) + i) % 60 = (nx + 60 - len + i) % 60 := by omega
      rw [e]
      obtain ⟨a, b⟩ := h5 i (by omega)
      have hn : (nx + 60 - len + i) % 60 ≠ nx := by omega
      exact ⟨kr _ (by omega) hn _ a, by rw [gr _ hn]; exact b⟩
  · rw [if_neg q] at hi ⊢
    rw [if_neg q]
    have hl : len = 60 := by omega
    subst hl
    by_cases w : i = 59
    · rw [if_pos w, show ((nx + 1) % 60 + 60 - 60 + i) % 60 = nx by omega]
      exact ⟨kA, gx⟩
    · rw [if_neg w]
      have e : ((nx + 1) % 60 + 60 - 60 + i) % 60 = (nx + 60 - 60 + (i + 1)) % 60 := by omega
      rw [e]
      obtain ⟨a, b⟩ := h5 (i + 1) (by omega)
      have hn : (nx + 60 - 60 + (i + 1)) % 60 ≠ nx := by omega
      exact ⟨kr _ (by omega) hn _ a, by rw [gr _ hn]; exact b⟩
theorem lookers_all {d : mm_D} {r : mm_R} {T : wo_T} (hT : rpC d r T) (m ow : Int32) : lookersC d r m ow 63 (tnp T) = loB T (o0 T) m ow := by
  have h6 : tnp T ≤ 6 := hT.1.2.1
  refine gb_ext (fun i hi => ?_)
  rw [gb_lookers _ _ _ _ _ _ _ h6, gb_loB _ _ _ _ h6]
  have e63 : ∀ i, i < 6 → gb 63 i = true := by decide
  by_cases q : i < tnp T
  · rw [e63 i (by omega), hT.2.1 i q m ow]
    unfold lkO
    rw [if_neg (by rw [show (o0 T).2.1 = 0 from rfl, gb_0]; decide), if_neg (by rw [show (o0 T).1 = 0 from rfl, gb_0]; decide)]
    rw [Bool.and_true]
    rfl
  · simp [q]
def sgA (T : wo_T) (A : wo_A) (st : Int32) : Int32 := if seB T (o0 T) A.1 (A.2.1 0) = 0 then st else 1
def strG (risk : Int32) (dr : Int64) : Int32 := if risk ≤ 0 then 0 else if risk ≤ drwV dr then 0 else 1
abbrev wo_X : Type := wo_A × Int64 × Nat × (Nat → wo_A × Int64)
def goX (T : wo_T) (risk : Int32) (x : wo_X) : wo_X := (stA T x.1 (sgA T x.1 (strG risk x.2.1)), (if risk ≤ 0 then x.2.1 else drwX x.2.1), pshN x.2.2.1, pshF x.2.2.1 x.2.2.2 (x.1, x.2.1))
def goN (T : wo_T) (risk : Int32) (x : wo_X) : Nat → wo_X
  | 0 => x
  | k + 1 => goN T risk (goX T risk x) k
/-- go leaves all but the tower and the past -/
def frG (d : mm_D) (g : mm_G) (d2 : mm_D) (g2 : mm_G) : Prop := (∀ c, ¬ scr c → ¬ (38 ≤ c ∧ c < 41) → ¬ (47 ≤ c ∧ c < 229) → d2 c = d c) ∧ (∀ c, c ≠ 38 → ¬ (49 ≤ c ∧ c < 229) → g2 c = g c)
def hX (d : mm_D) (g : mm_G) (x : wo_X) : Prop := hA d 38 x.1 ∧ g 38 3 = x.2.1 ∧ pPast d g x.2.2.1 x.2.2.2
theorem go_next {d1 db : mm_D} {g1 gb : mm_G} {r : mm_R} {T : wo_T} {x : wo_X} {nx : Nat} (hT : rpC d1 r T) (hx : nx < 60) (h3 : d1 47 2 = nI x.2.2.1) (h4 : x.2.2.1 ≤ 60) (h5 : ∀ i, i < x.2.2.1 → hA d1 (49 + 3 * ((nx + 60 - x.2.2.1 + i) % 60)) (x.2.2.2 i).1 ∧ g1 (49 + 3 * ((nx + 60 - x.2.2.1 + i) % 60)) 3 = (x.2.2.2 i).2) (hA0 : hA d1 38 x.1) (hg : g1 38 3 = x.2.1) (hab : ag (kpD d1 nx x.2.2.1) db) (s : Int32) (dr : Int64) (hgb : gb 38 3 = dr) (hgc : ∀ c, c ≠ 38 → gb c = mm_up g1 (49 + 3 * nx) 3 (g1 38 3) c) : frG d1 g1 (pasD db 38 s (tnb T)) gb ∧ hX (pasD db 38 s (tnb T)) gb (stA T x.1 s, dr, pshN x.2.2.1, pshF x.2.2.1 x.2.2.2 (x.1, x.2.1)) := by
  have hk := past_keep (d := d1) hx h3 h4 h5 hA0 hg
  have hTb : rpC db r T := rpC_h (fun c h1 h2 => by rw [hab c h1, kpD_row (by omega) (by omega) (by omega) (by omega)]) rfl hT
  have e38 : ∀ c, 38 ≤ c → c < 41 → db c = d1 c := fun c h1 h2 => by rw [hab c (by unfold scr; omega), kpD_row (by omega) (by omega) (by omega) (by omega)]
  have hAb : hA db 38 x.1 := hA_row hA0 (e38 _ (by omega) (by omega)) (e38 _ (by omega) (by omega)) (e38 _ (by omega) (by omega))
  obtain ⟨p1, p2⟩ := pas_abs hTb hAb (Nat.le_refl _) s
  refine ⟨⟨fun c h1 h2 h3 => ?_, fun c h1 h2 => ?_⟩, p1, hgb, past_row hk (fun c h1 h2 => ?_) (fun c h1 h2 => hgc c (by omega))⟩
  · rw [pasD_row (by omega) (by omega) (by omega), hab c h1, kpD_row (by omega) (by omega) (by omega) (by omega)]
  · rw [hgc c h1, mm_up_ne (by omega)]
  · rw [pasD_row (by omega) (by omega) (by omega), hab c (by unfold scr; omega)]
theorem frG_trans {d d1 d2 : mm_D} {g g1 g2 : mm_G} (h : frG d g d1 g1) (h' : frG d1 g1 d2 g2) : frG d g d2 g2 := ⟨fun c a b e => (h'.1 c a b e).trans (h.1 c a b e), fun c a b => (h'.2 c a b).trans (h.2 c a b)⟩
theorem frG_refl {d : mm_D} {g : mm_G} : frG d g d g := ⟨fun _ _ _ _ => rfl, fun _ _ _ => rfl⟩
theorem c_go_l {xs : List Int32} {ext : mm_X} {n : Nat} {sh : mm_S} {d : mm_D} {g : mm_G} {r : mm_R} (hsh : shp sh) (hr : rfx r) {T : wo_T} (hT : rpC d r T) {risk : Int32} (hrk : d 0 16 = risk) {N : Nat} (hN : N ≤ 240) : ∀ (z k : Nat) (u3 u4 u5 : Option Value) (d1 : mm_D) (g1 : mm_G) (x : wo_X), z + k = N → frG d g d1 g1 → hX d1 g1 x → wp xs ext (n + 7) 101 18 [some (.ref 0), some (.int (nI N)), some (.int (nI k)), u3, u4, u5] [] (sh, d1, g1, r) (fun v μ => v = some (.int (goN T risk x z).1.1) ∧ ∃ d2 g2, μ = (sh, d2, g2, r) ∧ frG d g d2 g2 ∧ hX d2 g2 (goN T risk x z)) := by
  have hnp6 : tnp T ≤ 6 := hT.1.2.1
  have hnb2 : tnb T ≤ 2 := hT.1.2.2.2.1
  intro z
  induction z with
  | zero =>
    intro k u3 u4 u5 d1 g1 x hm hf hx
    have hvb : N = k := by omega
    subst hvb
    refine wp_iload_n (j := 2) rfl q101_ok d101_18 ?_
    refine wp_iload_n (j := 1) rfl q101_ok d101_19 ?_
    refine wp_icmp_ge q101_ok d101_20 (t := 152) rfl (fun h20 => ?_) (fun h20 => ?_)
    · refine wp_aload_n (j := 0) rfl q101_ok d101_152 ?_
      refine wp_getR q101_ok d101_153 fl_10_69 rfl (by first | assumption | exact so0 hsh rfl) (by first | assumption | exact hr _ _ _ rfl) ?_
      refine wp_getI q101_ok d101_156 fl_10_217 rfl (by first | assumption | exact so0 hsh rfl) hx.1.1 ?_
      refine wp_iret q101_ok d101_159 rfl ?_
      exact ⟨rfl, d1, g1, rfl, hf, hx⟩
    · exact absurd (nI_le (Nat.le_refl _) (by omega)) h20
  | succ z ih =>
    intro k u3 u4 u5 d1 g1 x hm hf hx
    have hlt : k < N := by omega
    have hT1 : rpC d1 r T := rpC_h (fun c h1 h2 => hf.1 c h1 (by omega) (by omega)) rfl hT
    have hr1 : d1 0 16 = risk := by rw [hf.1 0 (by unfold scr; omega) (by omega) (by omega)]; exact hrk
    obtain ⟨hA1, hg1, nx, hnx, q1, q2, q3, q4⟩ := hx
    have er : ∀ c, c < 47 ∨ 229 ≤ c → kpD d1 nx x.2.2.1 c = d1 c := fun c hc => kpD_row (by omega) (by omega) (by omega) (by omega)
    have hTa : rpC (kpD d1 nx x.2.2.1) r T := rpC_h (fun c h1 h2 => er c (by omega)) rfl hT1
    have e38 : mm_up g1 (49 + 3 * nx) 3 (g1 38 3) 38 3 = x.2.1 := by rw [mm_up_ne (by omega)]; exact hg1
    refine wp_iload_n (j := 2) rfl q101_ok d101_18 ?_
    refine wp_iload_n (j := 1) rfl q101_ok d101_19 ?_
    refine wp_icmp_ge q101_ok d101_20 (t := 152) rfl (fun h20 => ?_) (fun h20 => ?_)
    · exact absurd h20 (nI_ge hlt (by omega))
    · refine wp_aload_n (j := 0) rfl q101_ok d101_23 ?_
      refine wp_getR q101_ok d101_24 fl_10_82 rfl (by first | assumption | exact so0 hsh rfl) (by first | assumption | exact hr _ _ _ rfl) ?_
      refine wp_aload_n (j := 0) rfl q101_ok d101_27 ?_
      refine wp_getR q101_ok d101_28 fl_10_69 rfl (by first | assumption | exact so0 hsh rfl) (by first | assumption | exact hr _ _ _ rfl) ?_
      refine wp_cV q101_ok d101_31 ml_10_213 rfl q31_ok (u := 3) rfl (by first | assumption | exact so0 hsh rfl) rfl (Nat.le_of_ble_eq_true rfl) (Nat.le_of_ble_eq_true rfl) (c_keep (n := n + 4) hsh hr q1 hnx q2 q3) (fun v31 μ31 hc => ?_)
      obtain ⟨rfl, rfl⟩ := hc
      refine ⟨mm_le_same rfl, ?_⟩
      refine wp_aload_n (j := 0) rfl q101_ok d101_34 ?_
      refine wp_getR q101_ok d101_35 fl_10_28 rfl (by first | assumption | exact so0 hsh rfl) (by first | assumption | exact hr _ _ _ rfl) ?_
      refine wp_aload_n (j := 0) rfl q101_ok d101_38 ?_
      refine wp_getR q101_ok d101_39 fl_10_69 rfl (by first | assumption | exact so0 hsh rfl) (by first | assumption | exact hr _ _ _ rfl) ?_
      refine wp_getI q101_ok d101_42 fl_10_217 rfl (by first | assumption | exact so0 hsh rfl) ((congrFun (er 38 (by omega)) 0).trans hA1.1) ?_
      refine wp_aload_n (j := 0) rfl q101_ok d101_45 ?_
      refine wp_getR q101_ok d101_46 fl_10_69 rfl (by first | assumption | exact so0 hsh rfl) (by first | assumption | exact hr _ _ _ rfl) ?_
      refine wp_getR q101_ok d101_49 fl_10_182 rfl (by first | assumption | exact so0 hsh rfl) (by first | assumption | exact hr _ _ _ rfl) ?_
      refine wp_iconst (v := 0) (by decide) q101_ok d101_52 ?_
      refine wp_iald (m := 2) q101_ok d101_53 (by first | assumption | exact so0 hsh rfl) (by first | assumption | exact shl hsh (Nat.le_of_ble_eq_true rfl) rfl) (ixn_nI (j := 0) (Nat.le_of_ble_eq_true rfl)) ((congrFun (er 39 (by omega)) 0).trans (hA1.2 0 (by decide)).1) ?_ (shK hsh)
      refine wp_bipush (v := 63) (by decide) q101_ok d101_54 ?_
      refine wp_cV q101_ok d101_56 ml_10_220 rfl q65_ok (u := 7) rfl (by first | assumption | exact so0 hsh rfl) rfl (Nat.le_of_ble_eq_true rfl) (Nat.le_of_ble_eq_true rfl) (c_lookers (d := kpD d1 nx x.2.2.1) hsh hr hTa.1.1 hnp6 _ _ _ hTa.1.2.2.2.2) (fun v56 μ56 hc => ?_)
      obtain ⟨rfl, d2, rfl, ha2⟩ := hc
      refine ⟨mm_le_same rfl, ?_⟩
      rw [lookers_all hTa]
      refine wp_istore_n (j := 3) (Nat.le_of_ble_eq_true rfl) (rfl : _ = [_, _, _, _, _, _]) q101_ok d101_59 ?_
      refine wp_aload_n (j := 0) rfl q101_ok d101_60 ?_
      refine wp_getR q101_ok d101_61 fl_10_28 rfl (by first | assumption | exact so0 hsh rfl) (by first | assumption | exact hr _ _ _ rfl) ?_
      refine wp_iload_n (j := 3) rfl q101_ok d101_64 ?_
      refine wp_aload_n (j := 0) rfl q101_ok d101_65 ?_
      refine wp_getR q101_ok d101_66 fl_10_69 rfl (by first | assumption | exact so0 hsh rfl) (by first | assumption | exact hr _ _ _ rfl) ?_
      refine wp_getI q101_ok d101_69 fl_10_217 rfl (by first | assumption | exact so0 hsh rfl) ((congrFun (ha2 38 (by unfold scr; omega)) 0).trans ((congrFun (er 38 (by omega)) 0).trans hA1.1)) ?_
      refine wp_aload_n (j := 0) rfl q101_ok d101_72 ?_
      refine wp_getR q101_ok d101_73 fl_10_28 rfl (by first | assumption | exact so0 hsh rfl) (by first | assumption | exact hr _ _ _ rfl) ?_
      refine wp_aload_n (j := 0) rfl q101_ok d101_76 ?_
      refine wp_getR q101_ok d101_77 fl_10_28 rfl (by first | assumption | exact so0 hsh rfl) (by first | assumption | exact hr _ _ _ rfl) ?_
      refine wp_cV q101_ok d101_80 ml_10_224 rfl q58_ok (u := 7) rfl (by first | assumption | exact so0 hsh rfl) rfl (Nat.le_of_ble_eq_true rfl) (Nat.le_of_ble_eq_true rfl) (c_view (d := d2) hsh hr) (fun v80 μ80 hc => ?_)
      obtain ⟨rfl, rfl⟩ := hc
      refine ⟨mm_le_same rfl, ?_⟩
      refine wp_cV q101_ok d101_83 ml_10_227 rfl q67_ok (u := 7) rfl (by first | assumption | exact so0 hsh rfl) rfl (Nat.le_of_ble_eq_true rfl) (Nat.le_of_ble_eq_true rfl) (c_near (d := d2) hsh hr (by rw [ha2 4 (by unfold scr; omega)]; exact hTa.1.1) hnp6 _) (fun v83 μ83 hc => ?_)
      obtain ⟨rfl, rfl⟩ := hc
      refine ⟨mm_le_same rfl, ?_⟩
      refine wp_cV q101_ok d101_86 ml_10_230 rfl q66_ok (u := 7) rfl (by first | assumption | exact so0 hsh rfl) rfl (Nat.le_of_ble_eq_true rfl) (Nat.le_of_ble_eq_true rfl) (c_seers (d := d2) hsh hr _ _ _) (fun v86 μ86 hc => ?_)
      obtain ⟨rfl, rfl⟩ := hc
      refine ⟨mm_le_same rfl, ?_⟩
      rw [show nearC d2 (viewC d2) (tnp T) = nearC (kpD d1 nx x.2.2.1) (o0 T).2.2.2 (tnp T) from by rw [nearC_ag ha2 _ _ hnp6, viewC_ag ha2, hTa.2.2.2.2.2.2]; rfl, seersC_ag ha2, see_abs hTa]
      refine wp_istore (j := 4) (Nat.le_of_ble_eq_true rfl) (rfl : _ = [_, _, _, _, _, _]) q101_ok d101_89 ?_
      refine wp_aload_n (j := 0) rfl q101_ok d101_91 ?_
      refine wp_getI q101_ok d101_92 fl_10_203 rfl (by first | assumption | exact so0 hsh rfl) ((congrFun (ha2 0 (by unfold scr; omega)) 16).trans ((congrFun (er 0 (by omega)) 16).trans hr1)) ?_
      refine wp_if_le q101_ok d101_95 (t := 116) rfl (fun h95 => ?_) (fun h95 => ?_)
      · refine wp_iconst (v := 0) (by decide) q101_ok d101_116 ?_
        refine wp_istore (j := 5) (Nat.le_of_ble_eq_true rfl) (rfl : _ = [_, _, _, _, _, _]) q101_ok d101_117 ?_
        refine wp_aload_n (j := 0) rfl q101_ok d101_119 ?_
        refine wp_getR q101_ok d101_120 fl_10_69 rfl (by first | assumption | exact so0 hsh rfl) (by first | assumption | exact hr _ _ _ rfl) ?_
        refine wp_aload_n (j := 0) rfl q101_ok d101_123 ?_
        refine wp_getR q101_ok d101_124 fl_10_28 rfl (by first | assumption | exact so0 hsh rfl) (by first | assumption | exact hr _ _ _ rfl) ?_
        refine wp_iload (j := 4) rfl q101_ok d101_127 ?_
        refine wp_if_ne q101_ok d101_129 (t := 137) rfl (fun h129 => ?_) (fun h129 => ?_)
        · refine wp_iconst (v := 1) (by decide) q101_ok d101_137 ?_
          refine wp_goto (t := 142) rfl q101_ok d101_138 ?_
          refine wp_cV q101_ok d101_142 ml_10_236 rfl q49_ok (u := 6) rfl (by first | assumption | exact so0 hsh rfl) rfl (Nat.le_of_ble_eq_true rfl) (Nat.le_of_ble_eq_true rfl) (c_pass (w := 38) (d := d2) hsh hr (tw38 hsh hr) (Nat.le_refl _) (by rw [ha2 4 (by unfold scr; omega)]; exact hTa.1.2.2.1) hnb2 _) (fun v142 μ142 hc => ?_)
          obtain ⟨rfl, rfl⟩ := hc
          refine ⟨mm_le_same rfl, ?_⟩
          refine wp_pop rfl q101_ok d101_145 ?_
          refine wp_iinc (j := 2) rfl (by first | exact inc1 | rfl) (rfl : _ = [_, _, _, _, _, _]) q101_ok d101_146 ?_
          refine wp_goto (t := 18) rfl q101_ok d101_149 ?_
          obtain ⟨f1, f2⟩ := go_next (db := d2) (gb := mm_up g1 (49 + 3 * nx) 3 (g1 38 3)) hT1 hnx q2 q3 q4 hA1 hg1 ha2 1 (if risk ≤ 0 then x.2.1 else drwX x.2.1) (by rw [e38, if_pos h95]) (fun c hc => rfl)
          have eX : goX T risk x = (stA T x.1 1, (if risk ≤ 0 then x.2.1 else drwX x.2.1), pshN x.2.2.1, pshF x.2.2.1 x.2.2.2 (x.1, x.2.1)) := by
            unfold goX sgA strG
            rw [if_neg h129]
          rw [← eX] at f2
          have := ih (k + 1) (some (.int (loB T (o0 T) x.1.1 (x.1.2.1 0)))) (some (.int (seB T (o0 T) x.1.1 (x.1.2.1 0)))) (some (.int 0)) _ _ (goX T risk x) (by omega) (frG_trans hf f1) f2
          rw [goN]
          exact this
        · have h129 := Classical.not_not.mp h129
          refine wp_iload (j := 5) rfl q101_ok d101_132 ?_
          refine wp_if_eq q101_ok d101_134 (t := 141) rfl (fun h134 => ?_) (fun h134 => ?_)
          · refine wp_iconst (v := 0) (by decide) q101_ok d101_141 ?_
            refine wp_cV q101_ok d101_142 ml_10_236 rfl q49_ok (u := 6) rfl (by first | assumption | exact so0 hsh rfl) rfl (Nat.le_of_ble_eq_true rfl) (Nat.le_of_ble_eq_true rfl) (c_pass (w := 38) (d := d2) hsh hr (tw38 hsh hr) (Nat.le_refl _) (by rw [ha2 4 (by unfold scr; omega)]; exact hTa.1.2.2.1) hnb2 _) (fun v142 μ142 hc => ?_)
            obtain ⟨rfl, rfl⟩ := hc
            refine ⟨mm_le_same rfl, ?_⟩
            refine wp_pop rfl q101_ok d101_145 ?_
            refine wp_iinc (j := 2) rfl (by first | exact inc1 | rfl) (rfl : _ = [_, _, _, _, _, _]) q101_ok d101_146 ?_
            refine wp_goto (t := 18) rfl q101_ok d101_149 ?_
            obtain ⟨f1, f2⟩ := go_next (db := d2) (gb := mm_up g1 (49 + 3 * nx) 3 (g1 38 3)) hT1 hnx q2 q3 q4 hA1 hg1 ha2 0 (if risk ≤ 0 then x.2.1 else drwX x.2.1) (by rw [e38, if_pos h95]) (fun c hc => rfl)
            have eX : goX T risk x = (stA T x.1 0, (if risk ≤ 0 then x.2.1 else drwX x.2.1), pshN x.2.2.1, pshF x.2.2.1 x.2.2.2 (x.1, x.2.1)) := by
              unfold goX sgA strG
              rw [if_pos h129, if_pos h95]
            rw [← eX] at f2
            have := ih (k + 1) (some (.int (loB T (o0 T) x.1.1 (x.1.2.1 0)))) (some (.int (seB T (o0 T) x.1.1 (x.1.2.1 0)))) (some (.int 0)) _ _ (goX T risk x) (by omega) (frG_trans hf f1) f2
            rw [goN]
            exact this
          · exact absurd rfl h134
      · refine wp_aload_n (j := 0) rfl q101_ok d101_98 ?_
        refine wp_getR q101_ok d101_99 fl_10_69 rfl (by first | assumption | exact so0 hsh rfl) (by first | assumption | exact hr _ _ _ rfl) ?_
        refine wp_cV q101_ok d101_102 ml_10_233 rfl q48_ok (u := 6) rfl (by first | assumption | exact so0 hsh rfl) rfl (Nat.le_of_ble_eq_true rfl) (Nat.le_of_ble_eq_true rfl) (c_draw hsh hr) (fun v102 μ102 hc => ?_)
        obtain ⟨rfl, rfl⟩ := hc
        refine ⟨mm_le_same rfl, ?_⟩
        rw [e38]
        refine wp_aload_n (j := 0) rfl q101_ok d101_105 ?_
        refine wp_getI q101_ok d101_106 fl_10_203 rfl (by first | assumption | exact so0 hsh rfl) ((congrFun (ha2 0 (by unfold scr; omega)) 16).trans ((congrFun (er 0 (by omega)) 16).trans hr1)) ?_
        refine wp_icmp_ge q101_ok d101_109 (t := 116) rfl (fun h109 => ?_) (fun h109 => ?_)
        · refine wp_iconst (v := 0) (by decide) q101_ok d101_116 ?_
          refine wp_istore (j := 5) (Nat.le_of_ble_eq_true rfl) (rfl : _ = [_, _, _, _, _, _]) q101_ok d101_117 ?_
          refine wp_aload_n (j := 0) rfl q101_ok d101_119 ?_
          refine wp_getR q101_ok d101_120 fl_10_69 rfl (by first | assumption | exact so0 hsh rfl) (by first | assumption | exact hr _ _ _ rfl) ?_
          refine wp_aload_n (j := 0) rfl q101_ok d101_123 ?_
          refine wp_getR q101_ok d101_124 fl_10_28 rfl (by first | assumption | exact so0 hsh rfl) (by first | assumption | exact hr _ _ _ rfl) ?_
          refine wp_iload (j := 4) rfl q101_ok d101_127 ?_
          refine wp_if_ne q101_ok d101_129 (t := 137) rfl (fun h129 => ?_) (fun h129 => ?_)
          · refine wp_iconst (v := 1) (by decide) q101_ok d101_137 ?_
            refine wp_goto (t := 142) rfl q101_ok d101_138 ?_
            refine wp_cV q101_ok d101_142 ml_10_236 rfl q49_ok (u := 6) rfl (by first | assumption | exact so0 hsh rfl) rfl (Nat.le_of_ble_eq_true rfl) (Nat.le_of_ble_eq_true rfl) (c_pass (w := 38) (d := d2) hsh hr (tw38 hsh hr) (Nat.le_refl _) (by rw [ha2 4 (by unfold scr; omega)]; exact hTa.1.2.2.1) hnb2 _) (fun v142 μ142 hc => ?_)
            obtain ⟨rfl, rfl⟩ := hc
            refine ⟨mm_le_same rfl, ?_⟩
            refine wp_pop rfl q101_ok d101_145 ?_
            refine wp_iinc (j := 2) rfl (by first | exact inc1 | rfl) (rfl : _ = [_, _, _, _, _, _]) q101_ok d101_146 ?_
            refine wp_goto (t := 18) rfl q101_ok d101_149 ?_
            obtain ⟨f1, f2⟩ := go_next (db := d2) (gb := mm_up (mm_up g1 (49 + 3 * nx) 3 (g1 38 3)) 38 3 (drwX x.2.1)) hT1 hnx q2 q3 q4 hA1 hg1 ha2 1 (if risk ≤ 0 then x.2.1 else drwX x.2.1) (by rw [mm_up_at, if_pos rfl, if_neg h95]) (fun c hc => mm_up_ne hc)
            have eX : goX T risk x = (stA T x.1 1, (if risk ≤ 0 then x.2.1 else drwX x.2.1), pshN x.2.2.1, pshF x.2.2.1 x.2.2.2 (x.1, x.2.1)) := by
              unfold goX sgA strG
              rw [if_neg h129]
            rw [← eX] at f2
            have := ih (k + 1) (some (.int (loB T (o0 T) x.1.1 (x.1.2.1 0)))) (some (.int (seB T (o0 T) x.1.1 (x.1.2.1 0)))) (some (.int 0)) _ _ (goX T risk x) (by omega) (frG_trans hf f1) f2
            rw [goN]
            exact this
          · have h129 := Classical.not_not.mp h129
            refine wp_iload (j := 5) rfl q101_ok d101_132 ?_
            refine wp_if_eq q101_ok d101_134 (t := 141) rfl (fun h134 => ?_) (fun h134 => ?_)
            · refine wp_iconst (v := 0) (by decide) q101_ok d101_141 ?_
              refine wp_cV q101_ok d101_142 ml_10_236 rfl q49_ok (u := 6) rfl (by first | assumption | exact so0 hsh rfl) rfl (Nat.le_of_ble_eq_true rfl) (Nat.le_of_ble_eq_true rfl) (c_pass (w := 38) (d := d2) hsh hr (tw38 hsh hr) (Nat.le_refl _) (by rw [ha2 4 (by unfold scr; omega)]; exact hTa.1.2.2.1) hnb2 _) (fun v142 μ142 hc => ?_)
              obtain ⟨rfl, rfl⟩ := hc
              refine ⟨mm_le_same rfl, ?_⟩
              refine wp_pop rfl q101_ok d101_145 ?_
              refine wp_iinc (j := 2) rfl (by first | exact inc1 | rfl) (rfl : _ = [_, _, _, _, _, _]) q101_ok d101_146 ?_
              refine wp_goto (t := 18) rfl q101_ok d101_149 ?_
              obtain ⟨f1, f2⟩ := go_next (db := d2) (gb := mm_up (mm_up g1 (49 + 3 * nx) 3 (g1 38 3)) 38 3 (drwX x.2.1)) hT1 hnx q2 q3 q4 hA1 hg1 ha2 0 (if risk ≤ 0 then x.2.1 else drwX x.2.1) (by rw [mm_up_at, if_pos rfl, if_neg h95]) (fun c hc => mm_up_ne hc)
              have eX : goX T risk x = (stA T x.1 0, (if risk ≤ 0 then x.2.1 else drwX x.2.1), pshN x.2.2.1, pshF x.2.2.1 x.2.2.2 (x.1, x.2.1)) := by
                unfold goX sgA strG
                rw [if_pos h129, if_neg h95, if_pos h109]
              rw [← eX] at f2
              have := ih (k + 1) (some (.int (loB T (o0 T) x.1.1 (x.1.2.1 0)))) (some (.int (seB T (o0 T) x.1.1 (x.1.2.1 0)))) (some (.int 0)) _ _ (goX T risk x) (by omega) (frG_trans hf f1) f2
              rw [goN]
              exact this
            · exact absurd rfl h134
        · refine wp_iconst (v := 1) (by decide) q101_ok d101_112 ?_
          refine wp_goto (t := 117) rfl q101_ok d101_113 ?_
          refine wp_istore (j := 5) (Nat.le_of_ble_eq_true rfl) (rfl : _ = [_, _, _, _, _, _]) q101_ok d101_117 ?_
          refine wp_aload_n (j := 0) rfl q101_ok d101_119 ?_
          refine wp_getR q101_ok d101_120 fl_10_69 rfl (by first | assumption | exact so0 hsh rfl) (by first | assumption | exact hr _ _ _ rfl) ?_
          refine wp_aload_n (j := 0) rfl q101_ok d101_123 ?_
          refine wp_getR q101_ok d101_124 fl_10_28 rfl (by first | assumption | exact so0 hsh rfl) (by first | assumption | exact hr _ _ _ rfl) ?_
          refine wp_iload (j := 4) rfl q101_ok d101_127 ?_
          refine wp_if_ne q101_ok d101_129 (t := 137) rfl (fun h129 => ?_) (fun h129 => ?_)
          · refine wp_iconst (v := 1) (by decide) q101_ok d101_137 ?_
            refine wp_goto (t := 142) rfl q101_ok d101_138 ?_
            refine wp_cV q101_ok d101_142 ml_10_236 rfl q49_ok (u := 6) rfl (by first | assumption | exact so0 hsh rfl) rfl (Nat.le_of_ble_eq_true rfl) (Nat.le_of_ble_eq_true rfl) (c_pass (w := 38) (d := d2) hsh hr (tw38 hsh hr) (Nat.le_refl _) (by rw [ha2 4 (by unfold scr; omega)]; exact hTa.1.2.2.1) hnb2 _) (fun v142 μ142 hc => ?_)
            obtain ⟨rfl, rfl⟩ := hc
            refine ⟨mm_le_same rfl, ?_⟩
            refine wp_pop rfl q101_ok d101_145 ?_
            refine wp_iinc (j := 2) rfl (by first | exact inc1 | rfl) (rfl : _ = [_, _, _, _, _, _]) q101_ok d101_146 ?_
            refine wp_goto (t := 18) rfl q101_ok d101_149 ?_
            obtain ⟨f1, f2⟩ := go_next (db := d2) (gb := mm_up (mm_up g1 (49 + 3 * nx) 3 (g1 38 3)) 38 3 (drwX x.2.1)) hT1 hnx q2 q3 q4 hA1 hg1 ha2 1 (if risk ≤ 0 then x.2.1 else drwX x.2.1) (by rw [mm_up_at, if_pos rfl, if_neg h95]) (fun c hc => mm_up_ne hc)
            have eX : goX T risk x = (stA T x.1 1, (if risk ≤ 0 then x.2.1 else drwX x.2.1), pshN x.2.2.1, pshF x.2.2.1 x.2.2.2 (x.1, x.2.1)) := by
              unfold goX sgA strG
              rw [if_neg h129]
            rw [← eX] at f2
            have := ih (k + 1) (some (.int (loB T (o0 T) x.1.1 (x.1.2.1 0)))) (some (.int (seB T (o0 T) x.1.1 (x.1.2.1 0)))) (some (.int 1)) _ _ (goX T risk x) (by omega) (frG_trans hf f1) f2
            rw [goN]
            exact this
          · have h129 := Classical.not_not.mp h129
            refine wp_iload (j := 5) rfl q101_ok d101_132 ?_
            refine wp_if_eq q101_ok d101_134 (t := 141) rfl (fun h134 => ?_) (fun h134 => ?_)
            · exact absurd h134 (by decide)
            · refine wp_iconst (v := 1) (by decide) q101_ok d101_137 ?_
              refine wp_goto (t := 142) rfl q101_ok d101_138 ?_
              refine wp_cV q101_ok d101_142 ml_10_236 rfl q49_ok (u := 6) rfl (by first | assumption | exact so0 hsh rfl) rfl (Nat.le_of_ble_eq_true rfl) (Nat.le_of_ble_eq_true rfl) (c_pass (w := 38) (d := d2) hsh hr (tw38 hsh hr) (Nat.le_refl _) (by rw [ha2 4 (by unfold scr; omega)]; exact hTa.1.2.2.1) hnb2 _) (fun v142 μ142 hc => ?_)
              obtain ⟨rfl, rfl⟩ := hc
              refine ⟨mm_le_same rfl, ?_⟩
              refine wp_pop rfl q101_ok d101_145 ?_
              refine wp_iinc (j := 2) rfl (by first | exact inc1 | rfl) (rfl : _ = [_, _, _, _, _, _]) q101_ok d101_146 ?_
              refine wp_goto (t := 18) rfl q101_ok d101_149 ?_
              obtain ⟨f1, f2⟩ := go_next (db := d2) (gb := mm_up (mm_up g1 (49 + 3 * nx) 3 (g1 38 3)) 38 3 (drwX x.2.1)) hT1 hnx q2 q3 q4 hA1 hg1 ha2 1 (if risk ≤ 0 then x.2.1 else drwX x.2.1) (by rw [mm_up_at, if_pos rfl, if_neg h95]) (fun c hc => mm_up_ne hc)
              have eX : goX T risk x = (stA T x.1 1, (if risk ≤ 0 then x.2.1 else drwX x.2.1), pshN x.2.2.1, pshF x.2.2.1 x.2.2.2 (x.1, x.2.1)) := by
                unfold goX sgA strG
                rw [if_pos h129, if_neg h95, if_neg h109]
              rw [← eX] at f2
              have := ih (k + 1) (some (.int (loB T (o0 T) x.1.1 (x.1.2.1 0)))) (some (.int (seB T (o0 T) x.1.1 (x.1.2.1 0)))) (some (.int 1)) _ _ (goX T risk x) (by omega) (frG_trans hf f1) f2
              rw [goN]
              exact this
