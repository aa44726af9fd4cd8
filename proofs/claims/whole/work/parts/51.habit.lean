/-! ===== a habit told: what its text should give; the reading ===== -/
abbrev wo_R : Type := Nat ⊕ (Nat × List Int32)
def thn (x : wo_R) (f : Nat → wo_R) : wo_R := match x with
  | .inl w => .inl w
  | .inr y => match f y.1 with
    | .inl w => .inl w
    | .inr z => .inr (z.1, y.2 ++ z.2)
def thc (x : wo_R) (c : Int32) : wo_R := match x with
  | .inl w => .inl w
  | .inr y => .inr (y.1, y.2 ++ [c])
def cls (L : wo_P) (x : wo_R) (s : Int32) : wo_R := match x with
  | .inl w => .inl w
  | .inr y => if bAt L (wsp L y.1) = s then .inr (wsp L y.1 + 1, y.2) else .inl (wsp L y.1)
def ltr (c : Int32) : Int32 := if c = 116 then 0 else if c = 104 then 1 else if c = 109 then 2 else if c = 111 then 3 else if c = 100 then 4 else if c = 112 then 5 else -1
def cmp (c : Int32) : Int32 := if c = 61 then -15 else if c = 60 then -16 else if c = 62 then -17 else -1
def atomS (L : wo_P) (sub : Option (Nat → wo_R)) (p : Nat) : wo_R :=
  if bAt L (wsp L p) = 91 then (match sub with
    | none => .inl (wsp L p)
    | some s => cls L (s (wsp L p + 1)) 93)
  else if ltr (bAt L (wsp L p)) = -1 then (match numS L 3 (wsp L p) with
    | .inl w => .inl w
    | .inr x => .inr (x.1, [x.2]))
  else .inr (wsp L p + 1, [-2 - ltr (bAt L (wsp L p))])
def lopS (L : wo_P) (item : Nat → wo_R) (o1 o2 c1 c2 : Int32) : Nat → Nat → wo_R
  | 0, p => .inr (p, [])
  | z + 1, p => if bAt L (wsp L p) = o1 then thn (thc (item (wsp L p + 1)) c1) (lopS L item o1 o2 c1 c2 z)
    else if bAt L (wsp L p) = o2 then thn (thc (item (wsp L p + 1)) c2) (lopS L item o1 o2 c1 c2 z)
    else .inr (wsp L p, [])
def termS (L : wo_P) (sub : Option (Nat → wo_R)) (p : Nat) : wo_R := thn (atomS L sub p) (lopS L (atomS L sub) 42 47 (-20) (-21) 160)
def sumS (L : wo_P) (sub : Option (Nat → wo_R)) (p : Nat) : wo_R := thn (termS L sub p) (lopS L (termS L sub) 43 45 (-18) (-19) 160)
def sumO (L : wo_P) : Nat → Option (Nat → wo_R)
  | 0 => none
  | k + 1 => some (sumS L (sumO L k))
/-- a sum inside 6 - k signs -/
def sumK (L : wo_P) (k : Nat) : Nat → wo_R := sumS L (sumO L k)
def cmpS (L : wo_P) (k p : Nat) : wo_R := if cmp (bAt L (wsp L p)) = -1 then .inl (wsp L p) else thc (sumK L k (wsp L p + 1)) (cmp (bAt L (wsp L p)))
def mulS (L : wo_P) (item : Nat → wo_R) (s c : Int32) : Nat → Nat → wo_R
  | 0, p => .inr (p, [])
  | z + 1, p => if bAt L (wsp L p) = s then thn (thc (item (wsp L p + 1)) c) (mulS L item s c z) else .inr (wsp L p, [])
def truS (L : wo_P) (u : Nat → wo_R) (p : Nat) : wo_R := thn (u p) (mulS L u 38 (-13) 160)
def conS (L : wo_P) (u : Nat → wo_R) (p : Nat) : wo_R := thn (truS L u p) (mulS L (truS L u) 124 (-12) 160)
def unitS (L : wo_P) (k : Nat) (nest : Option (Nat → wo_R)) (p : Nat) : wo_R :=
  if bAt L (wsp L p) = 33 then (match nest with
    | none => .inl (wsp L p)
    | some u => thc (u (wsp L p + 1)) (-14))
  else if bAt L (wsp L p) = 40 then (match nest with
    | none => .inl (wsp L p)
    | some u => cls L (conS L u (wsp L p + 1)) 41)
  else thn (sumK L k (wsp L p)) (cmpS L k)
def unitO (L : wo_P) : Nat → Option (Nat → wo_R)
  | 0 => none
  | k + 1 => some (unitS L k (unitO L k))
def unitK (L : wo_P) (k : Nat) : Nat → wo_R := unitS L k (unitO L k)
/-- the tape, the place, the codes so far -/
def HS (d : mm_D) (L : wo_P) (p s : Nat) (cs : List Int32) : Prop := sgR d L p ∧ d 33 2 = nI cs.length ∧ cs.length + s ≤ p ∧ ∀ i, i < cs.length → d 34 i = cs.getD i 0
def hf (d d2 : mm_D) : Prop := ∀ c, c ≠ 3 → c ≠ 33 → c ≠ 34 → d2 c = d c
theorem hf_refl (d : mm_D) : hf d d := fun _ _ _ _ => rfl
theorem hf_trans {d d1 d2 : mm_D} (h : hf d d1) (h' : hf d1 d2) : hf d d2 := fun c a b e => (h' c a b e).trans (h c a b e)
theorem hf_sf {d d2 : mm_D} (h : sf d d2) : hf d d2 := fun c a _ _ => h c a
theorem HS_sf {d d2 : mm_D} {L : wo_P} {p q s s2 : Nat} {cs : List Int32} (h : HS d L p s cs) (hf : sf d d2) (e : d2 3 1 = nI q) (hq : q ≤ L.1) (hpq : cs.length + s2 ≤ q) : HS d2 L q s2 cs := by
  obtain ⟨h1, h2, h3, h4⟩ := h
  refine ⟨⟨tpR_sf h1.1 hf, e, hq⟩, by rw [hf 33 (by decide)]; exact h2, hpq, by rw [hf 34 (by decide)]; exact h4⟩
theorem getD_app (c : Int32) : ∀ (cs : List Int32) (i : Nat), (cs ++ [c]).getD i 0 = if i = cs.length then c else cs.getD i 0
  | [], 0 => rfl
  | [], i + 1 => by
    rw [if_neg (by simp)]
    rfl
  | x :: xs, 0 => by
    rw [if_neg (by simp)]
    rfl
  | x :: xs, i + 1 => by
    have ih := getD_app c xs i
    show (xs ++ [c]).getD i 0 = if i + 1 = xs.length + 1 then c else xs.getD i 0
    rw [ih]
    by_cases q : i = xs.length
    · rw [if_pos q, if_pos (by omega)]
    · rw [if_neg q, if_neg (by omega)]
theorem HS_put {d : mm_D} {L : wo_P} {p s : Nat} {cs : List Int32} (h : HS d L p (s + 1) cs) (c : Int32) : HS (mm_up (mm_up d 34 cs.length c) 33 2 (nI (cs.length + 1))) L p s (cs ++ [c]) := by
  obtain ⟨h1, h2, h3, h4⟩ := h
  have e : ∀ q, q < 33 → mm_up (mm_up d 34 cs.length c) 33 2 (nI (cs.length + 1)) q = d q := fun q hq => by rw [mm_up_ne (by omega), mm_up_ne (by omega)]
  refine ⟨⟨?_, by rw [e 3 (by decide)]; exact h1.2.1, h1.2.2⟩, ?_, by rw [List.length_append]; show cs.length + 1 + s ≤ p; omega, fun i hi => ?_⟩
  · unfold tpR
    rw [e 1 (by decide), e 2 (by decide)]
    exact h1.1
  · rw [mm_up_at, if_pos rfl, List.length_append]
    rfl
  · rw [List.length_append] at hi
    have hi' : i < cs.length + 1 := hi
    rw [mm_up_ne (by decide), mm_up_at, getD_app]
    by_cases q : i = cs.length
    · rw [if_pos q, if_pos q]
    · rw [if_neg q, if_neg q]
      exact h4 i (by omega)
def hpost (sh : mm_S) (g : mm_G) (r : mm_R) (L : wo_P) (d : mm_D) (s : Nat) (cs : List Int32) (res : wo_R) (v : Option Value) (μ : mm_M) : Prop := ∃ d2, μ = (sh, d2, g, r) ∧ hf d d2 ∧ (match res with | .inl w => v = some (.int 0) ∧ d2 3 2 = nI w | .inr x => v = some (.int 1) ∧ HS d2 L x.1 s (cs ++ x.2))
theorem bAt_lt {L : wo_P} {q : Nat} {s : Int32} (h : bAt L q = s) (hs : s ≠ -1) : q < L.1 := by
  refine Classical.byContradiction (fun w => hs ?_)
  rw [← h]
  unfold bAt
  rw [if_neg w]
theorem c_put {xs : List Int32} {ext : mm_X} {n : Nat} {sh : mm_S} {d : mm_D} {g : mm_G} {r : mm_R} (hsh : shp sh) (hr : rfx r) {h len : Nat} (hh : hb sh r h) (hlen : d h 2 = nI len) (hl : len < 160) (c : Int32) : wp xs ext (n + 0) 5 0 [some (.ref h), some (.int c)] [] (sh, d, g, r) (fun v μ => v = none ∧ μ = (sh, mm_up (mm_up d (h + 1) len c) h 2 (nI (len + 1)), g, r)) := by
  obtain ⟨b1, b2, b3, b4, b5, b6, b7⟩ := hh
  refine wp_aload_n (j := 0) rfl q5_ok d5_0 ?_
  refine wp_getI q5_ok d5_1 fl_0_22 rfl (by first | assumption | exact so0 hsh rfl) (by first | assumption | rfl) ?_
  refine wp_if_lt q5_ok d5_4 (t := 39) rfl (fun h4 => ?_) (fun h4 => ?_)
  · exact absurd h4 (nI_pos (by omega))
  · refine wp_aload_n (j := 0) rfl q5_ok d5_7 ?_
    refine wp_getI q5_ok d5_8 fl_0_22 rfl (by first | assumption | exact so0 hsh rfl) (by first | assumption | rfl) ?_
    refine wp_aload_n (j := 0) rfl q5_ok d5_11 ?_
    refine wp_getR q5_ok d5_12 fl_0_9 rfl (by first | assumption | exact so0 hsh rfl) b6 ?_
    refine wp_alen (m := 160) q5_ok d5_15 b2.1 (by rw [b2.2]; decide) b3 rfl ?_ (shK hsh)
    refine wp_icmp_ge q5_ok d5_16 (t := 39) rfl (fun h16 => ?_) (fun h16 => ?_)
    · exact absurd h16 (nI_ge hl (by decide))
    · refine wp_aload_n (j := 0) rfl q5_ok d5_19 ?_
      refine wp_getR q5_ok d5_20 fl_0_9 rfl (by first | assumption | exact so0 hsh rfl) b6 ?_
      refine wp_aload_n (j := 0) rfl q5_ok d5_23 ?_
      refine wp_getI q5_ok d5_24 fl_0_22 rfl (by first | assumption | exact so0 hsh rfl) (by first | assumption | rfl) ?_
      refine wp_iload_n (j := 1) rfl q5_ok d5_27 ?_
      refine wp_iast (m := 160) q5_ok d5_28 b2 b3 (ixn_nI hl) ?_
      refine wp_aload_n (j := 0) rfl q5_ok d5_29 ?_
      refine wp_dup rfl q5_ok d5_30 ?_
      refine wp_getI q5_ok d5_31 fl_0_22 rfl (by first | assumption | exact so0 hsh rfl) ((congrFun (mm_up_ne (show h ≠ h + 1 by omega)) _).trans hlen) ?_
      refine wp_iconst (v := 1) (by decide) q5_ok d5_34 ?_
      refine wp_iadd rfl q5_ok d5_35 ?_
      refine wp_putI q5_ok d5_36 fl_0_22 rfl (by first | assumption | exact so0 hsh rfl) (Or.inl rfl) ?_
      refine wp_vret q5_ok d5_39 rfl ?_
      exact ⟨rfl, by rw [show nI len + 1 = nI (len + 1) from nI_1 len]⟩
theorem c_hclear {xs : List Int32} {ext : mm_X} {n : Nat} {sh : mm_S} {d : mm_D} {g : mm_G} {r : mm_R} (hsh : shp sh) (hr : rfx r) {h : Nat} (hh : hb sh r h) : wp xs ext (n + 0) 4 0 [some (.ref h)] [] (sh, d, g, r) (fun v μ => v = none ∧ μ = (sh, mm_up d h 2 0, g, r)) := by
  obtain ⟨b1, b2, b3, b4, b5, b6, b7⟩ := hh
  refine wp_aload_n (j := 0) rfl q4_ok d4_0 ?_
  refine wp_iconst (v := 0) (by decide) q4_ok d4_1 ?_
  refine wp_putI q4_ok d4_2 fl_0_22 rfl (by first | assumption | exact so0 hsh rfl) (Or.inl rfl) ?_
  refine wp_vret q4_ok d4_5 rfl ?_
  exact ⟨rfl, rfl⟩
theorem c_ltr {xs : List Int32} {ext : mm_X} {n : Nat} {sh : mm_S} {d : mm_D} {g : mm_G} {r : mm_R}  (c : Int32) : wp xs ext (n + 0) 3 0 [some (.int c)] [] (sh, d, g, r) (fun v μ => v = some (.int (ltr c)) ∧ μ = (sh, d, g, r)) := by
  refine wp_iload_n (j := 0) rfl q3_ok d3_0 ?_
  by_cases e0 : c = 100
  · refine wp_swI q3_ok d3_1 (by rw [e0]; decide) (by rw [e0]; rfl) (t := 92) rfl ?_
    refine wp_iconst (v := 4) (by decide) q3_ok d3_92 ?_
    refine wp_iret q3_ok d3_93 rfl ?_
    exact ⟨by rw [e0]; rfl, rfl⟩
  by_cases e1 : c = 101
  · refine wp_swI q3_ok d3_1 (by rw [e1]; decide) (by rw [e1]; rfl) (t := 96) rfl ?_
    refine wp_iconst (v := -1) (by decide) q3_ok d3_96 ?_
    refine wp_iret q3_ok d3_97 rfl ?_
    exact ⟨by rw [e1]; rfl, rfl⟩
  by_cases e2 : c = 102
  · refine wp_swI q3_ok d3_1 (by rw [e2]; decide) (by rw [e2]; rfl) (t := 96) rfl ?_
    refine wp_iconst (v := -1) (by decide) q3_ok d3_96 ?_
    refine wp_iret q3_ok d3_97 rfl ?_
    exact ⟨by rw [e2]; rfl, rfl⟩
  by_cases e3 : c = 103
  · refine wp_swI q3_ok d3_1 (by rw [e3]; decide) (by rw [e3]; rfl) (t := 96) rfl ?_
    refine wp_iconst (v := -1) (by decide) q3_ok d3_96 ?_
    refine wp_iret q3_ok d3_97 rfl ?_
    exact ⟨by rw [e3]; rfl, rfl⟩
  by_cases e4 : c = 104
  · refine wp_swI q3_ok d3_1 (by rw [e4]; decide) (by rw [e4]; rfl) (t := 86) rfl ?_
    refine wp_iconst (v := 1) (by decide) q3_ok d3_86 ?_
    refine wp_iret q3_ok d3_87 rfl ?_
    exact ⟨by rw [e4]; rfl, rfl⟩
  by_cases e5 : c = 105
  · refine wp_swI q3_ok d3_1 (by rw [e5]; decide) (by rw [e5]; rfl) (t := 96) rfl ?_
    refine wp_iconst (v := -1) (by decide) q3_ok d3_96 ?_
    refine wp_iret q3_ok d3_97 rfl ?_
    exact ⟨by rw [e5]; rfl, rfl⟩
  by_cases e6 : c = 106
  · refine wp_swI q3_ok d3_1 (by rw [e6]; decide) (by rw [e6]; rfl) (t := 96) rfl ?_
    refine wp_iconst (v := -1) (by decide) q3_ok d3_96 ?_
    refine wp_iret q3_ok d3_97 rfl ?_
    exact ⟨by rw [e6]; rfl, rfl⟩
  by_cases e7 : c = 107
  · refine wp_swI q3_ok d3_1 (by rw [e7]; decide) (by rw [e7]; rfl) (t := 96) rfl ?_
    refine wp_iconst (v := -1) (by decide) q3_ok d3_96 ?_
    refine wp_iret q3_ok d3_97 rfl ?_
    exact ⟨by rw [e7]; rfl, rfl⟩
  by_cases e8 : c = 108
  · refine wp_swI q3_ok d3_1 (by rw [e8]; decide) (by rw [e8]; rfl) (t := 96) rfl ?_
    refine wp_iconst (v := -1) (by decide) q3_ok d3_96 ?_
    refine wp_iret q3_ok d3_97 rfl ?_
    exact ⟨by rw [e8]; rfl, rfl⟩
  by_cases e9 : c = 109
  · refine wp_swI q3_ok d3_1 (by rw [e9]; decide) (by rw [e9]; rfl) (t := 88) rfl ?_
    refine wp_iconst (v := 2) (by decide) q3_ok d3_88 ?_
    refine wp_iret q3_ok d3_89 rfl ?_
    exact ⟨by rw [e9]; rfl, rfl⟩
  by_cases e10 : c = 110
  · refine wp_swI q3_ok d3_1 (by rw [e10]; decide) (by rw [e10]; rfl) (t := 96) rfl ?_
    refine wp_iconst (v := -1) (by decide) q3_ok d3_96 ?_
    refine wp_iret q3_ok d3_97 rfl ?_
    exact ⟨by rw [e10]; rfl, rfl⟩
  by_cases e11 : c = 111
  · refine wp_swI q3_ok d3_1 (by rw [e11]; decide) (by rw [e11]; rfl) (t := 90) rfl ?_
    refine wp_iconst (v := 3) (by decide) q3_ok d3_90 ?_
    refine wp_iret q3_ok d3_91 rfl ?_
    exact ⟨by rw [e11]; rfl, rfl⟩
  by_cases e12 : c = 112
  · refine wp_swI q3_ok d3_1 (by rw [e12]; decide) (by rw [e12]; rfl) (t := 94) rfl ?_
    refine wp_iconst (v := 5) (by decide) q3_ok d3_94 ?_
    refine wp_iret q3_ok d3_95 rfl ?_
    exact ⟨by rw [e12]; rfl, rfl⟩
  by_cases e13 : c = 113
  · refine wp_swI q3_ok d3_1 (by rw [e13]; decide) (by rw [e13]; rfl) (t := 96) rfl ?_
    refine wp_iconst (v := -1) (by decide) q3_ok d3_96 ?_
    refine wp_iret q3_ok d3_97 rfl ?_
    exact ⟨by rw [e13]; rfl, rfl⟩
  by_cases e14 : c = 114
  · refine wp_swI q3_ok d3_1 (by rw [e14]; decide) (by rw [e14]; rfl) (t := 96) rfl ?_
    refine wp_iconst (v := -1) (by decide) q3_ok d3_96 ?_
    refine wp_iret q3_ok d3_97 rfl ?_
    exact ⟨by rw [e14]; rfl, rfl⟩
  by_cases e15 : c = 115
  · refine wp_swI q3_ok d3_1 (by rw [e15]; decide) (by rw [e15]; rfl) (t := 96) rfl ?_
    refine wp_iconst (v := -1) (by decide) q3_ok d3_96 ?_
    refine wp_iret q3_ok d3_97 rfl ?_
    exact ⟨by rw [e15]; rfl, rfl⟩
  by_cases e16 : c = 116
  · refine wp_swI q3_ok d3_1 (by rw [e16]; decide) (by rw [e16]; rfl) (t := 84) rfl ?_
    refine wp_iconst (v := 0) (by decide) q3_ok d3_84 ?_
    refine wp_iret q3_ok d3_85 rfl ?_
    exact ⟨by rw [e16]; rfl, rfl⟩
  have hout : (c).toInt < 100 ∨ 116 < (c).toInt := by
    apply Classical.byContradiction
    intro hx
    have key : ∀ z : Int32, ¬ c = z → ¬ (c).toInt = z.toInt := fun z hz e => hz (Int32.toInt_inj.mp e)
    have k0 := key 100 e0
    rw [show (100 : Int32).toInt = 100 from by decide] at k0
    have k1 := key 101 e1
    rw [show (101 : Int32).toInt = 101 from by decide] at k1
    have k2 := key 102 e2
    rw [show (102 : Int32).toInt = 102 from by decide] at k2
    have k3 := key 103 e3
    rw [show (103 : Int32).toInt = 103 from by decide] at k3
    have k4 := key 104 e4
    rw [show (104 : Int32).toInt = 104 from by decide] at k4
    have k5 := key 105 e5
    rw [show (105 : Int32).toInt = 105 from by decide] at k5
    have k6 := key 106 e6
    rw [show (106 : Int32).toInt = 106 from by decide] at k6
    have k7 := key 107 e7
    rw [show (107 : Int32).toInt = 107 from by decide] at k7
    have k8 := key 108 e8
    rw [show (108 : Int32).toInt = 108 from by decide] at k8
    have k9 := key 109 e9
    rw [show (109 : Int32).toInt = 109 from by decide] at k9
    have k10 := key 110 e10
    rw [show (110 : Int32).toInt = 110 from by decide] at k10
    have k11 := key 111 e11
    rw [show (111 : Int32).toInt = 111 from by decide] at k11
    have k12 := key 112 e12
    rw [show (112 : Int32).toInt = 112 from by decide] at k12
    have k13 := key 113 e13
    rw [show (113 : Int32).toInt = 113 from by decide] at k13
    have k14 := key 114 e14
    rw [show (114 : Int32).toInt = 114 from by decide] at k14
    have k15 := key 115 e15
    rw [show (115 : Int32).toInt = 115 from by decide] at k15
    have k16 := key 116 e16
    rw [show (116 : Int32).toInt = 116 from by decide] at k16
    omega
  refine wp_swO q3_ok d3_1 hout (t := 96) rfl ?_
  refine wp_iconst (v := -1) (by decide) q3_ok d3_96 ?_
  refine wp_iret q3_ok d3_97 rfl ?_
  exact ⟨by unfold ltr; rw [if_neg e16, if_neg e4, if_neg e9, if_neg e11, if_neg e0, if_neg e12], rfl⟩
theorem c_cmp {xs : List Int32} {ext : mm_X} {n : Nat} {sh : mm_S} {d : mm_D} {g : mm_G} {r : mm_R}  (c : Int32) : wp xs ext (n + 0) 20 0 [some (.int c)] [] (sh, d, g, r) (fun v μ => v = some (.int (cmp c)) ∧ μ = (sh, d, g, r)) := by
  refine wp_iload_n (j := 0) rfl q20_ok d20_0 ?_
  refine wp_bipush (v := 61) (by decide) q20_ok d20_1 ?_
  refine wp_icmp_ne q20_ok d20_3 (t := 11) rfl (fun h3 => ?_) (fun h3 => ?_)
  · refine wp_iload_n (j := 0) rfl q20_ok d20_11 ?_
    refine wp_bipush (v := 60) (by decide) q20_ok d20_12 ?_
    refine wp_icmp_ne q20_ok d20_14 (t := 22) rfl (fun h14 => ?_) (fun h14 => ?_)
    · refine wp_iload_n (j := 0) rfl q20_ok d20_22 ?_
      refine wp_bipush (v := 62) (by decide) q20_ok d20_23 ?_
      refine wp_icmp_ne q20_ok d20_25 (t := 33) rfl (fun h25 => ?_) (fun h25 => ?_)
      · refine wp_iconst (v := -1) (by decide) q20_ok d20_33 ?_
        refine wp_iret q20_ok d20_34 rfl ?_
        exact ⟨by unfold cmp; simp [*], rfl⟩
      · have h25 := Classical.not_not.mp h25
        refine wp_bipush (v := -17) (by decide) q20_ok d20_28 ?_
        refine wp_goto (t := 34) rfl q20_ok d20_30 ?_
        refine wp_iret q20_ok d20_34 rfl ?_
        exact ⟨by unfold cmp; simp [*], rfl⟩
    · have h14 := Classical.not_not.mp h14
      refine wp_bipush (v := -16) (by decide) q20_ok d20_17 ?_
      refine wp_goto (t := 34) rfl q20_ok d20_19 ?_
      refine wp_iret q20_ok d20_34 rfl ?_
      exact ⟨by unfold cmp; simp [*], rfl⟩
  · have h3 := Classical.not_not.mp h3
    refine wp_bipush (v := -15) (by decide) q20_ok d20_6 ?_
    refine wp_goto (t := 34) rfl q20_ok d20_8 ?_
    refine wp_iret q20_ok d20_34 rfl ?_
    exact ⟨by unfold cmp; simp [*], rfl⟩
