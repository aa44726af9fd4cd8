/-! ===== what a habit told is worth ===== -/
abbrev isLet (c : Int32) : Prop := ¬ (-2 - c < 0 ∨ 6 ≤ -2 - c)
def ev1 (L : Nat → Int32) (c : Int32) (st : List Int32) : List Int32 :=
  if 0 ≤ c then c :: st
  else if isLet c then L (-2 - c).toNatClampNeg :: st
  else if c = -14 then (match st with
    | x :: r => (if x = 0 then 1 else 0) :: r
    | [] => [])
  else (match st with
    | y :: x :: r => joinC c x.toInt64 y.toInt64 :: r
    | s => s)
def evC (L : Nat → Int32) : List Int32 → List Int32 → List Int32
  | [], st => st
  | c :: cs, st => evC L cs (ev1 L c st)
abbrev isTru (c : Int32) : Prop := c = -12 ∨ c = -13 ∨ c = -15 ∨ c = -16 ∨ c = -17
abbrev isNum (c : Int32) : Prop := c = -18 ∨ c = -19 ∨ c = -20 ∨ c = -21
def two (b : Bool) (t : List Bool) : Option (List Bool) := match t with
  | _ :: _ :: r => some (b :: r)
  | _ => none
def ty1 (c : Int32) (t : List Bool) : Option (List Bool) :=
  if 0 ≤ c ∨ isLet c then (if t.length < 32 then some (false :: t) else none)
  else if c = -14 then (match t with
    | true :: r => some (true :: r)
    | _ => none)
  else if isTru c then two true t
  else if isNum c then two false t
  else none
def tyC : List Int32 → List Bool → Option (List Bool)
  | [], t => some t
  | c :: cs, t => match ty1 c t with
    | none => none
    | some t1 => tyC cs t1
theorem tyC_app : ∀ (a b : List Int32) (t t1 t2 : List Bool), tyC a t = some t1 → tyC b t1 = some t2 → tyC (a ++ b) t = some t2
  | [], b, t, t1, t2, h1, h2 => by cases h1; exact h2
  | c :: a, b, t, t1, t2, h1, h2 => by
    rw [List.cons_append, tyC]
    rw [tyC] at h1
    cases e : ty1 c t with
    | none => rw [e] at h1; cases h1
    | some t0 =>
      rw [e] at h1
      exact tyC_app a b t0 t1 t2 h1 h2
theorem evC_app (L : Nat → Int32) : ∀ (a b st : List Int32), evC L (a ++ b) st = evC L b (evC L a st)
  | [], _, _ => rfl
  | c :: a, b, st => evC_app L a b (ev1 L c st)
theorem tyC_1 {c : Int32} {t t1 : List Bool} (h : ty1 c t = some t1) : tyC [c] t = some t1 := by
  rw [tyC, h]
  rfl
/-- codes from an item that gives a value of this kind -/
def tyI (L : wo_P) (f : Nat → wo_R) (b : Bool) (n : Nat) : Prop := ∀ p x, f p = .inr x → ∀ t : List Bool, t.length + n ≤ 32 → tyC x.2 t = some (b :: t)
theorem ty_num {c : Int32} (h : isNum c) (a b : Bool) (t : List Bool) : ty1 c (a :: b :: t) = some (false :: t) := by
  rcases h with rfl | rfl | rfl | rfl <;> rfl
theorem ty_tru {c : Int32} (h : isTru c) (a b : Bool) (t : List Bool) : ty1 c (a :: b :: t) = some (true :: t) := by
  rcases h with rfl | rfl | rfl | rfl | rfl <;> rfl
theorem lop_ty {L : wo_P} {item : Nat → wo_R} {o1 o2 c1 c2 : Int32} {n : Nat} (hi : tyI L item false n) (h1 : isNum c1) (h2 : isNum c2) : ∀ z p x, lopS L item o1 o2 c1 c2 z p = .inr x → ∀ t : List Bool, t.length + (1 + n) ≤ 32 → tyC x.2 (false :: t) = some (false :: t) := by
  intro z
  induction z with
  | zero =>
    intro p x h t ht
    cases h
    rfl
  | succ z ih =>
    intro p x h t ht
    rw [lopS] at h
    have step : ∀ c, isNum c → thn (thc (item (wsp L p + 1)) c) (lopS L item o1 o2 c1 c2 z) = .inr x → tyC x.2 (false :: t) = some (false :: t) := fun c hc h => by
      obtain ⟨y, w, hy, hw, rfl⟩ := thn_ne h
      obtain ⟨u, hu, rfl⟩ := thc_ne hy
      exact tyC_app _ _ _ _ _ (tyC_app _ _ _ _ _ (hi _ _ hu (false :: t) (by rw [List.length_cons]; omega)) (tyC_1 (ty_num hc false false t))) (ih _ _ hw t ht)
    by_cases q1 : bAt L (wsp L p) = o1
    · rw [if_pos q1] at h
      exact step c1 h1 h
    · rw [if_neg q1] at h
      by_cases q2 : bAt L (wsp L p) = o2
      · rw [if_pos q2] at h
        exact step c2 h2 h
      · rw [if_neg q2] at h
        cases h
        rfl
theorem mul_ty {L : wo_P} {item : Nat → wo_R} {s c : Int32} {n : Nat} (hi : tyI L item true n) (hc : isTru c) : ∀ z p x, mulS L item s c z p = .inr x → ∀ t : List Bool, t.length + (1 + n) ≤ 32 → tyC x.2 (true :: t) = some (true :: t) := by
  intro z
  induction z with
  | zero =>
    intro p x h t ht
    cases h
    rfl
  | succ z ih =>
    intro p x h t ht
    rw [mulS] at h
    by_cases q1 : bAt L (wsp L p) = s
    · rw [if_pos q1] at h
      obtain ⟨y, w, hy, hw, rfl⟩ := thn_ne h
      obtain ⟨u, hu, rfl⟩ := thc_ne hy
      exact tyC_app _ _ _ _ _ (tyC_app _ _ _ _ _ (hi _ _ hu (true :: t) (by rw [List.length_cons]; omega)) (tyC_1 (ty_tru hc true true t))) (ih _ _ hw t ht)
    · rw [if_neg q1] at h
      cases h
      rfl
theorem tyI_le {L : wo_P} {f : Nat → wo_R} {b : Bool} {n m : Nat} (h : tyI L f b n) (hm : n ≤ m) : tyI L f b m := fun p x e t ht => h p x e t (by omega)
theorem tyI_thn {L : wo_P} {f : Nat → wo_R} {g : Nat → wo_R} {b : Bool} {n m : Nat} (h : tyI L f b n) (hg : ∀ p x, g p = .inr x → ∀ t : List Bool, t.length + m ≤ 32 → tyC x.2 (b :: t) = some (b :: t)) (hm : n ≤ m) : tyI L (fun p => thn (f p) g) b m := fun p x e t ht => by
  obtain ⟨y, z, hy, hz, rfl⟩ := thn_ne e
  exact tyC_app _ _ _ _ _ (h _ _ hy t (by omega)) (hg _ _ hz t ht)
theorem nI_nonneg {m : Nat} (h : m ≤ 9999) : 0 ≤ nI m := nI_pos' (by omega)
theorem ltr_let {c : Int32} (h : ¬ ltr c = -1) : isLet (-2 - ltr c) ∧ ¬ 0 ≤ -2 - ltr c := by
  have key : ∀ i : Int32, (i = 0 ∨ i = 1 ∨ i = 2 ∨ i = 3 ∨ i = 4 ∨ i = 5) → isLet (-2 - i) ∧ ¬ 0 ≤ -2 - i := by
    intro i hi
    rcases hi with rfl | rfl | rfl | rfl | rfl | rfl <;> decide
  apply key
  unfold ltr at h ⊢
  by_cases e0 : c = 116
  · rw [if_pos e0]; exact Or.inl rfl
  · rw [if_neg e0] at h ⊢
    by_cases e1 : c = 104
    · rw [if_pos e1]; exact Or.inr (Or.inl rfl)
    · rw [if_neg e1] at h ⊢
      by_cases e2 : c = 109
      · rw [if_pos e2]; exact Or.inr (Or.inr (Or.inl rfl))
      · rw [if_neg e2] at h ⊢
        by_cases e3 : c = 111
        · rw [if_pos e3]; exact Or.inr (Or.inr (Or.inr (Or.inl rfl)))
        · rw [if_neg e3] at h ⊢
          by_cases e4 : c = 100
          · rw [if_pos e4]; exact Or.inr (Or.inr (Or.inr (Or.inr (Or.inl rfl))))
          · rw [if_neg e4] at h ⊢
            by_cases e5 : c = 112
            · rw [if_pos e5]; exact Or.inr (Or.inr (Or.inr (Or.inr (Or.inr rfl))))
            · rw [if_neg e5] at h; exact absurd rfl h
theorem atom_ty {L : wo_P} {sub : Option (Nat → wo_R)} {n : Nat} (hn : 1 ≤ n) (hs : ∀ s, sub = some s → tyI L s false n) : tyI L (atomS L sub) false n := by
  intro p x h t ht
  unfold atomS at h
  by_cases q1 : bAt L (wsp L p) = 91
  · rw [if_pos q1] at h
    cases hsub : sub with
    | none => rw [hsub] at h; cases h
    | some s =>
      rw [hsub] at h
      obtain ⟨y, hy, _, rfl⟩ := cls_ne (show cls L (s (wsp L p + 1)) 93 = .inr x from h)
      exact hs s hsub _ _ hy t ht
  · rw [if_neg q1] at h
    by_cases q2 : ltr (bAt L (wsp L p)) = -1
    · rw [if_pos q2] at h
      cases hnu : numS L 3 (wsp L p) with
      | inl w => rw [hnu] at h; cases h
      | inr y =>
        rw [hnu] at h
        cases h
        obtain ⟨_, _, _, m, hm, e⟩ := num_ok hnu
        refine tyC_1 ?_
        unfold ty1
        rw [if_pos (Or.inl (by rw [e]; exact nI_nonneg hm)), if_pos (by omega)]
    · rw [if_neg q2] at h
      cases h
      refine tyC_1 ?_
      unfold ty1
      rw [if_pos (Or.inr (ltr_let q2).1), if_pos (by omega)]
theorem sumS_ty {L : wo_P} {sub : Option (Nat → wo_R)} {n : Nat} (hn : 1 ≤ n) (hs : ∀ s, sub = some s → tyI L s false n) : tyI L (sumS L sub) false (n + 2) := by
  have ha := atom_ty hn hs
  have ht : tyI L (termS L sub) false (n + 1) := tyI_thn ha (fun p x e t h => lop_ty ha (Or.inr (Or.inr (Or.inl rfl))) (Or.inr (Or.inr (Or.inr rfl))) 160 p x e t (by omega)) (by omega)
  exact tyI_thn ht (fun p x e t h => lop_ty ht (Or.inl rfl) (Or.inr (Or.inl rfl)) 160 p x e t (by omega)) (by omega)
theorem sumO_ty (L : wo_P) : ∀ k s, sumO L k = some s → tyI L s false (2 * k + 1)
  | 0, s, h => by cases h
  | k + 1, s, h => by
    cases h
    exact tyI_le (sumS_ty (n := 2 * k + 1) (by omega) (fun s h => sumO_ty L k s h)) (by omega)
theorem sumK_ty (L : wo_P) (k : Nat) : tyI L (sumK L k) false (2 * k + 3) := tyI_le (sumS_ty (n := 2 * k + 1) (by omega) (fun s h => sumO_ty L k s h)) (by omega)
theorem cmp_ty {c : Int32} (h : ¬ cmp c = -1) : isTru (cmp c) := by
  unfold cmp at h ⊢
  by_cases e0 : c = 61
  · rw [if_pos e0]; exact Or.inr (Or.inr (Or.inl rfl))
  · rw [if_neg e0] at h ⊢
    by_cases e1 : c = 60
    · rw [if_pos e1]; exact Or.inr (Or.inr (Or.inr (Or.inl rfl)))
    · rw [if_neg e1] at h ⊢
      by_cases e2 : c = 62
      · rw [if_pos e2]; exact Or.inr (Or.inr (Or.inr (Or.inr rfl)))
      · rw [if_neg e2] at h; exact absurd rfl h
theorem cmpS_ty (L : wo_P) (k p : Nat) (x : Nat × List Int32) (h : cmpS L k p = .inr x) (t : List Bool) (ht : t.length + (2 * k + 4) ≤ 32) : tyC x.2 (false :: t) = some (true :: t) := by
  unfold cmpS at h
  by_cases q : cmp (bAt L (wsp L p)) = -1
  · rw [if_pos q] at h; cases h
  · rw [if_neg q] at h
    obtain ⟨u, hu, rfl⟩ := thc_ne h
    exact tyC_app _ _ _ _ _ (sumK_ty L k _ _ hu (false :: t) (by rw [List.length_cons]; omega)) (tyC_1 (ty_tru (cmp_ty q) false false t))
theorem conS_ty {L : wo_P} {u : Nat → wo_R} {n : Nat} (hu : tyI L u true n) : tyI L (conS L u) true (n + 2) := by
  have ht : tyI L (truS L u) true (n + 1) := tyI_thn hu (fun p x e t h => mul_ty hu (Or.inr (Or.inl rfl)) 160 p x e t (by omega)) (by omega)
  exact tyI_thn ht (fun p x e t h => mul_ty ht (Or.inl rfl) 160 p x e t (by omega)) (by omega)
theorem unitK_ty (L : wo_P) : ∀ (k p : Nat) (x : Nat × List Int32), unitK L k p = .inr x → ∀ t : List Bool, t.length + (2 * k + 4) ≤ 32 → tyC x.2 t = some (true :: t)
  | k, p, x, h => by
    intro t ht
    unfold unitK unitS at h
    by_cases q1 : bAt L (wsp L p) = 33
    · rw [if_pos q1] at h
      cases k with
      | zero => cases h
      | succ k =>
        obtain ⟨y, hy, rfl⟩ := thc_ne (show thc (unitK L k (wsp L p + 1)) (-14) = .inr x from h)
        exact tyC_app _ _ _ _ _ (unitK_ty L k _ _ hy t (by omega)) (tyC_1 rfl)
    · rw [if_neg q1] at h
      by_cases q2 : bAt L (wsp L p) = 40
      · rw [if_pos q2] at h
        cases k with
        | zero => cases h
        | succ k =>
          obtain ⟨y, hy, _, rfl⟩ := cls_ne (show cls L (conS L (unitK L k) (wsp L p + 1)) 41 = .inr x from h)
          exact conS_ty (unitK_ty L k) _ _ hy t (by omega)
      · rw [if_neg q2] at h
        obtain ⟨y, z, hy, hz, rfl⟩ := thn_ne h
        exact tyC_app _ _ _ _ _ (sumK_ty L k _ _ hy t (by omega)) (cmpS_ty L k _ _ hz t (by omega))
/-- a clause as it should be -/
def okC (c : wo_C) : Prop := (c.1 = [] ∨ tyC c.1 [] = some [true]) ∧ tyC c.2 [] = some [false]
theorem tailS_ok {L : wo_P} {p : Nat} {t : List Int32} {x : Nat × wo_C} (h : tailS L p t = .inr x) (ht : tyC t [] = some [true]) : okC x.2 := by
  unfold tailS at h
  by_cases q : bAt L (wsp L p) = 63
  · rw [if_pos q] at h
    cases hs : sumK L 6 (wsp L p + 1) with
    | inl w => rw [hs] at h; cases h
    | inr y =>
      rw [hs] at h
      cases h
      exact ⟨Or.inr ht, sumK_ty L 6 _ _ hs [] (by decide)⟩
  · rw [if_neg q] at h; cases h
theorem clauS_ok {L : wo_P} {p : Nat} {x : Nat × wo_C} (h : clauS L p = .inr x) : okC x.2 := by
  unfold clauS at h
  by_cases q1 : bAt L (wsp L p) = 121
  · rw [if_pos q1] at h
    by_cases q2 : bAt L (wsp L (wsp L p + 1)) = 58
    · rw [if_pos q2] at h
      unfold bodyS at h
      by_cases q3 : bAt L (wsp L (wsp L (wsp L p + 1) + 1)) = 33 ∨ bAt L (wsp L (wsp L (wsp L p + 1) + 1)) = 40
      · rw [if_pos q3] at h
        cases hc : conS L (unitK L 6) (wsp L (wsp L (wsp L p + 1) + 1)) with
        | inl w => rw [hc] at h; cases h
        | inr y =>
          rw [hc] at h
          exact tailS_ok h (conS_ty (unitK_ty L 6) _ _ hc [] (by decide))
      · rw [if_neg q3] at h
        cases hs : sumK L 6 (wsp L (wsp L (wsp L p + 1) + 1)) with
        | inl w => rw [hs] at h; cases h
        | inr y =>
          rw [hs] at h
          have ty := sumK_ty L 6 _ _ hs [] (by decide)
          dsimp only at h
          by_cases q4 : cmp (bAt L (wsp L y.1)) = -1
          · rw [if_pos q4] at h
            cases h
            exact ⟨Or.inl rfl, ty⟩
          · rw [if_neg q4] at h
            cases hr : restS L (wsp L y.1) with
            | inl w => rw [hr] at h; cases h
            | inr z =>
              rw [hr] at h
              refine tailS_ok h (tyC_app _ _ _ _ _ ty ?_)
              obtain ⟨a, b, ha, hb, rfl⟩ := thn_ne hr
              obtain ⟨c, e, hc, he, rfl⟩ := thn_ne hb
              have hu := unitK_ty L 6
              have ht : tyI L (truS L (unitK L 6)) true 17 := tyI_thn hu (fun p x e t h => mul_ty hu (Or.inr (Or.inl rfl)) 160 p x e t (by omega)) (by omega)
              exact tyC_app _ _ _ _ _ (cmpS_ty L 6 _ _ ha [] (by decide)) (tyC_app _ _ _ _ _ (mul_ty hu (Or.inr (Or.inl rfl)) 160 _ _ hc [] (by decide)) (mul_ty ht (Or.inl rfl) 160 _ _ he [] (by decide)))
    · rw [if_neg q2] at h; cases h
  · rw [if_neg q1] at h; cases h
theorem habL_ok {L : wo_P} : ∀ z p x, habL L z p = .inr x → ∀ c, c ∈ x.2 → okC c
  | 0, p, x, h => by
    cases h
    intro c hc
    cases hc
  | z + 1, p, x, h => by
    rw [habL] at h
    cases hcl : clauS L p with
    | inl w => rw [hcl] at h; cases h
    | inr y =>
      rw [hcl] at h
      have hy := clauS_ok hcl
      dsimp only at h
      by_cases q : bAt L (wsp L y.1) = 59
      · rw [if_pos q] at h
        cases hz : habL L z (wsp L y.1 + 1) with
        | inl w => rw [hz] at h; cases h
        | inr u =>
          rw [hz] at h
          cases h
          intro c hc
          rcases List.mem_cons.mp hc with rfl | hc
          · exact hy
          · exact habL_ok z _ _ hz c hc
      · rw [if_neg q] at h
        cases h
        intro c hc
        rcases List.mem_cons.mp hc with rfl | hc
        · exact hy
        · cases hc
theorem habS_ok {L : wo_P} {cl : List wo_C} (h : habS L = .inr cl) : ∀ c, c ∈ cl → okC c := by
  unfold habS at h
  cases hz : habL L 160 0 with
  | inl w => rw [hz] at h; cases h
  | inr u =>
    rw [hz] at h
    dsimp only at h
    by_cases q : bAt L (wsp L u.1) = -1
    · rw [if_pos q] at h
      cases h
      exact habL_ok _ _ _ hz
    · rw [if_neg q] at h; cases h
