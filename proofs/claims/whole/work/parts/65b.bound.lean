/-! ===== places stay inside the tape ===== -/
def bdW (L : wo_P) (p : Nat) (x : wo_R) : Prop := match x with
  | .inl w => w ≤ L.1
  | .inr y => p ≤ y.1 ∧ y.1 ≤ L.1
/-- reads something -/
def bdS (L : wo_P) (f : Nat → wo_R) : Prop := ∀ p, p ≤ L.1 → bdW L (p + 1) (f p)
def bdL (L : wo_P) (f : Nat → wo_R) : Prop := ∀ p, p ≤ L.1 → bdW L p (f p)
theorem bdW_le {L : wo_P} {p q : Nat} {x : wo_R} (h : bdW L q x) (hp : p ≤ q) : bdW L p x := by
  unfold bdW at h ⊢
  cases x with
  | inl w => exact h
  | inr y => exact ⟨Nat.le_trans hp h.1, h.2⟩
theorem bd_thn {L : wo_P} {p : Nat} {a : wo_R} {f : Nat → wo_R} (ha : bdW L p a) (hf : bdL L f) : bdW L p (thn a f) := by
  unfold thn
  cases a with
  | inl w => exact ha
  | inr y =>
    have hy := hf y.1 ha.2
    dsimp only
    cases e : f y.1 with
    | inl w => rw [e] at hy; exact hy
    | inr z => rw [e] at hy; exact ⟨Nat.le_trans ha.1 hy.1, hy.2⟩
theorem bd_thc {L : wo_P} {p : Nat} {a : wo_R} {c : Int32} (ha : bdW L p a) : bdW L p (thc a c) := by
  unfold thc
  cases a with
  | inl w => exact ha
  | inr y => exact ha
theorem bd_cls {L : wo_P} {p : Nat} {a : wo_R} {s : Int32} (hs : s ≠ -1) (ha : bdW L p a) : bdW L p (cls L a s) := by
  unfold cls
  cases a with
  | inl w => exact ha
  | inr y =>
    have h1 := wsp_ge L y.1
    have h2 := wsp_le L ha.2
    have h3 := ha.1
    dsimp only
    by_cases q : bAt L (wsp L y.1) = s
    · rw [if_pos q]
      have := bAt_lt q hs
      exact ⟨by show p ≤ wsp L y.1 + 1; omega, this⟩
    · rw [if_neg q]; exact h2
theorem numS_bd {L : wo_P} {f p : Nat} (hp : p ≤ L.1) : match numS L f p with | .inl w => w ≤ L.1 | .inr x => p < x.1 ∧ x.1 ≤ L.1 := by
  have h1 := wsp_ge L p
  have h2 := wsp_le L hp
  unfold numS
  by_cases q1 : dgt L (wsp L p) = -1
  · rw [if_pos q1]; exact h2
  · rw [if_neg q1]
    have hl := numL_le (L := L) f (wsp L p + 1) (dgt L (wsp L p)) (dgt_lt q1)
    by_cases q2 : dgt L (numL L f (wsp L p + 1) (dgt L (wsp L p))).1 = -1
    · rw [if_pos q2]
      exact ⟨by show p < (numL L f (wsp L p + 1) (dgt L (wsp L p))).1; omega, hl.2⟩
    · rw [if_neg q2]; exact hl.2
theorem ltr_lt {L : wo_P} {q : Nat} (h : ¬ ltr (bAt L q) = -1) : q < L.1 := by
  refine Classical.byContradiction (fun w => h ?_)
  unfold bAt
  rw [if_neg w]
  decide
theorem cmp_lt {L : wo_P} {q : Nat} (h : ¬ cmp (bAt L q) = -1) : q < L.1 := by
  refine Classical.byContradiction (fun w => h ?_)
  unfold bAt
  rw [if_neg w]
  decide
theorem atom_bd {L : wo_P} {sub : Option (Nat → wo_R)} (hs : ∀ s, sub = some s → bdS L s) : bdS L (atomS L sub) := by
  intro p hp
  have h1 := wsp_ge L p
  have h2 := wsp_le L hp
  unfold atomS
  by_cases q1 : bAt L (wsp L p) = 91
  · rw [if_pos q1]
    have hl := bAt_lt q1 (by decide)
    cases e : sub with
    | none => exact h2
    | some s => exact bdW_le (bd_cls (by decide) (hs s e _ hl)) (by omega)
  · rw [if_neg q1]
    by_cases q2 : ltr (bAt L (wsp L p)) = -1
    · rw [if_pos q2]
      have := numS_bd (L := L) (f := 3) h2
      cases e : numS L 3 (wsp L p) with
      | inl w => rw [e] at this; exact this
      | inr x => rw [e] at this; exact ⟨by show p + 1 ≤ x.1; omega, this.2⟩
    · rw [if_neg q2]
      exact ⟨by show p + 1 ≤ wsp L p + 1; omega, ltr_lt q2⟩
theorem lop_bd {L : wo_P} {item : Nat → wo_R} {o1 o2 c1 c2 : Int32} (h1 : o1 ≠ -1) (h2 : o2 ≠ -1) (hi : bdS L item) : ∀ z, bdL L (lopS L item o1 o2 c1 c2 z)
  | 0, p, hp => ⟨Nat.le_refl _, hp⟩
  | z + 1, p, hp => by
    have g1 := wsp_ge L p
    have g2 := wsp_le L hp
    have ih := lop_bd (c1 := c1) (c2 := c2) h1 h2 hi z
    rw [lopS]
    by_cases q1 : bAt L (wsp L p) = o1
    · rw [if_pos q1]
      exact bdW_le (bd_thn (bd_thc (hi _ (bAt_lt q1 h1))) ih) (by omega)
    · rw [if_neg q1]
      by_cases q2 : bAt L (wsp L p) = o2
      · rw [if_pos q2]
        exact bdW_le (bd_thn (bd_thc (hi _ (bAt_lt q2 h2))) ih) (by omega)
      · rw [if_neg q2]
        exact ⟨g1, g2⟩
theorem mul_bd {L : wo_P} {item : Nat → wo_R} {s c : Int32} (h1 : s ≠ -1) (hi : bdS L item) : ∀ z, bdL L (mulS L item s c z)
  | 0, p, hp => ⟨Nat.le_refl _, hp⟩
  | z + 1, p, hp => by
    have g1 := wsp_ge L p
    have g2 := wsp_le L hp
    have ih := mul_bd (c := c) h1 hi z
    rw [mulS]
    by_cases q1 : bAt L (wsp L p) = s
    · rw [if_pos q1]
      exact bdW_le (bd_thn (bd_thc (hi _ (bAt_lt q1 h1))) ih) (by omega)
    · rw [if_neg q1]
      exact ⟨g1, g2⟩
theorem term_bd {L : wo_P} {sub : Option (Nat → wo_R)} (hs : ∀ s, sub = some s → bdS L s) : bdS L (termS L sub) := fun p hp => bd_thn (atom_bd hs p hp) (lop_bd (by decide) (by decide) (atom_bd hs) 160)
theorem sumS_bd {L : wo_P} {sub : Option (Nat → wo_R)} (hs : ∀ s, sub = some s → bdS L s) : bdS L (sumS L sub) := fun p hp => bd_thn (term_bd hs p hp) (lop_bd (by decide) (by decide) (term_bd hs) 160)
theorem sumO_bd (L : wo_P) : ∀ k s, sumO L k = some s → bdS L s
  | 0, s, h => by cases h
  | k + 1, s, h => by cases h; exact sumS_bd (fun s h => sumO_bd L k s h)
theorem sumK_bd (L : wo_P) (k : Nat) : bdS L (sumK L k) := sumS_bd (fun s h => sumO_bd L k s h)
theorem cmpS_bd (L : wo_P) (k : Nat) : bdS L (cmpS L k) := by
  intro p hp
  have g1 := wsp_ge L p
  have g2 := wsp_le L hp
  unfold cmpS
  by_cases q : cmp (bAt L (wsp L p)) = -1
  · rw [if_pos q]; exact g2
  · rw [if_neg q]
    exact bdW_le (bd_thc (sumK_bd L k _ (cmp_lt q))) (by omega)
theorem tru_bd {L : wo_P} {u : Nat → wo_R} (hu : bdS L u) : bdS L (truS L u) := fun p hp => bd_thn (hu p hp) (mul_bd (by decide) hu 160)
theorem con_bd {L : wo_P} {u : Nat → wo_R} (hu : bdS L u) : bdS L (conS L u) := fun p hp => bd_thn (tru_bd hu p hp) (mul_bd (by decide) (tru_bd hu) 160)
theorem bdL_S {L : wo_P} {f : Nat → wo_R} (h : bdS L f) : bdL L f := fun p hp => bdW_le (h p hp) (Nat.le_succ p)
theorem unitS_bd {L : wo_P} {k : Nat} {nest : Option (Nat → wo_R)} (hn : ∀ u, nest = some u → bdS L u) : bdS L (unitS L k nest) := by
  intro p hp
  have g1 := wsp_ge L p
  have g2 := wsp_le L hp
  unfold unitS
  by_cases q1 : bAt L (wsp L p) = 33
  · rw [if_pos q1]
    cases e : nest with
    | none => exact g2
    | some u => exact bdW_le (bd_thc (hn u e _ (bAt_lt q1 (by decide)))) (by omega)
  · rw [if_neg q1]
    by_cases q2 : bAt L (wsp L p) = 40
    · rw [if_pos q2]
      cases e : nest with
      | none => exact g2
      | some u => exact bdW_le (bd_cls (by decide) (con_bd (hn u e) _ (bAt_lt q2 (by decide)))) (by omega)
    · rw [if_neg q2]
      exact bdW_le (bd_thn (sumK_bd L k _ g2) (bdL_S (cmpS_bd L k))) (by omega)
theorem unitO_bd (L : wo_P) : ∀ k u, unitO L k = some u → bdS L u
  | 0, u, h => by cases h
  | k + 1, u, h => by cases h; exact unitS_bd (fun u h => unitO_bd L k u h)
theorem unitK_bd (L : wo_P) (k : Nat) : bdS L (unitK L k) := unitS_bd (fun u h => unitO_bd L k u h)
theorem restS_bd (L : wo_P) : bdS L (restS L) := fun p hp => bd_thn (cmpS_bd L 6 p hp) (fun q hq => bd_thn (mul_bd (by decide) (unitK_bd L 6) 160 q hq) (mul_bd (by decide) (tru_bd (unitK_bd L 6)) 160))
def bdC (L : wo_P) (p : Nat) (x : Nat ⊕ (Nat × wo_C)) : Prop := match x with
  | .inl w => w ≤ L.1
  | .inr y => p < y.1 ∧ y.1 ≤ L.1
theorem tailS_bd {L : wo_P} {p q : Nat} {t : List Int32} (hp : p ≤ L.1) (hq : q ≤ p) : bdC L q (tailS L p t) := by
  have g1 := wsp_ge L p
  have g2 := wsp_le L hp
  unfold tailS
  by_cases c : bAt L (wsp L p) = 63
  · rw [if_pos c]
    have := sumK_bd L 6 _ (bAt_lt c (by decide))
    cases e : sumK L 6 (wsp L p + 1) with
    | inl w => rw [e] at this; exact this
    | inr y => rw [e] at this; exact ⟨by have := this.1; show q < y.1; omega, this.2⟩
  · rw [if_neg c]; exact g2
theorem bodyS_bd {L : wo_P} {q : Nat} (hq : q ≤ L.1) : bdC L q (bodyS L q) := by
  unfold bodyS
  by_cases c : bAt L q = 33 ∨ bAt L q = 40
  · rw [if_pos c]
    have := con_bd (unitK_bd L 6) q hq
    cases e : conS L (unitK L 6) q with
    | inl w => rw [e] at this; exact this
    | inr x => rw [e] at this; exact tailS_bd this.2 (by have := this.1; omega)
  · rw [if_neg c]
    have := sumK_bd L 6 q hq
    cases e : sumK L 6 q with
    | inl w => rw [e] at this; exact this
    | inr x =>
      rw [e] at this
      have g1 := wsp_ge L x.1
      have g2 := wsp_le L this.2
      have t1 := this.1
      dsimp only
      by_cases c2 : cmp (bAt L (wsp L x.1)) = -1
      · rw [if_pos c2]; exact ⟨by show q < wsp L x.1; omega, g2⟩
      · rw [if_neg c2]
        have hr := restS_bd L (wsp L x.1) g2
        cases e2 : restS L (wsp L x.1) with
        | inl w => rw [e2] at hr; exact hr
        | inr y => rw [e2] at hr; exact tailS_bd hr.2 (by have := hr.1; omega)
theorem clauS_bd {L : wo_P} {p : Nat} (hp : p ≤ L.1) : bdC L p (clauS L p) := by
  have g1 := wsp_ge L p
  have g2 := wsp_le L hp
  unfold clauS
  by_cases c : bAt L (wsp L p) = 121
  · rw [if_pos c]
    have l1 := bAt_lt c (by decide)
    have g3 := wsp_ge L (wsp L p + 1)
    have g4 := wsp_le L (show wsp L p + 1 ≤ L.1 from l1)
    by_cases c2 : bAt L (wsp L (wsp L p + 1)) = 58
    · rw [if_pos c2]
      have l2 := bAt_lt c2 (by decide)
      have g5 := wsp_ge L (wsp L (wsp L p + 1) + 1)
      have g6 := wsp_le L (show wsp L (wsp L p + 1) + 1 ≤ L.1 from l2)
      have := bodyS_bd g6
      cases e : bodyS L (wsp L (wsp L (wsp L p + 1) + 1)) with
      | inl w => rw [e] at this; exact this
      | inr y => rw [e] at this; exact ⟨by have := this.1; show p < y.1; omega, this.2⟩
    · rw [if_neg c2]; exact g4
  · rw [if_neg c]; exact g2
theorem habL_bd {L : wo_P} : ∀ z p, p ≤ L.1 → match habL L z p with | .inl w => w ≤ L.1 | .inr x => x.1 ≤ L.1
  | 0, p, hp => hp
  | z + 1, p, hp => by
    have hc := clauS_bd hp
    rw [habL]
    cases e : clauS L p with
    | inl w => rw [e] at hc; exact hc
    | inr x =>
      rw [e] at hc
      have g2 := wsp_le L hc.2
      dsimp only
      by_cases c : bAt L (wsp L x.1) = 59
      · rw [if_pos c]
        have := habL_bd z (wsp L x.1 + 1) (bAt_lt c (by decide))
        cases e2 : habL L z (wsp L x.1 + 1) with
        | inl w => rw [e2] at this; exact this
        | inr y => rw [e2] at this; exact this
      · rw [if_neg c]; exact g2
theorem habS_bd {L : wo_P} {w : Nat} (h : habS L = .inl w) : w ≤ L.1 := by
  have hb := habL_bd (L := L) 160 0 (Nat.zero_le _)
  unfold habS at h
  cases e : habL L 160 0 with
  | inl z => rw [e] at h hb; cases h; exact hb
  | inr x =>
    rw [e] at h hb
    dsimp only at h hb
    by_cases q : bAt L (wsp L x.1) = -1
    · rw [if_pos q] at h; cases h
    · rw [if_neg q] at h
      cases h
      exact wsp_le L hb
theorem itm_bd {L : wo_P} {k : Nat} (hk : k < 3) : ∀ (z p : Nat) (th : Int32) (w : Nat → Int32), p ≤ L.1 → match itmL L k z p th w with | .inl e => e ≤ L.1 | .inr x => p ≤ x.1 ∧ x.1 ≤ L.1
  | 0, p, th, w, hp => ⟨Nat.le_refl _, hp⟩
  | z + 1, p, th, w, hp => by
    have g1 := wsp_ge L p
    have g2 := wsp_le L hp
    rw [itmL]
    by_cases q1 : itO k (bAt L (wsp L p)) < 0
    · rw [if_pos q1]; exact ⟨g1, g2⟩
    · rw [if_neg q1]
      by_cases q2 : (th >>> (itO k (bAt L (wsp L p)) &&& 31)) &&& 1 = 0
      · rw [if_pos q2]
        by_cases hl : wsp L p + 1 ≤ L.1
        · have hb := numS_bd (L := L) (f := 1) hl
          cases e : numS L 1 (wsp L p + 1) with
          | inl e' => rw [e] at hb; exact hb
          | inr y =>
            rw [e] at hb
            have h1 := hb.1
            have h2 := hb.2
            dsimp only
            by_cases q3 : y.2 < tabI k (4 * (itO k (bAt L (wsp L p))).toNatClampNeg + 1)
            · rw [if_pos q3]; show y.1 - 1 ≤ L.1; omega
            · rw [if_neg q3]
              by_cases q4 : y.2 ≤ tabI k (4 * (itO k (bAt L (wsp L p))).toNatClampNeg + 2)
              · rw [if_pos q4]
                have ih := itm_bd (L := L) (k := k) hk z y.1 (th ||| ((1 : Int32) <<< (itO k (bAt L (wsp L p)) &&& 31))) (rowU w (itO k (bAt L (wsp L p))).toNatClampNeg y.2) h2
                cases e5 : itmL L k z y.1 (th ||| ((1 : Int32) <<< (itO k (bAt L (wsp L p)) &&& 31))) (rowU w (itO k (bAt L (wsp L p))).toNatClampNeg y.2) with
                | inl e' => rw [e5] at ih; exact ih
                | inr u => rw [e5] at ih; exact ⟨by have := ih.1; show p ≤ u.1; omega, ih.2⟩
              · rw [if_neg q4]; show y.1 - 1 ≤ L.1; omega
        · exfalso
          have e : bAt L (wsp L p) = -1 := by unfold bAt; rw [if_neg (by omega)]
          rw [e] at q1
          have e0 : itO k (-1) = -1 := by
            have : k = 0 ∨ k = 1 ∨ k = 2 := by omega
            rcases this with rfl | rfl | rfl <;> decide
          rw [e0] at q1
          exact q1 (by decide)
      · rw [if_neg q2]; exact g2
theorem townC_bd {L : wo_P} {p : Nat} {W : wo_W} (hp : p ≤ L.1) : match townC L p W with | .inl e => e ≤ L.1 | .inr x => p < x.1 ∧ x.1 ≤ L.1 := by
  have g1 := wsp_ge L p
  have g2 := wsp_le L hp
  have key : ∀ (k : Nat) (f : (Nat → Int32) → wo_W), k < 3 → wsp L p + 1 ≤ L.1 → match itm2 L k (wsp L p + 1) f with | .inl e => e ≤ L.1 | .inr x => p < x.1 ∧ x.1 ≤ L.1 := fun k f hk hl => by
    have ih := itm_bd (L := L) (k := k) hk 160 (wsp L p + 1) 0 (defI k) hl
    unfold itm2
    cases e : itmL L k 160 (wsp L p + 1) 0 (defI k) with
    | inl w => rw [e] at ih; exact ih
    | inr u => rw [e] at ih; exact ⟨by have := ih.1; show p < u.1; omega, ih.2⟩
  unfold townC
  by_cases q1 : bAt L (wsp L p) = 112
  · rw [if_pos q1]
    by_cases q2 : wnp W < 6
    · rw [if_pos q2]; exact key 0 _ (by decide) (bAt_lt q1 (by decide))
    · rw [if_neg q2]; exact g2
  · rw [if_neg q1]
    by_cases q3 : bAt L (wsp L p) = 103
    · rw [if_pos q3]
      by_cases q2 : wfg W = true
      · rw [if_pos q2]; exact g2
      · rw [if_neg q2]; exact key 1 _ (by decide) (bAt_lt q3 (by decide))
    · rw [if_neg q3]
      by_cases q4 : bAt L (wsp L p) = 98
      · rw [if_pos q4]
        by_cases q2 : wnb W < 2
        · rw [if_pos q2]; exact key 2 _ (by decide) (bAt_lt q4 (by decide))
        · rw [if_neg q2]; exact g2
      · rw [if_neg q4]; exact g2
theorem townL_bd {L : wo_P} : ∀ (z p : Nat) (W : wo_W), p ≤ L.1 → match townL L z p W with | .inl e => e ≤ L.1 | .inr x => x.1 ≤ L.1
  | 0, p, W, hp => hp
  | z + 1, p, W, hp => by
    have hc := townC_bd (W := W) hp
    rw [townL]
    cases e : townC L p W with
    | inl w => rw [e] at hc; exact hc
    | inr x =>
      rw [e] at hc
      dsimp only
      by_cases c : bAt L (wsp L x.1) = 59
      · rw [if_pos c]; exact townL_bd z _ x.2 (bAt_lt c (by decide))
      · rw [if_neg c]; exact wsp_le L hc.2
theorem townS_bd {L : wo_P} {w : Nat} (h : townS L = .inl w) : w ≤ L.1 := by
  have hb := townL_bd (L := L) 160 0 W0 (Nat.zero_le _)
  unfold townS at h
  cases e : townL L 160 0 W0 with
  | inl z => rw [e] at h hb; cases h; exact hb
  | inr x =>
    rw [e] at h hb
    dsimp only at h hb
    by_cases q : bAt L (wsp L x.1) = -1 ∧ 0 < wnp x.2 ∧ 0 < wnb x.2
    · rw [if_pos q] at h; cases h
    · rw [if_neg q] at h
      cases h
      exact wsp_le L hb
