/-! ===== a town told well is as it should be ===== -/
def okR (k : Nat) (w : Nat → Int32) : Prop := ∀ j, j < mK k → tabI k (4 * j + 1) ≤ w j ∧ w j ≤ tabI k (4 * j + 2)
theorem okR_def {k : Nat} (hk : k < 3) : okR k (defI k) := by
  have h : ∀ k, k < 3 → ∀ j, j < mK k → tabI k (4 * j + 1) ≤ defI k j ∧ defI k j ≤ tabI k (4 * j + 2) := by decide
  exact h k hk
theorem itm_ok {L : wo_P} {k : Nat} : ∀ (z p : Nat) (th : Int32) (w : Nat → Int32) (x : Nat × (Nat → Int32)), okR k w → itmL L k z p th w = .inr x → okR k x.2
  | 0, p, th, w, x, hw, h => by cases h; exact hw
  | z + 1, p, th, w, x, hw, h => by
    rw [itmL] at h
    by_cases q1 : itO k (bAt L (wsp L p)) < 0
    · rw [if_pos q1] at h; cases h; exact hw
    · rw [if_neg q1] at h
      by_cases q2 : (th >>> (itO k (bAt L (wsp L p)) &&& 31)) &&& 1 = 0
      · rw [if_pos q2] at h
        cases e : numS L 1 (wsp L p + 1) with
        | inl e' => rw [e] at h; cases h
        | inr y =>
          rw [e] at h
          dsimp only at h
          by_cases q3 : y.2 < tabI k (4 * (itO k (bAt L (wsp L p))).toNatClampNeg + 1)
          · rw [if_pos q3] at h; cases h
          · rw [if_neg q3] at h
            by_cases q4 : y.2 ≤ tabI k (4 * (itO k (bAt L (wsp L p))).toNatClampNeg + 2)
            · rw [if_pos q4] at h
              refine itm_ok z _ _ _ x (fun j hj => ?_) h
              unfold rowU
              by_cases q5 : j = (itO k (bAt L (wsp L p))).toNatClampNeg
              · rw [if_pos q5, q5]; exact ⟨Int32.not_lt.mp q3, q4⟩
              · rw [if_neg q5]; exact hw j hj
            · rw [if_neg q4] at h; cases h
      · rw [if_neg q2] at h; cases h
/-- rows told well, nobody with a habit -/
def okT (W : wo_W) : Prop := wnp W ≤ 6 ∧ wnb W ≤ 2 ∧ (∀ p, p < wnp W → okR 0 (wper W p)) ∧ (∀ b, b < wnb W → okR 2 (wbel W b)) ∧ (wfg W = true → okR 1 (wvl W)) ∧ whb W = fun _ => -1
theorem townC_ok {L : wo_P} {p : Nat} {W : wo_W} {x : Nat × wo_W} (hW : okT W) (h : townC L p W = .inr x) : okT x.2 := by
  obtain ⟨a1, a2, a3, a4, a5, a6⟩ := hW
  have key : ∀ (k q : Nat) (f : (Nat → Int32) → wo_W), k < 3 → itm2 L k q f = .inr x → ∃ w, okR k w ∧ x.2 = f w := fun k q f hk h => by
    unfold itm2 at h
    cases e : itmL L k 160 q 0 (defI k) with
    | inl e' => rw [e] at h; cases h
    | inr y =>
      rw [e] at h
      cases h
      exact ⟨y.2, itm_ok _ _ _ _ _ (okR_def hk) e, rfl⟩
  unfold townC at h
  by_cases q1 : bAt L (wsp L p) = 112
  · rw [if_pos q1] at h
    by_cases q2 : wnp W < 6
    · rw [if_pos q2] at h
      obtain ⟨w, hw, e⟩ := key 0 _ _ (by decide) h
      rw [e]
      refine ⟨by show wnp W + 1 ≤ 6; omega, a2, fun r hr => ?_, a4, a5, a6⟩
      have hr' : r < wnp W + 1 := hr
      show okR 0 (fun j => if r = wnp W then w j else wper W r j)
      by_cases q : r = wnp W
      · intro j hj
        dsimp only
        rw [if_pos q]
        exact hw j hj
      · intro j hj
        dsimp only
        rw [if_neg q]
        exact a3 r (by omega) j hj
    · rw [if_neg q2] at h; cases h
  · rw [if_neg q1] at h
    by_cases q3 : bAt L (wsp L p) = 103
    · rw [if_pos q3] at h
      by_cases q2 : wfg W = true
      · rw [if_pos q2] at h; cases h
      · rw [if_neg q2] at h
        obtain ⟨w, hw, e⟩ := key 1 _ _ (by decide) h
        rw [e]
        exact ⟨a1, a2, a3, a4, fun _ => hw, a6⟩
    · rw [if_neg q3] at h
      by_cases q4 : bAt L (wsp L p) = 98
      · rw [if_pos q4] at h
        by_cases q2 : wnb W < 2
        · rw [if_pos q2] at h
          obtain ⟨w, hw, e⟩ := key 2 _ _ (by decide) h
          rw [e]
          refine ⟨a1, by show wnb W + 1 ≤ 2; omega, a3, fun r hr => ?_, a5, a6⟩
          have hr' : r < wnb W + 1 := hr
          show okR 2 (fun j => if r = wnb W then w j else wbel W r j)
          by_cases q : r = wnb W
          · intro j hj
            dsimp only
            rw [if_pos q]
            exact hw j hj
          · intro j hj
            dsimp only
            rw [if_neg q]
            exact a4 r (by omega) j hj
        · rw [if_neg q2] at h; cases h
      · rw [if_neg q4] at h; cases h
theorem townL_ok {L : wo_P} : ∀ (z p : Nat) (W : wo_W) (x : Nat × wo_W), okT W → townL L z p W = .inr x → okT x.2
  | 0, p, W, x, hW, h => by cases h; exact hW
  | z + 1, p, W, x, hW, h => by
    rw [townL] at h
    cases e : townC L p W with
    | inl e' => rw [e] at h; cases h
    | inr y =>
      rw [e] at h
      have hy := townC_ok hW e
      dsimp only at h
      by_cases q : bAt L (wsp L y.1) = 59
      · rw [if_pos q] at h
        exact townL_ok z _ _ x hy h
      · rw [if_neg q] at h
        cases h
        exact hy
theorem townS_ok {L : wo_P} {W : wo_W} (h : townS L = .inr W) (hc : Nat) : okW W hc ∧ whb W = (fun _ => -1) ∧ 0 < wnp W ∧ 0 < wnb W := by
  unfold townS at h
  cases e : townL L 160 0 W0 with
  | inl e' => rw [e] at h; cases h
  | inr y =>
    rw [e] at h
    dsimp only at h
    by_cases q : bAt L (wsp L y.1) = -1 ∧ 0 < wnp y.2 ∧ 0 < wnb y.2
    · rw [if_pos q] at h
      cases h
      obtain ⟨a1, a2, a3, a4, a5, a6⟩ := townL_ok 160 0 W0 y ⟨Nat.zero_le _, Nat.zero_le _, fun p hp => absurd hp (Nat.not_lt_zero _), fun p hp => absurd hp (Nat.not_lt_zero _), (fun h => by cases h), rfl⟩ e
      refine ⟨⟨a1, a2, fun _ => q.2.2, fun p hp => ?_, fun b hb => ?_, fun hf => ?_⟩, a6, q.2.1, q.2.2⟩
      · have r := a3 p hp
        exact ⟨r 0 (by decide), r 1 (by decide), r 2 (by decide), r 3 (by decide), Or.inl (by rw [a6])⟩
      · have r := a4 b hb
        exact ⟨r 0 (by decide), r 1 (by decide), r 2 (by decide)⟩
      · have r := a5 hf
        exact ⟨r 0 (by decide), r 1 (by decide), r 2 (by decide), r 3 (by decide)⟩
    · rw [if_neg q] at h; cases h
