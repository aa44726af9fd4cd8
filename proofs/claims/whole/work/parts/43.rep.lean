/-! ===== how the class's memory shows a state ===== -/
def earsQ (T : wo_T) (A : wo_A) (i n1 : Int32) : Int32 := if perT T i then if ahdT n1 then earA T (o0 T) A i.toNatClampNeg n1.toNatClampNeg (tnb T) else -1 else -1
theorem earsR_T {d : mm_D} {r : mm_R} {T : wo_T} {A : wo_A} (hT : rpC d r T) (hA0 : hA d 38 A) (i n1 : Int32) : earsR d r (tnp T) (tnb T) i n1 = earsQ T A i n1 := by
  unfold earsR earsQ
  have hT' := rpC_38 (t := 38) hT
  by_cases h0 : perT T i
  case neg => rw [if_neg h0, if_pos ((perC_T hT i).mpr h0)]
  rw [if_pos h0, if_neg (fun e => (perC_T hT i).mp e h0)]
  by_cases h1 : ahdT n1
  case neg => rw [if_neg h1, if_pos ((ahd_T n1).mpr h1)]
  rw [if_pos h1, if_neg (fun e => (ahd_T n1).mp e h1)]
  have hs := sm_prep (n := n1.toNatClampNeg) hT' hA0 (by have := ahd_le h1; omega) (show 38 + 2 < 232 by decide)
  exact ear_c hs hT (per_lt h0 hT.1.2.1) _ (Nat.le_refl _)
abbrev wo_W : Type := (Nat × Nat) × (Nat → Nat → Int32) × (Nat → Nat → Int32) × Bool × (Nat → Int32) × (Nat → Int32)
def wnp (W : wo_W) : Nat := W.1.1
def wnb (W : wo_W) : Nat := W.1.2
def wper (W : wo_W) : Nat → Nat → Int32 := W.2.1
def wbel (W : wo_W) : Nat → Nat → Int32 := W.2.2.1
def wfg (W : wo_W) : Bool := W.2.2.2.1
def wvl (W : wo_W) : Nat → Int32 := W.2.2.2.2.1
def whb (W : wo_W) : Nat → Int32 := W.2.2.2.2.2
abbrev wo_H : Type := Nat × (Nat → (Nat → Int32) → Int32)
def letW (W : wo_W) (p : Nat) (m ow : Int32) : Nat → Int32 := fun j => if j = 5 then nI p else if j = 4 then wper W p 3 else if j = 3 then ow else if j = 2 then m - m / wbel W 0 0 * wbel W 0 0 else if j = 1 then m / wbel W 0 0 else m
def twT (W : wo_W) (H : wo_H) : wo_T := ((wnp W, wnb W), (fun p m ow => if whb W p = -1 then onC m (wper W p 0) (wper W p 1) (wper W p 2) else if H.2 (whb W p).toNatClampNeg (letW W p m ow) ≤ 0 then 0 else 1), (fun p f m => onC m f (wper W p 1) (wper W p 2)), (fun j p => if j = 3 then wper W p 3 else wbel W p j), (fun m => if wfg W = true then onC m (wvl W 0) (wvl W 1) (wvl W 2) else 0), if wfg W = true then wvl W 3 else -1)
/-- a town as the document allows it; hc habits are told -/
def okW (W : wo_W) (hc : Nat) : Prop := wnp W ≤ 6 ∧ wnb W ≤ 2 ∧ (wnp W ≠ 0 → 0 < wnb W) ∧ (∀ p, p < wnp W → (0 ≤ wper W p 0 ∧ wper W p 0 ≤ 59) ∧ (0 ≤ wper W p 1 ∧ wper W p 1 ≤ 60) ∧ (1 ≤ wper W p 2 ∧ wper W p 2 ≤ 60) ∧ (0 ≤ wper W p 3 ∧ wper W p 3 ≤ 9) ∧ (whb W p = -1 ∨ ∃ k, k < hc ∧ whb W p = nI k)) ∧ (∀ b, b < wnb W → (5 ≤ wbel W b 0 ∧ wbel W b 0 ≤ 60) ∧ (0 ≤ wbel W b 1 ∧ wbel W b 1 ≤ 1) ∧ (0 ≤ wbel W b 2 ∧ wbel W b 2 ≤ 9)) ∧ (wfg W = true → (0 ≤ wvl W 0 ∧ wvl W 0 ≤ 59) ∧ (0 ≤ wvl W 1 ∧ wvl W 1 ≤ 60) ∧ (1 ≤ wvl W 2 ∧ wvl W 2 ≤ 60) ∧ (0 ≤ wvl W 3 ∧ wvl W 3 ≤ 9))
def rpW (d : mm_D) (r : mm_R) (W : wo_W) (hc : Nat) : Prop := d 4 5 = nI (wnp W) ∧ d 4 6 = nI (wnb W) ∧ (∀ p, p < wnp W → ∀ j, j < 4 → d (6 + p) j = wper W p j) ∧ (∀ b, b < wnb W → ∀ j, j < 3 → d (14 + b) j = wbel W b j) ∧ d 4 7 = (if wfg W = true then 1 else 0) ∧ (wfg W = true → ∀ j, j < 4 → d 16 j = wvl W j) ∧ ∀ p, p < 6 → (p < wnp W → whb W p = -1 → r 12 p = none) ∧ (p < wnp W → ∀ k, k < hc → whb W p = nI k → r 12 p = some (238 + 3 * k)) ∧ (wnp W ≤ p → r 12 p = none)
def rpH (d : mm_D) (H : wo_H) : Prop := d 0 8 = nI H.1 ∧ H.1 ≤ 4 ∧ (∀ k, k < 4 → d (238 + 3 * k) 0 = nI k) ∧ ∀ k, k < H.1 → okH d (238 + 3 * k) ∧ ∀ L, worthC d (238 + 3 * k) L = H.2 k L
theorem rpC_of {d : mm_D} {r : mm_R} {W : wo_W} {H : wo_H} (ok : okW W H.1) (hW : rpW d r W H.1) (hH : rpH d H) : rpC d r (twT W H) := by
  obtain ⟨o1, o2, o3, o4, o5, o6⟩ := ok
  obtain ⟨w1, w2, w3, w4, w5, w6, w7⟩ := hW
  obtain ⟨h1, h2, h3, h4⟩ := hH
  have hhab : ∀ k, k < 4 → hab (238 + 3 * k) := fun k hk => by unfold hab; omega
  have cases_ : ∀ p, p < wnp W → (whb W p = -1 ∧ r 12 p = none) ∨ ∃ k, k < H.1 ∧ whb W p = nI k ∧ r 12 p = some (238 + 3 * k) := fun p hp => by
    rcases (o4 p hp).2.2.2.2 with e | ⟨k, hk, e⟩
    · exact Or.inl ⟨e, (w7 p (by omega)).1 hp e⟩
    · exact Or.inr ⟨k, hk, e, (w7 p (by omega)).2.1 hp k hk e⟩
  refine ⟨⟨w1, o1, w2, o2, fun p x hp hx => ?_⟩, fun p hp m ow => ?_, fun p hp f m => ?_, fun p hp => ?_, fun b hb => ?_, fun m => ?_, ?_⟩
  · by_cases q : p < wnp W
    · rcases cases_ p q with ⟨_, e⟩ | ⟨k, hk, _, e⟩
      · rw [e] at hx; cases hx
      · rw [e] at hx
        cases hx
        exact ⟨hhab k (by omega), (h4 k hk).1⟩
    · rw [(w7 p hp).2.2 (by omega)] at hx
      cases hx
  · show _ = if whb W p = -1 then onC m (wper W p 0) (wper W p 1) (wper W p 2) else if H.2 (whb W p).toNatClampNeg (letW W p m ow) ≤ 0 then 0 else 1
    have hp' : p < wnp W := hp
    unfold lookC
    rcases cases_ p hp' with ⟨e, e2⟩ | ⟨k, hk, e, e2⟩
    · rw [e2, if_pos e]
      show onC m (d (6 + p) 0) (d (6 + p) 1) (d (6 + p) 2) = _
      rw [w3 p hp' 0 (by decide), w3 p hp' 1 (by decide), w3 p hp' 2 (by decide)]
    · rw [e2, if_neg (by rw [e]; exact nI_nm1 (by omega)), e, nI_clamp (by omega)]
      show (if worthC d (238 + 3 * k) (letC d p m ow) ≤ 0 then (0 : Int32) else 1) = _
      have hb := o3 (by omega)
      have e14 : d 14 0 = wbel W 0 0 := w4 0 hb 0 (by decide)
      have h5 := (o5 0 hb).1.1
      have e0 : ¬ wbel W 0 0 ≤ 0 := fun q => absurd (Int32.le_trans h5 q) (by decide)
      have eL : letC d p m ow = letW W p m ow := by
        unfold letC letW
        rw [e14, w3 p hp' 3 (by decide), if_neg e0, if_neg e0]
      rw [eL, (h4 k hk).2]
  · have hp' : p < wnp W := hp
    rw [w3 p hp' 1 (by decide), w3 p hp' 2 (by decide)]
    rfl
  · have hp' : p < wnp W := hp
    rw [w3 p hp' 3 (by decide)]
    rfl
  · have hb' : b < wnb W := hb
    rw [w4 b hb' 0 (by decide), w4 b hb' 1 (by decide), w4 b hb' 2 (by decide)]
    exact ⟨rfl, rfl, rfl⟩
  · show foggyC d m = if wfg W = true then onC m (wvl W 0) (wvl W 1) (wvl W 2) else 0
    unfold foggyC
    rw [w5]
    by_cases q : wfg W = true
    · rw [if_pos q, if_neg (by decide), w6 q 0 (by decide), w6 q 1 (by decide), w6 q 2 (by decide), if_pos q]
    · rw [if_neg q, if_pos rfl, if_neg q]
  · show viewC d = if wfg W = true then wvl W 3 else -1
    unfold viewC
    rw [w5]
    by_cases q : wfg W = true
    · rw [if_pos q, if_neg (by decide), w6 q 3 (by decide), if_pos q]
    · rw [if_neg q, if_pos rfl, if_neg q]
abbrev wo_S : Type := wo_W × wo_H × wo_X × Int32 × (Nat × (Nat → Int32)) × (Bool × wo_A × Int64) × (Nat × (Nat → Nat) × (Nat → Int32))
def sW (S : wo_S) : wo_W := S.1
def sH (S : wo_S) : wo_H := S.2.1
def sX (S : wo_S) : wo_X := S.2.2.1
def sK (S : wo_S) : Int32 := S.2.2.2.1
def sP (S : wo_S) : Nat × (Nat → Int32) := S.2.2.2.2.1
def sI (S : wo_S) : Bool × wo_A × Int64 := S.2.2.2.2.2.1
def sN (S : wo_S) : Nat × (Nat → Nat) × (Nat → Int32) := S.2.2.2.2.2.2
def sT (S : wo_S) : wo_T := twT (sW S) (sH S)
def dwn : wo_A := (0, fun _ => 0, fun _ => 0)
def repC (d : mm_D) (g : mm_G) (r : mm_R) (S : wo_S) : Prop := rpW d r (sW S) (sH S).1 ∧ rpH d (sH S) ∧ hX d g (sX S) ∧ d 0 16 = sK S ∧ (d 1 1 = nI (sP S).1 ∧ (sP S).1 ≤ 160 ∧ ∀ i, i < (sP S).1 → d 2 i = (sP S).2 i) ∧ (d 0 12 = (if (sI S).1 = true then 1 else 0) ∧ hA d 44 (sI S).2.1 ∧ g 44 3 = (sI S).2.2) ∧ ntR d (sN S).1 (sN S).2.1 (sN S).2.2 ∧ hA d 41 dwn
/-- the other side's cells stand -/
def frM (d : mm_D) (g : mm_G) (r : mm_R) (d2 : mm_D) (g2 : mm_G) (r2 : mm_R) : Prop := ∀ c, 250 ≤ c → d2 c = d c ∧ g2 c = g c ∧ r2 c = r c
theorem frM_refl {d : mm_D} {g : mm_G} {r : mm_R} : frM d g r d g r := fun _ _ => ⟨rfl, rfl, rfl⟩
theorem frM_trans {d d1 d2 : mm_D} {g g1 g2 : mm_G} {r r1 r2 : mm_R} (h : frM d g r d1 g1 r1) (h' : frM d1 g1 r1 d2 g2 r2) : frM d g r d2 g2 r2 := fun c hc => ⟨(h' c hc).1.trans (h c hc).1, (h' c hc).2.1.trans (h c hc).2.1, (h' c hc).2.2.trans (h c hc).2.2⟩
theorem hX_row {d d' : mm_D} {g g' : mm_G} {x : wo_X} (h : hX d g x) (hd : ∀ c, (38 ≤ c ∧ c < 41) ∨ (47 ≤ c ∧ c < 229) → d' c = d c) (hg : ∀ c, c = 38 ∨ (49 ≤ c ∧ c < 229) → g' c = g c) : hX d' g' x := ⟨hA_row h.1 (hd _ (by omega)) (hd _ (by omega)) (hd _ (by omega)), by rw [hg 38 (by omega)]; exact h.2.1, past_row h.2.2 (fun c h1 h2 => hd c (by omega)) (fun c h1 h2 => hg c (by omega))⟩
theorem rpH_row {d d' : mm_D} {H : wo_H} (h : rpH d H) (hd : ∀ c, ¬ scr c → c = 0 ∨ (238 ≤ c ∧ c < 250) → d' c = d c) : rpH d' H := by
  obtain ⟨h1, h2, h3, h4⟩ := h
  have hb : ∀ k, k < 4 → hab (238 + 3 * k) := fun k hk => by unfold hab; omega
  refine ⟨by rw [hd 0 (by unfold scr; omega) (by omega)]; exact h1, h2, fun k hk => ?_, fun k hk => ?_⟩
  · rw [hd _ (hab_nscr (hb k hk)).1 (by omega)]; exact h3 k hk
  · have e1 : d' (238 + 3 * k) = d (238 + 3 * k) := hd _ (hab_nscr (hb k (by omega))).1 (by omega)
    have e2 : d' (238 + 3 * k + 1) = d (238 + 3 * k + 1) := hd _ (hab_nscr (hb k (by omega))).2 (by omega)
    obtain ⟨⟨len, a, b, c⟩, w⟩ := h4 k hk
    refine ⟨⟨len, by rw [e1]; exact a, b, by rw [e2]; exact c⟩, fun L => ?_⟩
    rw [← w L]
    unfold worthC lenC
    rw [e1, e2]
theorem rpW_row {d d' : mm_D} {r r' : mm_R} {W : wo_W} {hc : Nat} (ok : wnp W ≤ 6 ∧ wnb W ≤ 2) (h : rpW d r W hc) (hd : ∀ c, 4 ≤ c → c < 17 → d' c = d c) (h12 : r' 12 = r 12) : rpW d' r' W hc := by
  obtain ⟨w1, w2, w3, w4, w5, w6, w7⟩ := h
  unfold rpW
  rw [hd 4 (by omega) (by omega), hd 16 (by omega) (by omega), h12]
  exact ⟨w1, w2, fun p hp => by rw [hd _ (by omega) (by omega)]; exact w3 p hp, fun b hb => by rw [hd _ (by omega) (by omega)]; exact w4 b hb, w5, w6, w7⟩
theorem repC_fr {d d2 : mm_D} {g g2 : mm_G} {r r2 : mm_R} {S : wo_S} (ok : okW (sW S) (sH S).1) (hf : fr d g r d2 g2 r2) (h : repC d g r S) : repC d2 g2 r2 S := by
  obtain ⟨f1, f2, f3⟩ := hf
  obtain ⟨a1, a2, a3, a4, a5, a6, a7, a8⟩ := h
  have e : ∀ c, ¬ scr c → c < 232 → d2 c = d c := fun c h1 h2 => f1 c h1 (by omega)
  have e12 : r2 12 = r 12 := funext (fun j => f3 12 j (by omega))
  refine ⟨rpW_row ⟨ok.1, ok.2.1⟩ a1 (fun c h1 h2 => e c (by unfold scr; omega) (by omega)) e12, rpH_row a2 (fun c h1 h2 => f1 c h1 (by omega)), hX_row a3 (fun c hc => e c (by unfold scr; omega) (by omega)) (fun c hc => f2 c (by omega)), ?_, ?_, ?_, ntR_eq a7 (e _ (by unfold scr; omega) (by omega)) (e _ (by unfold scr; omega) (by omega)) (e _ (by unfold scr; omega) (by omega)), hA_row a8 (e _ (by unfold scr; omega) (by omega)) (e _ (by unfold scr; omega) (by omega)) (e _ (by unfold scr; omega) (by omega))⟩
  · rw [e 0 (by unfold scr; omega) (by omega)]; exact a4
  · rw [e 1 (by unfold scr; omega) (by omega), e 2 (by unfold scr; omega) (by omega)]; exact a5
  · rw [e 0 (by unfold scr; omega) (by omega), f2 44 (by omega)]
    exact ⟨a6.1, hA_row a6.2.1 (e _ (by unfold scr; omega) (by omega)) (e _ (by unfold scr; omega) (by omega)) (e _ (by unfold scr; omega) (by omega)), a6.2.2⟩
theorem frM_fr {d d2 : mm_D} {g g2 : mm_G} {r r2 : mm_R} (hf : fr d g r d2 g2 r2) : frM d g r d2 g2 r2 := fun c hc => ⟨hf.1 c (by unfold scr; omega) (by omega), hf.2.1 c (by omega), funext (fun j => hf.2.2 c j (by omega))⟩
theorem rfx_fr {d d2 : mm_D} {g g2 : mm_G} {r r2 : mm_R} (hr : rfx r) (hf : fr d g r d2 g2 r2) : rfx r2 := by
  intro a j y e
  by_cases q : a = 232 ∧ j = 2
  · obtain ⟨rfl, rfl⟩ := q
    exact absurd e (by rw [show r0 232 2 = none from rfl]; exact fun w => by cases w)
  · rw [hf.2.2 a j q]; exact hr a j y e
/-- what a call answers and leaves -/
def kpost (sh : mm_S) (d : mm_D) (g : mm_G) (r : mm_R) (S' : wo_S) (v0 : Option Value) (v : Option Value) (μ : mm_M) : Prop := v = v0 ∧ ∃ d2 g2 r2, μ = (sh, d2, g2, r2) ∧ rfx r2 ∧ repC d2 g2 r2 S' ∧ frM d g r d2 g2 r2
theorem kp_fr {sh : mm_S} {d : mm_D} {g : mm_G} {r : mm_R} {S : wo_S} {v0 v : Option Value} {μ : mm_M} (hr : rfx r) (ok : okW (sW S) (sH S).1) (h : repC d g r S) (hc : v = v0 ∧ ∃ d2 g2 r2, μ = (sh, d2, g2, r2) ∧ fr d g r d2 g2 r2) : kpost sh d g r S v0 v μ := by
  obtain ⟨rfl, d2, g2, r2, rfl, hf⟩ := hc
  exact ⟨rfl, d2, g2, r2, rfl, rfx_fr hr hf, repC_fr ok hf h, frM_fr hf⟩
theorem frC_of {d : mm_D} {r : mm_R} {W : wo_W} {hc : Nat} (hc4 : hc ≤ 4) (ok : okW W hc) (hW : rpW d r W hc) {p : Nat} (hp : p < wnp W) : frC r p = decide (whb W p = -1) := by
  have h6 := ok.1
  obtain ⟨c1, c2, c3⟩ := hW.2.2.2.2.2.2 p (by omega)
  unfold frC
  rcases (ok.2.2.2.1 p hp).2.2.2.2 with e | ⟨k, hk, e⟩
  · rw [c1 hp e, e]; rfl
  · have h4 : ¬ nI k = -1 := nI_nm1 (by omega)
    rw [c2 hp k hk e, e, decide_eq_false h4]
    rfl
