/-! ===== a town and its minutes, apart from any memory ===== -/
theorem i32_nn (x : Int32) : -2 - (-2 - x) = x := by
  have h : ∀ a b : Int32, a - (a - b) = b := fun a b => by
    grind
  exact h _ _
theorem wrF_ow {c l l' : Nat → Int32} (h : ∀ j, j < 6 → j ≠ 3 → l j = l' j) : ∀ (m a : Nat) (y : Nat → Int32) (top : Nat) (p : Int32), heedsC c m a = 0 → wrF c l m a y top p = wrF c l' m a y top p := by
  intro m
  induction m with
  | zero => intros; rfl
  | succ m ih =>
    intro a y top p hh
    rw [heedsC] at hh
    have h5 : ¬ c a = -5 := fun e => by
      rw [if_pos e] at hh
      exact absurd hh (by decide)
    rw [if_neg h5] at hh
    by_cases hx : -2 - c a < 0 ∨ 6 ≤ -2 - c a
    · simp only [wrF, ih _ _ _ _ hh, if_pos hx]
    · have hb := ixn_of (fun q => hx (Or.inl q)) (fun q => hx (Or.inr q))
      have h3 : (-2 - c a).toNatClampNeg ≠ 3 := fun e => by
        have e1 : -2 - c a = nI 3 := by rw [← e]; exact nI_ofn hb.2.1
        have e2 := i32_nn (c a)
        rw [e1] at e2
        exact h5 e2.symm
      simp only [wrF, ih _ _ _ _ hh, if_neg hx, h _ hb.2.2 h3]
theorem lookC_ow {d : mm_D} {r : mm_R} {p : Nat} (h : match r 12 p with | none => True | some x => heedsC (d (x + 1)) (lenC d x) 0 = 0) (m ow : Int32) : lookC d r p m ow = lookC d r p m 0 := by
  unfold lookC
  cases hc : r 12 p with
  | none => rfl
  | some x =>
    rw [hc] at h
    have e : worthC d x (letC d p m ow) = worthC d x (letC d p m 0) := by
      unfold worthC
      refine wrF_ow (fun j h6 h3 => ?_) _ _ _ _ _ h
      unfold letC
      by_cases h5 : j = 5
      · rw [if_pos h5, if_pos h5]
      · rw [if_neg h5, if_neg h5]
        by_cases h4 : j = 4
        · rw [if_pos h4, if_pos h4]
        · rw [if_neg h4, if_neg h4, if_neg h3, if_neg h3]
    show (if worthC d x (letC d p m ow) ≤ 0 then (0 : Int32) else 1) = if worthC d x (letC d p m 0) ≤ 0 then 0 else 1
    rw [e]
/-- persons, bells; looks; spans; distances and bells' rows; fog; view -/
abbrev wo_T : Type := (Nat × Nat) × (Nat → Int32 → Int32 → Int32) × (Nat → Int32 → Int32 → Int32) × (Nat → Nat → Int32) × (Int32 → Int32) × Int32
def tnp (T : wo_T) : Nat := T.1.1
def tnb (T : wo_T) : Nat := T.1.2
def tlk (T : wo_T) : Nat → Int32 → Int32 → Int32 := T.2.1
def tsp (T : wo_T) : Nat → Int32 → Int32 → Int32 := T.2.2.1
def tfar (T : wo_T) : Nat → Int32 := T.2.2.2.1 3
def thr (T : wo_T) : Nat → Int32 := T.2.2.2.1 0
def tkd (T : wo_T) : Nat → Int32 := T.2.2.2.1 1
def trc (T : wo_T) : Nat → Int32 := T.2.2.2.1 2
def tfg (T : wo_T) : Int32 → Int32 := T.2.2.2.2.1
def tvw (T : wo_T) : Int32 := T.2.2.2.2.2
/-- who stares, who turns away, who is moved to where, the view -/
abbrev wo_O : Type := Int32 × Int32 × Option (Nat × Int32) × Int32
def lkO (T : wo_T) (o : wo_O) (p : Nat) (m ow : Int32) : Int32 := if gb o.2.1 p = true then 0 else if gb o.1 p = true then 1 else match o.2.2.1 with
  | none => tlk T p m ow
  | some x => if p = x.1 then tsp T p x.2 m else tlk T p m ow
def seO (T : wo_T) (o : wo_O) (p : Nat) (m ow : Int32) : Int32 := if lkO T o p m ow = 0 then 0 else if tfg T m = 0 then 1 else if tfar T p ≤ o.2.2.2 then 1 else 0
def loB (T : wo_T) (o : wo_O) (m ow : Int32) : Int32 := bts (fun p => lkO T o p m ow) (tnp T)
def seB (T : wo_T) (o : wo_O) (m ow : Int32) : Int32 := bts (fun p => seO T o p m ow) (tnp T)
/-- the next minute, what is owed, what was rung -/
abbrev wo_A : Type := Int32 × (Nat → Int32) × (Nat → Int32)
def owA (T : wo_T) (A : wo_A) (b : Nat) : Int32 := A.2.1 b + dueC (thr T b) A.1
def lfA (T : wo_T) (A : wo_A) (s : Int32) (b : Nat) : Int32 := leftC (tkd T b) (owA T A b) s
def rgA (T : wo_T) (A : wo_A) (s : Int32) (b : Nat) : Int32 := if owA T A b ≤ lfA T A s b then 0 else 1
def stA (T : wo_T) (A : wo_A) (s : Int32) : wo_A := (A.1 + 1, fun b => if b < tnb T then lfA T A s b else A.2.1 b, fun b => if b < tnb T then (if rgA T A s b = 0 then A.2.2 b else A.2.2 b + 1) else A.2.2 b)
def snA (T : wo_T) (o : wo_O) (A : wo_A) : Int32 := b01 (seB T o A.1 (A.2.1 0))
def nxA (T : wo_T) (o : wo_O) (A : wo_A) : wo_A := stA T A (snA T o A)
def aN (T : wo_T) (o : wo_O) (A : wo_A) : Nat → wo_A
  | 0 => A
  | k + 1 => nxA T o (aN T o A k)
def rbA (T : wo_T) (o : wo_O) (A : wo_A) : Int32 := bts (fun b => rgA T A (snA T o A) b) (tnb T)
/-- memory d, r shows the town T -/
def rpC (d : mm_D) (r : mm_R) (T : wo_T) : Prop := (d 4 5 = nI (tnp T) ∧ tnp T ≤ 6 ∧ d 4 6 = nI (tnb T) ∧ tnb T ≤ 2 ∧ habs d r) ∧ (∀ p, p < tnp T → ∀ m ow, lookC d r p m ow = tlk T p m ow) ∧ (∀ p, p < tnp T → ∀ f m, onC m f (d (6 + p) 1) (d (6 + p) 2) = tsp T p f m) ∧ (∀ p, p < tnp T → d (6 + p) 3 = tfar T p) ∧ (∀ b, b < tnb T → d (14 + b) 0 = thr T b ∧ d (14 + b) 1 = tkd T b ∧ d (14 + b) 2 = trc T b) ∧ (∀ m, foggyC d m = tfg T m) ∧ viewC d = tvw T
theorem lookC_r {d d' : mm_D} {r r' : mm_R} (h : ∀ c, c < 232 ∨ 238 ≤ c → d' c = d c) (h12 : r' 12 = r 12) (hb : habs d r) {p : Nat} (hp : p < 6) (m ow : Int32) : lookC d' r' p m ow = lookC d r p m ow := by
  have e6 : d' (6 + p) = d (6 + p) := h _ (by omega)
  have e14 : d' 14 = d 14 := h _ (by omega)
  unfold lookC
  rw [h12]
  cases hc : r 12 p with
  | none => simp only [e6]
  | some x =>
    have hh := (hb p x hp hc).1
    have e1 : d' x = d x := h _ (by unfold hab at hh; omega)
    have e2 : d' (x + 1) = d (x + 1) := h _ (by unfold hab at hh; omega)
    have eL : letC d' p m ow = letC d p m ow := by unfold letC; rw [e6, e14]
    have ew : worthC d' x (letC d' p m ow) = worthC d x (letC d p m ow) := by
      unfold worthC lenC
      rw [e1, e2, eL]
    show (if worthC d' x (letC d' p m ow) ≤ 0 then (0 : Int32) else 1) = if worthC d x (letC d p m ow) ≤ 0 then 0 else 1
    rw [ew]
theorem rpC_r {d d' : mm_D} {r r' : mm_R} {T : wo_T} (h : ∀ c, c < 232 ∨ 238 ≤ c → d' c = d c) (h12 : r' 12 = r 12) (hT : rpC d r T) : rpC d' r' T := by
  obtain ⟨⟨h1, h2, h3, h4, h5⟩, h6, h7, h8, h9, h10, h11⟩ := hT
  have e4 : d' 4 = d 4 := h _ (by omega)
  have e16 : d' 16 = d 16 := h _ (by omega)
  refine ⟨⟨by rw [e4]; exact h1, h2, by rw [e4]; exact h3, h4, habs_eq h (habs_r h12 h5)⟩, fun p hp m ow => ?_, fun p hp f m => ?_, fun p hp => ?_, fun b hb => ?_, fun m => ?_, ?_⟩
  · rw [lookC_r h h12 h5 (by omega)]; exact h6 p hp m ow
  · rw [h (6 + p) (by omega)]; exact h7 p hp f m
  · rw [h (6 + p) (by omega)]; exact h8 p hp
  · rw [h (14 + b) (by omega)]; exact h9 b hb
  · unfold foggyC; rw [e4, e16]; exact h10 m
  · unfold viewC; rw [e4, e16]; exact h11
theorem gb_lookers (d : mm_D) (r : mm_R) (m ow mask : Int32) (i : Nat) : ∀ n, n ≤ 6 → gb (lookersC d r m ow mask n) i = (decide (i < n) && gb mask i && !decide (lookC d r i m ow = 0))
  | 0, _ => by rw [lookersC, gb_0]; simp
  | k + 1, h => by
    have ih := gb_lookers d r m ow mask i k (by omega)
    rw [lookersC]
    by_cases hm : (mask >>> (nI k &&& 31)) &&& 1 = 0
    · rw [if_pos hm, ih]
      have hg := (gb_sh mask (by omega)).mp hm
      by_cases e : i = k
      · subst e; simp [hg]
      · by_cases e2 : i < k
        · simp [e2, show i < k + 1 by omega]
        · simp [e2, show ¬ i < k + 1 by omega]
    · have hg : gb mask k = true := by
        cases hq : gb mask k with
        | true => rfl
        | false => exact absurd ((gb_sh mask (by omega)).mpr hq) hm
      rw [if_neg hm]
      by_cases hl : lookC d r k m ow = 0
      · rw [if_pos hl, ih]
        by_cases e : i = k
        · subst e; simp [hl]
        · by_cases e2 : i < k
          · simp [e2, show i < k + 1 by omega]
          · simp [e2, show ¬ i < k + 1 by omega]
      · rw [if_neg hl, gb_or, ih, gb_bitC (by omega)]
        by_cases e : i = k
        · subst e; simp [hl, hg]
        · by_cases e2 : i < k
          · simp [e, e2, show i < k + 1 by omega]
          · simp [e, e2, show ¬ i < k + 1 by omega]
theorem gb_tl (d : mm_D) (r : mm_R) (asked m ow f : Int32) (i : Nat) : ∀ n, n ≤ 6 → gb (tlC d r asked m ow f n) i = (gb f i || (decide (i < n) && gb asked i && !decide (lookC d r i m ow = 0)))
  | 0, _ => by rw [tlC]; simp
  | k + 1, h => by
    have ih := gb_tl d r asked m ow f i k (by omega)
    rw [tlC, gb_or, ih]
    by_cases hm : (asked >>> (nI k &&& 31)) &&& 1 = 0
    · rw [if_pos hm, gb_0]
      have hg := (gb_sh asked (by omega)).mp hm
      by_cases e : i = k
      · subst e; simp [hg]
      · by_cases e2 : i < k
        · simp [e2, show i < k + 1 by omega]
        · simp [e2, show ¬ i < k + 1 by omega]
    · have hg : gb asked k = true := by
        cases hq : gb asked k with
        | true => rfl
        | false => exact absurd ((gb_sh asked (by omega)).mpr hq) hm
      rw [if_neg hm]
      by_cases hl : lookC d r k m ow = 0
      · rw [if_pos hl, gb_0]
        by_cases e : i = k
        · subst e; simp [hl]
        · by_cases e2 : i < k
          · simp [e2, show i < k + 1 by omega]
          · simp [e2, show ¬ i < k + 1 by omega]
      · rw [if_neg hl, gb_bitC (by omega)]
        by_cases e : i = k
        · subst e; simp [hl, hg]
        · by_cases e2 : i < k
          · simp [e, e2, show i < k + 1 by omega]
          · simp [e, e2, show ¬ i < k + 1 by omega]
/-- person i's looks hang on what bell 0 owes -/
def heedP (d : mm_D) (r : mm_R) (i : Nat) : Bool := match r 12 i with
  | none => false
  | some x => !decide (heedsC (d (x + 1)) (lenC d x) 0 = 0)
theorem gb_wav (d : mm_D) (r : mm_R) (i : Nat) : ∀ n, n ≤ 6 → gb (wavC d r n) i = (decide (i < n) && heedP d r i)
  | 0, _ => by rw [wavC, gb_0]; simp
  | k + 1, h => by
    have ih := gb_wav d r i k (by omega)
    rw [wavC]
    cases hc : r 12 k with
    | none =>
      show gb (wavC d r k) i = _
      rw [ih]
      by_cases e : i = k
      · subst e; simp [heedP, hc]
      · by_cases e2 : i < k
        · simp [e2, show i < k + 1 by omega]
        · simp [e2, show ¬ i < k + 1 by omega]
    | some x =>
      show gb (if heedsC (d (x + 1)) (lenC d x) 0 = 0 then wavC d r k else wavC d r k ||| bitC k) i = _
      by_cases hz : heedsC (d (x + 1)) (lenC d x) 0 = 0
      · rw [if_pos hz, ih]
        by_cases e : i = k
        · subst e; simp [heedP, hc, hz]
        · by_cases e2 : i < k
          · simp [e2, show i < k + 1 by omega]
          · simp [e2, show ¬ i < k + 1 by omega]
      · rw [if_neg hz, gb_or, ih, gb_bitC (by omega)]
        by_cases e : i = k
        · subst e; simp [heedP, hc, hz]
        · by_cases e2 : i < k
          · simp [e, e2, show i < k + 1 by omega]
          · simp [e, e2, show ¬ i < k + 1 by omega]
theorem gb_near (d : mm_D) (v : Int32) (i : Nat) : ∀ n, n ≤ 6 → gb (nearC d v n) i = (decide (i < n) && decide (d (6 + i) 3 ≤ v))
  | 0, _ => by rw [nearC, gb_0]; simp
  | k + 1, h => by
    have ih := gb_near d v i k (by omega)
    rw [nearC]
    by_cases hz : v < d (6 + k) 3
    · rw [if_pos hz, ih]
      by_cases e : i = k
      · subst e; simp [Int32.not_le.mpr hz]
      · by_cases e2 : i < k
        · simp [e2, show i < k + 1 by omega]
        · simp [e2, show ¬ i < k + 1 by omega]
    · rw [if_neg hz, gb_or, ih, gb_bitC (by omega)]
      by_cases e : i = k
      · subst e; simp [Int32.not_lt.mp hz]
      · by_cases e2 : i < k
        · simp [e, e2, show i < k + 1 by omega]
        · simp [e, e2, show ¬ i < k + 1 by omega]
theorem look_calm {d : mm_D} {r : mm_R} {i : Nat} (h : heedP d r i = false) (m ow : Int32) : lookC d r i m ow = lookC d r i m 0 := by
  refine lookC_ow ?_ m ow
  unfold heedP at h
  cases hc : r 12 i with
  | none => trivial
  | some x =>
    rw [hc] at h
    simpa using h
