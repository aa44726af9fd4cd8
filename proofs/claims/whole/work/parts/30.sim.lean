/-! ===== the trial is what it should be ===== -/
def rdy (X : mm_D) (r : mm_R) (T : wo_T) (o : wo_O) (t n : Nat) : Prop := rpC X r T ∧ X 232 5 = wavC X r (tnp T) ∧ (∀ k, k < n → X 236 k = lookersC X r (X t 0 + nI k) 0 (X 232 5 ^^^ -1) (tnp T)) ∧ n ≤ 540 ∧ X 232 7 = o.2.1 ∧ X 232 8 = o.1 ∧ X 232 11 = nearC X o.2.2.2 (tnp T) ∧ (match o.2.2.1 with | none => X 232 9 = -1 | some x => x.1 < tnp T ∧ X 232 9 = nI x.1 ∧ X 232 10 = x.2) ∧ (∀ i, tnp T ≤ i → gb o.1 i = false)
theorem gb_loB (T : wo_T) (o : wo_O) (m ow : Int32) (h6 : tnp T ≤ 6) (i : Nat) : gb (loB T o m ow) i = (decide (i < tnp T) && !decide (lkO T o i m ow = 0)) := gb_bts _ i _ h6
theorem gb_seB (T : wo_T) (o : wo_O) (m ow : Int32) (h6 : tnp T ≤ 6) (i : Nat) : gb (seB T o m ow) i = (decide (i < tnp T) && !decide (seO T o i m ow = 0)) := gb_bts _ i _ h6
theorem base_bit {X : mm_D} {r : mm_R} {T : wo_T} {o : wo_O} {t n : Nat} (h : rdy X r T o t n) {k : Nat} (hk : k < n) (ow : Int32) {i : Nat} (hi : i < 32) (ha : gb o.2.1 i = false) (hs : gb o.1 i = false) : gb (tlC X r (tasC X) (X t 0 + nI k) ow (tstC X (nI k)) (tnp T)) i = (decide (i < tnp T) && !decide (tlk T i (X t 0 + nI k) ow = 0)) := by
  obtain ⟨hrp, h5, h236, hn, h7, h8, h11, h9, hst⟩ := h
  have h6 : tnp T ≤ 6 := hrp.1.2.1
  have e1 : tstC X (nI k) = X 236 k := by
    unfold tstC
    rw [if_neg (nI_pos (by omega)), if_neg (show ¬ (540 : Int32) ≤ nI k from nI_ge (show k < 540 by omega) (by decide)), nI_clamp (by omega)]
  have e2 : gb (X 236 k) i = (decide (i < tnp T) && !(heedP X r i) && !decide (lookC X r i (X t 0 + nI k) 0 = 0)) := by
    rw [h236 k hk, gb_lookers _ _ _ _ _ _ _ h6, gb_not _ hi, h5, gb_wav _ _ _ _ h6]
    by_cases q : i < tnp T <;> simp [q]
  have e3 : gb (tasC X) i = (decide (i < tnp T) && heedP X r i) := by
    unfold tasC
    rw [gb_and, gb_and, gb_not _ hi, gb_not _ hi, h7, h8, ha, hs, h5, gb_wav _ _ _ _ h6]
    simp
  rw [gb_tl _ _ _ _ _ _ _ _ h6, e1, e2, e3]
  by_cases q : i < tnp T
  · have e4 := hrp.2.1 i q (X t 0 + nI k) ow
    rw [← e4]
    cases hh : heedP X r i with
    | true => simp [q]
    | false => rw [look_calm hh _ ow]; simp [q]
  · simp [q]
theorem tlk_abs {X : mm_D} {r : mm_R} {T : wo_T} {o : wo_O} {t n : Nat} (h : rdy X r T o t n) {k : Nat} (hk : k < n) (ow : Int32) : tlkC X r t (tnp T) (nI k) ow = loB T o (X t 0 + nI k) ow := by
  refine gb_ext (fun i hi => ?_)
  have hb := fun a b => base_bit h hk ow (i := i) hi a b
  obtain ⟨hrp, h5, h236, hn, h7, h8, h11, h9, hst⟩ := h
  have h6 : tnp T ≤ 6 := hrp.1.2.1
  rw [gb_loB _ _ _ _ h6]
  unfold tlkC tenC
  rw [gb_and, gb_or, gb_not _ hi, h7, h8]
  unfold lkO
  cases ha : gb o.2.1 i with
  | true => simp
  | false =>
    cases hs : gb o.1 i with
    | true =>
      have q : i < tnp T := Nat.lt_of_not_le (fun q => by rw [hst i q] at hs; cases hs)
      simp [q]
    | false =>
      have hb := hb ha hs
      unfold tmvC
      cases hm : o.2.2.1 with
      | none =>
        rw [hm] at h9
        have h9 : X 232 9 = -1 := h9
        rw [if_pos h9, hb]
        simp
      | some x =>
        rw [hm] at h9
        obtain ⟨hx, hx9, hx10⟩ := h9
        have hne : ¬ X 232 9 = -1 := by rw [hx9]; exact nI_nm1 (by omega)
        have hc : (X 232 9).toNatClampNeg = x.1 := by rw [hx9]; exact nI_clamp (by omega)
        rw [if_neg hne, hc, hx10, hrp.2.2.1 x.1 hx]
        by_cases hq : i = x.1
        · subst hq
          by_cases hz : tsp T x.1 x.2 (X t 0 + nI k) = 0
          · rw [if_pos hz, gb_and, gb_not _ hi, gb_bitC (by omega)]
            simp [hz]
          · rw [if_neg hz, gb_or, gb_bitC (by omega)]
            simp [hz, hx]
        · by_cases hz : tsp T x.1 x.2 (X t 0 + nI k) = 0
          · rw [if_pos hz, gb_and, gb_not _ hi, gb_bitC (by omega), hb]
            simp [hq]
          · rw [if_neg hz, gb_or, gb_bitC (by omega), hb]
            simp [hq]
theorem see_abs {X : mm_D} {r : mm_R} {T : wo_T} {o : wo_O} (h : rpC X r T) (m ow : Int32) : seersC X (loB T o m ow) m (nearC X o.2.2.2 (tnp T)) = seB T o m ow := by
  have h6 : tnp T ≤ 6 := h.1.2.1
  refine gb_ext (fun i hi => ?_)
  rw [gb_seB _ _ _ _ h6]
  unfold seersC
  rw [h.2.2.2.2.2.1 m]
  unfold seO
  by_cases hf : tfg T m = 0
  · rw [if_pos hf, gb_loB _ _ _ _ h6]
    by_cases hl : lkO T o i m ow = 0 <;> simp [hl, hf]
  · rw [if_neg hf, gb_and, gb_loB _ _ _ _ h6, gb_near _ _ _ _ h6]
    by_cases q : i < tnp T
    · rw [h.2.2.2.1 i q]
      by_cases hl : lkO T o i m ow = 0
      · simp [hl, q]
      · by_cases hv : tfar T i ≤ o.2.2.2 <;> simp [hl, hf, hv, q]
    · simp [q]
/-- the tower at w holds A -/
def hA (X : mm_D) (w : Nat) (A : wo_A) : Prop := X w 0 = A.1 ∧ ∀ b, b < 2 → X (w + 1) b = A.2.1 b ∧ X (w + 2) b = A.2.2 b
theorem pD_abs {W : mm_D} {r : mm_R} {T : wo_T} {A : wo_A} {w : Nat} (hT : rpC W r T) (h : hA W w A) (hw : 38 ≤ w) (s : Int32) : ∀ b, b ≤ tnb T → (∀ j, j < 2 → pD W w s b (w + 1) j = (if j < b then lfA T A s j else A.2.1 j) ∧ pD W w s b (w + 2) j = (if j < b then (if rgA T A s j = 0 then A.2.2 j else A.2.2 j + 1) else A.2.2 j)) ∧ pR W w s b = bts (fun j => rgA T A s j) b
  | 0, _ => ⟨fun j hj => ⟨(h.2 j hj).1, (h.2 j hj).2⟩, rfl⟩
  | b + 1, hb => by
    have h2 : tnb T ≤ 2 := hT.1.2.2.2.1
    obtain ⟨ih, ihR⟩ := pD_abs hT h hw s b (by omega)
    have hbb := hT.2.2.2.2.1 b (by omega)
    have eO : pO (pD W w s b) w b = owA T A b := by
      unfold pO owA
      rw [(ih b (by omega)).1, if_neg (Nat.lt_irrefl b), pD_row (by omega) (by omega), pD_row (by omega) (by omega), hbb.1, h.1]
    have eL : pD1 (pD W w s b) w b s (w + 1) b = lfA T A s b := by
      unfold pD1
      rw [mm_up_at, if_pos rfl, eO, pD_row (by omega) (by omega), hbb.2.1]
      rfl
    have e1 : ∀ j, j ≠ b → pD1 (pD W w s b) w b s (w + 1) j = pD W w s b (w + 1) j := fun j hj => by
      unfold pD1
      rw [mm_up_at, if_neg hj]
    have e2 : ∀ j, pD1 (pD W w s b) w b s (w + 2) j = pD W w s b (w + 2) j := fun j => by
      rw [pD1_row (by omega)]
    constructor
    · intro j hj
      rw [pD]
      unfold pD2
      rw [eO, eL]
      by_cases hc : owA T A b ≤ lfA T A s b
      · rw [if_pos hc]
        have hr : rgA T A s b = 0 := if_pos hc
        by_cases e : j = b
        · subst e
          rw [eL, e2, (ih j hj).2, if_neg (Nat.lt_irrefl j), if_pos (Nat.lt_succ_self j), if_pos (Nat.lt_succ_self j), if_pos hr]
          exact ⟨rfl, rfl⟩
        · rw [e1 j e, e2, (ih j hj).1, (ih j hj).2]
          by_cases q : j < b
          · rw [if_pos q, if_pos q, if_pos (show j < b + 1 by omega), if_pos (show j < b + 1 by omega)]; exact ⟨rfl, rfl⟩
          · rw [if_neg q, if_neg q, if_neg (show ¬ j < b + 1 by omega), if_neg (show ¬ j < b + 1 by omega)]; exact ⟨rfl, rfl⟩
      · rw [if_neg hc]
        have hr : ¬ rgA T A s b = 0 := by unfold rgA; rw [if_neg hc]; decide
        rw [mm_up_ne (show w + 1 ≠ w + 2 by omega), mm_up_at]
        by_cases e : j = b
        · subst e
          rw [eL, if_pos rfl, e2, (ih j hj).2, if_neg (Nat.lt_irrefl j), if_pos (Nat.lt_succ_self j), if_pos (Nat.lt_succ_self j), if_neg hr]
          exact ⟨rfl, rfl⟩
        · rw [e1 j e, if_neg e, e2, (ih j hj).1, (ih j hj).2]
          by_cases q : j < b
          · rw [if_pos q, if_pos q, if_pos (show j < b + 1 by omega), if_pos (show j < b + 1 by omega)]; exact ⟨rfl, rfl⟩
          · rw [if_neg q, if_neg q, if_neg (show ¬ j < b + 1 by omega), if_neg (show ¬ j < b + 1 by omega)]; exact ⟨rfl, rfl⟩
    · rw [pR, bts, eO, eL, ihR]
      unfold rgA
      by_cases hc : owA T A b ≤ lfA T A s b
      · rw [if_pos hc, if_pos (if_pos hc)]
      · rw [if_neg hc, if_neg (by rw [if_neg hc]; decide)]
theorem pas_abs {W : mm_D} {r : mm_R} {T : wo_T} {A : wo_A} {w : Nat} (hT : rpC W r T) (h : hA W w A) (hw : 38 ≤ w) (s : Int32) : hA (pasD W w s (tnb T)) w (stA T A s) ∧ pR W w s (tnb T) = bts (fun j => rgA T A s j) (tnb T) := by
  obtain ⟨h1, h2⟩ := pD_abs hT h hw s (tnb T) (Nat.le_refl _)
  refine ⟨⟨?_, fun b hb => ?_⟩, h2⟩
  · unfold pasD
    rw [mm_up_at, if_pos rfl, pD_row (by omega) (by omega), h.1]
    rfl
  · unfold pasD
    rw [mm_up_ne (by omega), mm_up_ne (by omega)]
    exact ⟨(h1 b hb).1, (h1 b hb).2⟩
theorem lookersC_r {d d' : mm_D} {r r' : mm_R} (h : ∀ c, c < 232 ∨ 238 ≤ c → d' c = d c) (h12 : r' 12 = r 12) (hb : habs d r) (m ow mask : Int32) : ∀ k, k ≤ 6 → lookersC d' r' m ow mask k = lookersC d r m ow mask k
  | 0, _ => rfl
  | k + 1, hk => by rw [lookersC, lookersC, lookersC_r h h12 hb m ow mask k (by omega), lookC_r h h12 hb (by omega)]
theorem wavC_r {d d' : mm_D} {r r' : mm_R} (h : ∀ c, c < 232 ∨ 238 ≤ c → d' c = d c) (h12 : r' 12 = r 12) (hb : habs d r) : ∀ k, k ≤ 6 → wavC d' r' k = wavC d r k
  | 0, _ => rfl
  | k + 1, hk => by
    rw [wavC, wavC, wavC_r h h12 hb k (by omega), h12]
    cases hc : r 12 k with
    | none => rfl
    | some x =>
      have hh := (hb k x (by omega) hc).1
      have e1 : d' x = d x := h _ (by unfold hab at hh; omega)
      have e2 : d' (x + 1) = d (x + 1) := h _ (by unfold hab at hh; omega)
      unfold lenC
      simp only [e1, e2]
theorem rdy_eq {X Y : mm_D} {r : mm_R} {T : wo_T} {o : wo_O} {t n : Nat} (ht : t < 232) (h : rdy X r T o t n) (hr : ∀ c, c < 232 ∨ 238 ≤ c ∨ c = 236 → Y c = X c) (hc : ∀ j, j ≠ 6 → j ≠ 12 → j ≠ 13 → j ≠ 14 → Y 232 j = X 232 j) : rdy Y r T o t n := by
  obtain ⟨hrp, h5, h236, hn, h7, h8, h11, h9, hst⟩ := h
  have hq : ∀ c, c < 232 ∨ 238 ≤ c → Y c = X c := fun c h => hr c (by omega)
  have h6 : tnp T ≤ 6 := hrp.1.2.1
  have hb : habs X r := hrp.1.2.2.2.2
  refine ⟨rpC_r hq rfl hrp, ?_, fun k hk => ?_, hn, ?_, ?_, ?_, ?_, hst⟩
  · rw [hc 5 (by omega) (by omega) (by omega) (by omega), wavC_r hq rfl hb _ h6]; exact h5
  · rw [hr 236 (by omega), hq t (by omega), hc 5 (by omega) (by omega) (by omega) (by omega), lookersC_r hq rfl hb _ _ _ _ h6]; exact h236 k hk
  · rw [hc 7 (by omega) (by omega) (by omega) (by omega)]; exact h7
  · rw [hc 8 (by omega) (by omega) (by omega) (by omega)]; exact h8
  · rw [hc 11 (by omega) (by omega) (by omega) (by omega), nearC_r (fun c hc => hq c (by omega)) _ _ h6]; exact h11
  · cases hm : o.2.2.1 with
    | none =>
      rw [hm] at h9
      show Y 232 9 = -1
      rw [hc 9 (by omega) (by omega) (by omega) (by omega)]; exact h9
    | some x =>
      rw [hm] at h9
      show x.1 < tnp T ∧ Y 232 9 = nI x.1 ∧ Y 232 10 = x.2
      rw [hc 9 (by omega) (by omega) (by omega) (by omega), hc 10 (by omega) (by omega) (by omega) (by omega)]; exact h9
/-- a step of the trial is a step of A -/
theorem step_abs {X : mm_D} {r : mm_R} {T : wo_T} {o : wo_O} {t n k : Nat} {A : wo_A} (ht : t < 232) (h : rdy X r T o t n) (hk : k < n) (h6 : X 232 6 = nI k) (hA0 : hA X 233 A) (hm : A.1 = X t 0 + nI k) : hA (stpD X r t (tnp T) (tnb T)) 233 (nxA T o A) ∧ stpD X r t (tnp T) (tnb T) 232 6 = nI (k + 1) ∧ stpD X r t (tnp T) (tnb T) 232 12 = loB T o A.1 (A.2.1 0) ∧ stpD X r t (tnp T) (tnb T) 232 13 = seB T o A.1 (A.2.1 0) ∧ stpD X r t (tnp T) (tnb T) 232 14 = rbA T o A ∧ stpD X r t (tnp T) (tnb T) 237 k = b01 (rbA T o A &&& 1) ∧ (∀ j, j ≠ k → stpD X r t (tnp T) (tnb T) 237 j = X 237 j) := by
  have hn : n ≤ 540 := h.2.2.2.1
  have e1 : st1 X r t (tnp T) = mm_up X 232 12 (loB T o A.1 (A.2.1 0)) := by
    unfold st1
    rw [h6, tlk_abs h hk, ← hm, (hA0.2 0 (by omega)).1]
  have e2 : st2 (st1 X r t (tnp T)) = mm_up (mm_up X 232 12 (loB T o A.1 (A.2.1 0))) 232 13 (seB T o A.1 (A.2.1 0)) := by
    unfold st2
    rw [e1, mm_up_at 12, if_pos rfl, mm_up_at 11, if_neg (by decide), mm_up_ne (show 233 ≠ 232 by decide), hA0.1, h.2.2.2.2.2.2.1]
    have hr1 : rpC (mm_up X 232 12 (loB T o A.1 (A.2.1 0))) r T := rpC_r (fun c hc => mm_up_ne (by omega)) rfl h.1
    have e3 : nearC X o.2.2.2 (tnp T) = nearC (mm_up X 232 12 (loB T o A.1 (A.2.1 0))) o.2.2.2 (tnp T) := (nearC_r (fun c hc => mm_up_ne (by omega)) _ _ h.1.1.2.1).symm
    rw [e3, see_abs hr1]
  have hW : ∀ c, c ≠ 232 → st2 (st1 X r t (tnp T)) c = X c := fun c hc => by rw [e2, mm_up_ne hc, mm_up_ne hc]
  have hWA : hA (st2 (st1 X r t (tnp T))) 233 A := ⟨by rw [hW _ (by decide)]; exact hA0.1, fun b hb => by rw [hW _ (by decide), hW _ (by decide)]; exact hA0.2 b hb⟩
  have hWT : rpC (st2 (st1 X r t (tnp T))) r T := rpC_r (fun c hc => hW c (by omega)) rfl h.1
  have es : b01 (st2 (st1 X r t (tnp T)) 232 13) = snA T o A := by
    rw [e2, mm_up_at, if_pos rfl]
    rfl
  obtain ⟨hp1, hp2⟩ := pas_abs hWT hWA (by decide) (snA T o A)
  have e3 : st3 (st2 (st1 X r t (tnp T))) (tnb T) = mm_up (pasD (st2 (st1 X r t (tnp T))) 233 (snA T o A) (tnb T)) 232 14 (rbA T o A) := by
    unfold st3
    rw [es, hp2]
    rfl
  have c6 : ∀ j, j ≠ 12 → j ≠ 13 → j ≠ 14 → st3 (st2 (st1 X r t (tnp T))) (tnb T) 232 j = X 232 j := fun j h12 h13 h14 => by
    rw [e3, mm_up_at, if_neg h14, pasD_row (by decide) (by decide) (by decide), e2, mm_up_at, if_neg h13, mm_up_at, if_neg h12]
  have r3 : ∀ c, c ≠ 232 → st3 (st2 (st1 X r t (tnp T))) (tnb T) c = pasD (st2 (st1 X r t (tnp T))) 233 (snA T o A) (tnb T) c := fun c hc => by rw [e3, mm_up_ne hc]
  have e4 : st4 (st3 (st2 (st1 X r t (tnp T))) (tnb T)) = mm_up (st3 (st2 (st1 X r t (tnp T))) (tnb T)) 237 k (b01 (rbA T o A &&& 1)) := by
    unfold st4
    rw [c6 6 (by decide) (by decide) (by decide), h6, if_neg (nI_pos (by omega)), if_neg (show ¬ (540 : Int32) ≤ nI k from nI_ge (show k < 540 by omega) (by decide)), nI_clamp (by omega), e3, mm_up_at 14, if_pos rfl]
  have e5 : ∀ c, c ≠ 232 → stpD X r t (tnp T) (tnb T) c = mm_up (st3 (st2 (st1 X r t (tnp T))) (tnb T)) 237 k (b01 (rbA T o A &&& 1)) c := fun c hc => by
    unfold stpD st5
    rw [mm_up_ne hc, e4]
  have e6 : ∀ j, j ≠ 6 → stpD X r t (tnp T) (tnb T) 232 j = st3 (st2 (st1 X r t (tnp T))) (tnb T) 232 j := fun j hj => by
    unfold stpD st5
    rw [mm_up_at, if_neg hj, e4, mm_up_ne (by decide)]
  refine ⟨⟨?_, fun b hb => ⟨?_, ?_⟩⟩, ?_, ?_, ?_, ?_, ?_, fun j hj => ?_⟩
  · rw [e5 _ (by decide), mm_up_ne (by decide), r3 _ (by decide)]; exact hp1.1
  · rw [e5 _ (by decide), mm_up_ne (by decide), r3 _ (by decide)]; exact (hp1.2 b hb).1
  · rw [e5 _ (by decide), mm_up_ne (by decide), r3 _ (by decide)]; exact (hp1.2 b hb).2
  · unfold stpD st5
    rw [mm_up_at, if_pos rfl, e4, mm_up_ne (by decide), c6 6 (by decide) (by decide) (by decide), h6]
    exact nI_1 k
  · rw [e6 _ (by decide), e3, mm_up_at, if_neg (by decide), pasD_row (by decide) (by decide) (by decide), e2, mm_up_at, if_neg (by decide), mm_up_at, if_pos rfl]
  · rw [e6 _ (by decide), e3, mm_up_at, if_neg (by decide), pasD_row (by decide) (by decide) (by decide), e2, mm_up_at, if_pos rfl]
  · rw [e6 _ (by decide), e3, mm_up_at, if_pos rfl]
  · rw [e5 _ (by decide), mm_up_at, if_pos rfl]
  · rw [e5 _ (by decide), mm_up_at, if_neg hj, r3 _ (by decide), pasD_row (by decide) (by decide) (by decide), hW _ (by decide)]
theorem aN_1 (T : wo_T) (o : wo_O) (A : wo_A) : ∀ k, (aN T o A k).1 = A.1 + nI k
  | 0 => by
    show A.1 = A.1 + 0
    rw [Int32.add_zero]
  | k + 1 => by
    show (aN T o A k).1 + 1 = A.1 + nI (k + 1)
    rw [aN_1 T o A k, Int32.add_assoc]
    exact congrArg _ (nI_1 k)
/-- many steps -/
theorem sim {X : mm_D} {r : mm_R} {T : wo_T} {o : wo_O} {t n : Nat} {A : wo_A} (ht : t < 232) (h : rdy X r T o t n) (h6 : X 232 6 = 0) (hA0 : hA X 233 A) (hm : A.1 = X t 0) : ∀ k, k ≤ n → rdy (stpN X r t (tnp T) (tnb T) k) r T o t n ∧ stpN X r t (tnp T) (tnb T) k 232 6 = nI k ∧ hA (stpN X r t (tnp T) (tnb T) k) 233 (aN T o A k) ∧ (∀ j, j < k → stpN X r t (tnp T) (tnb T) k 237 j = b01 (rbA T o (aN T o A j) &&& 1))
  | 0, _ => ⟨h, h6, hA0, fun j hj => absurd hj (Nat.not_lt_zero _)⟩
  | k + 1, hk => by
    obtain ⟨i1, i2, i3, i4⟩ := sim ht h h6 hA0 hm k (by omega)
    have hmk : (aN T o A k).1 = stpN X r t (tnp T) (tnb T) k t 0 + nI k := by rw [stpN_row (Or.inl ht), aN_1, hm]
    obtain ⟨s1, s2, s3, s4, s5, s6, s7⟩ := step_abs ht i1 (by omega) i2 i3 hmk
    refine ⟨rdy_eq ht i1 (fun c hc => stpD_row (by omega) (by omega) (by omega) (by omega) (by omega)) (fun j h1 h2 h3 h4 => stpD_col h2 h3 h4 h1), s2, s1, fun j hj => ?_⟩
    by_cases e : j = k
    · subst e; exact s6
    · show stpD _ _ _ _ _ 237 j = _
      rw [s7 j e]; exact i4 j (by omega)
theorem sim12 {X : mm_D} {r : mm_R} {T : wo_T} {o : wo_O} {t n : Nat} {A : wo_A} (ht : t < 232) (h : rdy X r T o t n) (h6 : X 232 6 = 0) (hA0 : hA X 233 A) (hm : A.1 = X t 0) {k : Nat} (hk : k < n) : stpN X r t (tnp T) (tnb T) (k + 1) 232 12 = loB T o (aN T o A k).1 ((aN T o A k).2.1 0) ∧ stpN X r t (tnp T) (tnb T) (k + 1) 232 13 = seB T o (aN T o A k).1 ((aN T o A k).2.1 0) ∧ stpN X r t (tnp T) (tnb T) (k + 1) 232 14 = rbA T o (aN T o A k) := by
  obtain ⟨i1, i2, i3, i4⟩ := sim ht h h6 hA0 hm k (by omega)
  have hmk : (aN T o A k).1 = stpN X r t (tnp T) (tnb T) k t 0 + nI k := by rw [stpN_row (Or.inl ht), aN_1, hm]
  obtain ⟨s1, s2, s3, s4, s5, s6, s7⟩ := step_abs ht i1 hk i2 i3 hmk
  exact ⟨s3, s4, s5⟩
