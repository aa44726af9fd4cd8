/-! ===== trials of a call ===== -/
theorem bcc4 : ∀ e0 w0 e1 w1 : Bool, bcC ((((if e0 then bitC 0 else 0) : Int32) ||| (if e1 then bitC 1 else 0)) &&& (((if w0 then bitC 0 else 0) : Int32) ||| (if w1 then bitC 1 else 0))) = (if w0 then (if e0 then 1 else 0) else 0) + (if w1 then (if e1 then 1 else 0) else 0) := by decide +kernel
theorem bts2 (f : Nat → Int32) : ∀ n, n ≤ 2 → bts f n = ((if decide (0 < n) && !decide (f 0 = 0) then bitC 0 else 0 : Int32) ||| (if decide (1 < n) && !decide (f 1 = 0) then bitC 1 else 0)) := by
  intro n hn
  refine gb_ext (fun i hi => ?_)
  rw [gb_bts f i n (by omega), gb_or]
  have g0 : ∀ b : Bool, gb (if b then bitC 0 else 0) i = (b && decide (i = 0)) := fun b => by
    cases b
    · exact gb_0 i
    · exact (gb_bitC (by omega) i).trans (by simp)
  have g1 : ∀ b : Bool, gb (if b then bitC 1 else 0) i = (b && decide (i = 1)) := fun b => by
    cases b
    · exact gb_0 i
    · exact (gb_bitC (by omega) i).trans (by simp)
  rw [g0, g1]
  by_cases e0 : i = 0
  · subst e0; simp
  · by_cases e1 : i = 1
    · subst e1; simp
    · simp [e0, e1, show ¬ i < n by omega]
theorem reach_bts (d : mm_D) (p : Nat) : ∀ n, reachC d p n = bts (fun b => if d (6 + p) 3 ≤ d (14 + b) 2 then 1 else 0) n
  | 0 => rfl
  | k + 1 => by
    rw [reachC, bts, reach_bts d p k]
    by_cases h : d (14 + k) 2 < d (6 + p) 3
    · rw [if_pos h, if_pos (if_neg (Int32.not_le.mpr h))]
    · rw [if_neg h, if_neg (by rw [if_pos (Int32.not_lt.mp h)]; decide)]
theorem ear_c {X d : mm_D} {r : mm_R} {T : wo_T} {o : wo_O} {t n p : Nat} {A : wo_A} (h : smC X r T o t n A) (hT : rpC d r T) (hp : p < tnp T) : ∀ k, k ≤ n → earS X r t (tnp T) (tnb T) (reachC d p (tnb T)) k = earA T o A p k (tnb T)
  | 0, _ => by
    have h2 : tnb T ≤ 2 := hT.1.2.2.2.1
    have e : ∀ b, earA T o A p 0 b = 0 := fun b => by
      induction b with
      | zero => rfl
      | succ b ih =>
        rw [earA, ih]
        show (0 : Int32) + (if tfar T p ≤ trc T b then A.2.2 b - A.2.2 b else 0) = 0
        rw [Int32.sub_self]
        split <;> rfl
    rw [e]
    rfl
  | k + 1, hk => by
    have h2 : tnb T ≤ 2 := hT.1.2.2.2.1
    rw [earS, ear_c h hT hp k (by omega), (sm_12 h hk).2.2, reach_bts]
    unfold rbA
    rw [bts2 _ _ h2, bts2 _ _ h2, bcc4]
    have hf : d (6 + p) 3 = tfar T p := hT.2.2.2.1 p hp
    have stp : ∀ b, b < tnb T → (aN T o A (k + 1)).2.2 b = (aN T o A k).2.2 b + (if rrA T o A b k = 0 then 0 else 1) := fun b hb => by
      show (if b < tnb T then (if rrA T o A b k = 0 then (aN T o A k).2.2 b else (aN T o A k).2.2 b + 1) else (aN T o A k).2.2 b) = _
      rw [if_pos hb]
      split
      · rw [Int32.add_zero]
      · rfl
    have one : ∀ b, b < tnb T → (if tfar T p ≤ trc T b then (aN T o A (k + 1)).2.2 b - A.2.2 b else 0) = (if tfar T p ≤ trc T b then (aN T o A k).2.2 b - A.2.2 b else 0) + (if tfar T p ≤ trc T b then (if rrA T o A b k = 0 then 0 else 1) else 0) := fun b hb => by
      by_cases q : tfar T p ≤ trc T b
      · rw [if_pos q, if_pos q, if_pos q, stp b hb]
        generalize (if rrA T o A b k = 0 then (0 : Int32) else 1) = x
        generalize (aN T o A k).2.2 b = y
        generalize A.2.2 b = u
        grind
      · rw [if_neg q, if_neg q, if_neg q]; rfl
    have bit : ∀ b, b < tnb T → (if (decide (b < tnb T) && !decide ((if d (6 + p) 3 ≤ d (14 + b) 2 then (1 : Int32) else 0) = 0)) = true then (if (decide (b < tnb T) && !decide (rgA T (aN T o A k) (snA T o (aN T o A k)) b = 0)) = true then (1 : Int32) else 0) else 0) = (if tfar T p ≤ trc T b then (if rrA T o A b k = 0 then 0 else 1) else 0) := fun b hb => by
      rw [hf, (hT.2.2.2.2.1 b hb).2.2, decide_eq_true hb]
      by_cases q : tfar T p ≤ trc T b
      · by_cases q2 : rrA T o A b k = 0
        · have q2' : rgA T (aN T o A k) (snA T o (aN T o A k)) b = 0 := q2
          simp [q, q2, q2']
        · have q2' : ¬ rgA T (aN T o A k) (snA T o (aN T o A k)) b = 0 := q2
          simp [q, q2, q2']
      · simp [q]
    have nob : ∀ b, ¬ b < tnb T → (if (decide (b < tnb T) && !decide ((if d (6 + p) 3 ≤ d (14 + b) 2 then (1 : Int32) else 0) = 0)) = true then (if (decide (b < tnb T) && !decide (rgA T (aN T o A k) (snA T o (aN T o A k)) b = 0)) = true then (1 : Int32) else 0) else 0) = 0 := fun b hb => by
      rw [decide_eq_false hb]
      rfl
    by_cases n0 : tnb T = 0
    · rw [nob 0 (by omega), nob 1 (by omega), n0]
      rfl
    · by_cases n1 : tnb T = 1
      · rw [bit 0 (by omega), nob 1 (by omega)]
        have o0 := one 0 (by omega)
        rw [n1]
        show (0 : Int32) + (if tfar T p ≤ trc T 0 then (aN T o A k).2.2 0 - A.2.2 0 else 0) + _ = (0 : Int32) + (if tfar T p ≤ trc T 0 then (aN T o A (k + 1)).2.2 0 - A.2.2 0 else 0)
        rw [o0]
        generalize (if tfar T p ≤ trc T 0 then (aN T o A k).2.2 0 - A.2.2 0 else 0) = x
        generalize (if tfar T p ≤ trc T 0 then (if rrA T o A 0 k = 0 then (0 : Int32) else 1) else 0) = y
        grind
      · have n2 : tnb T = 2 := by omega
        rw [bit 0 (by omega), bit 1 (by omega)]
        have o0 := one 0 (by omega)
        have o1 := one 1 (by omega)
        rw [n2]
        show (0 : Int32) + (if tfar T p ≤ trc T 0 then (aN T o A k).2.2 0 - A.2.2 0 else 0) + (if tfar T p ≤ trc T 1 then (aN T o A k).2.2 1 - A.2.2 1 else 0) + _ = (0 : Int32) + (if tfar T p ≤ trc T 0 then (aN T o A (k + 1)).2.2 0 - A.2.2 0 else 0) + (if tfar T p ≤ trc T 1 then (aN T o A (k + 1)).2.2 1 - A.2.2 1 else 0)
        rw [o0, o1]
        generalize (if tfar T p ≤ trc T 0 then (aN T o A k).2.2 0 - A.2.2 0 else 0) = x
        generalize (if tfar T p ≤ trc T 1 then (aN T o A k).2.2 1 - A.2.2 1 else 0) = x1
        generalize (if tfar T p ≤ trc T 0 then (if rrA T o A 0 k = 0 then (0 : Int32) else 1) else 0) = y
        generalize (if tfar T p ≤ trc T 1 then (if rrA T o A 1 k = 0 then (0 : Int32) else 1) else 0) = y1
        grind
/-- a trial that is ready runs -/
theorem TC_rdy {sh : mm_S} {X : mm_D} {r : mm_R} {T : wo_T} {o : wo_O} {t n : Nat} (h : rdy X r T o t n) (hs : r 232 2 = some t) (h6 : so sh t 6) (ht : ¬ scr t) : TC sh X r (tnp T) (tnb T) t := by
  obtain ⟨⟨⟨a1, a2, a3, a4, a5⟩, _⟩, _, _, _, _, _, _, h9, _⟩ := h
  refine ⟨hs, h6, ht, a1, a2, a3, a4, ?_, a5⟩
  unfold movOK
  cases hm : o.2.2.1 with
  | none =>
    rw [hm] at h9
    exact Or.inl h9
  | some x =>
    rw [hm] at h9
    exact Or.inr ⟨x.1, h9.1, h9.2.1⟩
theorem off_ag {m d : mm_D} (ha : ag m d) (w l : Int32) : ag (offD m w l) (offD d w l) := by
  unfold offD
  rw [ha 232 (by unfold scr; omega)]
  split
  · exact ag_up (ag_up ha _ _ _) _ _ _
  · split
    · exact ha
    · exact ag_up (ag_up ha _ _ _) _ _ _
/-- the best and the least of what is offered -/
def obA (f : Nat → Int32) : Nat → Int32 × Int32
  | 0 => (-1, 0)
  | k + 1 => if (obA f k).1 = -1 ∨ f k < (obA f k).2 then (nI k, f k) else obA f k
theorem obA_ne (f : Nat → Int32) : ∀ k, k < 2 ^ 31 → ¬ (obA f (k + 1)).1 = -1
  | 0, _ => by
    rw [obA, if_pos (Or.inl (show (obA f 0).1 = -1 from rfl))]
    exact nI_nm1 (by decide)
  | k + 1, hk => by
    rw [obA]
    split
    · exact nI_nm1 hk
    · exact obA_ne f k (by omega)
def obOK (f : Nat → Int32) (k : Nat) (m : mm_D) : Prop := m 232 15 = (obA f k).1 ∧ (1 ≤ k → m 232 16 = (obA f k).2)
theorem ob_off {f : Nat → Int32} {k : Nat} {m : mm_D} (hk : k < 2 ^ 31) (h : obOK f k m) : obOK f (k + 1) (offD m (nI k) (f k)) := by
  obtain ⟨h1, h2⟩ := h
  unfold obOK offD
  rw [obA, h1]
  by_cases e : (obA f k).1 = -1
  · rw [if_pos e, if_pos (Or.inl e)]
    refine ⟨?_, fun _ => ?_⟩
    · rw [mm_up_at, if_neg (by decide), mm_up_at, if_pos rfl]
    · rw [mm_up_at, if_pos rfl]
  · have k1 : 1 ≤ k := Nat.one_le_iff_ne_zero.mpr (fun q => e (by rw [q]; rfl))
    rw [if_neg e, h2 k1]
    by_cases q : (obA f k).2 ≤ f k
    · rw [if_pos q, if_neg (fun w => w.elim e (fun w => absurd w (Int32.not_lt.mpr q)))]
      exact ⟨h1, fun _ => h2 k1⟩
    · rw [if_neg q, if_pos (Or.inr (Int32.not_le.mp q))]
      refine ⟨?_, fun _ => ?_⟩
      · rw [mm_up_at, if_neg (by decide), mm_up_at, if_pos rfl]
      · rw [mm_up_at, if_pos rfl]
theorem ob_same {f : Nat → Int32} {k : Nat} {m m' : mm_D} (h : obOK f k m) (e5 : m' 232 15 = m 232 15) (e6 : m' 232 16 = m 232 16) : obOK f k m' := ⟨e5.trans h.1, fun q => e6.trans (h.2 q)⟩
theorem stpN_col {d : mm_D} {r : mm_R} {s np nb j : Nat} (h1 : j ≠ 12) (h2 : j ≠ 13) (h3 : j ≠ 14) (h4 : j ≠ 6) : ∀ k, stpN d r s np nb k 232 j = d 232 j
  | 0 => rfl
  | k + 1 => by rw [stpN, stpD_col h1 h2 h3 h4, stpN_col h1 h2 h3 h4 k]
theorem rst_keep (m : mm_D) (t np : Nat) {j : Nat} (h : j = 15 ∨ j = 16) : rstD m t np 232 j = m 232 j := by rw [rstD_col (by omega), rst0_col (by omega) (by omega) (by omega) (by omega)]
theorem prepD_15 (d : mm_D) (r : mm_R) (t np n : Nat) : prepD d r t np n 232 15 = -1 := by
  unfold prepD
  rw [rst_keep _ _ _ (Or.inl rfl), prS_row (by decide)]
  unfold pr1
  rw [mm_up_at, if_neg (by decide), mm_up_at, if_pos rfl]
/-- the options of a trial -/
def awO (T : wo_T) (x : Int32) : wo_O := (0, x, none, tvw T)
def stO (T : wo_T) (x : Int32) : wo_O := (x, 0, none, tvw T)
def mvO (T : wo_T) (p : Nat) (f : Int32) : wo_O := (0, 0, some (p, f), tvw T)
def vwO (v : Int32) : wo_O := (0, 0, none, v)
section
variable {d m : mm_D} {r : mm_R} {T : wo_T} {n : Nat}
theorem sm_rst {A : wo_A} (hT : rpC d r T) (hA0 : hA d 38 A) (h : prp d r T 38 n m) (hn : n ≤ 540) : smC (rstD m 38 (tnp T)) r T (o0 T) 38 n A := by
  obtain ⟨h1, h2, h3⟩ := rdy_rst hT h hn (by decide)
  have hp := prp_rst h
  have h3 := h3 (by decide)
  exact ⟨by decide, h1, h2, ⟨h3.1.trans hA0.1, fun b hb => ⟨(h3.2 b hb).1.trans (hA0.2 b hb).1, (h3.2 b hb).2.trans (hA0.2 b hb).2⟩⟩, by rw [hp.1 38 (by omega)]; exact hA0.1, fun b hb => by rw [hp.1 (38 + 1) (by omega), hp.1 (38 + 2) (by omega)]; exact hA0.2 b hb⟩
theorem sm_upd {X : mm_D} {o : wo_O} {A : wo_A} (h : smC X r T o 38 n A) {j : Nat} (h5 : j ≠ 5) (h6 : j ≠ 6) (v : Int32) (o' : wo_O) (e7 : mm_up X 232 j v 232 7 = o'.2.1) (e8 : mm_up X 232 j v 232 8 = o'.1) (e11 : mm_up X 232 j v 232 11 = nearC X o'.2.2.2 (tnp T)) (e9 : match o'.2.2.1 with | none => mm_up X 232 j v 232 9 = -1 | some x => x.1 < tnp T ∧ mm_up X 232 j v 232 9 = nI x.1 ∧ mm_up X 232 j v 232 10 = x.2) (es : ∀ i, tnp T ≤ i → gb o'.1 i = false) : smC (mm_up X 232 j v) r T o' 38 n A := by
  obtain ⟨a1, a2, a3, a4, a5⟩ := h
  refine ⟨a1, rdy_upd a2 (by decide) h5 v o' e7 e8 e11 e9 es, ?_, ⟨?_, fun b hb => ?_⟩, ⟨?_, fun b hb => ?_⟩⟩
  · rw [mm_up_at, if_neg (fun q => h6 q.symm)]; exact a3
  · rw [mm_up_ne (by decide)]; exact a4.1
  · rw [mm_up_ne (by decide), mm_up_ne (by decide)]; exact a4.2 b hb
  · rw [mm_up_ne (by decide)]; exact a5.1
  · rw [mm_up_ne (by decide), mm_up_ne (by decide)]; exact a5.2 b hb
theorem sm_away {X : mm_D} {A : wo_A} (h : smC X r T (o0 T) 38 n A) (x : Int32) : smC (mm_up X 232 7 x) r T (awO T x) 38 n A := by
  obtain ⟨b1, b2, b3, b4, b5, b6, b7, b8, b9⟩ := h.2.1
  refine sm_upd h (by decide) (by decide) x _ ?_ ?_ ?_ ?_ (fun i _ => gb_0 i)
  · rw [mm_up_at, if_pos rfl]; rfl
  · rw [mm_up_at, if_neg (by decide)]; exact b6
  · rw [mm_up_at, if_neg (by decide)]; exact b7
  · show mm_up X 232 7 x 232 9 = -1
    rw [mm_up_at, if_neg (by decide)]; exact b8
theorem sm_star {X : mm_D} {A : wo_A} (h : smC X r T (o0 T) 38 n A) (x : Int32) (hx : ∀ i, tnp T ≤ i → gb x i = false) : smC (mm_up X 232 8 x) r T (stO T x) 38 n A := by
  obtain ⟨b1, b2, b3, b4, b5, b6, b7, b8, b9⟩ := h.2.1
  refine sm_upd h (by decide) (by decide) x _ ?_ ?_ ?_ ?_ hx
  · rw [mm_up_at, if_neg (by decide)]; exact b5
  · rw [mm_up_at, if_pos rfl]; rfl
  · rw [mm_up_at, if_neg (by decide)]; exact b7
  · show mm_up X 232 8 x 232 9 = -1
    rw [mm_up_at, if_neg (by decide)]; exact b8
theorem sm_near {X : mm_D} {A : wo_A} (h : smC X r T (o0 T) 38 n A) (v : Int32) : smC (mm_up X 232 11 (nearC X v (tnp T))) r T (vwO v) 38 n A := by
  obtain ⟨b1, b2, b3, b4, b5, b6, b7, b8, b9⟩ := h.2.1
  refine sm_upd h (by decide) (by decide) _ _ ?_ ?_ ?_ ?_ (fun i _ => gb_0 i)
  · rw [mm_up_at, if_neg (by decide)]; exact b5
  · rw [mm_up_at, if_neg (by decide)]; exact b6
  · rw [mm_up_at, if_pos rfl]; rfl
  · show mm_up X 232 11 _ 232 9 = -1
    rw [mm_up_at, if_neg (by decide)]; exact b8
theorem sm_move {X : mm_D} {A : wo_A} (h : smC X r T (o0 T) 38 n A) {p : Nat} (hp : p < tnp T) (f : Int32) : smC (mm_up (mm_up X 232 9 (nI p)) 232 10 f) r T (mvO T p f) 38 n A := by
  obtain ⟨b1, b2, b3, b4, b5, b6, b7, b8, b9⟩ := h.2.1
  have h1 : smC (mm_up X 232 9 (nI p)) r T (mvO T p (X 232 10)) 38 n A := by
    refine sm_upd h (by decide) (by decide) _ _ ?_ ?_ ?_ ?_ (fun i _ => gb_0 i)
    · rw [mm_up_at, if_neg (by decide)]; exact b5
    · rw [mm_up_at, if_neg (by decide)]; exact b6
    · rw [mm_up_at, if_neg (by decide)]; exact b7
    · refine ⟨hp, ?_, ?_⟩
      · rw [mm_up_at, if_pos rfl]
      · rw [mm_up_at, if_neg (by decide)]
  refine sm_upd h1 (by decide) (by decide) _ _ ?_ ?_ ?_ ?_ (fun i _ => gb_0 i)
  · rw [mm_up_at, if_neg (by decide)]; exact h1.2.1.2.2.2.2.1
  · rw [mm_up_at, if_neg (by decide)]; exact h1.2.1.2.2.2.2.2.1
  · rw [mm_up_at, if_neg (by decide)]; exact h1.2.1.2.2.2.2.2.2.1
  · refine ⟨hp, ?_, ?_⟩
    · rw [mm_up_at, if_neg (by decide), mm_up_at, if_pos rfl]
    · rw [mm_up_at, if_pos rfl]
end
