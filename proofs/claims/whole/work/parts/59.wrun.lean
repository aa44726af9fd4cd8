/-! ===== the class works habits out as it should ===== -/
/-- row y holds the stack st, the last first -/
def repY (y : Nat → Int32) : List Int32 → Prop
  | [] => True
  | x :: r => y r.length = x ∧ repY y r
theorem repY_up {y : Nat → Int32} {k : Nat} {v : Int32} : ∀ {st : List Int32}, repY y st → st.length ≤ k → repY (rup y k v) st
  | [], _, _ => trivial
  | x :: r, h, hk => by
    rw [List.length_cons] at hk
    refine ⟨?_, repY_up h.2 (by omega)⟩
    unfold rup
    rw [if_neg (by omega)]
    exact h.1
def segC (c : Nat → Int32) (a : Nat) : List Int32 → Prop
  | [] => True
  | x :: r => c a = x ∧ segC c (a + 1) r
theorem seg_app {c : Nat → Int32} : ∀ (u w : List Int32) (a : Nat), segC c a (u ++ w) → segC c a u ∧ segC c (a + u.length) w
  | [], w, a, h => ⟨trivial, h⟩
  | x :: u, w, a, h => by
    obtain ⟨h1, h2⟩ := h
    obtain ⟨h3, h4⟩ := seg_app u w (a + 1) h2
    refine ⟨⟨h1, h3⟩, ?_⟩
    rw [List.length_cons, show a + (u.length + 1) = a + 1 + u.length by omega]
    exact h4
theorem ev1_len {L : Nat → Int32} {c : Int32} {t t1 : List Bool} {st : List Int32} (h : ty1 c t = some t1) (hl : st.length = t.length) : (ev1 L c st).length = t1.length := by
  unfold ty1 at h
  unfold ev1
  by_cases h0 : 0 ≤ c
  · rw [if_pos (Or.inl h0)] at h
    rw [if_pos h0]
    split at h
    · cases h; simp [hl]
    · cases h
  · by_cases h1 : isLet c
    · rw [if_pos (Or.inr h1)] at h
      rw [if_neg h0, if_pos h1]
      split at h
      · cases h; simp [hl]
      · cases h
    · rw [if_neg (fun q => q.elim h0 h1)] at h
      rw [if_neg h0, if_neg h1]
      by_cases h2 : c = -14
      · rw [if_pos h2] at h ⊢
        cases t with
        | nil => cases h
        | cons b t =>
          cases b with
          | false => cases h
          | true =>
            cases h
            cases st with
            | nil => cases hl
            | cons x r => exact hl
      · rw [if_neg h2] at h ⊢
        have key : ∀ b : Bool, two b t = some t1 → (match st with | y :: x :: r => joinC c x.toInt64 y.toInt64 :: r | s => s).length = t1.length := fun b hb => by
          cases t with
          | nil => cases hb
          | cons b1 t =>
            cases t with
            | nil => cases hb
            | cons b2 t =>
              cases hb
              cases st with
              | nil => cases hl
              | cons y r =>
                cases r with
                | nil => cases hl
                | cons x r => simpa using hl
        by_cases h3 : isTru c
        · rw [if_pos h3] at h; exact key true h
        · rw [if_neg h3] at h
          by_cases h4 : isNum c
          · rw [if_pos h4] at h; exact key false h
          · rw [if_neg h4] at h; cases h
theorem evC_len {L : Nat → Int32} : ∀ {cs : List Int32} {t t1 : List Bool} {st : List Int32}, tyC cs t = some t1 → st.length = t.length → (evC L cs st).length = t1.length
  | [], t, t1, st, h, hl => by cases h; exact hl
  | c :: cs, t, t1, st, h, hl => by
    rw [tyC] at h
    cases e : ty1 c t with
    | none => rw [e] at h; cases h
    | some t0 =>
      rw [e] at h
      exact evC_len (cs := cs) h (ev1_len e hl)
theorem wr_1 {c L : Nat → Int32} {m a : Nat} {y : Nat → Int32} {t t1 : List Bool} {st : List Int32} (h : ty1 (c a) t = some t1) (hl : st.length = t.length) (hr : repY y st) : ∃ y1, repY y1 (ev1 L (c a) st) ∧ wrF c L (m + 1) a y t.length 0 = wrF c L m (a + 1) y1 t1.length 0 := by
  unfold ty1 at h
  unfold ev1
  rw [wrF, if_neg (show ¬ ¬ (0 : Int32) = 0 from fun q => q rfl)]
  by_cases h0 : 0 ≤ c a
  · rw [if_pos (Or.inl h0)] at h
    rw [if_pos h0, if_pos h0]
    split at h
    · rename_i h32
      cases h
      rw [if_neg (by omega)]
      refine ⟨rup y t.length (c a), ⟨?_, repY_up hr (by omega)⟩, rfl⟩
      unfold rup
      rw [if_pos hl]
    · cases h
  · by_cases h1 : isLet (c a)
    · rw [if_pos (Or.inr h1)] at h
      rw [if_neg h0, if_pos h1, if_neg h0, if_neg h1]
      split at h
      · rename_i h32
        cases h
        rw [if_neg (by omega)]
        refine ⟨rup y t.length (L (-2 - c a).toNatClampNeg), ⟨?_, repY_up hr (by omega)⟩, rfl⟩
        unfold rup
        rw [if_pos hl]
      · cases h
    · rw [if_neg (fun q => q.elim h0 h1)] at h
      have h1' : -2 - c a < 0 ∨ 6 ≤ -2 - c a := Classical.not_not.mp h1
      rw [if_neg h0, if_neg h1, if_neg h0, if_pos h1']
      by_cases h2 : c a = -14
      · rw [if_pos h2] at h ⊢
        cases t with
        | nil => cases h
        | cons b t =>
          cases b with
          | false => cases h
          | true =>
            cases h
            cases st with
            | nil => cases hl
            | cons x r =>
              rw [List.length_cons, List.length_cons] at hl
              rw [if_neg (by rw [List.length_cons]; omega), if_neg (by rw [h2]; decide), if_pos h2]
              have e : (true :: t).length - 1 = r.length := by rw [List.length_cons]; omega
              rw [e, hr.1]
              refine ⟨_, ⟨?_, repY_up hr.2 (Nat.le_refl _)⟩, rfl⟩
              unfold rup
              rw [if_pos rfl]
      · rw [if_neg h2] at h ⊢
        have hne : ¬ (c a = -10) ∧ ¬ (c a = -11) ∧ ∃ b, two b t = some t1 := by
          by_cases h3 : isTru (c a)
          · rw [if_pos h3] at h
            refine ⟨?_, ?_, true, h⟩
            · rcases h3 with e | e | e | e | e <;> rw [e] <;> decide
            · rcases h3 with e | e | e | e | e <;> rw [e] <;> decide
          · rw [if_neg h3] at h
            by_cases h4 : isNum (c a)
            · rw [if_pos h4] at h
              refine ⟨?_, ?_, false, h⟩
              · rcases h4 with e | e | e | e <;> rw [e] <;> decide
              · rcases h4 with e | e | e | e <;> rw [e] <;> decide
            · rw [if_neg h4] at h; cases h
        obtain ⟨n10, n11, b, hb⟩ := hne
        cases t with
        | nil => cases hb
        | cons b1 t =>
          cases t with
          | nil => cases hb
          | cons b2 t =>
            cases hb
            cases st with
            | nil => cases hl
            | cons v st =>
              cases st with
              | nil => cases hl
              | cons u r =>
                have hl' : r.length = t.length := by simpa using hl
                have e2 : (b1 :: b2 :: t).length = t.length + 2 := by rw [List.length_cons, List.length_cons]
                rw [e2, if_neg (show ¬ t.length + 2 < 1 by omega), if_neg n10, if_neg h2, if_neg n11, if_neg (show ¬ t.length + 2 ≤ 1 by omega)]
                rw [show t.length + 2 - 2 = r.length by omega, show t.length + 2 - 1 = (u :: r).length by rw [List.length_cons]; omega, hr.1, hr.2.1]
                refine ⟨rup y r.length (joinC (c a) u.toInt64 v.toInt64), ⟨?_, repY_up hr.2.2 (Nat.le_refl _)⟩, ?_⟩
                · unfold rup
                  rw [if_pos rfl]
                · rw [List.length_cons, List.length_cons, hl']
theorem wr_run {c L : Nat → Int32} : ∀ (cs : List Int32) (m a : Nat) (y : Nat → Int32) (t t1 : List Bool) (st : List Int32), tyC cs t = some t1 → segC c a cs → st.length = t.length → repY y st → ∃ y1, repY y1 (evC L cs st) ∧ wrF c L (m + cs.length) a y t.length 0 = wrF c L m (a + cs.length) y1 t1.length 0
  | [], m, a, y, t, t1, st, h, _, hl, hr => by
    cases h
    exact ⟨y, hr, rfl⟩
  | x :: cs, m, a, y, t, t1, st, h, hs, hl, hr => by
    rw [tyC] at h
    cases e : ty1 x t with
    | none => rw [e] at h; cases h
    | some t0 =>
      rw [e] at h
      obtain ⟨hs1, hs2⟩ := hs
      have e' : ty1 (c a) t = some t0 := by rw [hs1]; exact e
      obtain ⟨y0, hr0, w0⟩ := wr_1 (L := L) (m := m + cs.length) e' hl hr
      rw [hs1] at hr0
      obtain ⟨y1, hr1, w1⟩ := wr_run cs m (a + 1) y0 t0 t1 _ h hs2 (ev1_len e hl) hr0
      refine ⟨y1, hr1, ?_⟩
      rw [List.length_cons, show m + (cs.length + 1) = m + cs.length + 1 by omega, w0, w1, show a + (cs.length + 1) = a + 1 + cs.length by omega]
theorem ty_n10 : ∀ {cs : List Int32} {t t1 : List Bool}, tyC cs t = some t1 → ∀ x, x ∈ cs → ¬ x = -10
  | [], _, _, _, x, hx => by cases hx
  | c :: cs, t, t1, h, x, hx => by
    rw [tyC] at h
    cases e : ty1 c t with
    | none => rw [e] at h; cases h
    | some t0 =>
      rw [e] at h
      rcases List.mem_cons.mp hx with rfl | hx
      · intro q
        rw [q] at e
        cases e
      · exact ty_n10 h x hx
theorem wr_skip {c L : Nat → Int32} : ∀ (cs : List Int32) (m a : Nat) (y : Nat → Int32), (∀ x, x ∈ cs → ¬ x = -10) → segC c a (cs ++ [-10]) → wrF c L (m + (cs.length + 1)) a y 0 1 = wrF c L m (a + (cs.length + 1)) y 0 0
  | [], m, a, y, _, hs => by
    show wrF c L (m + 1) a y 0 1 = _
    rw [wrF, if_pos (by decide), if_pos hs.1]
    rfl
  | x :: cs, m, a, y, hn, hs => by
    obtain ⟨hs1, hs2⟩ := hs
    rw [List.length_cons, show m + (cs.length + 1 + 1) = m + (cs.length + 1) + 1 by omega, wrF, if_pos (by decide), if_neg (by rw [hs1]; exact hn x (List.mem_cons_self ..)), wr_skip cs m (a + 1) y (fun z hz => hn z (List.mem_cons_of_mem _ hz)) hs2, show a + 1 + (cs.length + 1) = a + (cs.length + 1 + 1) by omega]
/-- what clauses are worth -/
def hwV : List wo_C → (Nat → Int32) → Int32
  | [], _ => 0
  | c :: cl, L => if c.1 = [] then (evC L c.2 []).headD 0 else if (evC L c.1 []).headD 0 = 0 then hwV cl L else (evC L c.2 []).headD 0
theorem one_head {st : List Int32} {b : Bool} (h : st.length = [b].length) {y : Nat → Int32} (hr : repY y st) : y 0 = st.headD 0 := by
  cases st with
  | nil => cases h
  | cons x r =>
    have e : r.length = 0 := by simpa using h
    have := hr.1
    rw [e] at this
    exact this
theorem wr_end {c L : Nat → Int32} {m a : Nat} {y : Nat → Int32} (h : c a = -10) : wrF c L (m + 1) a y 1 0 = y 0 := by
  rw [wrF, if_neg (by decide), if_neg (by rw [h]; decide), if_pos (by rw [h]; decide), if_neg (by decide), if_pos h]
theorem wr_if {c L : Nat → Int32} {m a : Nat} {y : Nat → Int32} (h : c a = -11) : wrF c L (m + 1) a y 1 0 = wrF c L m (a + 1) y 0 (if y 0 = 0 then 1 else 0) := by
  rw [wrF, if_neg (by decide), if_neg (by rw [h]; decide), if_pos (by rw [h]; decide), if_neg (by decide), if_neg (by rw [h]; decide), if_neg (by rw [h]; decide), if_pos h]
theorem wr_all {c L : Nat → Int32} : ∀ (cl : List wo_C) (a : Nat) (y : Nat → Int32), (∀ x, x ∈ cl → okC x) → segC c a (linA cl) → wrF c L (linA cl).length a y 0 0 = hwV cl L
  | [], _, _, _, _ => rfl
  | x :: cl, a, y, ho, hs => by
    obtain ⟨o1, o2⟩ := ho x (List.mem_cons_self ..)
    have ih := wr_all (c := c) (L := L) cl
    have hoc : ∀ z, z ∈ cl → okC z := fun z hz => ho z (List.mem_cons_of_mem _ hz)
    rw [linA] at hs ⊢
    rw [hwV]
    have sumEnd : ∀ (a : Nat) (y : Nat → Int32) (m : Nat), segC c a (x.2 ++ [-10]) → wrF c L (m + (x.2.length + 1)) a y 0 0 = (evC L x.2 []).headD 0 := fun a y m hsg => by
      obtain ⟨g1, g2⟩ := seg_app _ _ _ hsg
      obtain ⟨y1, r1, w1⟩ := wr_run (L := L) x.2 (m + 1) a y [] [false] [] o2 g1 rfl trivial
      have w1' : wrF c L (m + 1 + x.2.length) a y 0 0 = wrF c L (m + 1) (a + x.2.length) y1 1 0 := w1
      rw [show m + (x.2.length + 1) = m + 1 + x.2.length by omega, w1', wr_end g2.1]
      exact one_head (b := false) (evC_len o2 rfl) r1
    by_cases q : x.1 = []
    · rw [if_pos q]
      have e : linC x = x.2 := by unfold linC; rw [if_pos q]; rfl
      rw [e] at hs ⊢
      obtain ⟨s1, s2⟩ := seg_app _ _ _ hs
      rw [List.length_append, Nat.add_comm, List.length_append]
      exact sumEnd a y (linA cl).length s1
    · rw [if_neg q]
      have o1 := o1.resolve_left q
      have e : linC x ++ [-10] = x.1 ++ ([-11] ++ (x.2 ++ [-10])) := by
        unfold linC
        rw [if_neg q, List.append_assoc, List.append_assoc]
      rw [e] at hs ⊢
      obtain ⟨s1, s2⟩ := seg_app _ _ _ hs
      obtain ⟨s3, s4⟩ := seg_app _ _ _ s1
      obtain ⟨s5, s6⟩ := s4
      obtain ⟨y1, r1, w1⟩ := wr_run (L := L) x.1 ((linA cl).length + (x.2.length + 1) + 1) a y [] [true] [] o1 s3 rfl trivial
      have w1' : wrF c L ((linA cl).length + (x.2.length + 1) + 1 + x.1.length) a y 0 0 = wrF c L ((linA cl).length + (x.2.length + 1) + 1) (a + x.1.length) y1 1 0 := w1
      have hlen : (x.1 ++ ([-11] ++ (x.2 ++ [-10])) ++ linA cl).length = (linA cl).length + (x.2.length + 1) + 1 + x.1.length := by
        simp only [List.length_append, List.length_cons, List.length_nil]
        omega
      rw [hlen, w1', wr_if s5, one_head (b := true) (evC_len o1 rfl) r1]
      by_cases z : (evC L x.1 []).headD 0 = 0
      · rw [if_pos z, if_pos z, wr_skip x.2 _ _ _ (ty_n10 o2) s6]
        refine ih _ _ hoc ?_
        have hl2 : a + (x.1 ++ ([-11] ++ (x.2 ++ [-10]))).length = a + x.1.length + 1 + (x.2.length + 1) := by
          simp only [List.length_append, List.length_cons, List.length_nil]
          omega
        rw [hl2] at s2
        exact s2
      · rw [if_neg z, if_neg z]
        exact sumEnd _ _ _ s6
theorem seg_of {c : Nat → Int32} : ∀ (cs : List Int32) (a : Nat), (∀ i, i < cs.length → c (a + i) = cs.getD i 0) → segC c a cs
  | [], _, _ => trivial
  | x :: cs, a, h => by
    refine ⟨h 0 (by simp), seg_of cs (a + 1) (fun i hi => ?_)⟩
    rw [show a + 1 + i = a + (i + 1) by omega]
    exact h (i + 1) (by simpa using hi)
theorem hab_okH {d : mm_D} {h : Nat} {cl : List wo_C} (ho : ∀ x, x ∈ cl → okC x) (h2 : d h 2 = nI (linA cl).length) (hl : (linA cl).length ≤ 160) (hc : ∀ i, i < (linA cl).length → d (h + 1) i = (linA cl).getD i 0) : okH d h ∧ ∀ L, worthC d h L = hwV cl L := by
  have hs : segC (d (h + 1)) 0 (linA cl) := seg_of _ 0 (fun i hi => by rw [Nat.zero_add]; exact hc i hi)
  refine ⟨⟨_, h2, hl, fun L y y' => ?_⟩, fun L => ?_⟩
  · rw [wr_all cl 0 y ho hs, wr_all cl 0 y' ho hs]
  · unfold worthC
    rw [lenC_nI h2 hl]
    exact wr_all cl 0 _ ho hs
