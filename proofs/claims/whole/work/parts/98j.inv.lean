/-! ===== what every call keeps ===== -/
theorem byt_le (x : Int32) (s : Nat) : 0 ≤ byt x s ∧ byt x s ≤ 255 := by
  have h : (byt x s).toBitVec.toNat ≤ 255 := by
    unfold byt
    rw [Int32.toBitVec_and, BitVec.toNat_and]
    exact Nat.and_le_right
  have e : (byt x s).toInt = (byt x s).toBitVec.toNat := by
    show (byt x s).toBitVec.toInt = _
    exact BitVec.toInt_eq_toNat_of_lt (by omega)
  rw [Int32.le_iff_toInt_le, Int32.le_iff_toInt_le, e, show (0 : Int32).toInt = 0 from by decide, show (255 : Int32).toInt = 255 from by decide]
  omega
theorem i32_1le {x : Int32} (h : 0 ≤ x) (h0 : ¬ x = 0) : 1 ≤ x := by
  rw [Int32.le_iff_toInt_le] at h ⊢
  rw [show (0 : Int32).toInt = 0 from by decide] at h
  rw [show (1 : Int32).toInt = 1 from by decide]
  have : ¬ x.toInt = 0 := fun e => h0 (Int32.toInt_inj.mp (e.trans (by decide)))
  omega
theorem i32_m1 {x : Int32} (h : -1 ≤ x) (h0 : x < 0) : x = -1 := by
  rw [Int32.le_iff_toInt_le] at h
  rw [Int32.lt_iff_toInt_lt] at h0
  rw [show (0 : Int32).toInt = 0 from by decide] at h0
  rw [show (-1 : Int32).toInt = -1 from by decide] at h
  exact Int32.toInt_inj.mp ((show x.toInt = -1 by omega).trans (by decide))
theorem i32_ss (x a b : Int32) : x - (a + b) = x - a - b := by grind
theorem i32_a1 (x : Int32) : x = x + 1 - 1 := by grind
theorem i32_a2 (x a : Int32) : x - a = x + 1 - (a + 1) := by grind
theorem okB_up {m m2 : Nat} {B : wo_A} (h : okB m B) (hm : m ≤ m2) : okB m2 B := by
  obtain ⟨⟨mn, h1, h2⟩, h3⟩ := h
  refine ⟨⟨mn, by omega, h2⟩, fun b hb => ?_⟩
  obtain ⟨l, l1, l2⟩ := h3 b hb
  exact ⟨l, by omega, l2⟩
theorem okB_dwn (m : Nat) : okB m dwn := ⟨⟨0, Nat.zero_le _, rfl⟩, fun _ _ => ⟨0, Nat.zero_le _, rfl⟩⟩
theorem pstOK_up {m m2 : Nat} {x : wo_X} (h : pstOK m x) (hm : m ≤ m2) : pstOK m2 x := ⟨h.1, fun i hi => ⟨(h.2 i hi).1, okB_up (h.2 i hi).2 hm⟩⟩
theorem pstOK_0 {m : Nat} {B : wo_A} {dr : Int64} {f : Nat → wo_A × Int64} : pstOK m (B, dr, 0, f) := ⟨Nat.zero_le _, fun i hi => absurd hi (Nat.not_lt_zero i)⟩
theorem okS_up {m m2 : Nat} {S : wo_S} (h : okS m S) (hm : m ≤ m2) : okS m2 S := ⟨h.1, h.2.1, h.2.2.1, okB_up h.2.2.2.1 hm, pstOK_up h.2.2.2.2.1 hm, h.2.2.2.2.2.1, h.2.2.2.2.2.2.1, fun q => ⟨okB_up (h.2.2.2.2.2.2.2 q).1 hm, (h.2.2.2.2.2.2.2 q).2⟩⟩
theorem okS_now {m : Nat} {S : wo_S} {x : wo_X} (h : okS m S) (hB : okB m x.1) (hp : pstOK m x) : okS m (sNow S x) := ⟨h.1, h.2.1, h.2.2.1, hB, hp, h.2.2.2.2.2⟩
theorem okS_risk {m : Nat} {S : wo_S} {v : Int32} (h : okS m S) : okS m (if 0 ≤ v ∧ v ≤ 100 then sRisk S v else S) := by
  by_cases q : 0 ≤ v ∧ v ≤ 100
  · rw [if_pos q]; exact ⟨h.1, h.2.1, h.2.2.1, h.2.2.2.1, h.2.2.2.2.1, q, h.2.2.2.2.2.2⟩
  · rw [if_neg q]; exact h
theorem okS_seed {m : Nat} {S : wo_S} (h : okS m S) (w : Int64) : okS m (sNow S ((sX S).1, w, (sX S).2.2)) := okS_now h h.2.2.2.1 h.2.2.2.2.1
theorem okS_img {m : Nat} {S : wo_S} (h : okS m S) : okS m (imgS S) := by
  unfold imgS
  by_cases q : hasT (sT S)
  · rw [if_pos q]; exact ⟨h.1, h.2.1, h.2.2.1, h.2.2.2.1, h.2.2.2.2.1, h.2.2.2.2.2.1, h.2.2.2.2.2.2.1, fun _ => ⟨h.2.2.2.1, q⟩⟩
  · rw [if_neg q]; exact h
theorem okS_bak {m : Nat} {S : wo_S} (h : okS m S) : okS m (bakS S) := by
  unfold bakS
  by_cases q : bakT S
  · rw [if_pos q]; exact okS_now h (h.2.2.2.2.2.2.2 q.2).1 pstOK_0
  · rw [if_neg q]; exact h
theorem okS_und {m : Nat} {S : wo_S} (h : okS m S) : okS m (undS' S) := by
  unfold undS'
  by_cases q : (sX S).2.2.1 = 0
  · rw [if_pos q]; exact h
  · rw [if_neg q]
    obtain ⟨p1, p2⟩ := h.2.2.2.2.1
    have pl := p2 ((sX S).2.2.1 - 1) (by omega)
    refine okS_now h pl.2 ⟨by show (sX S).2.2.1 - 1 ≤ 60; omega, fun i hi => ?_⟩
    have hi' : i < (sX S).2.2.1 - 1 := hi
    refine ⟨?_, (p2 i (by omega)).2⟩
    show ((sX S).2.2.2 i).1.1 = ((sX S).2.2.2 ((sX S).2.2.1 - 1)).1.1 - nI ((sX S).2.2.1 - 1 - i)
    rw [(p2 i (by omega)).1, pl.1]
    have e : (sX S).2.2.1 - i = ((sX S).2.2.1 - ((sX S).2.2.1 - 1)) + ((sX S).2.2.1 - 1 - i) := by omega
    rw [e, ← nI_pl, i32_ss]
theorem pst_push {m : Nat} {x : wo_X} {s : Int32} {T : wo_T} {dr : Int64} (hp : pstOK m x) (hB : okB m x.1) : pstOK m (stA T x.1 s, dr, pshN x.2.2.1, pshF x.2.2.1 x.2.2.2 (x.1, x.2.1)) := by
  obtain ⟨p1, p2⟩ := hp
  refine ⟨by show pshN x.2.2.1 ≤ 60; unfold pshN; split <;> omega, fun i hi => ?_⟩
  have hi' : i < pshN x.2.2.1 := hi
  show (pshF x.2.2.1 x.2.2.2 (x.1, x.2.1) i).1.1 = x.1.1 + 1 - nI (pshN x.2.2.1 - i) ∧ okB m (pshF x.2.2.1 x.2.2.2 (x.1, x.2.1) i).1
  by_cases q : x.2.2.1 < 60
  · have en : pshN x.2.2.1 = x.2.2.1 + 1 := if_pos q
    have ef : pshF x.2.2.1 x.2.2.2 (x.1, x.2.1) i = (if i = x.2.2.1 then (x.1, x.2.1) else x.2.2.2 i) := if_pos q
    rw [en] at hi' ⊢
    rw [ef]
    by_cases w : i = x.2.2.1
    · rw [if_pos w, w, show x.2.2.1 + 1 - x.2.2.1 = 1 by omega]
      exact ⟨i32_a1 _, hB⟩
    · rw [if_neg w, (p2 i (by omega)).1, show x.2.2.1 + 1 - i = (x.2.2.1 - i) + 1 by omega, ← nI_1]
      exact ⟨i32_a2 _ _, (p2 i (by omega)).2⟩
  · have en : pshN x.2.2.1 = 60 := if_neg q
    have ef : pshF x.2.2.1 x.2.2.2 (x.1, x.2.1) i = (if i = 59 then (x.1, x.2.1) else x.2.2.2 (i + 1)) := if_neg q
    rw [en] at hi' ⊢
    rw [ef]
    by_cases w : i = 59
    · rw [if_pos w, w]
      exact ⟨i32_a1 _, hB⟩
    · rw [if_neg w, (p2 (i + 1) (by omega)).1, show 60 - i = (x.2.2.1 - (i + 1)) + 1 by omega, ← nI_1]
      exact ⟨i32_a2 _ _, (p2 (i + 1) (by omega)).2⟩
theorem okX_go {T : wo_T} {risk : Int32} (hth : ∀ b, b < tnb T → 1 ≤ thr T b) : ∀ (k m : Nat) (x : wo_X), m + k < 2 ^ 24 → okB m x.1 → pstOK m x → okB (m + k) (goN T risk x k).1 ∧ pstOK (m + k) (goN T risk x k)
  | 0, _, _, _, a, b => ⟨a, b⟩
  | k + 1, m, x, hm, a, b => by
    have := okX_go (risk := risk) hth k (m + 1) (goX T risk x) (by omega) (okB_st hth a (by omega)) (pstOK_up (pst_push b a) (by omega))
    rw [show m + 1 + k = m + (k + 1) by omega] at this
    exact this
theorem okS_go {m : Nat} {S : wo_S} (h : okS m S) (hm : m < 2 ^ 22) (n1 : Int32) : okS (m + 240) (goS S n1) := by
  unfold goS
  by_cases q : goT S n1
  · rw [if_pos q]
    obtain ⟨N, hN1, hN, hNe⟩ := ahd_of (fun e => (ahd_T n1).mp e q.2)
    have hNc : n1.toNatClampNeg = N := by rw [hNe]; exact nI_clamp (by omega)
    rw [hNc]
    have hx := okX_go (risk := sK S) (okS_thr h) N m (sX S) (by omega) h.2.2.2.1 h.2.2.2.2.1
    exact okS_up (okS_now (okS_up h (show m ≤ m + N by omega)) hx.1 hx.2) (by omega)
  · rw [if_neg q]; exact okS_up h (by omega)
theorem okS_not {m : Nat} {S : wo_S} (h : okS m S) (t b : Int32) : okS m (notS S t b) := by
  unfold notS
  by_cases q : notT S t
  · rw [if_pos q]; exact h
  · rw [if_neg q]; exact h
theorem okW_per {W : wo_W} {hc p j : Nat} {v : Int32} (ok : okW W hc) (hv : (if j = 2 then 1 else 0) ≤ v ∧ v ≤ (if j = 0 then 59 else 60)) (hj : j < 3) : okW (perW W p j v) hc := by
  obtain ⟨o1, o2, o3, o4, o5, o6⟩ := ok
  refine ⟨o1, o2, o3, fun q hq => ?_, o5, o6⟩
  obtain ⟨a0, a1, a2, a3, a4⟩ := o4 q hq
  refine ⟨?_, ?_, ?_, ?_, a4⟩
  · show 0 ≤ (if q = p ∧ 0 = j then v else wper W q 0) ∧ (if q = p ∧ 0 = j then v else wper W q 0) ≤ 59
    by_cases w : q = p ∧ 0 = j
    · rw [if_pos w]; obtain ⟨_, rfl⟩ := w; exact hv
    · rw [if_neg w]; exact a0
  · show 0 ≤ (if q = p ∧ 1 = j then v else wper W q 1) ∧ (if q = p ∧ 1 = j then v else wper W q 1) ≤ 60
    by_cases w : q = p ∧ 1 = j
    · rw [if_pos w]; obtain ⟨_, rfl⟩ := w; exact hv
    · rw [if_neg w]; exact a1
  · show 1 ≤ (if q = p ∧ 2 = j then v else wper W q 2) ∧ (if q = p ∧ 2 = j then v else wper W q 2) ≤ 60
    by_cases w : q = p ∧ 2 = j
    · rw [if_pos w]; obtain ⟨_, rfl⟩ := w; exact hv
    · rw [if_neg w]; exact a2
  · show 0 ≤ (if q = p ∧ 3 = j then v else wper W q 3) ∧ (if q = p ∧ 3 = j then v else wper W q 3) ≤ 9
    rw [if_neg (fun w => by omega)]; exact a3
theorem okW_hab {W : wo_W} {hc p : Nat} {v : Int32} (ok : okW W hc) (hh : hc ≤ 4) (hv : -1 ≤ v ∧ v < nI hc) : okW (habW W p v) hc := by
  obtain ⟨o1, o2, o3, o4, o5, o6⟩ := ok
  refine ⟨o1, o2, o3, fun q hq => ?_, o5, o6⟩
  obtain ⟨a0, a1, a2, a3, a4⟩ := o4 q hq
  refine ⟨a0, a1, a2, a3, ?_⟩
  show (if q = p then v else whb W q) = -1 ∨ ∃ k, k < hc ∧ (if q = p then v else whb W q) = nI k
  by_cases w : q = p
  · rw [if_pos w]
    by_cases z : v < 0
    · exact Or.inl (i32_m1 hv.1 z)
    · obtain ⟨k, k1, k2⟩ := in_of (i := v) (c := nI hc) rfl (show hc < 2 ^ 31 by omega) (by rw [if_neg z, if_neg (Int32.not_le.mpr hv.2), if_neg (Int32.not_le.mpr hv.2)]; decide)
      exact Or.inr ⟨k, k1, k2⟩
  · rw [if_neg w]; exact a4
theorem okS_at {m : Nat} {S : wo_S} {W : wo_W} (h : okS m S) (hW : okW W (sH S).1) (h1 : wnp W = wnp (sW S)) (h2 : wnb W = wnb (sW S)) : okS m (sAt S W) := ⟨hW, h.2.1, by show wnb W ≠ 0 → wnp W ≠ 0; rw [h1, h2]; exact h.2.2.1, h.2.2.2.1, h.2.2.2.2.1, h.2.2.2.2.2.1, h.2.2.2.2.2.2.1, fun q => ⟨(h.2.2.2.2.2.2.2 q).1, by show ¬ wnp W = 0; rw [h1]; exact (h.2.2.2.2.2.2.2 q).2⟩⟩
theorem okS_set {m : Nat} {S : wo_S} (h : okS m S) (i w v : Int32) : okS m (setS S i w v) := by
  unfold setS
  by_cases q : setT S i w v
  · rw [if_pos q]
    obtain ⟨_, q2, q3⟩ := q
    have ew := nI_ofn q2.1
    have hl : w.toNatClampNeg < 2 ^ 31 := by
      have := Int32.toInt_lt w
      unfold Int32.toNatClampNeg
      omega
    generalize hk : w.toNatClampNeg = k at ew hl
    have h3 : k ≤ 3 := by
      have := q2.2
      rw [ew] at this
      exact (nI_leI hl (by decide)).mp this
    subst ew
    have : k = 0 ∨ k = 1 ∨ k = 2 ∨ k = 3 := by omega
    rcases this with rfl | rfl | rfl | rfl
    · rw [if_neg (by decide)]
      exact okS_at h (okW_per h.1 (by exact q3) (by decide)) rfl rfl
    · rw [if_neg (by decide)]
      exact okS_at h (okW_per h.1 (by exact q3) (by decide)) rfl rfl
    · rw [if_neg (by decide)]
      exact okS_at h (okW_per h.1 (by exact q3) (by decide)) rfl rfl
    · rw [if_pos (by decide)]
      exact okS_at h (okW_hab h.1 h.2.1 (by exact q3)) rfl rfl
  · rw [if_neg q]; exact h
def bysO (L : wo_P) : Prop := ∀ i, i < L.1 → 1 ≤ L.2 i ∧ L.2 i ≤ 255
theorem bys_psh {L : wo_P} (h : bysO L) (x : Int32) (s : Nat) : bysO (psh L (byt x s)) := by
  intro i hi
  unfold psh at hi ⊢
  by_cases q : byt x s = 0
  · rw [if_pos q] at hi ⊢; exact h i hi
  · rw [if_neg q] at hi ⊢
    have hi' : i < L.1 + 1 := hi
    show 1 ≤ (if i = L.1 then byt x s else L.2 i) ∧ (if i = L.1 then byt x s else L.2 i) ≤ 255
    by_cases w : i = L.1
    · rw [if_pos w]; exact ⟨i32_1le (byt_le x s).1 q, (byt_le x s).2⟩
    · rw [if_neg w]; exact h i (by omega)
theorem bys_pshW (x : Int32) : ∀ (j : Nat) (L : wo_P), bysO L → bysO (pshW x j L)
  | 0, _, h => h
  | j + 1, _, h => bys_pshW x j _ (bys_psh h x (8 * j))
theorem okS_tap {m : Nat} {S : wo_S} {L : wo_P} (h : okS m S) (h1 : L.1 ≤ 160) (h2 : bysO L) : okS m (sTap S L) := ⟨h.1, h.2.1, h.2.2.1, h.2.2.2.1, h.2.2.2.2.1, h.2.2.2.2.2.1, ⟨h1, h2⟩, h.2.2.2.2.2.2.2⟩
theorem okS_feed {m : Nat} {S : wo_S} (h : okS m S) (a b c e f : Int32) : okS m (feedS S a b c e f) := by
  unfold feedS
  by_cases q : (sP S).1 + fdN a b c e f ≤ 160
  · rw [if_pos q]
    have e1 : (fdL (sP S) a b c e f).1 = (sP S).1 + fdN a b c e f := by rw [← pshM_20, pshM_1, cntM_20]
    refine okS_tap h (by rw [e1]; exact q) ?_
    unfold fdL
    exact bys_pshW _ _ _ (bys_pshW _ _ _ (bys_pshW _ _ _ (bys_pshW _ _ _ (bys_pshW _ _ _ h.2.2.2.2.2.2.1.2))))
  · rw [if_neg q]; exact h
theorem okS_end {m : Nat} {S : wo_S} (h : okS m S) (n1 : Int32) : okS m (endS S n1) := by
  unfold endS
  by_cases q : endT S n1
  · rw [if_pos q]
    have hie := nI_ofn q.1
    have hl : n1.toNatClampNeg < 2 ^ 31 := by
      have := Int32.toInt_lt n1
      unfold Int32.toNatClampNeg
      omega
    have hc2 := q.2
    obtain ⟨t1, t2⟩ := h.2.2.2.2.2.2.1
    generalize n1.toNatClampNeg = e at hie hl
    subst hie
    have hle : e ≤ (sP S).1 := (nI_leI hl (by omega)).mp hc2
    exact okS_tap h (Nat.le_trans hle t1) (fun i hi => t2 i (Nat.lt_of_lt_of_le hi hle))
  · rw [if_neg q]; exact h
theorem okW_up {W : wo_W} {hc : Nat} (ok : okW W hc) : okW W (hc + 1) := by
  obtain ⟨o1, o2, o3, o4, o5, o6⟩ := ok
  refine ⟨o1, o2, o3, fun q hq => ?_, o5, o6⟩
  obtain ⟨a0, a1, a2, a3, a4⟩ := o4 q hq
  refine ⟨a0, a1, a2, a3, ?_⟩
  rcases a4 with e | ⟨k, k1, k2⟩
  · exact Or.inl e
  · exact Or.inr ⟨k, by omega, k2⟩
theorem okS_twn {m : Nat} {S : wo_S} {W : wo_W} (h : okS m S) (hW : townS (sP S) = .inr W) : okS m (twnS S W) := by
  obtain ⟨w1, w2, w3, w4⟩ := townS_ok hW (sH S).1
  exact ⟨w1, h.2.1, fun _ => by show wnp W ≠ 0; omega, okB_dwn m, pstOK_0, h.2.2.2.2.2.1, ⟨Nat.zero_le _, fun i hi => absurd hi (Nat.not_lt_zero i)⟩, fun q => by cases q⟩
theorem hbn_1 {S : wo_S} {cl : List wo_C} (h : okW (sW S) ((sH S).1 + 1)) : okW (sW (habN S cl)) (sH (habN S cl)).1 := h
theorem hbn_2 {S : wo_S} {cl : List wo_C} (h : (sH S).1 + 1 ≤ 4) : (sH (habN S cl)).1 ≤ 4 := h
theorem hbn_3 {S : wo_S} {cl : List wo_C} : sW (habN S cl) = sW S ∧ sX (habN S cl) = sX S ∧ sK (habN S cl) = sK S ∧ sI (habN S cl) = sI S := ⟨rfl, rfl, rfl, rfl⟩
theorem hbn_4 {S : wo_S} {cl : List wo_C} : (sP (habN S cl)).1 = 0 := rfl
theorem hbn_5 {S : wo_S} {cl : List wo_C} (h : ¬ wnp (sW S) = 0) : hasT (sT (habN S cl)) := by
  show ¬ wnp (sW (habN S cl)) = 0
  rw [hbn_3.1]; exact h
theorem okS_hbn {m : Nat} {S : wo_S} {cl : List wo_C} (h : okS m S) (h4 : (sH S).1 < 4) : okS m (habN S cl) := by
  obtain ⟨a1, a2, a3, a4, a5, a6, a7, a8⟩ := h
  obtain ⟨e1, e2, e3, e4⟩ := hbn_3 (S := S) (cl := cl)
  unfold okS
  rw [e1, e2, e3, e4, hbn_4]
  refine ⟨?_, hbn_2 h4, a3, a4, a5, a6, ⟨Nat.zero_le _, fun i hi => absurd hi (Nat.not_lt_zero i)⟩, fun q => ⟨(a8 q).1, hbn_5 (a8 q).2⟩⟩
  rw [← e1]
  exact hbn_1 (okW_up a1)
theorem okS_text {m : Nat} {S : wo_S} (h : okS m S) (w : Int32) : okS m (textS S w) := by
  unfold textS
  by_cases q : w = 0
  · rw [if_pos q]
    cases hW : townS (sP S) with
    | inl _ => exact h
    | inr W => exact okS_twn h hW
  · rw [if_neg q]
    by_cases q1 : w = 1
    · rw [if_pos q1]
      cases habS (sP S) with
      | inl _ => exact h
      | inr cl =>
        show okS m (if (sH S).1 < 4 then habN S cl else S)
        by_cases h4 : (sH S).1 < 4
        · rw [if_pos h4]; exact okS_hbn h h4
        · rw [if_neg h4]; exact h
    · rw [if_neg q1]; exact h
/-- the model's cells alone count -/
theorem repM_hi {d d2 : mm_D} {g g2 : mm_G} {S : wo_S} (h : repM d g S) (hd : ∀ c, 250 ≤ c → c < 281 → d2 c = d c ∧ g2 c = g c) : repM d2 g2 S := by
  obtain ⟨hW, hH, hx, hk, ht, hi, hn, e35, e36⟩ := h
  have ec : ∀ c, 250 ≤ c → c < 281 → d2 c = d c := fun c a b => (hd c a b).1
  have eg : ∀ c, 250 ≤ c → c < 281 → g2 c = g c := fun c a b => (hd c a b).2
  refine ⟨?_, ⟨?_, hH.2.1, fun k hk => hab_x (fun c a b => ec c (by omega) (by omega)) (hH.2.2 k hk)⟩, ⟨?_, ?_, ?_⟩, ?_, ?_, ?_, ?_, ?_, ?_⟩
  · unfold rpWM
    rw [ec 250 (by decide) (by decide), ec 264 (by decide) (by decide), ec 265 (by decide) (by decide), ec 266 (by decide) (by decide), ec 267 (by decide) (by decide)]
    exact hW
  · rw [ec 250 (by decide) (by decide)]; exact hH.1
  · unfold hM
    rw [ec 250 (by decide) (by decide), ec 268 (by decide) (by decide), ec 269 (by decide) (by decide)]
    exact hx.1
  · rw [eg 250 (by decide) (by decide)]; exact hx.2.1
  · unfold pstM
    rw [ec 250 (by decide) (by decide), ec 271 (by decide) (by decide), ec 272 (by decide) (by decide), eg 273 (by decide) (by decide)]
    exact hx.2.2
  · rw [ec 250 (by decide) (by decide)]; exact hk
  · unfold tapM
    rw [ec 250 (by decide) (by decide), ec 251 (by decide) (by decide)]
    exact ht
  · unfold imgM
    rw [ec 250 (by decide) (by decide), ec 280 (by decide) (by decide), eg 250 (by decide) (by decide)]
    exact hi
  · unfold ntM
    rw [ec 250 (by decide) (by decide), ec 276 (by decide) (by decide), ec 277 (by decide) (by decide)]
    exact hn
  · rw [ec 250 (by decide) (by decide)]; exact e35
  · rw [ec 250 (by decide) (by decide)]; exact e36
/-- the class's cells alone count -/
theorem repC_lo {d d2 : mm_D} {g g2 : mm_G} {r : mm_R} {S : wo_S} (ok : okW (sW S) (sH S).1) (h : repC d g r S) (hd : ∀ c, c < 250 → d2 c = d c ∧ g2 c = g c) : repC d2 g2 r S := by
  obtain ⟨a1, a2, a3, a4, a5, a6, a7, a8⟩ := h
  have e : ∀ c, c < 250 → d2 c = d c := fun c a => (hd c a).1
  refine ⟨rpW_row ⟨ok.1, ok.2.1⟩ a1 (fun c h1 h2 => e c (by omega)) rfl, rpH_row a2 (fun c h1 h2 => e c (by omega)), hX_row a3 (fun c hc => e c (by omega)) (fun c hc => (hd c (by omega)).2), ?_, ?_, ?_, ntR_eq a7 (e _ (by decide)) (e _ (by decide)) (e _ (by decide)), hA_row a8 (e _ (by decide)) (e _ (by decide)) (e _ (by decide))⟩
  · rw [e 0 (by decide)]; exact a4
  · rw [e 1 (by decide), e 2 (by decide)]; exact a5
  · rw [e 0 (by decide), (hd 44 (by decide)).2]
    exact ⟨a6.1, hA_row a6.2.1 (e _ (by decide)) (e _ (by decide)) (e _ (by decide)), a6.2.2⟩
