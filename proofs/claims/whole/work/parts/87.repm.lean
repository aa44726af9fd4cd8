/-! ===== the model shows the state ===== -/
def habM (d : mm_D) (k : Nat) (F : (Nat → Int32) → Int32) : Prop := ∃ cl : List wo_C, cl.length ≤ 90 ∧ d 255 k = nI cl.length ∧ (∀ c, c ∈ cl → okC c) ∧ lawM d k 0 cl ∧ ∀ L, hwV cl L = F L
def rpWM (d : mm_D) (W : wo_W) : Prop := d 250 26 = nI (wnp W) ∧ d 250 27 = nI (wnb W) ∧ (∀ p, p < wnp W → ∀ j, j < 4 → d 264 (4 * p + j) = wper W p j) ∧ (∀ b, b < wnb W → ∀ j, j < 3 → d 266 (3 * b + j) = wbel W b j) ∧ d 250 28 = (if wfg W = true then 1 else 0) ∧ (wfg W = true → ∀ j, j < 4 → d 265 j = wvl W j) ∧ ∀ p, p < wnp W → d 267 p = whb W p
def rpHM (d : mm_D) (H : wo_H) : Prop := d 250 13 = nI H.1 ∧ H.1 ≤ 4 ∧ ∀ k, k < H.1 → habM d k (H.2 k)
def pstM (d : mm_D) (g : mm_G) (len : Nat) (f : Nat → wo_A × Int64) : Prop := d 250 42 = nI len ∧ len ≤ 60 ∧ ∀ i, i < len → (∀ b, b < 2 → d 271 (2 * i + b) = (f i).1.2.1 b ∧ d 272 (2 * i + b) = (f i).1.2.2 b) ∧ g 273 i = (f i).2
def imgM (d : mm_D) (g : mm_G) (I : Bool × wo_A × Int64) : Prop := d 250 54 = (if I.1 = true then 1 else 0) ∧ (I.1 = true → d 250 52 = I.2.1.1 ∧ (∀ b, b < 2 → d 280 (2 * b) = I.2.1.2.1 b ∧ d 280 (2 * b + 1) = I.2.1.2.2 b) ∧ g 250 53 = I.2.2)
def tapM (d : mm_D) (L : wo_P) : Prop := d 250 2 = nI L.1 ∧ L.1 ≤ 160 ∧ ∀ i, i < L.1 → d 251 i = L.2 i
def nowM (d : mm_D) (g : mm_G) (x : wo_X) : Prop := hM d x.1 ∧ g 250 34 = x.2.1 ∧ pstM d g x.2.2.1 x.2.2.2
def repM (d : mm_D) (g : mm_G) (S : wo_S) : Prop := rpWM d (sW S) ∧ rpHM d (sH S) ∧ nowM d g (sX S) ∧ d 250 33 = sK S ∧ tapM d (sP S) ∧ imgM d g (sI S) ∧ ntM d (sN S).1 (sN S).2.1 (sN S).2.2 ∧ d 250 35 = 0 ∧ d 250 36 = 0
theorem mlk_of {d : mm_D} {W : wo_W} {H : wo_H} (ok : okW W H.1) (hW : rpWM d W) (hH : rpHM d H) {p : Nat} (hp : p < wnp W) : mlk d p (fun m ow => if whb W p = -1 then onC m (wper W p 0) (wper W p 1) (wper W p 2) else if H.2 (whb W p).toNatClampNeg (letW W p m ow) ≤ 0 then 0 else 1) := by
  obtain ⟨o1, o2, o3, o4, o5, o6⟩ := ok
  obtain ⟨w1, w2, w3, w4, w5, w6, w7⟩ := hW
  obtain ⟨h1, h2, h3⟩ := hH
  have e0 := w3 p hp 0 (by decide)
  rw [Nat.add_zero] at e0
  rcases (o4 p hp).2.2.2.2 with e | ⟨k, hk, e⟩
  · refine Or.inl ⟨(w7 p hp).trans e, by rw [w3 p hp 2 (by decide)]; exact (o4 p hp).2.2.1.1, fun m ow => ?_⟩
    show _ = (if whb W p = -1 then onC m (wper W p 0) (wper W p 1) (wper W p 2) else _)
    rw [if_pos e, e0, w3 p hp 1 (by decide), w3 p hp 2 (by decide)]
  · obtain ⟨cl, c1, c2, c3, c4, c5⟩ := h3 k hk
    refine Or.inr ⟨k, cl, by omega, (w7 p hp).trans e, c2, c1, c3, c4, fun m ow => ?_⟩
    have hb := o3 (by omega)
    have e14 : d 266 0 = wbel W 0 0 := w4 0 hb 0 (by decide)
    have eL : ltM d p m ow = letW W p m ow := by
      unfold ltM letW
      rw [e14, w3 p hp 3 (by decide)]
    show _ = (if whb W p = -1 then _ else (if H.2 (whb W p).toNatClampNeg (letW W p m ow) ≤ 0 then (0 : Int32) else 1))
    rw [if_neg (show ¬ whb W p = -1 from by rw [e]; exact nI_nm1 (by omega)), e, nI_clamp (by omega), eL, c5]
theorem MR_rep {d : mm_D} {g : mm_G} {S : wo_S} (ok : okW (sW S) (sH S).1) (h : repM d g S) : MR d (sT S) (o0 (sT S)) := by
  obtain ⟨hW, hH, hx, hk, ht, hi, hn, e35, e36⟩ := h
  have hlk := fun p hp => mlk_of ok hW hH (p := p) hp
  obtain ⟨w1, w2, w3, w4, w5, w6, w7⟩ := hW
  obtain ⟨o1, o2, o3, o4, o5, o6⟩ := ok
  refine ⟨o1, o2, fun q => o3 q, w1, w2, e35, e36, Or.inl rfl, fun p hp => hlk p hp, fun p hp => w3 p hp 3 (by decide), fun b hb => ⟨w4 b hb 0 (by decide), w4 b hb 1 (by decide), w4 b hb 2 (by decide), Int32.le_trans (by decide) (o5 b hb).1.1⟩, ?_⟩
  by_cases q : wfg (sW S) = true
  · rw [if_pos q] at w5
    refine Or.inr ⟨w5, by rw [w6 q 2 (by decide)]; exact (o6 q).2.2.1.1, fun m => ?_, ?_⟩
    · rw [w6 q 0 (by decide), w6 q 1 (by decide), w6 q 2 (by decide)]
      show _ = (if wfg (sW S) = true then _ else _)
      rw [if_pos q]
    · rw [w6 q 3 (by decide)]
      show _ = (if wfg (sW S) = true then _ else _)
      rw [if_pos q]
  · rw [if_neg q] at w5
    refine Or.inl ⟨w5, fun m => ?_⟩
    show (if wfg (sW S) = true then _ else _) = _
    rw [if_neg q]
theorem hab_x {d d2 : mm_D} (h : ∀ c, 252 ≤ c → c < 259 → d2 c = d c) {k : Nat} {F : (Nat → Int32) → Int32} (hh : habM d k F) : habM d2 k F := by
  obtain ⟨cl, c1, c2, c3, c4, c5⟩ := hh
  exact ⟨cl, c1, by rw [h 255 (by decide) (by decide)]; exact c2, c3, law_x h c4, c5⟩
/-- the model's rows that a question may leave changed -/
theorem repM_uf {d d2 : mm_D} {g : mm_G} {S : wo_S} (h : repM d g S) (u : uf d d2) (hM2 : hM d2 (sX S).1) : repM d2 g S := by
  obtain ⟨hW, hH, hx, hk, ht, hi, hn, e35, e36⟩ := h
  obtain ⟨u1, u2⟩ := u
  have ec : ∀ c, 251 ≤ c → c ≠ 259 → c ≠ 260 → c ≠ 268 → c ≠ 269 → c ≠ 270 → c ≠ 274 → c ≠ 275 → c ≠ 278 → c ≠ 279 → d2 c = d c := fun c a a1 a2 a3 a4 a5 a6 a7 a8 a9 => u1 c (by omega) a1 a2 a3 a4 a5 a6 a7 a8 a9
  have e5 : ∀ j, j ≠ 32 → j ≠ 38 → j ≠ 45 → d2 250 j = d 250 j := u2
  refine ⟨?_, ⟨?_, hH.2.1, fun k hk => hab_x (fun c a b => ec c (by omega) (by omega) (by omega) (by omega) (by omega) (by omega) (by omega) (by omega) (by omega) (by omega)) (hH.2.2 k hk)⟩, ⟨hM2, hx.2.1, ?_⟩, ?_, ?_, ?_, ?_, ?_, ?_⟩
  · unfold rpWM
    rw [e5 26 (by decide) (by decide) (by decide), e5 27 (by decide) (by decide) (by decide), e5 28 (by decide) (by decide) (by decide)]
    rw [ec 264 (by decide) (by decide) (by decide) (by decide) (by decide) (by decide) (by decide) (by decide) (by decide) (by decide)]
    rw [ec 265 (by decide) (by decide) (by decide) (by decide) (by decide) (by decide) (by decide) (by decide) (by decide) (by decide)]
    rw [ec 266 (by decide) (by decide) (by decide) (by decide) (by decide) (by decide) (by decide) (by decide) (by decide) (by decide)]
    rw [ec 267 (by decide) (by decide) (by decide) (by decide) (by decide) (by decide) (by decide) (by decide) (by decide) (by decide)]
    exact hW
  · rw [e5 13 (by decide) (by decide) (by decide)]; exact hH.1
  · unfold pstM
    rw [e5 42 (by decide) (by decide) (by decide)]
    rw [ec 271 (by decide) (by decide) (by decide) (by decide) (by decide) (by decide) (by decide) (by decide) (by decide) (by decide)]
    rw [ec 272 (by decide) (by decide) (by decide) (by decide) (by decide) (by decide) (by decide) (by decide) (by decide) (by decide)]
    exact hx.2.2
  · rw [e5 33 (by decide) (by decide) (by decide)]; exact hk
  · unfold tapM
    rw [e5 2 (by decide) (by decide) (by decide)]
    rw [ec 251 (by decide) (by decide) (by decide) (by decide) (by decide) (by decide) (by decide) (by decide) (by decide) (by decide)]
    exact ht
  · unfold imgM
    rw [e5 54 (by decide) (by decide) (by decide), e5 52 (by decide) (by decide) (by decide)]
    rw [ec 280 (by decide) (by decide) (by decide) (by decide) (by decide) (by decide) (by decide) (by decide) (by decide) (by decide)]
    exact hi
  · exact ntM_uf hn ⟨u1, u2⟩
  · rw [e5 35 (by decide) (by decide) (by decide)]; exact e35
  · rw [e5 36 (by decide) (by decide) (by decide)]; exact e36
def frK (d : mm_D) (g : mm_G) (d2 : mm_D) (g2 : mm_G) : Prop := ∀ c, c < 250 ∨ 281 ≤ c → d2 c = d c ∧ g2 c = g c
def mpost (sh : mm_S) (d : mm_D) (g : mm_G) (r : mm_R) (S' : wo_S) (v0 : Option Value) (v : Option Value) (μ : mm_M) : Prop := v = v0 ∧ ∃ d2 g2, μ = (sh, d2, g2, r) ∧ repM d2 g2 S' ∧ frK d g d2 g2
theorem mp_uf {sh : mm_S} {d : mm_D} {g : mm_G} {r : mm_R} {S : wo_S} {v0 v : Option Value} {μ : mm_M} (h : repM d g S) (hc : v = v0 ∧ ∃ d2, μ = (sh, d2, g, r) ∧ uf d d2 ∧ hM d2 (sX S).1) : mpost sh d g r S v0 v μ := by
  obtain ⟨rfl, d2, rfl, hf, hm⟩ := hc
  exact ⟨rfl, d2, g, rfl, repM_uf h hf hm, fun c hc => ⟨hf.1 c (by omega) (by omega) (by omega) (by omega) (by omega) (by omega) (by omega) (by omega) (by omega) (by omega), rfl⟩⟩
theorem mp_qf {sh : mm_S} {d : mm_D} {g : mm_G} {r : mm_R} {S : wo_S} {v0 v : Option Value} {μ : mm_M} (h : repM d g S) (hc : v = v0 ∧ ∃ d2, μ = (sh, d2, g, r) ∧ qf d d2 ∧ hM d2 (sX S).1) : mpost sh d g r S v0 v μ := by
  obtain ⟨rfl, d2, rfl, hf, hm⟩ := hc
  exact mp_uf h ⟨rfl, d2, rfl, uf_qf hf, hm⟩
/-- what holds of every state that calls can reach within m minutes -/
def pstOK (m : Nat) (x : wo_X) : Prop := x.2.2.1 ≤ 60 ∧ ∀ i, i < x.2.2.1 → (x.2.2.2 i).1.1 = x.1.1 - nI (x.2.2.1 - i) ∧ okB m (x.2.2.2 i).1
def okS (m : Nat) (S : wo_S) : Prop := okW (sW S) (sH S).1 ∧ (sH S).1 ≤ 4 ∧ (wnb (sW S) ≠ 0 → wnp (sW S) ≠ 0) ∧ okB m (sX S).1 ∧ pstOK m (sX S) ∧ (0 ≤ sK S ∧ sK S ≤ 100) ∧ ((sP S).1 ≤ 160 ∧ ∀ i, i < (sP S).1 → 1 ≤ (sP S).2 i ∧ (sP S).2 i ≤ 255) ∧ ((sI S).1 = true → okB m (sI S).2.1 ∧ hasT (sT S))
theorem okS_thr {m : Nat} {S : wo_S} (ok : okS m S) : ∀ b, b < tnb (sT S) → 1 ≤ thr (sT S) b := fun b hb => Int32.le_trans (by decide) (ok.1.2.2.2.2.1 b hb).1.1
theorem okS_how {m : Nat} {S : wo_S} (ok : okS m S) (hm : m < 2 ^ 23) : ∀ b, b < tnb (sT S) → ¬ (aN (sT S) (o0 (sT S)) (sX S).1 1).2.1 b ≤ -1 := fun b hb q => by
  have h2 : tnb (sT S) ≤ 2 := ok.1.2.1
  obtain ⟨l, l1, l2⟩ := (okB_N (o := o0 (sT S)) (okS_thr ok) ok.2.2.2.1 1 (by omega)).2 b (by omega)
  rw [l2] at q
  exact absurd (Int32.le_trans (nI_pos' (show l < 2 ^ 31 by omega)) q) (by decide)
theorem j_late {xs : List Int32} {ext : mm_X} {n : Nat} {sh : mm_S} {d : mm_D} {g : mm_G} {r : mm_R} {S : wo_S} {m : Nat} (hsh : shp sh) (hr : rfx r) (ok : okS m S) (hm : m < 2 ^ 22) (h : repM d g S) (i n1 : Int32) : wp xs ext (n + 10) 201 0 [some (.ref 250), some (.int i), some (.int n1)] [] (sh, d, g, r) (mpost sh d g r S (some (.int (lateQ (sT S) (sX S).1 i n1)))) := by
  exact wp_post (m_late hsh hr (MR_rep ok.1 h) h.2.2.1.1 ok.2.2.1  i n1) (fun v μ hc => mp_qf h hc)
theorem j_bunch {xs : List Int32} {ext : mm_X} {n : Nat} {sh : mm_S} {d : mm_D} {g : mm_G} {r : mm_R} {S : wo_S} {m : Nat} (hsh : shp sh) (hr : rfx r) (ok : okS m S) (hm : m < 2 ^ 22) (h : repM d g S) (i n1 : Int32) : wp xs ext (n + 10) 202 0 [some (.ref 250), some (.int i), some (.int n1), none, none, none] [] (sh, d, g, r) (mpost sh d g r S (some (.int (bunQ (sT S) (sX S).1 i n1)))) := by
  exact wp_post (m_bunch hsh hr (MR_rep ok.1 h) h.2.2.1.1 ok.2.2.1  i n1) (fun v μ hc => mp_qf h hc)
theorem j_peak {xs : List Int32} {ext : mm_X} {n : Nat} {sh : mm_S} {d : mm_D} {g : mm_G} {r : mm_R} {S : wo_S} {m : Nat} (hsh : shp sh) (hr : rfx r) (ok : okS m S) (hm : m < 2 ^ 22) (h : repM d g S) (i n1 w : Int32) : wp xs ext (n + 10) 211 0 [some (.ref 250), some (.int i), some (.int n1), some (.int w), none, none, none] [] (sh, d, g, r) (mpost sh d g r S (some (.int (peakQ (sT S) (sX S).1 i n1 w)))) := by
  exact wp_post (m_peak hsh hr (MR_rep ok.1 h) h.2.2.1.1 ok.2.2.1 (okS_how ok (by omega)) i n1 w) (fun v μ hc => mp_qf h hc)
theorem j_ahead {xs : List Int32} {ext : mm_X} {n : Nat} {sh : mm_S} {d : mm_D} {g : mm_G} {r : mm_R} {S : wo_S} {m : Nat} (hsh : shp sh) (hr : rfx r) (ok : okS m S) (hm : m < 2 ^ 22) (h : repM d g S) (i n1 w : Int32) : wp xs ext (n + 10) 198 0 [some (.ref 250), some (.int i), some (.int n1), some (.int w), none] [] (sh, d, g, r) (mpost sh d g r S (some (.int (aheadQ (sT S) (sX S).1 i n1 w)))) := by
  exact wp_post (m_ahead hsh hr (MR_rep ok.1 h) h.2.2.1.1 ok.2.2.1  i n1 w) (fun v μ hc => mp_qf h hc)
theorem j_strike {xs : List Int32} {ext : mm_X} {n : Nat} {sh : mm_S} {d : mm_D} {g : mm_G} {r : mm_R} {S : wo_S} {m : Nat} (hsh : shp sh) (hr : rfx r) (ok : okS m S) (hm : m < 2 ^ 22) (h : repM d g S) (i n1 : Int32) : wp xs ext (n + 10) 199 0 [some (.ref 250), some (.int i), some (.int n1), none, none, none] [] (sh, d, g, r) (mpost sh d g r S (some (.int (strikeQ (sT S) (sX S).1 i n1)))) := by
  exact wp_post (m_strike hsh hr (MR_rep ok.1 h) h.2.2.1.1 ok.2.2.1  i n1) (fun v μ hc => mp_qf h hc)
theorem j_free {xs : List Int32} {ext : mm_X} {n : Nat} {sh : mm_S} {d : mm_D} {g : mm_G} {r : mm_R} {S : wo_S} {m : Nat} (hsh : shp sh) (hr : rfx r) (ok : okS m S) (hm : m < 2 ^ 22) (h : repM d g S) (i : Int32) : wp xs ext (n + 10) 212 0 [some (.ref 250), some (.int i), none, none] [] (sh, d, g, r) (mpost sh d g r S (some (.int (freeQ (sT S) (sX S).1 i)))) := by
  exact wp_post (m_free hsh hr (MR_rep ok.1 h) h.2.2.1.1 ok.2.2.1  i) (fun v μ hc => mp_qf h hc)
theorem j_seen {xs : List Int32} {ext : mm_X} {n : Nat} {sh : mm_S} {d : mm_D} {g : mm_G} {r : mm_R} {S : wo_S} {m : Nat} (hsh : shp sh) (hr : rfx r) (ok : okS m S) (hm : m < 2 ^ 22) (h : repM d g S) (n1 w : Int32) : wp xs ext (n + 10) 204 0 [some (.ref 250), some (.int n1), some (.int w), none, none, none, none] [] (sh, d, g, r) (mpost sh d g r S (some (.int (seenQ (sT S) (sX S).1 n1 w)))) := by
  exact wp_post (m_seen hsh hr (MR_rep ok.1 h) h.2.2.1.1 ok.2.2.1  n1 w) (fun v μ hc => mp_qf h hc)
theorem j_lovers {xs : List Int32} {ext : mm_X} {n : Nat} {sh : mm_S} {d : mm_D} {g : mm_G} {r : mm_R} {S : wo_S} {m : Nat} (hsh : shp sh) (hr : rfx r) (ok : okS m S) (hm : m < 2 ^ 22) (h : repM d g S) (i j n1 w : Int32) : wp xs ext (n + 10) 208 0 [some (.ref 250), some (.int i), some (.int j), some (.int n1), some (.int w), none, none, none] [] (sh, d, g, r) (mpost sh d g r S (some (.int (loversQ (sT S) (sX S).1 i j n1 w)))) := by
  exact wp_post (m_lovers hsh hr (MR_rep ok.1 h) h.2.2.1.1 ok.2.2.1  i j n1 w) (fun v μ hc => mp_qf h hc)
theorem j_alone {xs : List Int32} {ext : mm_X} {n : Nat} {sh : mm_S} {d : mm_D} {g : mm_G} {r : mm_R} {S : wo_S} {m : Nat} (hsh : shp sh) (hr : rfx r) (ok : okS m S) (hm : m < 2 ^ 22) (h : repM d g S) (i n1 : Int32) : wp xs ext (n + 10) 213 0 [some (.ref 250), some (.int i), some (.int n1), none, none, none, none] [] (sh, d, g, r) (mpost sh d g r S (some (.int (aloneQ (sT S) (sX S).1 i n1)))) := by
  exact wp_post (m_alone hsh hr (MR_rep ok.1 h) h.2.2.1.1 ok.2.2.1  i n1) (fun v μ hc => mp_qf h hc)
theorem j_hour {xs : List Int32} {ext : mm_X} {n : Nat} {sh : mm_S} {d : mm_D} {g : mm_G} {r : mm_R} {S : wo_S} {m : Nat} (hsh : shp sh) (hr : rfx r) (ok : okS m S) (hm : m < 2 ^ 22) (h : repM d g S) (i n1 : Int32) : wp xs ext (n + 10) 214 0 [some (.ref 250), some (.int i), some (.int n1), none, none, none, none, none] [] (sh, d, g, r) (mpost sh d g r S (some (.int (hourQ (sT S) (sX S).1 i n1)))) := by
  exact wp_post (m_hour hsh hr (MR_rep ok.1 h) h.2.2.1.1 ok.2.2.1 ok.2.2.2.1 hm i n1) (fun v μ hc => mp_qf h hc)
theorem j_ears {xs : List Int32} {ext : mm_X} {n : Nat} {sh : mm_S} {d : mm_D} {g : mm_G} {r : mm_R} {S : wo_S} {m : Nat} (hsh : shp sh) (hr : rfx r) (ok : okS m S) (hm : m < 2 ^ 22) (h : repM d g S) (i n1 : Int32) : wp xs ext (n + 10) 203 0 [some (.ref 250), some (.int i), some (.int n1), none, none] [] (sh, d, g, r) (mpost sh d g r S (some (.int (earsQ (sT S) (sX S).1 i n1)))) := by
  exact wp_post (m_ears hsh hr (MR_rep ok.1 h) h.2.2.1.1 ok.2.2.1  i n1) (fun v μ hc => mp_qf h hc)
theorem j_turn {xs : List Int32} {ext : mm_X} {n : Nat} {sh : mm_S} {d : mm_D} {g : mm_G} {r : mm_R} {S : wo_S} {m : Nat} (hsh : shp sh) (hr : rfx r) (ok : okS m S) (hm : m < 2 ^ 22) (h : repM d g S) (n1 : Int32) : wp xs ext (n + 12) 206 0 [some (.ref 250), some (.int n1), none, none] [] (sh, d, g, r) (mpost sh d g r S (some (.int (turnQ (sT S) (sX S).1 n1)))) := by
  exact wp_post (m_turn hsh hr (MR_rep ok.1 h) h.2.2.1.1 ok.2.2.1  n1) (fun v μ hc => mp_qf h hc)
theorem j_stare {xs : List Int32} {ext : mm_X} {n : Nat} {sh : mm_S} {d : mm_D} {g : mm_G} {r : mm_R} {S : wo_S} {m : Nat} (hsh : shp sh) (hr : rfx r) (ok : okS m S) (hm : m < 2 ^ 22) (h : repM d g S) (n1 : Int32) : wp xs ext (n + 12) 207 0 [some (.ref 250), some (.int n1), none, none] [] (sh, d, g, r) (mpost sh d g r S (some (.int (stareQ (sT S) (sX S).1 n1)))) := by
  exact wp_post (m_stare hsh hr (MR_rep ok.1 h) h.2.2.1.1 ok.2.2.1  n1) (fun v μ hc => mp_qf h hc)
theorem j_spoil {xs : List Int32} {ext : mm_X} {n : Nat} {sh : mm_S} {d : mm_D} {g : mm_G} {r : mm_R} {S : wo_S} {m : Nat} (hsh : shp sh) (hr : rfx r) (ok : okS m S) (hm : m < 2 ^ 22) (h : repM d g S) (n1 w : Int32) : wp xs ext (n + 11) 209 0 [some (.ref 250), some (.int n1), some (.int w), none, none, none, none] [] (sh, d, g, r) (mpost sh d g r S (some (.int (spoilQ (sT S) (sX S).1 n1 w)))) := by
  exact wp_post (m_spoil hsh hr (MR_rep ok.1 h) h.2.2.1.1 ok.2.2.1  n1 w) (fun v μ hc => mp_qf h hc)
theorem j_errand {xs : List Int32} {ext : mm_X} {n : Nat} {sh : mm_S} {d : mm_D} {g : mm_G} {r : mm_R} {S : wo_S} {m : Nat} (hsh : shp sh) (hr : rfx r) (ok : okS m S) (hm : m < 2 ^ 22) (h : repM d g S) (i n1 w : Int32) : wp xs ext (n + 11) 210 0 [some (.ref 250), some (.int i), some (.int n1), some (.int w), none, none, none, none, none] [] (sh, d, g, r) (mpost sh d g r S (some (.int (errandQ (sT S) (sX S).1 (fSp S) i n1 w)))) := by
  exact wp_post (m_errand hsh hr (MR_rep ok.1 h) h.2.2.1.1 ok.2.2.1 (fun p hp => by rw [h.1.2.2.2.2.2.2 p hp]; unfold fSp; exact decide_eq_true_iff.symm) (fun p hp f m => by rw [h.1.2.2.1 p hp 1 (by decide), h.1.2.2.1 p hp 2 (by decide)]; rfl) i n1 w) (fun v μ hc => mp_uf h hc)
theorem j_veil {xs : List Int32} {ext : mm_X} {n : Nat} {sh : mm_S} {d : mm_D} {g : mm_G} {r : mm_R} {S : wo_S} {m : Nat} (hsh : shp sh) (hr : rfx r) (ok : okS m S) (hm : m < 2 ^ 22) (h : repM d g S) (n1 w : Int32) : wp xs ext (n + 11) 215 0 [some (.ref 250), some (.int n1), some (.int w), none, none, none, none, none] [] (sh, d, g, r) (mpost sh d g r S (some (.int (veilQ (sT S) (sX S).1 (wfg (sW S)) n1 w)))) := by
  exact wp_post (m_veil hsh hr (MR_rep ok.1 h) h.2.2.1.1 ok.2.2.1 h.1.2.2.2.2.1 n1 w) (fun v μ hc => mp_uf h hc)
theorem j_times {xs : List Int32} {ext : mm_X} {n : Nat} {sh : mm_S} {d : mm_D} {g : mm_G} {r : mm_R} {S : wo_S} {m : Nat} (hsh : shp sh) (hr : rfx r) (ok : okS m S) (hm : m < 2 ^ 22) (h : repM d g S) (i : Int32) : wp xs ext (n + 11) 218 0 [some (.ref 250), some (.int i), none, none] [] (sh, d, g, r) (mpost sh d g r S (some (.int (timesQ (sT S) dwn (sN S).1 (sN S).2.1 (sN S).2.2 i)))) := by
  exact wp_post (m_times hsh hr (MR_rep ok.1 h) h.2.2.1.1 ok.2.2.1 h.2.2.2.2.2.2.1 i) (fun v μ hc => mp_uf h hc)
theorem j_whose {xs : List Int32} {ext : mm_X} {n : Nat} {sh : mm_S} {d : mm_D} {g : mm_G} {r : mm_R} {S : wo_S} {m : Nat} (hsh : shp sh) (hr : rfx r) (ok : okS m S) (hm : m < 2 ^ 22) (h : repM d g S) (i j : Int32) : wp xs ext (n + 11) 219 0 [some (.ref 250), some (.int i), some (.int j), none, none, none, none, none] [] (sh, d, g, r) (mpost sh d g r S (some (.int (whoseQ (sT S) (sX S).1 (fSp S) (sN S).1 (sN S).2.1 (sN S).2.2 i j)))) := by
  exact wp_post (m_whose hsh hr (MR_rep ok.1 h) h.2.2.1.1 ok.2.2.1 h.2.2.2.2.2.2.1 (fun p hp => by rw [h.1.2.2.2.2.2.2 p hp]; unfold fSp; exact decide_eq_true_iff.symm) (fun p hp f m => by rw [h.1.2.2.1 p hp 1 (by decide), h.1.2.2.1 p hp 2 (by decide)]; rfl) i j) (fun v μ hc => mp_uf h hc)
theorem j_odds {xs : List Int32} {ext : mm_X} {n : Nat} {sh : mm_S} {d : mm_D} {g : mm_G} {r : mm_R} {S : wo_S} {m : Nat} (hsh : shp sh) (hr : rfx r) (ok : okS m S) (hm : m < 2 ^ 22) (h : repM d g S) (n1 : Int32) : wp xs ext (n + 22) 221 0 [some (.ref 250), some (.int n1), none, none] [] (sh, d, g, r) (mpost sh d g r S (some (.int (oddsQ (sT S) (sX S).1 (sK S) n1)))) := by
  exact wp_post (m_odds hsh hr (MR_rep ok.1 h) h.2.2.1.1 ok.2.2.1 h.2.2.2.1 n1) (fun v μ hc => mp_uf h hc)
