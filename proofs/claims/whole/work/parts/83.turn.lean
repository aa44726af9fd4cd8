/-! ===== turn, stare, spoil of the model ===== -/
def bcN (i : Nat) : Nat := (bcC (nI i)).toNatClampNeg
theorem bcN_all : ∀ i, i < 64 → bcC (nI i) = nI (bcN i) ∧ bcN i ≤ 6 := by decide
theorem bcN_np : ∀ n, n ≤ 6 → ∀ i, i < 2 ^ n → bcN i ≤ n := by decide
theorem innA_n {gf : Nat → Int32} {f : Int32} : ∀ (z b : Nat), innA gf f z b = none → ∀ i, b ≤ i → i < b + z → bcC (nI i) = f → ¬ gf i = 0
  | 0, b, _, i, h1, h2, _ => by omega
  | z + 1, b, h, i, h1, h2, h3 => by
    rw [innA] at h
    by_cases e : i = b
    · subst e
      rw [if_pos h3] at h
      by_cases g0 : gf i = 0
      · rw [if_pos g0] at h; exact absurd h (by simp)
      · exact g0
    · have h' : innA gf f z (b + 1) = none := by
        by_cases q : bcC (nI b) = f
        · rw [if_pos q] at h
          by_cases g0 : gf b = 0
          · rw [if_pos g0] at h; exact absurd h (by simp)
          · rw [if_neg g0] at h; exact h
        · rw [if_neg q] at h; exact h
      exact innA_n z (b + 1) h' i (by omega) (by omega) h3
theorem innA_s {gf : Nat → Int32} {f : Int32} {x : Nat} : ∀ (z b : Nat), innA gf f z b = some x → b ≤ x ∧ x < b + z ∧ bcC (nI x) = f ∧ gf x = 0 ∧ ∀ i, b ≤ i → i < x → bcC (nI i) = f → ¬ gf i = 0
  | 0, b, h => by rw [innA] at h; exact absurd h (by simp)
  | z + 1, b, h => by
    rw [innA] at h
    by_cases q : bcC (nI b) = f
    · rw [if_pos q] at h
      by_cases g0 : gf b = 0
      · rw [if_pos g0] at h
        have e : b = x := Option.some.inj h
        subst e
        exact ⟨Nat.le_refl _, by omega, q, g0, fun i h1 h2 => by omega⟩
      · rw [if_neg g0] at h
        obtain ⟨a1, a2, a3, a4, a5⟩ := innA_s z (b + 1) h
        refine ⟨by omega, by omega, a3, a4, fun i h1 h2 h3 => ?_⟩
        by_cases e : i = b
        · rw [e]; exact g0
        · exact a5 i (by omega) h2 h3
    · rw [if_neg q] at h
      obtain ⟨a1, a2, a3, a4, a5⟩ := innA_s z (b + 1) h
      refine ⟨by omega, by omega, a3, a4, fun i h1 h2 h3 => ?_⟩
      by_cases e : i = b
      · rw [e] at h3; exact absurd h3 q
      · exact a5 i (by omega) h2 h3
theorem nI_sub64 {a b : Nat} (ha : a < 64) (hb : b < 64) (h : nI a = nI b) : a = b := by
  have h1 := (nI_leI (show a < 2 ^ 31 by omega) (show b < 2 ^ 31 by omega)).mp (by rw [h]; exact Int32.le_refl _)
  have h2 := (nI_leI (show b < 2 ^ 31 by omega) (show a < 2 ^ 31 by omega)).mp (by rw [h]; exact Int32.le_refl _)
  omega
def bstA (gf : Nat → Int32) (M : Nat) (P : Nat → Prop) (v : Int32) : Prop := (v = -1 ∧ ∀ i, i < M → P i → ¬ gf i = 0) ∨ ∃ x, x < M ∧ v = nI x ∧ P x ∧ gf x = 0 ∧ ∀ i, i < M → P i → gf i = 0 → bcN x < bcN i ∨ (bcN x = bcN i ∧ x ≤ i)
theorem bst_u {gf : Nat → Int32} {M : Nat} {P : Nat → Prop} {v w : Int32} (hv : bstA gf M P v) (hw : bstA gf M P w) : v = w := by
  rcases hv with ⟨e, h⟩ | ⟨x, x1, x2, x3, x4, x5⟩
  · rcases hw with ⟨e', _⟩ | ⟨y, y1, y2, y3, y4, y5⟩
    · rw [e, e']
    · exact absurd y4 (h y y1 y3)
  · rcases hw with ⟨e', h⟩ | ⟨y, y1, y2, y3, y4, y5⟩
    · exact absurd x4 (h x x1 x3)
    · have a := x5 y y1 y3 y4
      have b := y5 x x1 x3 x4
      have : x = y := by omega
      rw [x2, y2, this]
theorem outA_b {gf : Nat → Int32} {M : Nat} (hM : M ≤ 64) : ∀ (z f : Nat), z + f ≤ 7 → bstA gf M (fun i => f ≤ bcN i ∧ bcN i < f + z) (outA gf M z f)
  | 0, f, _ => Or.inl ⟨rfl, fun i _ h => by omega⟩
  | z + 1, f, hz => by
    rw [outA]
    cases hi : innA gf (nI f) M 0 with
    | some x =>
      obtain ⟨a1, a2, a3, a4, a5⟩ := innA_s M 0 hi
      have ex := bcN_all x (by omega)
      have ef : bcN x = f := nI_sub64 (by omega) (by omega) (by rw [← ex.1]; exact a3)
      refine Or.inr ⟨x, by omega, rfl, ⟨by omega, by omega⟩, a4, fun i h1 h2 h3 => ?_⟩
      by_cases q : bcN i = f
      · refine Or.inr ⟨by omega, Classical.byContradiction (fun w => a5 i (by omega) (by omega) ?_ h3)⟩
        rw [(bcN_all i (by omega)).1, q]
      · omega
    | none =>
      have hn := innA_n M 0 hi
      have key : ∀ i, i < M → gf i = 0 → bcN i ≠ f := fun i h1 h2 q => hn i (by omega) (by omega) (by rw [(bcN_all i (by omega)).1, q]) h2
      rcases outA_b hM z (f + 1) (by omega) (gf := gf) with ⟨e, h⟩ | ⟨x, x1, x2, x3, x4, x5⟩
      · refine Or.inl ⟨e, fun i h1 h2 h3 => h i h1 ?_ h3⟩
        have := key i h1 h3
        omega
      · refine Or.inr ⟨x, x1, x2, by omega, x4, fun i h1 h2 h3 => x5 i h1 ?_ h3⟩
        have := key i h1 h3
        omega
def turF (gf : Nat → Int32) : Nat → Int32
  | 0 => -1
  | k + 1 => if turF gf k = -1 ∨ bcC (nI k) < bcC (turF gf k) then (if gf k = 0 then nI k else turF gf k) else turF gf k
theorem turF_b (gf : Nat → Int32) : ∀ k, k ≤ 64 → bstA gf k (fun _ => True) (turF gf k)
  | 0, _ => Or.inl ⟨rfl, fun i h => by omega⟩
  | k + 1, hk => by
    rw [turF]
    have hkb := bcN_all k (by omega)
    rcases turF_b gf k (by omega) with ⟨e, h⟩ | ⟨x, x1, x2, x3, x4, x5⟩
    · rw [if_pos (Or.inl e)]
      by_cases g0 : gf k = 0
      · rw [if_pos g0]
        refine Or.inr ⟨k, by omega, rfl, trivial, g0, fun i h1 _ h3 => ?_⟩
        by_cases q : i = k
        · subst q; omega
        · exact absurd h3 (h i (by omega) trivial)
      · rw [if_neg g0]
        refine Or.inl ⟨e, fun i h1 _ => ?_⟩
        by_cases q : i = k
        · rw [q]; exact g0
        · exact h i (by omega) trivial
    · have hxb := bcN_all x (by omega)
      have hlt : bcC (nI k) < bcC (nI x) ↔ bcN k < bcN x := by rw [hkb.1, hxb.1]; exact nI_ltI (by omega) (by omega)
      have hnm : ¬ turF gf k = -1 := by rw [x2]; exact nI_nm1 (by omega)
      by_cases c : bcN k < bcN x
      · rw [if_pos (Or.inr (by rw [x2]; exact hlt.mpr c))]
        by_cases g0 : gf k = 0
        · rw [if_pos g0]
          refine Or.inr ⟨k, by omega, rfl, trivial, g0, fun i h1 _ h3 => ?_⟩
          by_cases q : i = k
          · subst q; omega
          · have := x5 i (by omega) trivial h3
            omega
        · rw [if_neg g0]
          refine Or.inr ⟨x, by omega, x2, trivial, x4, fun i h1 _ h3 => ?_⟩
          by_cases q : i = k
          · rw [q] at h3; exact absurd h3 g0
          · exact x5 i (by omega) trivial h3
      · rw [if_neg (by rintro (q | q); exact hnm q; exact c (hlt.mp (by rw [x2] at q; exact q)))]
        refine Or.inr ⟨x, by omega, x2, trivial, x4, fun i h1 _ h3 => ?_⟩
        by_cases q : i = k
        · subst q; omega
        · exact x5 i (by omega) trivial h3
theorem turF_out {gf : Nat → Int32} {np : Nat} (h : np ≤ 6) : turF gf (2 ^ np) = outA gf (2 ^ np) (np + 1) 0 := by
  have hM : 2 ^ np ≤ 64 := pw_le h
  have h1 := turF_b gf (2 ^ np) hM
  have h2 := outA_b (gf := gf) hM (np + 1) 0 (by omega)
  refine bst_u h1 ?_
  rcases h2 with ⟨e, q⟩ | ⟨x, x1, x2, x3, x4, x5⟩
  · exact Or.inl ⟨e, fun i hi _ => q i hi ⟨Nat.zero_le _, by have := bcN_np np h i hi; omega⟩⟩
  · exact Or.inr ⟨x, x1, x2, trivial, x4, fun i hi _ => x5 i hi ⟨Nat.zero_le _, by have := bcN_np np h i hi; omega⟩⟩
/-- as qf, but for one more slot -/
def tq (t : Nat) (d d2 : mm_D) : Prop := (∀ c, c ≠ 250 → c ≠ 259 → c ≠ 260 → c ≠ 268 → c ≠ 269 → c ≠ 270 → c ≠ 274 → c ≠ 275 → d2 c = d c) ∧ ∀ j, j ≠ 32 → j ≠ 38 → j ≠ 45 → j ≠ t → d2 250 j = d 250 j
theorem tq_refl (t : Nat) (d : mm_D) : tq t d d := ⟨fun _ _ _ _ _ _ _ _ _ => rfl, fun _ _ _ _ _ => rfl⟩
theorem tq_qf {t : Nat} {d d1 d2 : mm_D} (h : tq t d d1) (h' : qf d1 d2) : tq t d d2 := ⟨fun c a1 a2 a3 a4 a5 a6 a7 a8 => (h'.1 c a1 a2 a3 a4 a5 a6 a7 a8).trans (h.1 c a1 a2 a3 a4 a5 a6 a7 a8), fun j a1 a2 a3 a4 => (h'.2 j a1 a2 a3).trans (h.2 j a1 a2 a3 a4)⟩
theorem tq_up {t : Nat} {d d1 : mm_D} {x : Int32} (h : tq t d d1) : tq t d (mm_up d1 250 t x) := ⟨fun c a1 a2 a3 a4 a5 a6 a7 a8 => (mm_up_ne a1).trans (h.1 c a1 a2 a3 a4 a5 a6 a7 a8), fun j a1 a2 a3 a4 => ((mm_up_at j).trans (if_neg a4)).trans (h.2 j a1 a2 a3 a4)⟩
theorem tq_fin {t : Nat} {d d1 : mm_D} {x : Int32} (h : tq t d d1) (hx : d 250 t = x) : qf d (mm_up d1 250 t x) := ⟨fun c a1 a2 a3 a4 a5 a6 a7 a8 => (mm_up_ne a1).trans (h.1 c a1 a2 a3 a4 a5 a6 a7 a8), fun j a1 a2 a3 => by
  by_cases q : j = t
  · rw [q, hx]; exact (mm_up_at t).trans (if_pos rfl)
  · exact ((mm_up_at j).trans (if_neg q)).trans (h.2 j a1 a2 a3 q)⟩
theorem hM_up {t : Nat} {d : mm_D} {x : Int32} {B : wo_A} (h : hM d B) (ht : t ≠ 32) : hM (mm_up d 250 t x) B := by
  refine ⟨((mm_up_at 32).trans (if_neg (Ne.symm ht))).trans h.1, fun b hb => ?_⟩
  rw [mm_up_ne (by decide), mm_up_ne (by decide)]
  exact h.2 b hb
theorem law_x {d d2 : mm_D} (h : ∀ c, 252 ≤ c → c < 259 → d2 c = d c) {w : Nat} : ∀ {cl : List wo_C} {i : Nat}, lawM d w i cl → lawM d2 w i cl := by
  have sg : ∀ {cs : List Int32} {a : Nat}, segM d a cs → segM d2 a cs := by
    intro cs
    induction cs with
    | nil => intro _ _; trivial
    | cons c cs ih =>
      intro a hs
      refine ⟨?_, ih hs.2⟩
      have h1 := hs.1
      unfold tokR at h1 ⊢
      rw [h 252 (by decide) (by decide), h 253 (by decide) (by decide)]
      exact h1
  intro cl
  induction cl with
  | nil => intro _ _; trivial
  | cons c cl ih =>
    intro i hl
    obtain ⟨⟨tf, sf, a1, a2, a3, a4, a5, a6, a7⟩, hl⟩ := hl
    exact ⟨⟨tf, sf, by rw [h 256 (by decide) (by decide)]; exact a1, by rw [h 257 (by decide) (by decide)]; exact a2, by rw [h 258 (by decide) (by decide)]; exact a3, a4, a5, sg a6, sg a7⟩, ih hl⟩
theorem mlk_x {d d2 : mm_D} {p : Nat} {F : Int32 → Int32 → Int32} (h : ∀ c, 252 ≤ c → c < 268 → c ≠ 259 → c ≠ 260 → c ≠ 264 → c ≠ 265 → d2 c = d c) (h0 : d 267 p = -1 → d2 264 (4 * p) = d 264 (4 * p)) (h1 : d2 264 (4 * p + 1) = d 264 (4 * p + 1)) (h2 : d2 264 (4 * p + 2) = d 264 (4 * p + 2)) (h3 : d2 264 (4 * p + 3) = d 264 (4 * p + 3)) (hk : mlk d p F) : mlk d2 p F := by
  have r266 := h 266 (by decide) (by decide) (by decide) (by decide) (by decide) (by decide)
  have r267 := h 267 (by decide) (by decide) (by decide) (by decide) (by decide) (by decide)
  have r255 := h 255 (by decide) (by decide) (by decide) (by decide) (by decide) (by decide)
  rcases hk with ⟨c1, c2, c3⟩ | ⟨w, cl, c0, c1, c2, c3, c4, c5, c6⟩
  · exact Or.inl ⟨by rw [r267]; exact c1, by rw [h2]; exact c2, by rw [h0 c1, h1, h2]; exact c3⟩
  · refine Or.inr ⟨w, cl, c0, by rw [r267]; exact c1, by rw [r255]; exact c2, c3, c4, law_x (fun c a b => h c a (by omega) (by omega) (by omega) (by omega) (by omega)) c5, fun m ow => ?_⟩
    have e : ltM d2 p m ow = ltM d p m ow := by unfold ltM; rw [h3, r266]
    rw [e]
    exact c6 m ow
theorem MR_250 {d : mm_D} {T : wo_T} {o o' : wo_O} {t : Nat} {x : Int32} (hR : MR d T o) (ht : t = 35 ∨ t = 36) (hb : ∀ p, p < tnp T → basT T o' p = basT T o p) (hv : o'.2.2.2 = o.2.2.2) (e35 : mm_up d 250 t x 250 35 = o'.1) (e36 : mm_up d 250 t x 250 36 = o'.2.1) (hd : o'.1 = 0 ∨ o'.2.1 = 0) : MR (mm_up d 250 t x) T o' := by
  obtain ⟨n6, n2, nb0, e26, e27, _, _, _, hlk, hfar, hbel, hfog⟩ := hR
  have e5 : ∀ j, j ≠ 35 → j ≠ 36 → mm_up d 250 t x 250 j = d 250 j := fun j h1 h2 => (mm_up_at j).trans (if_neg (by omega))
  have ec : ∀ c, c ≠ 250 → mm_up d 250 t x c = d c := fun c hc => mm_up_ne hc
  refine ⟨n6, n2, nb0, by rw [e5 26 (by decide) (by decide)]; exact e26, by rw [e5 27 (by decide) (by decide)]; exact e27, e35, e36, hd, fun p hp => ?_, by rw [ec 264 (by decide)]; exact hfar, by rw [ec 266 (by decide)]; exact hbel, by rw [e5 28 (by decide) (by decide), ec 265 (by decide), hv]; exact hfog⟩
  rw [hb p hp]
  exact mlk_x (fun c h1 _ _ _ _ _ => ec c (by omega)) (fun _ => by rw [ec 264 (by decide)]) (by rw [ec 264 (by decide)]) (by rw [ec 264 (by decide)]) (by rw [ec 264 (by decide)]) (hlk p hp)
theorem MR_aw {d d1 : mm_D} {T : wo_T} (hR : MR d T (o0 T)) (h : tq 36 d d1) (x : Int32) : MR (mm_up d1 250 36 x) T (awO T x) := by
  have h0 : MR (mm_up d1 250 36 0) T (o0 T) := MR_qf hR (tq_fin h hR.2.2.2.2.2.2.1)
  have h1 := MR_250 (t := 36) (x := x) (o' := awO T x) h0 (Or.inr rfl) (fun _ _ => rfl) rfl (((mm_up_at 35).trans (if_neg (by decide))).trans h0.2.2.2.2.2.1) ((mm_up_at 36).trans (if_pos rfl)) (Or.inl rfl)
  refine MR_eq h1 (fun c a _ _ _ => ?_) (fun j _ => ?_)
  · rw [mm_up_ne (by omega), mm_up_ne (by omega), mm_up_ne (by omega)]
  · rw [mm_up_at, mm_up_at]
    by_cases q : j = 36
    · rw [if_pos q, if_pos q]
    · rw [if_neg q, if_neg q]; exact ((mm_up_at j).trans (if_neg q)).symm
theorem MR_st {d d1 : mm_D} {T : wo_T} (hR : MR d T (o0 T)) (h : tq 35 d d1) (x : Int32) : MR (mm_up d1 250 35 x) T (stO T x) := by
  have h0 : MR (mm_up d1 250 35 0) T (o0 T) := MR_qf hR (tq_fin h hR.2.2.2.2.2.1)
  have h1 := MR_250 (t := 35) (x := x) (o' := stO T x) h0 (Or.inl rfl) (fun _ _ => rfl) rfl ((mm_up_at 35).trans (if_pos rfl)) (((mm_up_at 36).trans (if_neg (by decide))).trans h0.2.2.2.2.2.2.1) (Or.inr rfl)
  refine MR_eq h1 (fun c a _ _ _ => ?_) (fun j _ => ?_)
  · rw [mm_up_ne (by omega), mm_up_ne (by omega), mm_up_ne (by omega)]
  · rw [mm_up_at, mm_up_at]
    by_cases q : j = 35
    · rw [if_pos q, if_pos q]
    · rw [if_neg q, if_neg q]; exact ((mm_up_at j).trans (if_neg q)).symm
theorem m_first {xs : List Int32} {ext : mm_X} {n : Nat} {sh : mm_S} {d : mm_D} {g : mm_G} {r : mm_R} {T : wo_T} {o : wo_O} {B : wo_A} (hsh : shp sh) (hr : rfx r) (hR : MR d T o) (hB : hM d B) {N : Nat} (w : Int32) (hN : N < 2 ^ 31) : wp xs ext (n + 10) 205 0 [some (.ref 250), some (.int (nI N)), some (.int w), none] [] (sh, d, g, r) (fun v μ => v = some (.int (if w = 0 then (aN T o B N).2.1 0 else (aN T o B N).2.2 0 - B.2.2 0)) ∧ ∃ d2, μ = (sh, d2, g, r) ∧ qf d d2 ∧ hM d2 B) := by
  refine wp_aload_n (j := 0) rfl q205_ok d205_0 ?_
  refine wp_cV q205_ok d205_1 ml_11_356 rfl q195_ok (u := 11) rfl (by first | assumption | exact so0 hsh rfl) rfl (Nat.le_of_ble_eq_true rfl) (Nat.le_of_ble_eq_true rfl) (m_put hsh hr hB) (fun v1 μ1 hc => ?_)
  obtain ⟨rfl, d1, rfl, q1, hM1, hS1⟩ := hc
  refine ⟨mm_le_same rfl, ?_⟩
  refine wp_aload_n (j := 0) rfl q205_ok d205_4 ?_
  refine wp_iload_n (j := 1) rfl q205_ok d205_5 ?_
  refine wp_cV q205_ok d205_6 ml_11_359 rfl q197_ok (u := 11) rfl (by first | assumption | exact so0 hsh rfl) rfl (Nat.le_of_ble_eq_true rfl) (Nat.le_of_ble_eq_true rfl) (m_all (n := n) hsh hr (MR_qf hR q1) hM1 hN) (fun v6 μ6 hc => ?_)
  obtain ⟨rfl, d2, rfl, f2, hM2⟩ := hc
  refine ⟨mm_le_same rfl, ?_⟩
  refine wp_iload_n (j := 2) rfl q205_ok d205_9 ?_
  refine wp_if_ne q205_ok d205_10 (t := 22) rfl (fun h10 => ?_) (fun h10 => ?_)
  · refine wp_aload_n (j := 0) rfl q205_ok d205_22 ?_
    refine wp_getR q205_ok d205_23 fl_11_64 rfl (by first | assumption | exact so0 hsh rfl) (by first | assumption | exact hr _ _ _ rfl) ?_
    refine wp_iconst (v := 0) (by decide) q205_ok d205_26 ?_
    refine wp_iald (m := 2) q205_ok d205_27 (by first | assumption | exact so0 hsh rfl) (shl hsh (m := 2) (Nat.le_of_ble_eq_true rfl) rfl) (ixn_nI (j := 0) (by decide)) (hM2.2 0 (by decide)).2 ?_ (shK hsh)
    refine wp_aload_n (j := 0) rfl q205_ok d205_28 ?_
    refine wp_getR q205_ok d205_29 fl_11_84 rfl (by first | assumption | exact so0 hsh rfl) (by first | assumption | exact hr _ _ _ rfl) ?_
    refine wp_iconst (v := 0) (by decide) q205_ok d205_32 ?_
    refine wp_iald (m := 2) q205_ok d205_33 (by first | assumption | exact so0 hsh rfl) (shl hsh (m := 2) (Nat.le_of_ble_eq_true rfl) rfl) (ixn_nI (j := 0) (by decide)) ((hS_pf hS1 f2).2 0 (by decide)).2 ?_ (shK hsh)
    refine wp_isub rfl q205_ok d205_34 ?_
    refine wp_istore_n (j := 3) (Nat.le_of_ble_eq_true rfl) (rfl : _ = [_, _, _, _]) q205_ok d205_35 ?_
    refine wp_aload_n (j := 0) rfl q205_ok d205_36 ?_
    refine wp_cV q205_ok d205_37 ml_11_362 rfl q196_ok (u := 11) rfl (by first | assumption | exact so0 hsh rfl) rfl (Nat.le_of_ble_eq_true rfl) (Nat.le_of_ble_eq_true rfl) (m_back hsh hr (hS_pf hS1 f2)) (fun v37 μ37 hc => ?_)
    obtain ⟨rfl, d9, rfl, q9, hM9⟩ := hc
    refine ⟨mm_le_same rfl, ?_⟩
    refine wp_iload_n (j := 3) rfl q205_ok d205_40 ?_
    refine wp_iret q205_ok d205_41 rfl ?_
    exact ⟨by rw [if_neg h10], d9, rfl, qf_trans q1 (qf_trans (qf_pf f2) q9), hM9⟩
  · have h10 := Classical.not_not.mp h10
    refine wp_aload_n (j := 0) rfl q205_ok d205_13 ?_
    refine wp_getR q205_ok d205_14 fl_11_61 rfl (by first | assumption | exact so0 hsh rfl) (by first | assumption | exact hr _ _ _ rfl) ?_
    refine wp_iconst (v := 0) (by decide) q205_ok d205_17 ?_
    refine wp_iald (m := 2) q205_ok d205_18 (by first | assumption | exact so0 hsh rfl) (shl hsh (m := 2) (Nat.le_of_ble_eq_true rfl) rfl) (ixn_nI (j := 0) (by decide)) (hM2.2 0 (by decide)).1 ?_ (shK hsh)
    refine wp_goto (t := 35) rfl q205_ok d205_19 ?_
    refine wp_istore_n (j := 3) (Nat.le_of_ble_eq_true rfl) (rfl : _ = [_, _, _, _]) q205_ok d205_35 ?_
    refine wp_aload_n (j := 0) rfl q205_ok d205_36 ?_
    refine wp_cV q205_ok d205_37 ml_11_362 rfl q196_ok (u := 11) rfl (by first | assumption | exact so0 hsh rfl) rfl (Nat.le_of_ble_eq_true rfl) (Nat.le_of_ble_eq_true rfl) (m_back hsh hr (hS_pf hS1 f2)) (fun v37 μ37 hc => ?_)
    obtain ⟨rfl, d9, rfl, q9, hM9⟩ := hc
    refine ⟨mm_le_same rfl, ?_⟩
    refine wp_iload_n (j := 3) rfl q205_ok d205_40 ?_
    refine wp_iret q205_ok d205_41 rfl ?_
    exact ⟨by rw [if_pos h10], d9, rfl, qf_trans q1 (qf_trans (qf_pf f2) q9), hM9⟩
theorem m_turn_l {xs : List Int32} {ext : mm_X} {n : Nat} {sh : mm_S} {d : mm_D} {g : mm_G} {r : mm_R} {T : wo_T} {B : wo_A} (hsh : shp sh) (hr : rfx r) (hR : MR d T (o0 T)) {N : Nat} (hN : N < 2 ^ 31) : ∀ (z k : Nat) (d1 : mm_D), z + k = 2 ^ tnp T → tq 36 d d1 → hM d1 B → wp xs ext (n + 11) 206 14 [some (.ref 250), some (.int (nI N)), some (.int (turF (turG T B N) k)), some (.int (nI k))] [] (sh, d1, g, r) (fun v μ => v = some (.int (turF (turG T B N) (2 ^ tnp T))) ∧ ∃ d2, μ = (sh, d2, g, r) ∧ qf d d2 ∧ hM d2 B) := by
  have h6 := hR.1
  have hM64 := pw_le h6
  have hnp : ∀ d1, tq 36 d d1 → d1 250 26 = nI (tnp T) := fun d1 h => (h.2 26 (by decide) (by decide) (by decide) (by decide)).trans hR.2.2.2.1
  intro z
  induction z with
  | zero =>
    intro k d1 hz ht hM1
    have hvb : 2 ^ tnp T = k := by omega
    refine wp_iload_n (j := 3) rfl q206_ok d206_14 ?_
    refine wp_iconst (v := 1) (by decide) q206_ok d206_15 ?_
    refine wp_aload_n (j := 0) rfl q206_ok d206_16 ?_
    refine wp_getI q206_ok d206_17 fl_11_265 rfl (by first | assumption | exact so0 hsh rfl) (hnp d1 ht) ?_
    refine wp_ishl (pw_np h6) q206_ok d206_20 ?_
    refine wp_icmp_ge q206_ok d206_21 (t := 66) rfl (fun h21 => ?_) (fun h21 => ?_)
    · refine wp_aload_n (j := 0) rfl q206_ok d206_66 ?_
      refine wp_iconst (v := 0) (by decide) q206_ok d206_67 ?_
      refine wp_putI q206_ok d206_68 fl_11_298 rfl (by first | assumption | exact so0 hsh rfl) (Or.inl rfl) ?_
      refine wp_iload_n (j := 2) rfl q206_ok d206_71 ?_
      refine wp_iret q206_ok d206_72 rfl ?_
      rw [hvb]
      exact ⟨rfl, _, rfl, tq_fin ht hR.2.2.2.2.2.2.1, hM_up hM1 (by decide)⟩
    · exact absurd (nI_le (by omega) (by omega)) h21
  | succ z ih =>
    intro k d1 hz ht hM1
    have hlt : k < 2 ^ tnp T := by omega
    refine wp_iload_n (j := 3) rfl q206_ok d206_14 ?_
    refine wp_iconst (v := 1) (by decide) q206_ok d206_15 ?_
    refine wp_aload_n (j := 0) rfl q206_ok d206_16 ?_
    refine wp_getI q206_ok d206_17 fl_11_265 rfl (by first | assumption | exact so0 hsh rfl) (hnp d1 ht) ?_
    refine wp_ishl (pw_np h6) q206_ok d206_20 ?_
    refine wp_icmp_ge q206_ok d206_21 (t := 66) rfl (fun h21 => ?_) (fun h21 => ?_)
    · exact absurd h21 (nI_ge hlt (by omega))
    · refine wp_iload_n (j := 2) rfl q206_ok d206_24 ?_
      refine wp_iconst (v := -1) (by decide) q206_ok d206_25 ?_
      refine wp_icmp_eq q206_ok d206_26 (t := 40) rfl (fun h26 => ?_) (fun h26 => ?_)
      · refine wp_aload_n (j := 0) rfl q206_ok d206_40 ?_
        refine wp_iload_n (j := 3) rfl q206_ok d206_41 ?_
        refine wp_putI q206_ok d206_42 fl_11_298 rfl (by first | assumption | exact so0 hsh rfl) (Or.inl rfl) ?_
        refine wp_aload_n (j := 0) rfl q206_ok d206_45 ?_
        refine wp_iload_n (j := 1) rfl q206_ok d206_46 ?_
        refine wp_iconst (v := 0) (by decide) q206_ok d206_47 ?_
        refine wp_cV q206_ok d206_48 ml_11_375 rfl q205_ok (u := 11) rfl (by first | assumption | exact so0 hsh rfl) rfl (Nat.le_of_ble_eq_true rfl) (Nat.le_of_ble_eq_true rfl) (m_first (n := n) hsh hr (MR_aw hR ht (nI k)) (hM_up hM1 (by decide)) 0 hN) (fun v48 μ48 hc => ?_)
        obtain ⟨rfl, d2, rfl, f2, hM2⟩ := hc
        refine ⟨mm_le_same rfl, ?_⟩
        rw [if_pos rfl]
        refine wp_if_ne q206_ok d206_51 (t := 58) rfl (fun h51 => ?_) (fun h51 => ?_)
        · refine wp_iload_n (j := 2) rfl q206_ok d206_58 ?_
          refine wp_istore_n (j := 2) (Nat.le_of_ble_eq_true rfl) (rfl : _ = [_, _, _, _]) q206_ok d206_59 ?_
          refine wp_iinc (j := 3) rfl (by first | exact inc1 | rfl) (rfl : _ = [_, _, _, _]) q206_ok d206_60 ?_
          refine wp_goto (t := 14) rfl q206_ok d206_63 ?_
          have this := ih (k + 1) d2 (by omega) (tq_qf (tq_up ht) f2) hM2
          rw [turF, if_pos (Or.inl h26), if_neg (show ¬ (turG T B N) k = 0 from h51)] at this
          exact this
        · have h51 := Classical.not_not.mp h51
          refine wp_iload_n (j := 3) rfl q206_ok d206_54 ?_
          refine wp_goto (t := 59) rfl q206_ok d206_55 ?_
          refine wp_istore_n (j := 2) (Nat.le_of_ble_eq_true rfl) (rfl : _ = [_, _, _, _]) q206_ok d206_59 ?_
          refine wp_iinc (j := 3) rfl (by first | exact inc1 | rfl) (rfl : _ = [_, _, _, _]) q206_ok d206_60 ?_
          refine wp_goto (t := 14) rfl q206_ok d206_63 ?_
          have this := ih (k + 1) d2 (by omega) (tq_qf (tq_up ht) f2) hM2
          rw [turF, if_pos (Or.inl h26), if_pos (show (turG T B N) k = 0 from h51)] at this
          exact this
      · refine wp_iload_n (j := 3) rfl q206_ok d206_29 ?_
        refine wp_cS q206_ok d206_30 ml_11_370 rfl q225_ok rfl rfl rfl (Nat.le_of_ble_eq_true rfl) (Nat.le_of_ble_eq_true rfl) (c_bc _) (fun v30 μ30 hc => ?_)
        obtain ⟨rfl, rfl⟩ := hc
        refine ⟨mm_le_same rfl, ?_⟩
        refine wp_iload_n (j := 2) rfl q206_ok d206_33 ?_
        refine wp_cS q206_ok d206_34 ml_11_370 rfl q225_ok rfl rfl rfl (Nat.le_of_ble_eq_true rfl) (Nat.le_of_ble_eq_true rfl) (c_bc _) (fun v34 μ34 hc => ?_)
        obtain ⟨rfl, rfl⟩ := hc
        refine ⟨mm_le_same rfl, ?_⟩
        refine wp_icmp_ge q206_ok d206_37 (t := 60) rfl (fun h37 => ?_) (fun h37 => ?_)
        · refine wp_iinc (j := 3) rfl (by first | exact inc1 | rfl) (rfl : _ = [_, _, _, _]) q206_ok d206_60 ?_
          refine wp_goto (t := 14) rfl q206_ok d206_63 ?_
          have this := ih (k + 1) d1 (by omega) ht hM1
          rw [turF, if_neg (by rintro (q | q); exact h26 q; exact Int32.not_lt.mpr h37 q)] at this
          exact this
        · refine wp_aload_n (j := 0) rfl q206_ok d206_40 ?_
          refine wp_iload_n (j := 3) rfl q206_ok d206_41 ?_
          refine wp_putI q206_ok d206_42 fl_11_298 rfl (by first | assumption | exact so0 hsh rfl) (Or.inl rfl) ?_
          refine wp_aload_n (j := 0) rfl q206_ok d206_45 ?_
          refine wp_iload_n (j := 1) rfl q206_ok d206_46 ?_
          refine wp_iconst (v := 0) (by decide) q206_ok d206_47 ?_
          refine wp_cV q206_ok d206_48 ml_11_375 rfl q205_ok (u := 11) rfl (by first | assumption | exact so0 hsh rfl) rfl (Nat.le_of_ble_eq_true rfl) (Nat.le_of_ble_eq_true rfl) (m_first (n := n) hsh hr (MR_aw hR ht (nI k)) (hM_up hM1 (by decide)) 0 hN) (fun v48 μ48 hc => ?_)
          obtain ⟨rfl, d2, rfl, f2, hM2⟩ := hc
          refine ⟨mm_le_same rfl, ?_⟩
          rw [if_pos rfl]
          refine wp_if_ne q206_ok d206_51 (t := 58) rfl (fun h51 => ?_) (fun h51 => ?_)
          · refine wp_iload_n (j := 2) rfl q206_ok d206_58 ?_
            refine wp_istore_n (j := 2) (Nat.le_of_ble_eq_true rfl) (rfl : _ = [_, _, _, _]) q206_ok d206_59 ?_
            refine wp_iinc (j := 3) rfl (by first | exact inc1 | rfl) (rfl : _ = [_, _, _, _]) q206_ok d206_60 ?_
            refine wp_goto (t := 14) rfl q206_ok d206_63 ?_
            have this := ih (k + 1) d2 (by omega) (tq_qf (tq_up ht) f2) hM2
            rw [turF, if_pos (Or.inr (Int32.not_le.mp h37)), if_neg (show ¬ (turG T B N) k = 0 from h51)] at this
            exact this
          · have h51 := Classical.not_not.mp h51
            refine wp_iload_n (j := 3) rfl q206_ok d206_54 ?_
            refine wp_goto (t := 59) rfl q206_ok d206_55 ?_
            refine wp_istore_n (j := 2) (Nat.le_of_ble_eq_true rfl) (rfl : _ = [_, _, _, _]) q206_ok d206_59 ?_
            refine wp_iinc (j := 3) rfl (by first | exact inc1 | rfl) (rfl : _ = [_, _, _, _]) q206_ok d206_60 ?_
            refine wp_goto (t := 14) rfl q206_ok d206_63 ?_
            have this := ih (k + 1) d2 (by omega) (tq_qf (tq_up ht) f2) hM2
            rw [turF, if_pos (Or.inr (Int32.not_le.mp h37)), if_pos (show (turG T B N) k = 0 from h51)] at this
            exact this
theorem m_turn {xs : List Int32} {ext : mm_X} {n : Nat} {sh : mm_S} {d : mm_D} {g : mm_G} {r : mm_R} {T : wo_T} {B : wo_A} (hsh : shp sh) (hr : rfx r) (hR : MR d T (o0 T)) (hB : hM d B) (hbn : tnb T ≠ 0 → tnp T ≠ 0) (n1 : Int32) : wp xs ext (n + 12) 206 0 [some (.ref 250), some (.int n1), none, none] [] (sh, d, g, r) (fun v μ => v = some (.int (turnQ T B n1)) ∧ ∃ d2, μ = (sh, d2, g, r) ∧ qf d d2 ∧ hM d2 B) := by
  refine wp_aload_n (j := 0) rfl q206_ok d206_0 ?_
  refine wp_iload_n (j := 1) rfl q206_ok d206_1 ?_
  refine wp_cV q206_ok d206_2 ml_11_337 rfl q192_ok (u := 11) rfl (by first | assumption | exact so0 hsh rfl) rfl (Nat.le_of_ble_eq_true rfl) (Nat.le_of_ble_eq_true rfl) (m_are hsh hr _) (fun v2 μ2 hc => ?_)
  obtain ⟨rfl, rfl⟩ := hc
  refine ⟨mm_le_same rfl, ?_⟩
  rw [mare_v hR n1]
  by_cases hh : hasT T
  · skip
    by_cases c0 : ahdT n1
    · rw [if_pos ⟨hh, c0⟩]
      refine wp_if_ne q206_ok d206_5 (t := 10) rfl (fun h5 => ?_) (fun h5 => ?_)
      · obtain ⟨N, hN1, hN, hNe⟩ := ahd_of (fun e => (ahd_T n1).mp e c0)
        have hNc : n1.toNatClampNeg = N := by rw [hNe]; exact nI_clamp (by omega)
        subst hNe
        refine wp_iconst (v := -1) (by decide) q206_ok d206_10 ?_
        refine wp_istore_n (j := 2) (Nat.le_of_ble_eq_true rfl) (rfl : _ = [_, _, _, _]) q206_ok d206_11 ?_
        refine wp_iconst (v := 0) (by decide) q206_ok d206_12 ?_
        refine wp_istore_n (j := 3) (Nat.le_of_ble_eq_true rfl) (rfl : _ = [_, _, _, _]) q206_ok d206_13 ?_
        refine wp_post (m_turn_l hsh hr hR (show N < 2 ^ 31 by omega) (2 ^ tnp T) 0 d (by omega) (tq_refl 36 d) hB) (fun v μ hc => ?_)
        rw [turF_out hR.1] at hc
        obtain ⟨rfl, d9, rfl, q9, hM9⟩ := hc
        exact ⟨by unfold turnQ; rw [if_pos hh, if_pos c0, hNc], d9, rfl, q9, hM9⟩
      · have h5 := Classical.not_not.mp h5
        exact absurd h5 (by decide)
    · rw [if_neg (fun q => c0 q.2)]
      refine wp_if_ne q206_ok d206_5 (t := 10) rfl (fun h5 => ?_) (fun h5 => ?_)
      · exact absurd rfl h5
      · have h5 := Classical.not_not.mp h5
        refine wp_iconst (v := -1) (by decide) q206_ok d206_8 ?_
        refine wp_iret q206_ok d206_9 rfl ?_
        exact ⟨by unfold turnQ; rw [if_pos hh, if_neg c0], d, rfl, qf_refl d, hB⟩
  · rw [if_neg (fun q => hh q.1)]
    refine wp_if_ne q206_ok d206_5 (t := 10) rfl (fun h5 => ?_) (fun h5 => ?_)
    · exact absurd rfl h5
    · have h5 := Classical.not_not.mp h5
      refine wp_iconst (v := -1) (by decide) q206_ok d206_8 ?_
      refine wp_iret q206_ok d206_9 rfl ?_
      exact ⟨by unfold turnQ; rw [if_neg hh], d, rfl, qf_refl d, hB⟩
theorem m_stare_l {xs : List Int32} {ext : mm_X} {n : Nat} {sh : mm_S} {d : mm_D} {g : mm_G} {r : mm_R} {T : wo_T} {B : wo_A} (hsh : shp sh) (hr : rfx r) (hR : MR d T (o0 T)) {N : Nat} (hN : N < 2 ^ 31) : ∀ (z k : Nat) (d1 : mm_D), z + k = 2 ^ tnp T → tq 35 d d1 → hM d1 B → wp xs ext (n + 11) 207 14 [some (.ref 250), some (.int (nI N)), some (.int (turF (staG T B N) k)), some (.int (nI k))] [] (sh, d1, g, r) (fun v μ => v = some (.int (turF (staG T B N) (2 ^ tnp T))) ∧ ∃ d2, μ = (sh, d2, g, r) ∧ qf d d2 ∧ hM d2 B) := by
  have h6 := hR.1
  have hM64 := pw_le h6
  have hnp : ∀ d1, tq 35 d d1 → d1 250 26 = nI (tnp T) := fun d1 h => (h.2 26 (by decide) (by decide) (by decide) (by decide)).trans hR.2.2.2.1
  intro z
  induction z with
  | zero =>
    intro k d1 hz ht hM1
    have hvb : 2 ^ tnp T = k := by omega
    refine wp_iload_n (j := 3) rfl q207_ok d207_14 ?_
    refine wp_iconst (v := 1) (by decide) q207_ok d207_15 ?_
    refine wp_aload_n (j := 0) rfl q207_ok d207_16 ?_
    refine wp_getI q207_ok d207_17 fl_11_265 rfl (by first | assumption | exact so0 hsh rfl) (hnp d1 ht) ?_
    refine wp_ishl (pw_np h6) q207_ok d207_20 ?_
    refine wp_icmp_ge q207_ok d207_21 (t := 66) rfl (fun h21 => ?_) (fun h21 => ?_)
    · refine wp_aload_n (j := 0) rfl q207_ok d207_66 ?_
      refine wp_iconst (v := 0) (by decide) q207_ok d207_67 ?_
      refine wp_putI q207_ok d207_68 fl_11_295 rfl (by first | assumption | exact so0 hsh rfl) (Or.inl rfl) ?_
      refine wp_iload_n (j := 2) rfl q207_ok d207_71 ?_
      refine wp_iret q207_ok d207_72 rfl ?_
      rw [hvb]
      exact ⟨rfl, _, rfl, tq_fin ht hR.2.2.2.2.2.1, hM_up hM1 (by decide)⟩
    · exact absurd (nI_le (by omega) (by omega)) h21
  | succ z ih =>
    intro k d1 hz ht hM1
    have hlt : k < 2 ^ tnp T := by omega
    refine wp_iload_n (j := 3) rfl q207_ok d207_14 ?_
    refine wp_iconst (v := 1) (by decide) q207_ok d207_15 ?_
    refine wp_aload_n (j := 0) rfl q207_ok d207_16 ?_
    refine wp_getI q207_ok d207_17 fl_11_265 rfl (by first | assumption | exact so0 hsh rfl) (hnp d1 ht) ?_
    refine wp_ishl (pw_np h6) q207_ok d207_20 ?_
    refine wp_icmp_ge q207_ok d207_21 (t := 66) rfl (fun h21 => ?_) (fun h21 => ?_)
    · exact absurd h21 (nI_ge hlt (by omega))
    · refine wp_iload_n (j := 2) rfl q207_ok d207_24 ?_
      refine wp_iconst (v := -1) (by decide) q207_ok d207_25 ?_
      refine wp_icmp_eq q207_ok d207_26 (t := 40) rfl (fun h26 => ?_) (fun h26 => ?_)
      · refine wp_aload_n (j := 0) rfl q207_ok d207_40 ?_
        refine wp_iload_n (j := 3) rfl q207_ok d207_41 ?_
        refine wp_putI q207_ok d207_42 fl_11_295 rfl (by first | assumption | exact so0 hsh rfl) (Or.inl rfl) ?_
        refine wp_aload_n (j := 0) rfl q207_ok d207_45 ?_
        refine wp_iload_n (j := 1) rfl q207_ok d207_46 ?_
        refine wp_iconst (v := 1) (by decide) q207_ok d207_47 ?_
        refine wp_cV q207_ok d207_48 ml_11_375 rfl q205_ok (u := 11) rfl (by first | assumption | exact so0 hsh rfl) rfl (Nat.le_of_ble_eq_true rfl) (Nat.le_of_ble_eq_true rfl) (m_first (n := n) hsh hr (MR_st hR ht (nI k)) (hM_up hM1 (by decide)) 1 hN) (fun v48 μ48 hc => ?_)
        obtain ⟨rfl, d2, rfl, f2, hM2⟩ := hc
        refine ⟨mm_le_same rfl, ?_⟩
        rw [if_neg (show ¬ (1 : Int32) = 0 from by decide)]
        refine wp_if_ne q207_ok d207_51 (t := 58) rfl (fun h51 => ?_) (fun h51 => ?_)
        · refine wp_iload_n (j := 2) rfl q207_ok d207_58 ?_
          refine wp_istore_n (j := 2) (Nat.le_of_ble_eq_true rfl) (rfl : _ = [_, _, _, _]) q207_ok d207_59 ?_
          refine wp_iinc (j := 3) rfl (by first | exact inc1 | rfl) (rfl : _ = [_, _, _, _]) q207_ok d207_60 ?_
          refine wp_goto (t := 14) rfl q207_ok d207_63 ?_
          have this := ih (k + 1) d2 (by omega) (tq_qf (tq_up ht) f2) hM2
          rw [turF, if_pos (Or.inl h26), if_neg (show ¬ (staG T B N) k = 0 from h51)] at this
          exact this
        · have h51 := Classical.not_not.mp h51
          refine wp_iload_n (j := 3) rfl q207_ok d207_54 ?_
          refine wp_goto (t := 59) rfl q207_ok d207_55 ?_
          refine wp_istore_n (j := 2) (Nat.le_of_ble_eq_true rfl) (rfl : _ = [_, _, _, _]) q207_ok d207_59 ?_
          refine wp_iinc (j := 3) rfl (by first | exact inc1 | rfl) (rfl : _ = [_, _, _, _]) q207_ok d207_60 ?_
          refine wp_goto (t := 14) rfl q207_ok d207_63 ?_
          have this := ih (k + 1) d2 (by omega) (tq_qf (tq_up ht) f2) hM2
          rw [turF, if_pos (Or.inl h26), if_pos (show (staG T B N) k = 0 from h51)] at this
          exact this
      · refine wp_iload_n (j := 3) rfl q207_ok d207_29 ?_
        refine wp_cS q207_ok d207_30 ml_11_370 rfl q225_ok rfl rfl rfl (Nat.le_of_ble_eq_true rfl) (Nat.le_of_ble_eq_true rfl) (c_bc _) (fun v30 μ30 hc => ?_)
        obtain ⟨rfl, rfl⟩ := hc
        refine ⟨mm_le_same rfl, ?_⟩
        refine wp_iload_n (j := 2) rfl q207_ok d207_33 ?_
        refine wp_cS q207_ok d207_34 ml_11_370 rfl q225_ok rfl rfl rfl (Nat.le_of_ble_eq_true rfl) (Nat.le_of_ble_eq_true rfl) (c_bc _) (fun v34 μ34 hc => ?_)
        obtain ⟨rfl, rfl⟩ := hc
        refine ⟨mm_le_same rfl, ?_⟩
        refine wp_icmp_ge q207_ok d207_37 (t := 60) rfl (fun h37 => ?_) (fun h37 => ?_)
        · refine wp_iinc (j := 3) rfl (by first | exact inc1 | rfl) (rfl : _ = [_, _, _, _]) q207_ok d207_60 ?_
          refine wp_goto (t := 14) rfl q207_ok d207_63 ?_
          have this := ih (k + 1) d1 (by omega) ht hM1
          rw [turF, if_neg (by rintro (q | q); exact h26 q; exact Int32.not_lt.mpr h37 q)] at this
          exact this
        · refine wp_aload_n (j := 0) rfl q207_ok d207_40 ?_
          refine wp_iload_n (j := 3) rfl q207_ok d207_41 ?_
          refine wp_putI q207_ok d207_42 fl_11_295 rfl (by first | assumption | exact so0 hsh rfl) (Or.inl rfl) ?_
          refine wp_aload_n (j := 0) rfl q207_ok d207_45 ?_
          refine wp_iload_n (j := 1) rfl q207_ok d207_46 ?_
          refine wp_iconst (v := 1) (by decide) q207_ok d207_47 ?_
          refine wp_cV q207_ok d207_48 ml_11_375 rfl q205_ok (u := 11) rfl (by first | assumption | exact so0 hsh rfl) rfl (Nat.le_of_ble_eq_true rfl) (Nat.le_of_ble_eq_true rfl) (m_first (n := n) hsh hr (MR_st hR ht (nI k)) (hM_up hM1 (by decide)) 1 hN) (fun v48 μ48 hc => ?_)
          obtain ⟨rfl, d2, rfl, f2, hM2⟩ := hc
          refine ⟨mm_le_same rfl, ?_⟩
          rw [if_neg (show ¬ (1 : Int32) = 0 from by decide)]
          refine wp_if_ne q207_ok d207_51 (t := 58) rfl (fun h51 => ?_) (fun h51 => ?_)
          · refine wp_iload_n (j := 2) rfl q207_ok d207_58 ?_
            refine wp_istore_n (j := 2) (Nat.le_of_ble_eq_true rfl) (rfl : _ = [_, _, _, _]) q207_ok d207_59 ?_
            refine wp_iinc (j := 3) rfl (by first | exact inc1 | rfl) (rfl : _ = [_, _, _, _]) q207_ok d207_60 ?_
            refine wp_goto (t := 14) rfl q207_ok d207_63 ?_
            have this := ih (k + 1) d2 (by omega) (tq_qf (tq_up ht) f2) hM2
            rw [turF, if_pos (Or.inr (Int32.not_le.mp h37)), if_neg (show ¬ (staG T B N) k = 0 from h51)] at this
            exact this
          · have h51 := Classical.not_not.mp h51
            refine wp_iload_n (j := 3) rfl q207_ok d207_54 ?_
            refine wp_goto (t := 59) rfl q207_ok d207_55 ?_
            refine wp_istore_n (j := 2) (Nat.le_of_ble_eq_true rfl) (rfl : _ = [_, _, _, _]) q207_ok d207_59 ?_
            refine wp_iinc (j := 3) rfl (by first | exact inc1 | rfl) (rfl : _ = [_, _, _, _]) q207_ok d207_60 ?_
            refine wp_goto (t := 14) rfl q207_ok d207_63 ?_
            have this := ih (k + 1) d2 (by omega) (tq_qf (tq_up ht) f2) hM2
            rw [turF, if_pos (Or.inr (Int32.not_le.mp h37)), if_pos (show (staG T B N) k = 0 from h51)] at this
            exact this
theorem m_stare {xs : List Int32} {ext : mm_X} {n : Nat} {sh : mm_S} {d : mm_D} {g : mm_G} {r : mm_R} {T : wo_T} {B : wo_A} (hsh : shp sh) (hr : rfx r) (hR : MR d T (o0 T)) (hB : hM d B) (hbn : tnb T ≠ 0 → tnp T ≠ 0) (n1 : Int32) : wp xs ext (n + 12) 207 0 [some (.ref 250), some (.int n1), none, none] [] (sh, d, g, r) (fun v μ => v = some (.int (stareQ T B n1)) ∧ ∃ d2, μ = (sh, d2, g, r) ∧ qf d d2 ∧ hM d2 B) := by
  refine wp_aload_n (j := 0) rfl q207_ok d207_0 ?_
  refine wp_iload_n (j := 1) rfl q207_ok d207_1 ?_
  refine wp_cV q207_ok d207_2 ml_11_337 rfl q192_ok (u := 11) rfl (by first | assumption | exact so0 hsh rfl) rfl (Nat.le_of_ble_eq_true rfl) (Nat.le_of_ble_eq_true rfl) (m_are hsh hr _) (fun v2 μ2 hc => ?_)
  obtain ⟨rfl, rfl⟩ := hc
  refine ⟨mm_le_same rfl, ?_⟩
  rw [mare_v hR n1]
  by_cases hh : hasT T
  · skip
    by_cases c0 : ahdT n1
    · rw [if_pos ⟨hh, c0⟩]
      refine wp_if_ne q207_ok d207_5 (t := 10) rfl (fun h5 => ?_) (fun h5 => ?_)
      · obtain ⟨N, hN1, hN, hNe⟩ := ahd_of (fun e => (ahd_T n1).mp e c0)
        have hNc : n1.toNatClampNeg = N := by rw [hNe]; exact nI_clamp (by omega)
        subst hNe
        refine wp_iconst (v := -1) (by decide) q207_ok d207_10 ?_
        refine wp_istore_n (j := 2) (Nat.le_of_ble_eq_true rfl) (rfl : _ = [_, _, _, _]) q207_ok d207_11 ?_
        refine wp_iconst (v := 0) (by decide) q207_ok d207_12 ?_
        refine wp_istore_n (j := 3) (Nat.le_of_ble_eq_true rfl) (rfl : _ = [_, _, _, _]) q207_ok d207_13 ?_
        refine wp_post (m_stare_l hsh hr hR (show N < 2 ^ 31 by omega) (2 ^ tnp T) 0 d (by omega) (tq_refl 35 d) hB) (fun v μ hc => ?_)
        rw [turF_out hR.1] at hc
        obtain ⟨rfl, d9, rfl, q9, hM9⟩ := hc
        exact ⟨by unfold stareQ; rw [if_pos hh, if_pos c0, hNc], d9, rfl, q9, hM9⟩
      · have h5 := Classical.not_not.mp h5
        exact absurd h5 (by decide)
    · rw [if_neg (fun q => c0 q.2)]
      refine wp_if_ne q207_ok d207_5 (t := 10) rfl (fun h5 => ?_) (fun h5 => ?_)
      · exact absurd rfl h5
      · have h5 := Classical.not_not.mp h5
        refine wp_iconst (v := -1) (by decide) q207_ok d207_8 ?_
        refine wp_iret q207_ok d207_9 rfl ?_
        exact ⟨by unfold stareQ; rw [if_pos hh, if_neg c0], d, rfl, qf_refl d, hB⟩
  · rw [if_neg (fun q => hh q.1)]
    refine wp_if_ne q207_ok d207_5 (t := 10) rfl (fun h5 => ?_) (fun h5 => ?_)
    · exact absurd rfl h5
    · have h5 := Classical.not_not.mp h5
      refine wp_iconst (v := -1) (by decide) q207_ok d207_8 ?_
      refine wp_iret q207_ok d207_9 rfl ?_
      exact ⟨by unfold stareQ; rw [if_neg hh], d, rfl, qf_refl d, hB⟩
theorem m_spo_l {xs : List Int32} {ext : mm_X} {n : Nat} {sh : mm_S} {d : mm_D} {g : mm_G} {r : mm_R} {T : wo_T} {B : wo_A} (hsh : shp sh) (hr : rfx r) (hR : MR d T (o0 T)) {N : Nat} (w : Int32) (hN : N < 2 ^ 31) : ∀ (z k : Nat) (d1 : mm_D) (u6 : Option Value), z + k = tnp T → tq 36 d d1 → hM d1 B → wp xs ext (n + 10) 209 27 [some (.ref 250), some (.int (nI N)), some (.int w), some (.int (obA (fun p => lateA T (awO T (bitC p)) B 0 N) k).1), some (.int (obA (fun p => lateA T (awO T (bitC p)) B 0 N) k).2), some (.int (nI k)), u6] [] (sh, d1, g, r) (fun v μ => v = some (.int (if w = 0 then (obA (fun p => lateA T (awO T (bitC p)) B 0 N) (tnp T)).1 else (obA (fun p => lateA T (awO T (bitC p)) B 0 N) (tnp T)).2)) ∧ ∃ d2, μ = (sh, d2, g, r) ∧ qf d d2 ∧ hM d2 B) := by
  have h6 := hR.1
  have hnp : ∀ d1, tq 36 d d1 → d1 250 26 = nI (tnp T) := fun d1 h => (h.2 26 (by decide) (by decide) (by decide) (by decide)).trans hR.2.2.2.1
  intro z
  induction z with
  | zero =>
    intro k d1 u6 hz ht hM1
    have hvb : k = tnp T := by omega
    subst hvb
    refine wp_iload (j := 5) rfl q209_ok d209_27 ?_
    refine wp_aload_n (j := 0) rfl q209_ok d209_29 ?_
    refine wp_getI q209_ok d209_30 fl_11_265 rfl (by first | assumption | exact so0 hsh rfl) (hnp d1 ht) ?_
    refine wp_icmp_ge q209_ok d209_33 (t := 77) rfl (fun h33 => ?_) (fun h33 => ?_)
    · refine wp_aload_n (j := 0) rfl q209_ok d209_77 ?_
      refine wp_iconst (v := 0) (by decide) q209_ok d209_78 ?_
      refine wp_putI q209_ok d209_79 fl_11_298 rfl (by first | assumption | exact so0 hsh rfl) (Or.inl rfl) ?_
      refine wp_iload_n (j := 2) rfl q209_ok d209_82 ?_
      refine wp_if_ne q209_ok d209_83 (t := 90) rfl (fun h83 => ?_) (fun h83 => ?_)
      · refine wp_iload (j := 4) rfl q209_ok d209_90 ?_
        refine wp_iret q209_ok d209_92 rfl ?_
        exact ⟨by rw [if_neg h83], _, rfl, tq_fin ht hR.2.2.2.2.2.2.1, hM_up hM1 (by decide)⟩
      · have h83 := Classical.not_not.mp h83
        refine wp_iload_n (j := 3) rfl q209_ok d209_86 ?_
        refine wp_goto (t := 92) rfl q209_ok d209_87 ?_
        refine wp_iret q209_ok d209_92 rfl ?_
        exact ⟨by rw [if_pos h83], _, rfl, tq_fin ht hR.2.2.2.2.2.2.1, hM_up hM1 (by decide)⟩
    · exact absurd (nI_le (Nat.le_refl _) (by omega)) h33
  | succ z ih =>
    intro k d1 u6 hz ht hM1
    have hlt : k < tnp T := by omega
    refine wp_iload (j := 5) rfl q209_ok d209_27 ?_
    refine wp_aload_n (j := 0) rfl q209_ok d209_29 ?_
    refine wp_getI q209_ok d209_30 fl_11_265 rfl (by first | assumption | exact so0 hsh rfl) (hnp d1 ht) ?_
    refine wp_icmp_ge q209_ok d209_33 (t := 77) rfl (fun h33 => ?_) (fun h33 => ?_)
    · exact absurd h33 (nI_ge hlt (by omega))
    · refine wp_aload_n (j := 0) rfl q209_ok d209_36 ?_
      refine wp_iconst (v := 1) (by decide) q209_ok d209_37 ?_
      refine wp_iload (j := 5) rfl q209_ok d209_38 ?_
      refine wp_ishl rfl q209_ok d209_40 ?_
      refine wp_putI q209_ok d209_41 fl_11_298 rfl (by first | assumption | exact so0 hsh rfl) (Or.inl rfl) ?_
      refine wp_aload_n (j := 0) rfl q209_ok d209_44 ?_
      refine wp_iconst (v := 0) (by decide) q209_ok d209_45 ?_
      refine wp_iload_n (j := 1) rfl q209_ok d209_46 ?_
      refine wp_cV q209_ok d209_47 ml_11_365 rfl q200_ok (u := 11) rfl (by first | assumption | exact so0 hsh rfl) rfl (Nat.le_of_ble_eq_true rfl) (Nat.le_of_ble_eq_true rfl) (m_lateOf (n := n) (b := 0) hsh hr (MR_aw hR ht (bitC k)) (hM_up hM1 (by decide)) hN (by decide)) (fun v47 μ47 hc => ?_)
      obtain ⟨rfl, d2, rfl, f2, hM2⟩ := hc
      refine ⟨mm_le_same rfl, ?_⟩
      refine wp_istore (j := 6) (Nat.le_of_ble_eq_true rfl) (rfl : _ = [_, _, _, _, _, _, _]) q209_ok d209_50 ?_
      refine wp_iload_n (j := 3) rfl q209_ok d209_52 ?_
      refine wp_iconst (v := -1) (by decide) q209_ok d209_53 ?_
      refine wp_icmp_eq q209_ok d209_54 (t := 64) rfl (fun h54 => ?_) (fun h54 => ?_)
      · refine wp_iload (j := 5) rfl q209_ok d209_64 ?_
        refine wp_istore_n (j := 3) (Nat.le_of_ble_eq_true rfl) (rfl : _ = [_, _, _, _, _, _, _]) q209_ok d209_66 ?_
        refine wp_iload (j := 6) rfl q209_ok d209_67 ?_
        refine wp_istore (j := 4) (Nat.le_of_ble_eq_true rfl) (rfl : _ = [_, _, _, _, _, _, _]) q209_ok d209_69 ?_
        refine wp_iinc (j := 5) rfl (by first | exact inc1 | rfl) (rfl : _ = [_, _, _, _, _, _, _]) q209_ok d209_71 ?_
        refine wp_goto (t := 27) rfl q209_ok d209_74 ?_
        have this := ih (k + 1) d2 (some (.int (lateA T (awO T (bitC k)) B 0 N))) (by omega) (tq_qf (tq_up ht) f2) hM2
        rw [obA, if_pos (Or.inl h54)] at this
        exact this
      · refine wp_iload (j := 6) rfl q209_ok d209_57 ?_
        refine wp_iload (j := 4) rfl q209_ok d209_59 ?_
        refine wp_icmp_ge q209_ok d209_61 (t := 71) rfl (fun h61 => ?_) (fun h61 => ?_)
        · refine wp_iinc (j := 5) rfl (by first | exact inc1 | rfl) (rfl : _ = [_, _, _, _, _, _, _]) q209_ok d209_71 ?_
          refine wp_goto (t := 27) rfl q209_ok d209_74 ?_
          have this := ih (k + 1) d2 (some (.int (lateA T (awO T (bitC k)) B 0 N))) (by omega) (tq_qf (tq_up ht) f2) hM2
          rw [obA, if_neg (by rintro (q | q); exact h54 q; exact Int32.not_lt.mpr h61 q)] at this
          exact this
        · refine wp_iload (j := 5) rfl q209_ok d209_64 ?_
          refine wp_istore_n (j := 3) (Nat.le_of_ble_eq_true rfl) (rfl : _ = [_, _, _, _, _, _, _]) q209_ok d209_66 ?_
          refine wp_iload (j := 6) rfl q209_ok d209_67 ?_
          refine wp_istore (j := 4) (Nat.le_of_ble_eq_true rfl) (rfl : _ = [_, _, _, _, _, _, _]) q209_ok d209_69 ?_
          refine wp_iinc (j := 5) rfl (by first | exact inc1 | rfl) (rfl : _ = [_, _, _, _, _, _, _]) q209_ok d209_71 ?_
          refine wp_goto (t := 27) rfl q209_ok d209_74 ?_
          have this := ih (k + 1) d2 (some (.int (lateA T (awO T (bitC k)) B 0 N))) (by omega) (tq_qf (tq_up ht) f2) hM2
          rw [obA, if_pos (Or.inr (Int32.not_le.mp h61))] at this
          exact this
theorem m_spoil {xs : List Int32} {ext : mm_X} {n : Nat} {sh : mm_S} {d : mm_D} {g : mm_G} {r : mm_R} {T : wo_T} {B : wo_A} (hsh : shp sh) (hr : rfx r) (hR : MR d T (o0 T)) (hB : hM d B) (hbn : tnb T ≠ 0 → tnp T ≠ 0) (n1 w : Int32) : wp xs ext (n + 11) 209 0 [some (.ref 250), some (.int n1), some (.int w), none, none, none, none] [] (sh, d, g, r) (fun v μ => v = some (.int (spoilQ T B n1 w)) ∧ ∃ d2, μ = (sh, d2, g, r) ∧ qf d d2 ∧ hM d2 B) := by
  refine wp_aload_n (j := 0) rfl q209_ok d209_0 ?_
  refine wp_iload_n (j := 1) rfl q209_ok d209_1 ?_
  refine wp_cV q209_ok d209_2 ml_11_337 rfl q192_ok (u := 11) rfl (by first | assumption | exact so0 hsh rfl) rfl (Nat.le_of_ble_eq_true rfl) (Nat.le_of_ble_eq_true rfl) (m_are hsh hr _) (fun v2 μ2 hc => ?_)
  obtain ⟨rfl, rfl⟩ := hc
  refine ⟨mm_le_same rfl, ?_⟩
  rw [mare_v hR n1]
  by_cases hh : hasT T
  · skip
    by_cases c0 : ahdT n1
    · rw [if_pos ⟨hh, c0⟩]
      refine wp_if_eq q209_ok d209_5 (t := 17) rfl (fun h5 => ?_) (fun h5 => ?_)
      · exact absurd h5 (by decide)
      · refine wp_iload_n (j := 2) rfl q209_ok d209_8 ?_
        refine wp_iconst (v := 0) (by decide) q209_ok d209_9 ?_
        refine wp_iconst (v := 1) (by decide) q209_ok d209_10 ?_
        refine wp_cS q209_ok d209_11 ml_11_218 rfl q133_ok rfl rfl rfl (Nat.le_of_ble_eq_true rfl) (Nat.le_of_ble_eq_true rfl) (m_in _ _ _) (fun v11 μ11 hc => ?_)
        obtain ⟨rfl, rfl⟩ := hc
        refine ⟨mm_le_same rfl, ?_⟩
        by_cases c1 : whT w
        · rw [if_pos c1]
          refine wp_if_ne q209_ok d209_14 (t := 19) rfl (fun h14 => ?_) (fun h14 => ?_)
          · obtain ⟨N, hN1, hN, hNe⟩ := ahd_of (fun e => (ahd_T n1).mp e c0)
            have hNc : n1.toNatClampNeg = N := by rw [hNe]; exact nI_clamp (by omega)
            subst hNe
            refine wp_iconst (v := -1) (by decide) q209_ok d209_19 ?_
            refine wp_istore_n (j := 3) (Nat.le_of_ble_eq_true rfl) (rfl : _ = [_, _, _, _, _, _, _]) q209_ok d209_20 ?_
            refine wp_iconst (v := 0) (by decide) q209_ok d209_21 ?_
            refine wp_istore (j := 4) (Nat.le_of_ble_eq_true rfl) (rfl : _ = [_, _, _, _, _, _, _]) q209_ok d209_22 ?_
            refine wp_iconst (v := 0) (by decide) q209_ok d209_24 ?_
            refine wp_istore (j := 5) (Nat.le_of_ble_eq_true rfl) (rfl : _ = [_, _, _, _, _, _, _]) q209_ok d209_25 ?_
            refine wp_post (m_spo_l hsh hr hR w (show N < 2 ^ 31 by omega) (tnp T) 0 d none (by omega) (tq_refl 36 d) hB) (fun v μ hc => ?_)
            obtain ⟨rfl, d9, rfl, q9, hM9⟩ := hc
            exact ⟨by unfold spoilQ; rw [if_pos hh, if_pos c0, if_pos c1, hNc], d9, rfl, q9, hM9⟩
          · have h14 := Classical.not_not.mp h14
            exact absurd h14 (by decide)
        · rw [if_neg c1]
          refine wp_if_ne q209_ok d209_14 (t := 19) rfl (fun h14 => ?_) (fun h14 => ?_)
          · exact absurd rfl h14
          · have h14 := Classical.not_not.mp h14
            refine wp_iconst (v := -1) (by decide) q209_ok d209_17 ?_
            refine wp_iret q209_ok d209_18 rfl ?_
            exact ⟨by unfold spoilQ; rw [if_pos hh, if_pos c0, if_neg c1], d, rfl, qf_refl d, hB⟩
    · rw [if_neg (fun q => c0 q.2)]
      refine wp_if_eq q209_ok d209_5 (t := 17) rfl (fun h5 => ?_) (fun h5 => ?_)
      · refine wp_iconst (v := -1) (by decide) q209_ok d209_17 ?_
        refine wp_iret q209_ok d209_18 rfl ?_
        exact ⟨by unfold spoilQ; rw [if_pos hh, if_neg c0], d, rfl, qf_refl d, hB⟩
      · exact absurd rfl h5
  · rw [if_neg (fun q => hh q.1)]
    refine wp_if_eq q209_ok d209_5 (t := 17) rfl (fun h5 => ?_) (fun h5 => ?_)
    · refine wp_iconst (v := -1) (by decide) q209_ok d209_17 ?_
      refine wp_iret q209_ok d209_18 rfl ?_
      exact ⟨by unfold spoilQ; rw [if_neg hh], d, rfl, qf_refl d, hB⟩
    · exact absurd rfl h5
