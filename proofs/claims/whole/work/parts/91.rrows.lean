/-! ===== the model reads: its rows, its places ===== -/
theorem sgm_app {d : mm_D} : ∀ {cs ds : List Int32} {a : Nat}, segM d a (cs ++ ds) ↔ segM d a cs ∧ segM d (a + cs.length) ds
  | [], ds, a => ⟨fun h => ⟨trivial, h⟩, fun h => h.2⟩
  | c :: cs, ds, a => by
    show tokR d a c ∧ segM d (a + 1) (cs ++ ds) ↔ (tokR d a c ∧ segM d (a + 1) cs) ∧ segM d (a + (cs.length + 1)) ds
    rw [sgm_app, show a + 1 + cs.length = a + (cs.length + 1) by omega, and_assoc]
theorem tok_eq {d d2 : mm_D} {a : Nat} {c : Int32} (h1 : d2 252 a = d 252 a) (h2 : d2 253 a = d 253 a) (h : tokR d a c) : tokR d2 a c := by
  unfold tokR at h ⊢
  rw [h1, h2]
  exact h
theorem seg_eq {d d2 : mm_D} : ∀ {cs : List Int32} {a : Nat}, (∀ i, a ≤ i → i < a + cs.length → d2 252 i = d 252 i ∧ d2 253 i = d 253 i) → segM d a cs → segM d2 a cs
  | [], _, _, _ => trivial
  | c :: cs, a, he, hs => by
    have hl : (c :: cs).length = cs.length + 1 := rfl
    exact ⟨tok_eq (he a (Nat.le_refl _) (by omega)).1 (he a (Nat.le_refl _) (by omega)).2 hs.1, seg_eq (fun i h1 h2 => he i (by omega) (by omega)) hs.2⟩
/-- reading, nothing wrong so far: the place, the depth, the row, the codes so far -/
def MS (d : mm_D) (L : wo_P) (t k p s : Nat) (cs : List Int32) : Prop := tapM d L ∧ (d 250 3 = nI p ∧ p ≤ L.1) ∧ d 250 4 = -1 ∧ d 250 5 = nI (6 - k) ∧ (d 250 14 = nI t ∧ t ≤ 4) ∧ d 254 t = nI cs.length ∧ cs.length + s ≤ p ∧ segM d (340 * t) cs
/-- something wrong -/
def WS (d : mm_D) (L : wo_P) (t w s b : Nat) : Prop := (d 250 4 = nI w ∧ w ≤ L.1 ∧ L.1 ≤ 160) ∧ (d 250 14 = nI t ∧ t ≤ 4) ∧ ∃ a c, (d 250 3 = nI a ∧ d 254 t = nI c) ∧ c + s ≤ a ∧ a ≤ b
def xf (t : Nat) (d d2 : mm_D) : Prop := (∀ c, c ≠ 250 → ¬ (252 ≤ c ∧ c < 255) → d2 c = d c) ∧ (∀ j, j ≠ 3 → j ≠ 4 → j ≠ 5 → d2 250 j = d 250 j) ∧ (∀ i, i < 340 * t → d2 252 i = d 252 i ∧ d2 253 i = d 253 i) ∧ (∀ j, j ≠ t → d2 254 j = d 254 j)
theorem xf_refl (t : Nat) (d : mm_D) : xf t d d := ⟨fun _ _ _ => rfl, fun _ _ _ _ => rfl, fun _ _ => ⟨rfl, rfl⟩, fun _ _ => rfl⟩
theorem xf_trans {t : Nat} {d d1 d2 : mm_D} (h : xf t d d1) (h' : xf t d1 d2) : xf t d d2 := ⟨fun c a b => (h'.1 c a b).trans (h.1 c a b), fun j a b e => (h'.2.1 j a b e).trans (h.2.1 j a b e), fun i hi => ⟨(h'.2.2.1 i hi).1.trans (h.2.2.1 i hi).1, (h'.2.2.1 i hi).2.trans (h.2.2.1 i hi).2⟩, fun j hj => (h'.2.2.2 j hj).trans (h.2.2.2 j hj)⟩
theorem xf_250 {t : Nat} {d : mm_D} {k : Nat} {v : Int32} (hk : k = 3 ∨ k = 4 ∨ k = 5) : xf t d (mm_up d 250 k v) := ⟨fun c a _ => mm_up_ne a, fun j a b e => (mm_up_at j).trans (if_neg (by omega)), fun i _ => ⟨rfl, rfl⟩, fun j _ => rfl⟩
theorem xf_3 {t : Nat} {d : mm_D} {v : Int32} : xf t d (mm_up d 250 3 v) := xf_250 (Or.inl rfl)
theorem xf_4 {t : Nat} {d : mm_D} {v : Int32} : xf t d (mm_up d 250 4 v) := xf_250 (Or.inr (Or.inl rfl))
theorem xf_5 {t : Nat} {d : mm_D} {v : Int32} : xf t d (mm_up d 250 5 v) := xf_250 (Or.inr (Or.inr rfl))
def putD (d : mm_D) (t c : Nat) (x v : Int32) : mm_D := mm_up (mm_up (mm_up d 252 (340 * t + c) x) 253 (340 * t + c) v) 254 t (nI (c + 1))
theorem putD_252 (d : mm_D) (t c : Nat) (x v : Int32) (i : Nat) : putD d t c x v 252 i = if i = 340 * t + c then x else d 252 i := by
  show mm_up d 252 (340 * t + c) x 252 i = _
  exact mm_up_at i
theorem putD_253 (d : mm_D) (t c : Nat) (x v : Int32) (i : Nat) : putD d t c x v 253 i = if i = 340 * t + c then v else d 253 i := by
  show mm_up (mm_up d 252 (340 * t + c) x) 253 (340 * t + c) v 253 i = _
  exact mm_up_at i
theorem putD_254 (d : mm_D) (t c : Nat) (x v : Int32) (i : Nat) : putD d t c x v 254 i = if i = t then nI (c + 1) else d 254 i := mm_up_at i
theorem xf_put {t : Nat} {d : mm_D} {c : Nat} {x v : Int32} : xf t d (putD d t c x v) := ⟨fun e a b => by unfold putD; rw [mm_up_ne (by omega), mm_up_ne (by omega), mm_up_ne (by omega)], fun j _ _ _ => rfl, fun i hi => ⟨by rw [putD_252, if_neg (by omega)], by rw [putD_253, if_neg (by omega)]⟩, fun j hj => by rw [putD_254, if_neg hj]⟩
theorem MS_at {d : mm_D} {L : wo_P} {t k p s : Nat} {cs : List Int32} (h : MS d L t k p s cs) {q s2 : Nat} (hq : q ≤ L.1) (hs : cs.length + s2 ≤ q) : MS (mm_up d 250 3 (nI q)) L t k q s2 cs := by
  obtain ⟨a1, a2, a3, a4, a5, a6, a7, a8⟩ := h
  exact ⟨tapM_250 a1 (by decide), ⟨(mm_up_at 3).trans (if_pos rfl), hq⟩, a3, a4, a5, a6, hs, seg_eq (d := d) (fun i _ _ => ⟨rfl, rfl⟩) a8⟩
theorem MS_s {d : mm_D} {L : wo_P} {t k p s s2 : Nat} {cs : List Int32} (h : MS d L t k p s cs) (hs : cs.length + s2 ≤ p) : MS d L t k p s2 cs := by
  obtain ⟨a1, a2, a3, a4, a5, a6, a7, a8⟩ := h
  exact ⟨a1, a2, a3, a4, a5, a6, hs, a8⟩
theorem MS_deep {d : mm_D} {L : wo_P} {t k p s : Nat} {cs : List Int32} (h : MS d L t k p s cs) (k2 : Nat) : MS (mm_up d 250 5 (nI (6 - k2))) L t k2 p s cs := by
  obtain ⟨a1, a2, a3, a4, a5, a6, a7, a8⟩ := h
  exact ⟨tapM_250 a1 (by decide), a2, a3, (mm_up_at 5).trans (if_pos rfl), a5, a6, a7, seg_eq (d := d) (fun i _ _ => ⟨rfl, rfl⟩) a8⟩
def tokV (c v x : Int32) : Prop := (0 ≤ x → c = 0 ∧ v = x) ∧ (¬ 0 ≤ x → isLet x → c = 1 ∧ v = -2 - x) ∧ (¬ 0 ≤ x → ¬ isLet x → c = opM x)
theorem tokV_op {c x : Int32} (h : ¬ 0 ≤ x) (hl : ¬ isLet x) (e : c = opM x) : tokV c 0 x := ⟨fun q => absurd q h, fun _ q => absurd q hl, fun _ _ => e⟩
theorem MS_put {d : mm_D} {L : wo_P} {t k p s : Nat} {cs : List Int32} (h : MS d L t k p (s + 1) cs) {c v x : Int32} (ht : tokV c v x) : MS (putD d t cs.length c v) L t k p s (cs ++ [x]) := by
  obtain ⟨a1, a2, a3, a4, a5, a6, a7, a8⟩ := h
  refine ⟨tapM_x a1 rfl rfl, a2, a3, a4, a5, ?_, ?_, ?_⟩
  · rw [putD_254, if_pos rfl, List.length_append]; rfl
  · rw [List.length_append]; show cs.length + 1 + s ≤ p; omega
  · refine sgm_app.mpr ⟨seg_eq (d := d) (fun i h1 h2 => ⟨by rw [putD_252, if_neg (by omega)], by rw [putD_253, if_neg (by omega)]⟩) a8, ?_, trivial⟩
    unfold tokR
    rw [putD_252, putD_253, if_pos rfl, if_pos rfl]
    exact ht
theorem WS_any {d : mm_D} {L : wo_P} {t w s b a c : Nat} (hw : d 250 4 = nI w) (hl : w ≤ L.1) (hL : L.1 ≤ 160) (h14 : d 250 14 = nI t) (ht : t ≤ 4) (ha : d 250 3 = nI a) (hc : d 254 t = nI c) (h1 : c + s ≤ a) (h2 : a ≤ b) : WS d L t w s b := ⟨⟨hw, hl, hL⟩, ⟨h14, ht⟩, a, c, ⟨ha, hc⟩, h1, h2⟩
theorem WS_ne {d : mm_D} {L : wo_P} {t w s b : Nat} (h : WS d L t w s b) : ¬ d 250 4 = -1 := by
  rw [h.1.1]
  exact nI_nm1 (by have := h.1.2; omega)
theorem WS_le {d : mm_D} {L : wo_P} {t w s b b2 : Nat} (h : WS d L t w s b) (hb : b ≤ b2) : WS d L t w s b2 := by
  obtain ⟨h1, h2, a, c, h3, h4, h5⟩ := h
  exact ⟨h1, h2, a, c, h3, h4, Nat.le_trans h5 hb⟩
theorem WS_bad {d : mm_D} {L : wo_P} {t k p s b : Nat} {cs : List Int32} (h : MS d L t k p s cs) (hb : p ≤ b) : WS (mm_up d 250 4 (nI p)) L t p s b := WS_any ((mm_up_at 4).trans (if_pos rfl)) h.2.1.2 h.1.2.1 h.2.2.2.2.1.1 h.2.2.2.2.1.2 h.2.1.1 h.2.2.2.2.2.1 h.2.2.2.2.2.2.1 hb
/-- how a piece of reading ends -/
def mst (L : wo_P) (t k s : Nat) (d : mm_D) (cs : List Int32) (res : wo_R) : Prop := match res with
  | .inl w => WS d L t w s (L.1 + k)
  | .inr x => MS d L t k x.1 s (cs ++ x.2)
def mres (sh : mm_S) (g : mm_G) (r : mm_R) (L : wo_P) (t k s : Nat) (d : mm_D) (cs : List Int32) (res : wo_R) (v : Option Value) (μ : mm_M) : Prop := v = none ∧ ∃ d2, μ = (sh, d2, g, r) ∧ xf t d d2 ∧ mst L t k s d2 cs res
theorem mr_trans {sh : mm_S} {g : mm_G} {r : mm_R} {L : wo_P} {t k s : Nat} {d d1 : mm_D} {cs : List Int32} {res : wo_R} {v : Option Value} {μ : mm_M} (hx : xf t d d1) (h : mres sh g r L t k s d1 cs res v μ) : mres sh g r L t k s d cs res v μ := by
  obtain ⟨h1, d2, h2, h3, h4⟩ := h
  exact ⟨h1, d2, h2, xf_trans hx h3, h4⟩
/-- what was read before goes before -/
theorem mr_thn {sh : mm_S} {g : mm_G} {r : mm_R} {L : wo_P} {t k s : Nat} {d d1 : mm_D} {cs ds : List Int32} {a res : wo_R} {f : Nat → wo_R} {q : Nat} {v : Option Value} {μ : mm_M} (hx : xf t d d1) (e : a = .inr (q, ds)) (er : res = thn a f) (h : mres sh g r L t k s d1 (cs ++ ds) (f q) v μ) : mres sh g r L t k s d cs res v μ := by
  obtain ⟨h1, d2, h2, h3, h4⟩ := h
  refine ⟨h1, d2, h2, xf_trans hx h3, ?_⟩
  rw [er, e]
  show mst L t k s d2 cs (match f q with | .inl w => (.inl w : wo_R) | .inr z => .inr (z.1, ds ++ z.2))
  cases hq : f q with
  | inl w =>
    rw [hq] at h4
    exact h4
  | inr z =>
    rw [hq] at h4
    show MS d2 L t k z.1 s (cs ++ (ds ++ z.2))
    rw [← List.append_assoc]
    exact h4
theorem mr_fail {sh : mm_S} {g : mm_G} {r : mm_R} {L : wo_P} {t k s w : Nat} {d d1 : mm_D} {cs : List Int32} {a res : wo_R} (hx : xf t d d1) (e : a = .inl w) (er : res = .inl w) (h : mst L t k s d1 cs a) : mres sh g r L t k s d cs res none (sh, d1, g, r) := by
  refine ⟨rfl, d1, rfl, hx, ?_⟩
  rw [er]
  rw [e] at h
  exact h
theorem r_put0 {xs : List Int32} {ext : mm_X} {n : Nat} {sh : mm_S} {d : mm_D} {g : mm_G} {r : mm_R} (hsh : shp sh) (hr : rfx r) {t c : Nat} (h14 : d 250 14 = nI t) (ht : t ≤ 4) (hc : d 254 t = nI c) (hcl : c < 340) (x y : Int32) : wp xs ext (n + 0) 144 0 [some (.ref 250), some (.int x), some (.int y)] [] (sh, d, g, r) (fun v μ => v = none ∧ μ = (sh, putD d t c x y, g, r)) := by
  refine wp_aload_n (j := 0) rfl q144_ok d144_0 ?_
  refine wp_getR q144_ok d144_1 fl_11_13 rfl (by first | assumption | exact so0 hsh rfl) (by first | assumption | exact hr _ _ _ rfl) ?_
  refine wp_sipush (v := 340) (by decide) q144_ok d144_4 ?_
  refine wp_aload_n (j := 0) rfl q144_ok d144_7 ?_
  refine wp_getI q144_ok d144_8 fl_11_123 rfl (by first | assumption | exact so0 hsh rfl) h14 ?_
  refine wp_imul rfl q144_ok d144_11 ?_
  refine wp_aload_n (j := 0) rfl q144_ok d144_12 ?_
  refine wp_getR q144_ok d144_13 fl_11_19 rfl (by first | assumption | exact so0 hsh rfl) (by first | assumption | exact hr _ _ _ rfl) ?_
  refine wp_aload_n (j := 0) rfl q144_ok d144_16 ?_
  refine wp_getI q144_ok d144_17 fl_11_123 rfl (by first | assumption | exact so0 hsh rfl) h14 ?_
  refine wp_iald (m := 5) q144_ok d144_20 (by first | assumption | exact so0 hsh rfl) (shl hsh (m := 5) (Nat.le_of_ble_eq_true rfl) rfl) (ixn_nI (show t < 5 by omega)) hc ?_ (shK hsh)
  refine wp_iadd (nI_340 t c) q144_ok d144_21 ?_
  refine wp_iload_n (j := 1) rfl q144_ok d144_22 ?_
  refine wp_iast (m := 1700) q144_ok d144_23 (by first | assumption | exact so0 hsh rfl) (shl hsh (m := 1700) (Nat.le_of_ble_eq_true rfl) rfl) (ixn_nI (show 340 * t + c < 1700 by omega)) ?_
  refine wp_aload_n (j := 0) rfl q144_ok d144_24 ?_
  refine wp_getR q144_ok d144_25 fl_11_16 rfl (by first | assumption | exact so0 hsh rfl) (by first | assumption | exact hr _ _ _ rfl) ?_
  refine wp_sipush (v := 340) (by decide) q144_ok d144_28 ?_
  refine wp_aload_n (j := 0) rfl q144_ok d144_31 ?_
  refine wp_getI q144_ok d144_32 fl_11_123 rfl (by first | assumption | exact so0 hsh rfl) ((congrFun (mm_up_ne (by decide)) 14).trans h14) ?_
  refine wp_imul rfl q144_ok d144_35 ?_
  refine wp_aload_n (j := 0) rfl q144_ok d144_36 ?_
  refine wp_getR q144_ok d144_37 fl_11_19 rfl (by first | assumption | exact so0 hsh rfl) (by first | assumption | exact hr _ _ _ rfl) ?_
  refine wp_aload_n (j := 0) rfl q144_ok d144_40 ?_
  refine wp_getI q144_ok d144_41 fl_11_123 rfl (by first | assumption | exact so0 hsh rfl) ((congrFun (mm_up_ne (by decide)) 14).trans h14) ?_
  refine wp_iald (m := 5) q144_ok d144_44 (by first | assumption | exact so0 hsh rfl) (shl hsh (m := 5) (Nat.le_of_ble_eq_true rfl) rfl) (ixn_nI (show t < 5 by omega)) ((congrFun (mm_up_ne (by decide)) t).trans hc) ?_ (shK hsh)
  refine wp_iadd (nI_340 t c) q144_ok d144_45 ?_
  refine wp_iload_n (j := 2) rfl q144_ok d144_46 ?_
  refine wp_iast (m := 1700) q144_ok d144_47 (by first | assumption | exact so0 hsh rfl) (shl hsh (m := 1700) (Nat.le_of_ble_eq_true rfl) rfl) (ixn_nI (show 340 * t + c < 1700 by omega)) ?_
  refine wp_aload_n (j := 0) rfl q144_ok d144_48 ?_
  refine wp_getR q144_ok d144_49 fl_11_19 rfl (by first | assumption | exact so0 hsh rfl) (by first | assumption | exact hr _ _ _ rfl) ?_
  refine wp_aload_n (j := 0) rfl q144_ok d144_52 ?_
  refine wp_getI q144_ok d144_53 fl_11_123 rfl (by first | assumption | exact so0 hsh rfl) ((congrFun (mm_up_ne (by decide)) 14).trans ((congrFun (mm_up_ne (by decide)) 14).trans h14)) ?_
  refine wp_dup2 rfl rfl q144_ok d144_56 ?_
  refine wp_iald (m := 5) q144_ok d144_57 (by first | assumption | exact so0 hsh rfl) (shl hsh (m := 5) (Nat.le_of_ble_eq_true rfl) rfl) (ixn_nI (show t < 5 by omega)) ((congrFun (mm_up_ne (by decide)) t).trans ((congrFun (mm_up_ne (by decide)) t).trans hc)) ?_ (shK hsh)
  refine wp_iconst (v := 1) (by decide) q144_ok d144_58 ?_
  refine wp_iadd (nI_1 c) q144_ok d144_59 ?_
  refine wp_iast (m := 5) q144_ok d144_60 (by first | assumption | exact so0 hsh rfl) (shl hsh (m := 5) (Nat.le_of_ble_eq_true rfl) rfl) (ixn_nI (show t < 5 by omega)) ?_
  refine wp_vret q144_ok d144_61 rfl ?_
  exact ⟨rfl, rfl⟩
theorem r_put {xs : List Int32} {ext : mm_X} {n : Nat} {sh : mm_S} {d : mm_D} {g : mm_G} {r : mm_R} {L : wo_P} (hsh : shp sh) (hr : rfx r) {t k s : Nat} {cs : List Int32} {res : wo_R} (hk : k ≤ 6) (h : mst L t k (s + 1) d cs res) {c v x : Int32} (ht : tokV c v x) : wp xs ext (n + 0) 144 0 [some (.ref 250), some (.int c), some (.int v)] [] (sh, d, g, r) (mres sh g r L t k s d cs (thc res x)) := by
  cases res with
  | inl w =>
    obtain ⟨h1, h2, a, e, h3, h4, h5⟩ := h
    have h12 := h1.2
    refine wp_post (r_put0 hsh hr h2.1 h2.2 h3.2 (by omega) c v) (fun z μ hc => ?_)
    obtain ⟨rfl, rfl⟩ := hc
    exact ⟨rfl, _, rfl, xf_put, WS_any (a := a) (c := e + 1) h1.1 h12.1 h12.2 h2.1 h2.2 h3.1 ((putD_254 d t e c v t).trans (if_pos rfl)) (by omega) h5⟩
  | inr y =>
    have h : MS d L t k y.1 (s + 1) (cs ++ y.2) := h
    have h160 := h.1.2.1
    have hp := h.2.1.2
    have hl := h.2.2.2.2.2.2.1
    refine wp_post (r_put0 hsh hr h.2.2.2.2.1.1 h.2.2.2.2.1.2 h.2.2.2.2.2.1 (by omega) c v) (fun z μ hc => ?_)
    obtain ⟨rfl, rfl⟩ := hc
    refine ⟨rfl, _, rfl, xf_put, ?_⟩
    have h2 := MS_put h ht
    rw [List.append_assoc] at h2
    exact h2
theorem r_opens {xs : List Int32} {ext : mm_X} {n : Nat} {sh : mm_S} {d : mm_D} {g : mm_G} {r : mm_R} {L : wo_P} (hsh : shp sh) (hr : rfx r) {t k p s : Nat} {cs : List Int32} (hk : k ≤ 6) (h : MS d L t k p s cs) (hp : p < L.1) : wp xs ext (n + 1) 146 0 [some (.ref 250)] [] (sh, d, g, r) (fun v μ => v = none ∧ ∃ d2, μ = (sh, d2, g, r) ∧ xf t d d2 ∧ (k = 0 → WS d2 L t p s L.1) ∧ ∀ k2, k = k2 + 1 → ∀ s2, cs.length + s2 ≤ p + 1 → MS d2 L t k2 (p + 1) s2 cs) := by
  refine wp_aload_n (j := 0) rfl q146_ok d146_0 ?_
  refine wp_getI q146_ok d146_1 fl_11_126 rfl (by first | assumption | exact so0 hsh rfl) h.2.2.2.1 ?_
  refine wp_bipush (v := 6) (by decide) q146_ok d146_4 ?_
  refine wp_icmp_ne q146_ok d146_6 (t := 13) rfl (fun h6 => ?_) (fun h6 => ?_)
  · have hk0 : ¬ k = 0 := fun q => h6 (by rw [q]; rfl)
    obtain ⟨k2, rfl⟩ : ∃ k2, k = k2 + 1 := ⟨k - 1, by omega⟩
    refine wp_aload_n (j := 0) rfl q146_ok d146_13 ?_
    refine wp_dup rfl q146_ok d146_14 ?_
    refine wp_getI q146_ok d146_15 fl_11_126 rfl (by first | assumption | exact so0 hsh rfl) h.2.2.2.1 ?_
    refine wp_iconst (v := 1) (by decide) q146_ok d146_18 ?_
    refine wp_iadd (show nI (6 - (k2 + 1)) + 1 = nI (6 - k2) from (nI_1 _).trans (by rw [show 6 - (k2 + 1) + 1 = 6 - k2 by omega])) q146_ok d146_19 ?_
    refine wp_putI q146_ok d146_20 fl_11_126 rfl (by first | assumption | exact so0 hsh rfl) (Or.inl rfl) ?_
    refine wp_aload_n (j := 0) rfl q146_ok d146_23 ?_
    refine wp_dup rfl q146_ok d146_24 ?_
    refine wp_getI q146_ok d146_25 fl_11_113 rfl (by first | assumption | exact so0 hsh rfl) h.2.1.1 ?_
    refine wp_iconst (v := 1) (by decide) q146_ok d146_28 ?_
    refine wp_iadd (nI_1 p) q146_ok d146_29 ?_
    refine wp_putI q146_ok d146_30 fl_11_113 rfl (by first | assumption | exact so0 hsh rfl) (Or.inl rfl) ?_
    refine wp_vret q146_ok d146_33 rfl ?_
    refine ⟨rfl, _, rfl, xf_trans xf_5 xf_3, fun q => absurd q (by omega), fun k3 e s2 hs => ?_⟩
    obtain rfl : k2 = k3 := by omega
    exact MS_at (MS_deep h k2) hp hs
  · have h6 := Classical.not_not.mp h6
    have hk0 : k = 0 := by
        have := nI_inj (show 6 - k < 2 ^ 31 by omega) (show 6 < 2 ^ 31 by decide) (show nI (6 - k) = nI 6 from h6)
        omega
    refine wp_aload_n (j := 0) rfl q146_ok d146_9 ?_
    refine wp_cV q146_ok d146_10 ml_11_129 rfl q142_ok (u := 11) rfl (by first | assumption | exact so0 hsh rfl) rfl (Nat.le_of_ble_eq_true rfl) (Nat.le_of_ble_eq_true rfl) (m_bad0 hsh hr h.2.2.1 h.2.1.1) (fun v10 μ10 hc => ?_)
    obtain ⟨rfl, rfl⟩ := hc
    refine ⟨mm_le_same rfl, ?_⟩
    subst hk0
    refine wp_aload_n (j := 0) rfl q146_ok d146_13 ?_
    refine wp_dup rfl q146_ok d146_14 ?_
    refine wp_getI q146_ok d146_15 fl_11_126 rfl (by first | assumption | exact so0 hsh rfl) (by first | assumption | rfl) ?_
    refine wp_iconst (v := 1) (by decide) q146_ok d146_18 ?_
    refine wp_iadd rfl q146_ok d146_19 ?_
    refine wp_putI q146_ok d146_20 fl_11_126 rfl (by first | assumption | exact so0 hsh rfl) (Or.inl rfl) ?_
    refine wp_aload_n (j := 0) rfl q146_ok d146_23 ?_
    refine wp_dup rfl q146_ok d146_24 ?_
    refine wp_getI q146_ok d146_25 fl_11_113 rfl (by first | assumption | exact so0 hsh rfl) h.2.1.1 ?_
    refine wp_iconst (v := 1) (by decide) q146_ok d146_28 ?_
    refine wp_iadd (nI_1 p) q146_ok d146_29 ?_
    refine wp_putI q146_ok d146_30 fl_11_113 rfl (by first | assumption | exact so0 hsh rfl) (Or.inl rfl) ?_
    refine wp_vret q146_ok d146_33 rfl ?_
    have hl := h.2.2.2.2.2.2.1
    refine ⟨rfl, _, rfl, xf_trans (xf_trans xf_4 xf_5) xf_3, fun _ => ?_, fun k3 e => absurd e (by omega)⟩
    exact WS_any (a := p + 1) (c := cs.length) rfl h.2.1.2 h.1.2.1 h.2.2.2.2.1.1 h.2.2.2.2.1.2 rfl h.2.2.2.2.2.1 (by omega) hp
theorem r_closes {xs : List Int32} {ext : mm_X} {n : Nat} {sh : mm_S} {d : mm_D} {g : mm_G} {r : mm_R} {L : wo_P} (hsh : shp sh) (hr : rfx r) {t k s : Nat} {cs : List Int32} {res : wo_R} (hk : k + 1 ≤ 6) (h : mst L t k s d cs res) {c : Int32} (hc1 : c ≠ -1) : wp xs ext (n + 2) 147 0 [some (.ref 250), some (.int c)] [] (sh, d, g, r) (mres sh g r L t (k + 1) s d cs (cls L res c)) := by
  cases res with
  | inl w =>
    have h : WS d L t w s (L.1 + k) := h
    have hw := WS_ne h
    have h12 := h.1
    obtain ⟨_, h2, a, e, h3, h4, h5⟩ := h
    refine wp_aload_n (j := 0) rfl q147_ok d147_0 ?_
    refine wp_getI q147_ok d147_1 fl_11_120 rfl (by first | assumption | exact so0 hsh rfl) (by first | assumption | rfl) ?_
    refine wp_iconst (v := -1) (by decide) q147_ok d147_4 ?_
    refine wp_icmp_ne q147_ok d147_5 (t := 20) rfl (fun h5 => ?_) (fun h5 => ?_)
    · refine wp_aload_n (j := 0) rfl q147_ok d147_20 ?_
      refine wp_dup rfl q147_ok d147_21 ?_
      refine wp_getI q147_ok d147_22 fl_11_113 rfl (by first | assumption | exact so0 hsh rfl) h3.1 ?_
      refine wp_iconst (v := 1) (by decide) q147_ok d147_25 ?_
      refine wp_iadd (nI_1 a) q147_ok d147_26 ?_
      refine wp_putI q147_ok d147_27 fl_11_113 rfl (by first | assumption | exact so0 hsh rfl) (Or.inl rfl) ?_
      refine wp_aload_n (j := 0) rfl q147_ok d147_30 ?_
      refine wp_dup rfl q147_ok d147_31 ?_
      refine wp_getI q147_ok d147_32 fl_11_126 rfl (by first | assumption | exact so0 hsh rfl) (by first | assumption | rfl) ?_
      refine wp_iconst (v := 1) (by decide) q147_ok d147_35 ?_
      refine wp_isub rfl q147_ok d147_36 ?_
      refine wp_putI q147_ok d147_37 fl_11_126 rfl (by first | assumption | exact so0 hsh rfl) (Or.inl rfl) ?_
      refine wp_vret q147_ok d147_40 rfl ?_
      exact ⟨rfl, _, rfl, xf_trans xf_3 xf_5, WS_any (a := a + 1) (c := e) h12.1 h12.2.1 h12.2.2 h2.1 h2.2 rfl h3.2 (by omega) (by omega)⟩
    · have h5 := Classical.not_not.mp h5
      exact absurd h5 hw
  | inr x =>
    have h : MS d L t k x.1 s (cs ++ x.2) := h
    have hwl := wsp_le L h.2.1.2
    have hwg := wsp_ge L x.1
    have hl := h.2.2.2.2.2.2.1
    have S1 := MS_at (s2 := s) h hwl (show (cs ++ x.2).length + s ≤ wsp L x.1 by omega)
    refine wp_aload_n (j := 0) rfl q147_ok d147_0 ?_
    refine wp_getI q147_ok d147_1 fl_11_120 rfl (by first | assumption | exact so0 hsh rfl) h.2.2.1 ?_
    refine wp_iconst (v := -1) (by decide) q147_ok d147_4 ?_
    refine wp_icmp_ne q147_ok d147_5 (t := 20) rfl (fun h5 => ?_) (fun h5 => ?_)
    · exact absurd rfl h5
    · have h5 := Classical.not_not.mp h5
      refine wp_aload_n (j := 0) rfl q147_ok d147_8 ?_
      refine wp_cV q147_ok d147_9 ml_11_132 rfl q141_ok (u := 11) rfl (by first | assumption | exact so0 hsh rfl) rfl (Nat.le_of_ble_eq_true rfl) (Nat.le_of_ble_eq_true rfl) (m_look (n := n + 0) hsh hr h.1 h.2.1.1 h.2.1.2) (fun v9 μ9 hc => ?_)
      obtain ⟨rfl, rfl⟩ := hc
      refine ⟨mm_le_same rfl, ?_⟩
      refine wp_iload_n (j := 1) rfl q147_ok d147_12 ?_
      refine wp_icmp_eq q147_ok d147_13 (t := 20) rfl (fun h13 => ?_) (fun h13 => ?_)
      · have hql := bAt_lt h13 hc1
        refine wp_aload_n (j := 0) rfl q147_ok d147_20 ?_
        refine wp_dup rfl q147_ok d147_21 ?_
        refine wp_getI q147_ok d147_22 fl_11_113 rfl (by first | assumption | exact so0 hsh rfl) S1.2.1.1 ?_
        refine wp_iconst (v := 1) (by decide) q147_ok d147_25 ?_
        refine wp_iadd (nI_1 _) q147_ok d147_26 ?_
        refine wp_putI q147_ok d147_27 fl_11_113 rfl (by first | assumption | exact so0 hsh rfl) (Or.inl rfl) ?_
        refine wp_aload_n (j := 0) rfl q147_ok d147_30 ?_
        refine wp_dup rfl q147_ok d147_31 ?_
        refine wp_getI q147_ok d147_32 fl_11_126 rfl (by first | assumption | exact so0 hsh rfl) h.2.2.2.1 ?_
        refine wp_iconst (v := 1) (by decide) q147_ok d147_35 ?_
        refine wp_isub ((nI_sub1 (show 1 ≤ 6 - k by omega)).trans (by rw [show 6 - k - 1 = 6 - (k + 1) by omega])) q147_ok d147_36 ?_
        refine wp_putI q147_ok d147_37 fl_11_126 rfl (by first | assumption | exact so0 hsh rfl) (Or.inl rfl) ?_
        refine wp_vret q147_ok d147_40 rfl ?_
        refine ⟨rfl, _, rfl, xf_trans (xf_trans xf_3 xf_3) xf_5, ?_⟩
        rw [show cls L (Sum.inr x) c = .inr (wsp L x.1 + 1, x.2) from if_pos h13]
        exact MS_deep (MS_at S1 hql (by omega)) (k + 1)
      · refine wp_aload_n (j := 0) rfl q147_ok d147_16 ?_
        refine wp_cV q147_ok d147_17 ml_11_129 rfl q142_ok (u := 11) rfl (by first | assumption | exact so0 hsh rfl) rfl (Nat.le_of_ble_eq_true rfl) (Nat.le_of_ble_eq_true rfl) (m_bad0 hsh hr S1.2.2.1 S1.2.1.1) (fun v17 μ17 hc => ?_)
        obtain ⟨rfl, rfl⟩ := hc
        refine ⟨mm_le_same rfl, ?_⟩
        refine wp_aload_n (j := 0) rfl q147_ok d147_20 ?_
        refine wp_dup rfl q147_ok d147_21 ?_
        refine wp_getI q147_ok d147_22 fl_11_113 rfl (by first | assumption | exact so0 hsh rfl) S1.2.1.1 ?_
        refine wp_iconst (v := 1) (by decide) q147_ok d147_25 ?_
        refine wp_iadd (nI_1 _) q147_ok d147_26 ?_
        refine wp_putI q147_ok d147_27 fl_11_113 rfl (by first | assumption | exact so0 hsh rfl) (Or.inl rfl) ?_
        refine wp_aload_n (j := 0) rfl q147_ok d147_30 ?_
        refine wp_dup rfl q147_ok d147_31 ?_
        refine wp_getI q147_ok d147_32 fl_11_126 rfl (by first | assumption | exact so0 hsh rfl) (by first | assumption | rfl) ?_
        refine wp_iconst (v := 1) (by decide) q147_ok d147_35 ?_
        refine wp_isub rfl q147_ok d147_36 ?_
        refine wp_putI q147_ok d147_37 fl_11_126 rfl (by first | assumption | exact so0 hsh rfl) (Or.inl rfl) ?_
        refine wp_vret q147_ok d147_40 rfl ?_
        refine ⟨rfl, _, rfl, xf_trans (xf_trans (xf_trans xf_3 xf_4) xf_3) xf_5, ?_⟩
        rw [show cls L (Sum.inr x) c = .inl (wsp L x.1) from if_neg h13]
        exact WS_any (a := wsp L x.1 + 1) (c := (cs ++ x.2).length) rfl hwl h.1.2.1 h.2.2.2.2.1.1 h.2.2.2.2.1.2 rfl h.2.2.2.2.2.1 (by omega) (by omega)
