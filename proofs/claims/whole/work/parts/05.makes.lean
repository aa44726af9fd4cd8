/-! ===== steps that make cells ===== -/
theorem mm_rs_ne {α : Type} {f : Nat → α} {c j : Nat} {v : α} (h : j ≠ c) : mm_rowset f c v j = f j := by unfold mm_rowset; rw [if_neg h]
theorem mm_rs_at {α : Type} {f : Nat → α} {c : Nat} {v : α} : mm_rowset f c v c = v := by unfold mm_rowset; rw [if_pos rfl]
theorem mm_push_sh_ne {μ : mm_M} {t n sl k : Nat} (h : k ≠ mm_next μ) : mm_sh (mm_push μ t n sl) k = mm_sh μ k := mm_rs_ne h
theorem mm_push_sh_at {μ : mm_M} {t n sl : Nat} : mm_sh (mm_push μ t n sl) (mm_next μ) = (t, n) := mm_rs_at
theorem mm_push_next {μ : mm_M} {t n sl : Nat} : mm_next (mm_push μ t n sl) = mm_next μ + 1 := rfl
theorem mm_push_e {adr : Nat → Nat} {ca : Nat → ClassId} {μ : mm_M} {t n sl q k : Nat} {cA : ClassId} (hi : mm_in1 μ) (hk : k < mm_next μ) : mm_e (mm_rowset adr (mm_next μ) q) (mm_rowset ca (mm_next μ) cA) (mm_push μ t n sl) k = mm_e adr ca μ k := by
  have hne : k ≠ mm_next μ := by omega
  have hr : ∀ i, ((mm_push μ t n sl).2.2.2 k i).map (mm_rowset adr (mm_next μ) q) = (μ.2.2.2 k i).map adr := by
    intro i
    have e1 : (mm_push μ t n sl).2.2.2 k = μ.2.2.2 k := mm_rs_ne hne
    rw [e1]
    cases hx : μ.2.2.2 k i with
    | none => rfl
    | some x =>
      have := hi.1 k i x hk hx
      show some (mm_rowset adr (mm_next μ) q x) = some (adr x)
      rw [mm_rs_ne (by omega)]
  have e2 : (mm_push μ t n sl).2.1 k = μ.2.1 k := mm_rs_ne hne
  have e3 : (mm_push μ t n sl).2.2.1 k = μ.2.2.1 k := mm_rs_ne hne
  unfold mm_e
  rw [mm_push_sh_ne hne, e2, e3, mm_rs_ne hne]
  simp only [hr]
theorem mm_push_w {adr : Nat → Nat} {ca : Nat → ClassId} {μ : mm_M} {t n sl q : Nat} {cA : ClassId} (hi : mm_in1 μ) : mm_w (mm_rowset adr (mm_next μ) q) (mm_rowset ca (mm_next μ) cA) (mm_push μ t n sl) = mm_w adr ca μ ++ [(q, mm_e (mm_rowset adr (mm_next μ) q) (mm_rowset ca (mm_next μ) cA) (mm_push μ t n sl) (mm_next μ))] := by
  unfold mm_w
  rw [mm_push_next, List.range_succ, List.map_append, List.map_singleton, mm_rs_at]
  congr 1
  apply List.map_congr_left
  intro k hk
  have hk : k < mm_next μ := List.mem_range.mp hk
  rw [mm_push_e hi hk, mm_rs_ne (by omega)]
theorem mm_push_in1 {μ : mm_M} {t n sl : Nat} (hi : mm_in1 μ) (hn : mm_next μ < 900000) (ht : t < 20 → t < 12) : mm_in1 (mm_push μ t n sl) := by
  refine ⟨fun k i x hk hx => ?_, by rw [mm_push_next]; omega, fun k hk h2 => ?_⟩
  · rw [mm_push_next] at hk ⊢
    by_cases e : k = mm_next μ
    · subst e
      have hx : mm_rowset μ.2.2.2 μ.1.1 (fun _ => none) μ.1.1 i = some x := hx
      rw [mm_rs_at] at hx
      cases hx
    · have hx : mm_rowset μ.2.2.2 (mm_next μ) (fun _ => none) k i = some x := hx
      rw [mm_rs_ne e] at hx
      have := hi.1 k i x (by omega) hx
      omega
  · rw [mm_push_next] at hk
    by_cases e : k = mm_next μ
    · subst e; rw [mm_push_sh_at] at h2 ⊢; exact ht h2
    · rw [mm_push_sh_ne e] at h2 ⊢; exact hi.2.2 k (by omega) h2
theorem mm_push_re {adr : Nat → Nat} {μ : mm_M} {q : Nat} {v : Value} (hn : mm_next μ ≤ 990000) (h : mm_ok μ v) : mm_re (mm_rowset adr (mm_next μ) q) v = mm_re adr v := by
  cases v with
  | ref k =>
    show Value.ref _ = Value.ref _
    rw [mm_rs_ne]
    intro e
    have h : k < mm_next μ ∨ (mm_K ≤ k ∧ k < mm_K + 4) := h
    rcases h with h | h
    · exact absurd h (by rw [e]; exact Nat.lt_irrefl _)
    · have h1 : 1000000 ≤ k := h.1
      rw [e] at h1
      exact absurd (Nat.le_trans h1 hn) (by decide)
  | _ => rfl
theorem mm_push_ok {μ : mm_M} {t n sl : Nat} {v : Value} (h : mm_ok μ v) : mm_ok (mm_push μ t n sl) v := by
  cases v with
  | ref k =>
    have h : k < mm_next μ ∨ (mm_K ≤ k ∧ k < mm_K + 4) := h
    rcases h with h | h
    · exact Or.inl (Nat.lt_succ_of_lt h)
    · exact Or.inr h
  | _ => trivial
theorem mm_push_S {adr : Nat → Nat} {μ : mm_M} {q : Nat} {S : List Value} (hn : mm_next μ ≤ 990000) (h : mm_okS μ S) : S.map (mm_re (mm_rowset adr (mm_next μ) q)) = S.map (mm_re adr) := List.map_congr_left (fun v hv => mm_push_re hn (h v hv))
theorem mm_push_L {adr : Nat → Nat} {μ : mm_M} {q : Nat} {L : mm_L} {ls : Array Slot} (hn : mm_next μ ≤ 990000) (h : mm_okL μ L) (hl : mm_lr adr L ls) : mm_lr (mm_rowset adr (mm_next μ) q) L ls := ⟨hl.1, hl.2.1, fun i v hv => by rw [mm_push_re hn (h i v hv)]; exact hl.2.2 i v hv⟩
theorem mm_push_Z {D : va_G} {A : Nat → Prop} {s : State} {adr : Nat → Nat} {ca : Nat → ClassId} {μ : mm_M} {H H1 : Heap} {locs : List Loc} {t n sl q : Nat} {cA : ClassId} {en : va_E} (hn : mm_next μ < 900000) (ht : t < 20 → t < 12) (hZ : mm_Z D A s adr ca μ H locs)
    (he : mm_e (mm_rowset adr (mm_next μ) q) (mm_rowset ca (mm_next μ) cA) (mm_push μ t n sl) (mm_next μ) = en) (hA : 20 ≤ t → ArrOfT s cA (mm_aty t) ∧ va_RA s cA (mm_aty t))
    (hP : va_P D mm_cl (mm_w adr ca μ ++ [(q, en)]) H1) (hD : va_D A (mm_w adr ca μ ++ [(q, en)])) (hS : va_S A s.heap H1 locs) : mm_Z D A s (mm_rowset adr (mm_next μ) q) (mm_rowset ca (mm_next μ) cA) (mm_push μ t n sl) H1 locs := by
  subst he
  rw [← mm_push_w hZ.2.2.2.2] at hP hD
  refine ⟨hP, hD, hS, fun k hk h2 => ?_, mm_push_in1 hZ.2.2.2.2 hn ht⟩
  rw [mm_push_next] at hk
  by_cases e : k = mm_next μ
  · subst e
    rw [mm_push_sh_at] at h2 ⊢
    rw [mm_rs_at]
    exact hA h2
  · rw [mm_push_sh_ne e] at h2 ⊢
    rw [mm_rs_ne e]
    exact hZ.2.2.2.1 k (by omega) h2
theorem mm_push_Y {adr0 : Nat → Nat} {ca0 : Nat → ClassId} {n0 : Nat} {adr : Nat → Nat} {ca : Nat → ClassId} {μ : mm_M} {t n sl q : Nat} {cA : ClassId} (hn : mm_next μ < 900000) (h : mm_Y adr0 ca0 n0 adr ca μ) : mm_Y adr0 ca0 n0 (mm_rowset adr (mm_next μ) q) (mm_rowset ca (mm_next μ) cA) (mm_push μ t n sl) := by
  have hK : mm_K = 1000000 := rfl
  have h3 := h.2.2
  refine ⟨fun k hk => ?_, fun k hk => ?_, by rw [mm_push_next]; omega⟩
  · rw [mm_rs_ne (by omega)]; exact h.1 k hk
  · rw [mm_rs_ne (by omega)]; exact h.2.1 k hk
section MAKES
variable {p : Program} {l : Launch} {e : Env} {R : Room} {s : State} {m : MethodId} {args : Array Value} {below : List Frame} {meth : Method} {c : Code} {D : va_G} {xs : List Int32} {A : Nat → Prop} {adr0 : Nat → Nat} {ca0 : Nat → ClassId} {n0 cb sb : Nat} {Q : State → Prop} {own : Nat} {cc : ByteArray} {ini : Bool}
variable {pc : Nat} {L : mm_L} {S : List Value} {μ : mm_M}
theorem mm_okn {μ : mm_M} {t n sl : Nat} : mm_ok (mm_push μ t n sl) (.ref (mm_next μ)) := Or.inl (Nat.lt_succ_self _)
theorem mm_def0 {t j : Nat} (ht : t < 12) (hj : j < mm_nf t) : defaultValue (mm_ty0 t j) = mm_val (mm_kd t j) 0 0 none := by
  have h := mm_ty_at ht hj
  unfold mm_ty0
  unfold mm_tyok at h
  split at h
  · rename_i h1 h2; rw [h2, h1]; rfl
  · rename_i h1 h2; rw [h2, h1]; rfl
  · rename_i h1 h2; rw [h2, h1]; rfl
  · rename_i h1 h2; rw [h2, h1]; rfl
  · rename_i h1 h2; rw [h2, h1]; rfl
  · cases h
theorem mv_new (C : mm_C p s m args meth c D xs A adr0 own cc ini) {idx t : Nat} (hk : mm_clk own idx = some t) (hn : mm_next μ < 900000) (hr1 : μ.1.2.1 + 1 ≤ cb + R.cells) (hr2 : μ.1.2.2.1 + mm_nf t ≤ sb + R.slots) (hd : decode cc pc = .ok (.new idx, 3))
    (kk : mm_V p l e R s m args below meth c D A adr0 ca0 n0 cb sb Q (pc + 3) L (.ref (mm_next μ) :: S) (mm_push μ t 0 (mm_nf t))) : mm_V p l e R s m args below meth c D A adr0 ca0 n0 cb sb Q pc L S μ := by
  intro adr ca H locs cells slots ls hZ hY hl hoL hoS hc hs
  have ht : t < 12 := of_decide_eq_true (List.all_eq_true.mp mm_cx_ok _ (mm_clk_spec hk))
  obtain ⟨w1, w2, w3⟩ := mm_clt_ok _ (mm_clk_spec hk)
  refine va_new (C := mm_name t) (T := mm_F t) (N := mm_nf t) (ci := t) (fs := (List.range (mm_nf t)).map (fun i => mm_val (mm_kd t i) 0 0 none)) C.1 C.2.1 C.2.2.2.1 (mm_uws ht) (mm_ty0 t) (mm_ty0_ok ht) C.2.2.1 (C.2.2.2.1 _ w1) (C.2.2.2.1 _ w2) (C.2.2.2.1 _ w3) C.2.2.2.2.1 hZ.1 hZ.2.1 hZ.2.2.1 C.2.2.2.2.2.1 (mm_cl_get ht) (fun j hj => ?_) (by omega) (by omega) hd (fun q H1 a1 a2 a3 => ?_)
  · unfold vp_V
    rw [List.getD_eq_getElem?_getD, List.getElem?_map, List.getElem?_range hj, mm_def0 ht hj]
    rfl
  · have hkk := kk (mm_rowset adr (mm_next μ) q) (mm_rowset ca (mm_next μ) 0) H1 locs (cells + 1) (slots + mm_nf t) ls (mm_push_Z hn (fun _ => ht) hZ ?_ (fun h => by omega) a1 a2 a3) (mm_push_Y hn hY) (mm_push_L (by omega) hoL hl) (fun i v hv => mm_push_ok (hoL i v hv)) (mm_okS_c mm_okn (fun v hv => mm_push_ok (hoS v hv))) (by show cells + 1 + cb = μ.1.2.1 + 1; omega) (by show slots + mm_nf t + sb = μ.1.2.2.1 + mm_nf t; omega)
    · rw [List.map_cons, mm_push_S (by omega) hoS] at hkk
      have e1 : mm_re (mm_rowset adr (mm_next μ) q) (.ref (mm_next μ)) = .ref q := by show Value.ref _ = _; rw [mm_rs_at]
      rw [e1] at hkk
      exact hkk
    · rw [mm_e_obj (by rw [mm_push_sh_at]; show t < 20; omega)]
      unfold mm_fs
      rw [mm_push_sh_at]
      congr 2
      apply List.map_congr_left
      intro i _
      have e1 : (mm_push μ t 0 (mm_nf t)).2.1 (mm_next μ) = fun _ => 0 := mm_rs_at
      have e2 : (mm_push μ t 0 (mm_nf t)).2.2.1 (mm_next μ) = fun _ => 0 := mm_rs_at
      have e3 : (mm_push μ t 0 (mm_nf t)).2.2.2 (mm_next μ) = fun _ => none := mm_rs_at
      rw [e1, e2, e3]
      rfl
/-- an array is made: t its tag -/
theorem mm_newa_end {adr : Nat → Nat} {ca : Nat → ClassId} {H : Heap} {locs : List Loc} {cells slots : Nat} {ls : Array Slot} (hZ : mm_Z D A s adr ca μ H locs) (hY : mm_Y adr0 ca0 n0 adr ca μ) (hl : mm_lr adr L ls) (hoL : mm_okL μ L) (hoS : mm_okS μ S) (hc : cells + cb = μ.1.2.1) (hs : slots + sb = μ.1.2.2.1)
    {t n q pc' : Nat} {cA : ClassId} {H1 : Heap} {en : va_E} (hn : mm_next μ < 900000) (ht : 20 ≤ t) (hA : ArrOfT s cA (mm_aty t) ∧ va_RA s cA (mm_aty t)) (hen : mm_e (mm_rowset adr (mm_next μ) q) (mm_rowset ca (mm_next μ) cA) (mm_push μ t n n) (mm_next μ) = en)
    (hP : va_P D mm_cl (mm_w adr ca μ ++ [(q, en)]) H1) (hD : va_D A (mm_w adr ca μ ++ [(q, en)])) (hS : va_S A s.heap H1 locs)
    (kk : mm_V p l e R s m args below meth c D A adr0 ca0 n0 cb sb Q pc' L (.ref (mm_next μ) :: S) (mm_push μ t n n)) : W p l e R s m args below meth c H1 locs (cells + 1) (slots + n) Q (F0 m pc' ls (.ref q :: S.map (mm_re adr))) := by
  have hkk := kk (mm_rowset adr (mm_next μ) q) (mm_rowset ca (mm_next μ) cA) H1 locs (cells + 1) (slots + n) ls (mm_push_Z hn (fun h => by omega) hZ hen (fun _ => hA) hP hD hS) (mm_push_Y hn hY) (mm_push_L (by omega) hoL hl) (fun i v hv => mm_push_ok (hoL i v hv)) (mm_okS_c mm_okn (fun v hv => mm_push_ok (hoS v hv))) (by show cells + 1 + cb = μ.1.2.1 + 1; omega) (by show slots + n + sb = μ.1.2.2.1 + n; omega)
  rw [List.map_cons, mm_push_S (by omega) hoS] at hkk
  have e1 : mm_re (mm_rowset adr (mm_next μ) q) (.ref (mm_next μ)) = .ref q := by show Value.ref _ = _; rw [mm_rs_at]
  rw [e1] at hkk
  exact hkk
theorem mm_push_en {adr : Nat → Nat} {ca : Nat → ClassId} {t n q : Nat} {cA : ClassId} (ht : 20 ≤ t) : mm_e (mm_rowset adr (mm_next μ) q) (mm_rowset ca (mm_next μ) cA) (mm_push μ t n n) (mm_next μ) = .inl (cA, n, if t = 22 then .inr (.inl (fun _ => 0)) else if t < 22 then .inl (fun _ => 0) else .inr (.inr (.inr (.inr (fun _ => none))))) := by
  have e1 : (mm_push μ t n n).2.1 (mm_next μ) = fun _ => 0 := mm_rs_at
  have e2 : (mm_push μ t n n).2.2.1 (mm_next μ) = fun _ => 0 := mm_rs_at
  have e3 : (mm_push μ t n n).2.2.2 (mm_next μ) = fun _ => none := mm_rs_at
  rw [mm_e_arr (by rw [mm_push_sh_at]; show ¬ t < 20; omega), mm_push_sh_at, mm_rs_at, e1, e2, e3]
  rfl
theorem mm_nn {n : Int32} (h : 0 ≤ n) : ¬ n < 0 := Int32.not_lt.mpr h
theorem mv_newaI (C : mm_C p s m args meth c D xs A adr0 own cc ini) {n : Int32} (h0 : 0 ≤ n) (h1 : n.toNatClampNeg < 100000) (hn : mm_next μ < 900000) (hr1 : μ.1.2.1 + 1 ≤ cb + R.cells) (hr2 : μ.1.2.2.1 + n.toNatClampNeg ≤ sb + R.slots) (hd : decode cc pc = .ok (.newarray .int, 2))
    (kk : mm_V p l e R s m args below meth c D A adr0 ca0 n0 cb sb Q (pc + 2) L (.ref (mm_next μ) :: S) (mm_push μ 20 n.toNatClampNeg n.toNatClampNeg)) : mm_V p l e R s m args below meth c D A adr0 ca0 n0 cb sb Q pc L (.int n :: S) μ := by
  intro adr ca H locs cells slots ls hZ hY hl hoL hoS hc hs
  refine va_newa (atype := .int) (ty := .int) (a0 := (n.toNatClampNeg, .inl (fun _ => 0))) C.1 C.2.1 (C.2.2.2.1 _ mm_ac_ok.1) rfl C.2.2.2.2.1 hZ.1 hZ.2.1 hZ.2.2.1 C.2.2.2.2.2.1 (fun _ => rfl) (mm_nn h0) rfl (by show n.toNatClampNeg * 4 ≤ _; omega) (by omega) (by omega) hd (fun q cA H1 hK a1 a2 a3 => ?_)
  exact mm_newa_end hZ hY hl hoL (mm_okS_t hoS) hc hs hn (by decide) (hK.2 0 _ rfl) (mm_push_en (by decide)) a1 a2 a3 kk
theorem mv_newaZ (C : mm_C p s m args meth c D xs A adr0 own cc ini) {n : Int32} (h0 : 0 ≤ n) (h1 : n.toNatClampNeg < 100000) (hn : mm_next μ < 900000) (hr1 : μ.1.2.1 + 1 ≤ cb + R.cells) (hr2 : μ.1.2.2.1 + n.toNatClampNeg ≤ sb + R.slots) (hd : decode cc pc = .ok (.newarray .boolean, 2))
    (kk : mm_V p l e R s m args below meth c D A adr0 ca0 n0 cb sb Q (pc + 2) L (.ref (mm_next μ) :: S) (mm_push μ 21 n.toNatClampNeg n.toNatClampNeg)) : mm_V p l e R s m args below meth c D A adr0 ca0 n0 cb sb Q pc L (.int n :: S) μ := by
  intro adr ca H locs cells slots ls hZ hY hl hoL hoS hc hs
  refine va_newa (atype := .boolean) (ty := .boolean) (a0 := (n.toNatClampNeg, .inl (fun _ => 0))) C.1 C.2.1 (C.2.2.2.1 _ mm_ac_ok.2.1) rfl C.2.2.2.2.1 hZ.1 hZ.2.1 hZ.2.2.1 C.2.2.2.2.2.1 (fun _ => rfl) (mm_nn h0) rfl (by show n.toNatClampNeg * 1 ≤ _; omega) (by omega) (by omega) hd (fun q cA H1 hK a1 a2 a3 => ?_)
  exact mm_newa_end hZ hY hl hoL (mm_okS_t hoS) hc hs hn (by decide) (hK.2 0 _ rfl) (mm_push_en (by decide)) a1 a2 a3 kk
theorem mv_newaJ (C : mm_C p s m args meth c D xs A adr0 own cc ini) {n : Int32} (h0 : 0 ≤ n) (h1 : n.toNatClampNeg < 100000) (hn : mm_next μ < 900000) (hr1 : μ.1.2.1 + 1 ≤ cb + R.cells) (hr2 : μ.1.2.2.1 + n.toNatClampNeg ≤ sb + R.slots) (hd : decode cc pc = .ok (.newarray .long, 2))
    (kk : mm_V p l e R s m args below meth c D A adr0 ca0 n0 cb sb Q (pc + 2) L (.ref (mm_next μ) :: S) (mm_push μ 22 n.toNatClampNeg n.toNatClampNeg)) : mm_V p l e R s m args below meth c D A adr0 ca0 n0 cb sb Q pc L (.int n :: S) μ := by
  intro adr ca H locs cells slots ls hZ hY hl hoL hoS hc hs
  refine va_newa (atype := .long) (ty := .long) (a0 := (n.toNatClampNeg, .inr (.inl (fun _ => 0)))) C.1 C.2.1 (C.2.2.2.1 _ mm_ac_ok.2.2) rfl C.2.2.2.2.1 hZ.1 hZ.2.1 hZ.2.2.1 C.2.2.2.2.2.1 (fun _ => rfl) (mm_nn h0) rfl (by show n.toNatClampNeg * 8 ≤ _; omega) (by omega) (by omega) hd (fun q cA H1 hK a1 a2 a3 => ?_)
  exact mm_newa_end hZ hY hl hoL (mm_okS_t hoS) hc hs hn (by decide) (hK.2 0 _ rfl) (mm_push_en (by decide)) a1 a2 a3 kk
theorem mv_anew (C : mm_C p s m args meth c D xs A adr0 own cc ini) {idx t : Nat} {n : Int32} (hk : mm_an own idx = some t) (h0 : 0 ≤ n) (h1 : n.toNatClampNeg < 100000) (hn : mm_next μ < 900000) (hr1 : μ.1.2.1 + 1 ≤ cb + R.cells) (hr2 : μ.1.2.2.1 + n.toNatClampNeg ≤ sb + R.slots) (hd : decode cc pc = .ok (.anewarray idx, 3))
    (kk : mm_V p l e R s m args below meth c D A adr0 ca0 n0 cb sb Q (pc + 3) L (.ref (mm_next μ) :: S) (mm_push μ (if t = 0 then 23 else 24) n.toNatClampNeg n.toNatClampNeg)) : mm_V p l e R s m args below meth c D A adr0 ca0 n0 cb sb Q pc L (.int n :: S) μ := by
  intro adr ca H locs cells slots ls hZ hY hl hoL hoS hc hs
  have ht : t = 0 ∨ t = 6 := by
    have h1 := List.all_eq_true.mp mm_ax_ok _ (mm_an_spec hk)
    rw [Bool.or_eq_true, decide_eq_true_eq, decide_eq_true_eq] at h1
    exact h1
  obtain ⟨w1, w2⟩ := mm_ant_ok _ (mm_an_spec hk)
  refine va_newq (C := mm_name t) C.1 C.2.1 C.2.2.1 (C.2.2.2.1 _ w1) (va_AO.of (C.2.2.2.1 _ w2)) C.2.2.2.2.1 hZ.1 hZ.2.1 hZ.2.2.1 C.2.2.2.2.2.1 (mm_nn h0) rfl (by omega) (by omega) (by omega) hd (fun q cA H1 hK a1 a2 a3 => ?_)
  rcases ht with rfl | rfl
  · exact mm_newa_end hZ hY hl hoL (mm_okS_t hoS) hc hs hn (by decide) (hK.2 0 _ rfl) (mm_push_en (by decide)) a1 a2 a3 kk
  · exact mm_newa_end hZ hY hl hoL (mm_okS_t hoS) hc hs hn (by decide) (hK.2 0 _ rfl) (mm_push_en (by decide)) a1 a2 a3 kk
theorem mv_aaldA (C : mm_C p s m args meth c D xs A adr0 own cc ini) {x : Nat} {i : Int32} (hO : mm_isO μ x 25 = true) (hin : mm_ix i (mm_sh μ x).2 = true) (hd : decode cc pc = .ok (.aaload, 1))
    (kk : mm_V p l e R s m args below meth c D A adr0 ca0 n0 cb sb Q (pc + 1) L (va_rf (μ.2.2.2 x i.toNatClampNeg) :: S) μ) : mm_V p l e R s m args below meth c D A adr0 ca0 n0 cb sb Q pc L (.int i :: .ref x :: S) μ := by
  intro adr ca H locs cells slots ls hZ hY hl hoL hoS hc hs
  obtain ⟨hx, hsh⟩ := mm_isO_spec hO
  have hw := mm_w_get (adr := adr) (ca := ca) hx
  have ha := hZ.2.2.2.1 x hx (by omega)
  rw [mm_e_arr (by omega), hsh, if_neg (by omega), if_neg (by omega)] at hw
  rw [hsh] at ha
  have hkk := kk adr ca H locs cells slots ls hZ hY hl hoL (mm_okS_c (mm_ok_rf hZ.2.2.2.2 hx) (mm_okS_t (mm_okS_t hoS))) hc hs
  rw [List.map_cons, ← mm_rf_re] at hkk
  have hin2 := mm_ix_spec hin
  have hlt : i.toNatClampNeg < (mm_sh μ x).2 := Nat.not_le.mp fun q => hin2 (Or.inr q)
  exact W.aald (v := va_rf ((μ.2.2.2 x i.toNatClampNeg).map adr)) (ty := .array .int) C.1 C.2.1 (hZ.1 x _ hw) (ha.1 (mm_sh μ x).2 (fun j => va_rf ((μ.2.2.2 x j).map adr))) rfl (fun q => by cases q) (by show ¬ (i < 0 ∨ (arrV _ _ _).slots.size ≤ _); rw [arrV_size]; exact hin2) (by show (arrV _ _ _).slots[_]? = _; rw [arrV_read _ _ hlt]) rfl rfl hd hkk
end MAKES
