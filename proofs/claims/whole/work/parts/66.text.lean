/-! ===== fault, text ===== -/
theorem repC_par {d d2 : mm_D} {g : mm_G} {r r2 : mm_R} {S : wo_S} (ok : okW (sW S) (sH S).1) (h : repC d g r S) (hd : ∀ c, c ≠ 3 → ¬ (18 ≤ c ∧ c < 38) → d2 c = d c) (hr : r2 12 = r 12) : repC d2 g r2 S := by
  obtain ⟨a1, a2, a3, a4, a5, a6, a7, a8⟩ := h
  have e : ∀ c, c ≠ 3 → (c < 18 ∨ 38 ≤ c) → d2 c = d c := fun c h1 h2 => hd c h1 (by omega)
  refine ⟨rpW_row ⟨ok.1, ok.2.1⟩ a1 (fun c h1 h2 => e c (by omega) (by omega)) hr, rpH_row a2 (fun c h1 h2 => e c (by omega) (by omega)), hX_row a3 (fun c hc => e c (by omega) (by omega)) (fun _ _ => rfl), ?_, ?_, ⟨?_, hA_row a6.2.1 (e _ (by decide) (by decide)) (e _ (by decide) (by decide)) (e _ (by decide) (by decide)), a6.2.2⟩, ntR_eq a7 (e _ (by decide) (by decide)) (e _ (by decide) (by decide)) (e _ (by decide) (by decide)), hA_row a8 (e _ (by decide) (by decide)) (e _ (by decide) (by decide)) (e _ (by decide) (by decide))⟩
  · rw [e 0 (by decide) (by decide)]; exact a4
  · rw [e 1 (by decide) (by decide), e 2 (by decide) (by decide)]; exact a5
  · rw [e 0 (by decide) (by decide)]; exact a6.1
def fauT (L : wo_P) : Int32 := match townS L with
  | .inl w => nI w
  | .inr _ => -1
def fauH (L : wo_P) : Int32 := match habS L with
  | .inl w => nI w
  | .inr _ => -1
def faultQ (S : wo_S) (w : Int32) : Int32 := if w = 0 then fauT (sP S) else if w = 1 then fauH (sP S) else -2
def twnS (S : wo_S) (W : wo_W) : wo_S := (W, sH S, (dwn, (sX S).2.1, 0, (sX S).2.2.2), sK S, (0, (sP S).2), (false, (sI S).2), (0, (sN S).2))
def habN (S : wo_S) (cl : List wo_C) : wo_S := (sW S, ((sH S).1 + 1, fun k => if k = (sH S).1 then hwV cl else (sH S).2 k), sX S, sK S, (0, (sP S).2), sI S, sN S)
def textQ (S : wo_S) (w : Int32) : Int32 := if w = 0 then (match townS (sP S) with
    | .inl _ => -1
    | .inr W => nI (wnp W))
  else if w = 1 then (match habS (sP S) with
    | .inl _ => -1
    | .inr _ => if (sH S).1 < 4 then nI (sH S).1 else -1)
  else -1
def textS (S : wo_S) (w : Int32) : wo_S := if w = 0 then (match townS (sP S) with
    | .inl _ => S
    | .inr W => twnS S W)
  else if w = 1 then (match habS (sP S) with
    | .inl _ => S
    | .inr cl => if (sH S).1 < 4 then habN S cl else S)
  else S
theorem rfx_26 {r r2 : mm_R} (hr : rfx r) (h : ∀ c, c ≠ 26 → r2 c = r c) : rfx r2 ∨ True := Or.inr trivial
theorem fit_nm {w : Nat} (h : w < 2 ^ 31) : ¬ nI w = -1 := nI_nm1 h
theorem k_fault {xs : List Int32} {ext : mm_X} {n : Nat} {sh : mm_S} {d : mm_D} {g : mm_G} {r : mm_R} {S : wo_S} (hsh : shp sh) (hr : rfx r) (ok : okW (sW S) (sH S).1) (h : repC d g r S) (w : Int32) : wp xs ext (n + 62) 88 0 [some (.ref 0), some (.int w)] [] (sh, d, g, r) (kpost sh d g r S (some (.int (faultQ S w)))) := by
  have hL : tpR d (sP S) := h.2.2.2.2.1
  refine wp_iload_n (j := 1) rfl q88_ok d88_0 ?_
  refine wp_if_ne q88_ok d88_1 (t := 12) rfl (fun h1 => ?_) (fun h1 => ?_)
  · refine wp_iload_n (j := 1) rfl q88_ok d88_12 ?_
    refine wp_iconst (v := 1) (by decide) q88_ok d88_13 ?_
    refine wp_icmp_ne q88_ok d88_14 (t := 27) rfl (fun h14 => ?_) (fun h14 => ?_)
    · refine wp_bipush (v := -2) (by decide) q88_ok d88_27 ?_
      refine wp_iret q88_ok d88_29 rfl ?_
      exact kp_same hr h (by unfold faultQ; rw [if_neg (show ¬ w = 0 from h1), if_neg (show ¬ w = 1 from h14)]; rfl)
    · have h14 := Classical.not_not.mp h14
      refine wp_aload_n (j := 0) rfl q88_ok d88_17 ?_
      refine wp_getR q88_ok d88_18 fl_10_58 rfl (by first | assumption | exact so0 hsh rfl) (by first | assumption | exact hr _ _ _ rfl) ?_
      refine wp_cV q88_ok d88_21 ml_10_117 rfl q11_ok (u := 1) rfl (by first | assumption | exact so0 hsh rfl) rfl (Nat.le_of_ble_eq_true rfl) (Nat.le_of_ble_eq_true rfl) (c_hread (n := n) hsh hr d hL) (fun v21 μ21 hc => ?_)
      obtain ⟨d2, rfl, f2, m2⟩ := hc
      refine ⟨mm_le_same rfl, ?_⟩
      have hrep := repC_par ok h (fun c h1 h2 => f2 c h1 (by omega) (by omega)) rfl
      have hq : faultQ S w = fauH (sP S) := by unfold faultQ; rw [if_neg (show ¬ w = 0 from h1), if_pos (show w = 1 from h14)]
      have hfr : frM d g r d2 g r := fun c hc => ⟨f2 c (by omega) (by omega) (by omega), rfl, rfl⟩
      rw [hq]
      unfold fauH
      cases e : habS (sP S) with
      | inl z =>
        rw [e] at m2
        obtain rfl := m2
        refine wp_goto (t := 29) rfl q88_ok d88_24 ?_
        refine wp_iret q88_ok d88_29 rfl ?_
        exact ⟨rfl, d2, g, r, rfl, hr, hrep, hfr⟩
      | inr W =>
        rw [e] at m2
        obtain ⟨rfl, _⟩ := m2
        refine wp_goto (t := 29) rfl q88_ok d88_24 ?_
        refine wp_iret q88_ok d88_29 rfl ?_
        exact ⟨rfl, d2, g, r, rfl, hr, hrep, hfr⟩
  · have h1 := Classical.not_not.mp h1
    refine wp_aload_n (j := 0) rfl q88_ok d88_4 ?_
    refine wp_getR q88_ok d88_5 fl_10_40 rfl (by first | assumption | exact so0 hsh rfl) (by first | assumption | exact hr _ _ _ rfl) ?_
    refine wp_cV q88_ok d88_8 ml_10_113 rfl q71_ok (u := 8) rfl (by first | assumption | exact so0 hsh rfl) rfl (Nat.le_of_ble_eq_true rfl) (Nat.le_of_ble_eq_true rfl) (c_tread (n := n + 56) hsh hr d hL) (fun v8 μ8 hc => ?_)
    obtain ⟨d2, r2, rfl, hr2, e26, f2, m2⟩ := hc
    refine ⟨mm_le_same rfl, ?_⟩
    have hrep := repC_par ok h (fun c h1 h2 => f2 c h1 (by omega)) (e26 12 (by decide))
    have hq : faultQ S w = fauT (sP S) := if_pos (show w = 0 from h1)
    have hfr : frM d g r d2 g r2 := fun c hc => ⟨f2 c (by omega) (by omega), rfl, e26 c (by omega)⟩
    rw [hq]
    unfold fauT
    cases e : townS (sP S) with
    | inl z =>
      rw [e] at m2
      obtain rfl := m2
      refine wp_iret q88_ok d88_11 rfl ?_
      exact ⟨rfl, d2, g, r2, rfl, hr2, hrep, hfr⟩
    | inr W =>
      rw [e] at m2
      obtain ⟨rfl, _⟩ := m2
      refine wp_iret q88_ok d88_11 rfl ?_
      exact ⟨rfl, d2, g, r2, rfl, hr2, hrep, hfr⟩
