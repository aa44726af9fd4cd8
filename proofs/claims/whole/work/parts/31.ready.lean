/-! ===== a trial made ready is ready ===== -/
def o0 (T : wo_T) : wo_O := (0, 0, none, tvw T)
def A0 (d : mm_D) (t : Nat) : wo_A := (d t 0, d (t + 1), d (t + 2))
/-- m is made ready over d -/
def prp (d : mm_D) (r : mm_R) (T : wo_T) (t n : Nat) (m : mm_D) : Prop := (∀ c, c < 232 ∨ 238 ≤ c → m c = d c) ∧ m 232 5 = wavC d r (tnp T) ∧ ∀ k, k < n → m 236 k = lookersC d r (d t 0 + nI k) 0 (wavC d r (tnp T) ^^^ -1) (tnp T)
theorem prp_prS {d : mm_D} {r : mm_R} {T : wo_T} {t n : Nat} (hT : rpC d r T) (ht : t < 232) : prp d r T t n (prS (pr1 d r (tnp T)) r t (tnp T) n) := by
  have h6 : tnp T ≤ 6 := hT.1.2.1
  have hb : habs d r := hT.1.2.2.2.2
  have e1 : ∀ c, c < 232 ∨ 238 ≤ c → pr1 d r (tnp T) c = d c := fun c hc => by unfold pr1; rw [mm_up_ne (by omega), mm_up_ne (by omega)]
  have e5 : pr1 d r (tnp T) 232 5 = wavC d r (tnp T) := by
    unfold pr1
    rw [mm_up_at, if_pos rfl]
    exact wavC_r (fun c hc => mm_up_ne (by omega)) rfl hb _ h6
  have eS : ∀ k c, c < 232 ∨ 238 ≤ c → prS (pr1 d r (tnp T)) r t (tnp T) k c = d c := fun k c hc => by rw [prS_row (by omega), e1 c hc]
  have eS5 : ∀ k, prS (pr1 d r (tnp T)) r t (tnp T) k 232 5 = wavC d r (tnp T) := fun k => by rw [prS_row (by decide), e5]
  refine ⟨eS n, eS5 n, ?_⟩
  induction n with
  | zero => intro k hk; exact absurd hk (Nat.not_lt_zero _)
  | succ n ih =>
    intro k hk
    rw [prS, mm_up_at]
    by_cases e : k = n
    · subst e
      rw [if_pos rfl, eS k t (Or.inl ht), eS5 k, lookersC_r (eS k) rfl hb _ _ _ _ h6]
    · rw [if_neg e]
      exact ih k (by omega)
theorem rst0_col {m : mm_D} {t j : Nat} (h6 : j ≠ 6) (h7 : j ≠ 7) (h8 : j ≠ 8) (h9 : j ≠ 9) : rst0 m t 232 j = m 232 j := by
  unfold rst0
  rw [mm_up_at, if_neg h9, mm_up_at, if_neg h8, mm_up_at, if_neg h7, mm_up_at, if_neg h6, cpT_row (by decide) (by decide) (by decide)]
theorem rst0_cols (m : mm_D) (t : Nat) : rst0 m t 232 6 = 0 ∧ rst0 m t 232 7 = 0 ∧ rst0 m t 232 8 = 0 ∧ rst0 m t 232 9 = -1 := by
  unfold rst0
  refine ⟨?_, ?_, ?_, ?_⟩
  · rw [mm_up_at, if_neg (by decide), mm_up_at, if_neg (by decide), mm_up_at, if_neg (by decide), mm_up_at, if_pos rfl]
  · rw [mm_up_at, if_neg (by decide), mm_up_at, if_neg (by decide), mm_up_at, if_pos rfl]
  · rw [mm_up_at, if_neg (by decide), mm_up_at, if_pos rfl]
  · rw [mm_up_at, if_pos rfl]
theorem rstD_col {m : mm_D} {t np j : Nat} (h : j ≠ 11) : rstD m t np 232 j = rst0 m t 232 j := by
  unfold rstD
  rw [mm_up_at, if_neg h]
theorem prp_rst {d m : mm_D} {r : mm_R} {T : wo_T} {t n : Nat} (h : prp d r T t n m) : prp d r T t n (rstD m t (tnp T)) := by
  refine ⟨fun c hc => ?_, ?_, fun k hk => ?_⟩
  · rw [rstD_row (by omega) (by omega) (by omega) (by omega)]; exact h.1 c hc
  · rw [rstD_col (by decide), rst0_col (by decide) (by decide) (by decide) (by decide)]; exact h.2.1
  · rw [rstD_row (by decide) (by decide) (by decide) (by decide)]; exact h.2.2 k hk
theorem prp_up {d m : mm_D} {r : mm_R} {T : wo_T} {t n j : Nat} (h : prp d r T t n m) (hj : j ≠ 5) (v : Int32) : prp d r T t n (mm_up m 232 j v) := by
  refine ⟨fun c hc => ?_, ?_, fun k hk => ?_⟩
  · rw [mm_up_ne (by omega)]; exact h.1 c hc
  · rw [mm_up_at, if_neg (fun e => hj e.symm)]; exact h.2.1
  · rw [mm_up_ne (by decide)]; exact h.2.2 k hk
theorem prp_stp {d m : mm_D} {r r' : mm_R} {T : wo_T} {t n s np nb : Nat} (h : prp d r T t n m) : ∀ k, prp d r T t n (stpN m r' s np nb k)
  | 0 => h
  | k + 1 => by
    have ih := prp_stp (r' := r') (s := s) (np := np) (nb := nb) h k
    refine ⟨fun c hc => ?_, ?_, fun j hj => ?_⟩
    · show stpD _ _ _ _ _ c = _
      rw [stpD_row (by omega) (by omega) (by omega) (by omega) (by omega)]; exact ih.1 c hc
    · show stpD _ _ _ _ _ 232 5 = _
      rw [stpD_col (by decide) (by decide) (by decide) (by decide)]; exact ih.2.1
    · show stpD _ _ _ _ _ 236 j = _
      rw [stpD_row (by decide) (by decide) (by decide) (by decide) (by decide)]; exact ih.2.2 j hj
theorem prp_off {d m : mm_D} {r : mm_R} {T : wo_T} {t n : Nat} (h : prp d r T t n m) (w l : Int32) : prp d r T t n (offD m w l) := by
  unfold offD
  split
  · exact prp_up (prp_up h (by decide) _) (by decide) _
  · split
    · exact h
    · exact prp_up (prp_up h (by decide) _) (by decide) _
/-- started anew -/
theorem rdy_rst {d m : mm_D} {r : mm_R} {T : wo_T} {t n : Nat} (hT : rpC d r T) (h : prp d r T t n m) (hn : n ≤ 540) (ht : t < 232) : rdy (rstD m t (tnp T)) r T (o0 T) t n ∧ rstD m t (tnp T) 232 6 = 0 ∧ (t + 2 < 232 → hA (rstD m t (tnp T)) 233 (A0 d t)) := by
  have h6 : tnp T ≤ 6 := hT.1.2.1
  have hb : habs d r := hT.1.2.2.2.2
  have hp := prp_rst h
  have hc := rst0_cols m t
  have hm : ∀ c, c < 17 → rst0 m t c = m c := fun c hc => rst0_row (by omega) (by omega) (by omega) (by omega)
  refine ⟨⟨rpC_r hp.1 rfl hT, ?_, fun k hk => ?_, hn, ?_, ?_, ?_, ?_, fun i _ => gb_0 i⟩, ?_, fun h2 => ⟨?_, fun b hb' => ⟨?_, ?_⟩⟩⟩
  · rw [hp.2.1, wavC_r hp.1 rfl hb _ h6]
  · rw [hp.2.2 k hk, hp.2.1, hp.1 t (Or.inl ht), lookersC_r hp.1 rfl hb _ _ _ _ h6]
  · rw [rstD_col (by decide)]; exact hc.2.1
  · rw [rstD_col (by decide)]; exact hc.2.2.1
  · have e0 : viewC m = tvw T := by
      rw [viewC_r (d := d) (fun c hc => h.1 c (by omega))]; exact hT.2.2.2.2.2.2
    rw [nearC_r (d := m) (fun c hc => by rw [rstD_row (by omega) (by omega) (by omega) (by omega)]) _ _ h6]
    unfold rstD
    rw [mm_up_at, if_pos rfl, e0]
    rfl
  · show rstD m t (tnp T) 232 9 = -1
    rw [rstD_col (by decide)]; exact hc.2.2.2
  · rw [rstD_col (by decide)]; exact hc.1
  · unfold rstD
    rw [mm_up_ne (by decide)]
    unfold rst0
    rw [mm_up_ne (by decide), mm_up_ne (by decide), mm_up_ne (by decide), mm_up_ne (by decide)]
    unfold cpT
    rw [mm_up_ne (by decide)]
    unfold cpT3
    rw [mm_up_ne (by decide)]
    unfold cpT2
    rw [mm_up_ne (by decide)]
    unfold cpT1
    rw [mm_up_ne (by decide)]
    unfold cpT0
    rw [mm_up_at, if_pos rfl, h.1 t (Or.inl ht)]
    rfl
  · unfold rstD
    rw [mm_up_ne (by decide)]
    unfold rst0
    rw [mm_up_ne (by decide), mm_up_ne (by decide), mm_up_ne (by decide), mm_up_ne (by decide)]
    unfold cpT
    rw [mm_up_ne (by decide)]
    unfold cpT3
    rw [mm_up_at]
    have e2 : cpT2 m 233 t (t + 1) 1 = d (t + 1) 1 := by
      unfold cpT2; rw [mm_up_ne (by omega)]; unfold cpT1; rw [mm_up_ne (by omega)]; unfold cpT0; rw [mm_up_ne (by omega), h.1 _ (by omega)]
    by_cases e : b = 1
    · rw [if_pos e, e2, e]; rfl
    · have e0 : b = 0 := by omega
      subst e0
      rw [if_neg (by decide)]
      unfold cpT2
      rw [mm_up_ne (by decide)]
      unfold cpT1
      rw [mm_up_at, if_pos rfl]
      unfold cpT0
      rw [mm_up_ne (by omega), h.1 _ (by omega)]
      rfl
  · unfold rstD
    rw [mm_up_ne (by decide)]
    unfold rst0
    rw [mm_up_ne (by decide), mm_up_ne (by decide), mm_up_ne (by decide), mm_up_ne (by decide)]
    unfold cpT
    rw [mm_up_at]
    have e2 : cpT3 m 233 t (t + 2) 1 = d (t + 2) 1 := by
      unfold cpT3; rw [mm_up_ne (by omega)]; unfold cpT2; rw [mm_up_ne (by omega)]; unfold cpT1; rw [mm_up_ne (by omega)]; unfold cpT0; rw [mm_up_ne (by omega), h.1 _ (by omega)]
    by_cases e : b = 1
    · rw [if_pos e, e2, e]; rfl
    · have e0 : b = 0 := by omega
      subst e0
      rw [if_neg (by decide)]
      unfold cpT3
      rw [mm_up_ne (by decide)]
      unfold cpT2
      rw [mm_up_at, if_pos rfl]
      unfold cpT1
      rw [mm_up_ne (by omega)]
      unfold cpT0
      rw [mm_up_ne (by omega), h.1 _ (by omega)]
      rfl
theorem rdy_prep {d : mm_D} {r : mm_R} {T : wo_T} {t n : Nat} (hT : rpC d r T) (hn : n ≤ 540) (ht : t + 2 < 232) : rdy (prepD d r t (tnp T) n) r T (o0 T) t n ∧ prepD d r t (tnp T) n 232 6 = 0 ∧ hA (prepD d r t (tnp T) n) 233 (A0 d t) ∧ prp d r T t n (prepD d r t (tnp T) n) := by
  have h := prp_prS (n := n) hT (show t < 232 by omega)
  obtain ⟨h1, h2, h3⟩ := rdy_rst hT h hn (by omega)
  exact ⟨h1, h2, h3 ht, prp_rst h⟩
theorem rdy_upd {X : mm_D} {r : mm_R} {T : wo_T} {o : wo_O} {t n : Nat} (h : rdy X r T o t n) (ht : t < 232) {j : Nat} (h5 : j ≠ 5) (v : Int32) (o' : wo_O) (e7 : mm_up X 232 j v 232 7 = o'.2.1) (e8 : mm_up X 232 j v 232 8 = o'.1) (e11 : mm_up X 232 j v 232 11 = nearC X o'.2.2.2 (tnp T)) (e9 : match o'.2.2.1 with | none => mm_up X 232 j v 232 9 = -1 | some x => x.1 < tnp T ∧ mm_up X 232 j v 232 9 = nI x.1 ∧ mm_up X 232 j v 232 10 = x.2) (es : ∀ i, tnp T ≤ i → gb o'.1 i = false) : rdy (mm_up X 232 j v) r T o' t n := by
  obtain ⟨hrp, g5, h236, hn, h7, h8, h11, h9, hst⟩ := h
  have hq : ∀ c, c < 232 ∨ 238 ≤ c → mm_up X 232 j v c = X c := fun c hc => mm_up_ne (by omega)
  have h6 : tnp T ≤ 6 := hrp.1.2.1
  have hb : habs X r := hrp.1.2.2.2.2
  have g : mm_up X 232 j v 232 5 = X 232 5 := by rw [mm_up_at, if_neg (fun e => h5 e.symm)]
  refine ⟨rpC_r hq rfl hrp, ?_, fun k hk => ?_, hn, e7, e8, ?_, e9, es⟩
  · rw [g, wavC_r hq rfl hb _ h6]; exact g5
  · rw [g, mm_up_ne (by decide), hq t (Or.inl ht), lookersC_r hq rfl hb _ _ _ _ h6]; exact h236 k hk
  · rw [nearC_r (fun c hc => hq c (by omega)) _ _ h6]; exact e11
