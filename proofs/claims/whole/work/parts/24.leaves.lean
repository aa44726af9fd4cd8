/-! ===== what a question leaves ===== -/
def prepD (d : mm_D) (r : mm_R) (t np N : Nat) : mm_D := rstD (prS (pr1 d r np) r t np N) t np
/-- the town stands -/
def TW (d : mm_D) (r : mm_R) (np nb : Nat) : Prop := d 4 5 = nI np ∧ np ≤ 6 ∧ d 4 6 = nI nb ∧ nb ≤ 2 ∧ habs d r
/-- a question leaves all but the trial and the scratch rows -/
def fr (d : mm_D) (g : mm_G) (r : mm_R) (d2 : mm_D) (g2 : mm_G) (r2 : mm_R) : Prop := (∀ c, ¬ scr c → ¬ (232 ≤ c ∧ c < 238) → d2 c = d c) ∧ (∀ c, c ≠ 233 → g2 c = g c) ∧ (∀ c j, ¬ (c = 232 ∧ j = 2) → r2 c j = r c j)
theorem prepD_row {d : mm_D} {r : mm_R} {t np N c : Nat} (h : c < 232 ∨ 238 ≤ c) : prepD d r t np N c = d c := by
  unfold prepD
  rw [rstD_row (by omega) (by omega) (by omega) (by omega), prS_row (by omega)]
  unfold pr1
  rw [mm_up_ne (by omega), mm_up_ne (by omega)]
theorem prepD_9 {d : mm_D} {r : mm_R} {t np N : Nat} : prepD d r t np N 232 9 = -1 := by
  unfold prepD rstD rst0
  rw [mm_up_at, if_neg (by decide), mm_up_at, if_pos rfl]
theorem TC_prep {sh : mm_S} {d : mm_D} {r : mm_R} {t np nb N : Nat} (h : TW d r np nb) (h6 : so sh t 6) (ht : ¬ scr t) : TC sh (prepD d (mm_up r 232 2 (some t)) t np N) (mm_up r 232 2 (some t)) np nb t := by
  obtain ⟨h1, h2, h3, h4, h5⟩ := h
  refine ⟨(mm_up_at 2).trans (if_pos rfl), h6, ht, ?_, h2, ?_, h4, Or.inl prepD_9, ?_⟩
  · rw [prepD_row (by omega)]; exact h1
  · rw [prepD_row (by omega)]; exact h3
  · exact habs_eq (fun c hc => prepD_row hc) (habs_r (mm_up_ne (by omega)) h5)
theorem stpN_row {d : mm_D} {r : mm_R} {s np nb c : Nat} (h : c < 232 ∨ 238 ≤ c) : ∀ k, stpN d r s np nb k c = d c
  | 0 => rfl
  | k + 1 => by rw [stpN, stpD_row (by omega) (by omega) (by omega) (by omega) (by omega), stpN_row h k]
theorem tw38 {sh : mm_S} {r : mm_R} (hsh : shp sh) (hr : rfx r) : tw sh r 38 := ⟨so0 hsh rfl, so0 hsh rfl, shl hsh (Nat.le_of_ble_eq_true rfl) rfl, so0 hsh rfl, shl hsh (Nat.le_of_ble_eq_true rfl) rfl, hr _ _ _ rfl, hr _ _ _ rfl⟩
theorem ntw38 : ntw 38 := by unfold ntw scr; decide
theorem fr_run {d : mm_D} {g : mm_G} {r : mm_R} {t np nb N k : Nat} {d2 : mm_D} {y : Int64} (ha : ag (stpN (prepD d (mm_up r 232 2 (some t)) t np N) (mm_up r 232 2 (some t)) t np nb k) d2) : fr d g r d2 (mm_up g 233 3 y) (mm_up r 232 2 (some t)) := by
  refine ⟨fun c h1 h2 => ?_, fun c h => mm_up_ne h, fun c j h => ?_⟩
  · rw [ha c h1, stpN_row (by omega), prepD_row (by omega)]
  · by_cases e : c = 232
    · subst e
      rw [mm_up_at, if_neg (fun q => h ⟨rfl, q⟩)]
    · rw [mm_up_ne e]
