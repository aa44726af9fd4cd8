/-! ===== the law's own try ===== -/
def lwP (xs : List Int32) (n : Nat) (as : List Value) (μ : mm_M) (r : Option Value × mm_M) : Prop := ∃ k p0 p1, n = k + 8 ∧ as = [Value.ref 0, .int p0, .int p1, .ref 281] ∧ lwR xs k p0 p1 μ r
noncomputable def lwX (xs : List Int32) : mm_X := fun n as μ => @dite _ (∃ r, lwP xs n as μ r) (Classical.propDecidable _) (fun h => some (Classical.choose h)) (fun _ => none)
theorem lwX_spec {xs : List Int32} {n : Nat} {as : List Value} {μ : mm_M} {r : Option Value × mm_M} (h : lwX xs n as μ = some r) : lwP xs n as μ r := by
  unfold lwX at h
  by_cases q : ∃ r, lwP xs n as μ r
  · rw [dif_pos q] at h
    cases h
    exact Classical.choose_spec q
  · rw [dif_neg q] at h
    cases h
theorem lwR_one {xs : List Int32} {k : Nat} {p0 p1 : Int32} {μ : mm_M} {r r2 : Option Value × mm_M} (h : lwR xs k p0 p1 μ r) (h2 : lwR xs k p0 p1 μ r2) : r = r2 := by
  rcases h with ⟨a, _, _, e⟩ | ⟨a, _, f, b, μ', hr, _, _, _, e⟩
  · rcases h2 with ⟨_, _, _, e2⟩ | ⟨a2, _⟩
    · rw [e, e2]
    · exact absurd a a2
  · rcases h2 with ⟨a2, _⟩ | ⟨_, _, f2, b2, μ2, hr2, _, _, _, e2⟩
    · exact absurd a2 a
    · have h3 := mm_fuels hr f2
      have h4 := mm_fuels hr2 f
      rw [Nat.add_comm] at h4
      rw [h3] at h4
      cases h4
      rw [e, e2]
theorem lwX_of {xs : List Int32} {k : Nat} {p0 p1 : Int32} {μ : mm_M} {r : Option Value × mm_M} (h : lwR xs k p0 p1 μ r) : lwX xs (k + 8) [.ref 0, .int p0, .int p1, .ref 281] μ = some r := by
  have q : ∃ r, lwP xs (k + 8) [.ref 0, .int p0, .int p1, .ref 281] μ r := ⟨r, k, p0, p1, rfl, rfl, h⟩
  have e : lwX xs (k + 8) [.ref 0, .int p0, .int p1, .ref 281] μ = some (Classical.choose q) := by
    unfold lwX
    rw [dif_pos q]
  rw [e]
  obtain ⟨k2, a0, a1, hk, has, h2⟩ := Classical.choose_spec q
  have hk2 : k2 = k := by omega
  subst hk2
  cases has
  rw [lwR_one h2 h]
theorem lw_38 {idx : Nat} (h : mm_ml 12 idx = some (1, 6)) : idx = 38 := by
  have h1 := mm_ml_spec h
  have h2 : mm_mlt.all (fun q => !(decide (q.2.2 = (1, 6))) || decide (q.2.1 = 38)) = true := by decide +kernel
  have h3 := List.all_eq_true.mp h2 _ h1
  simp only [Bool.or_eq_true, Bool.not_eq_true', decide_eq_false_iff_not, decide_eq_true_eq] at h3
  rcases h3 with h3 | h3
  · exact absurd trivial h3
  · exact h3
theorem lw_ext {l : Launch} (hl : l.stackTraces = false) {xs : List Int32} : mm_ExtOK l xs (lwX xs) := by
  intro n idx as rest μ v μ1 t hlk ht hext hle p e R s m args below meth c D A adr0 ca0 n0 cb sb Q cc ini pc L S C hml hd hcall hf hlo hr1 hr2 kk
  obtain ⟨k, p0, p1, rfl, rfl, hR⟩ := lwX_spec hext
  obtain rfl := lw_38 hlk
  obtain rfl : q1 = t := Option.some.inj (q1_ok.symm.trans ht)
  obtain ⟨hl1, hl2, hl3⟩ := mm_le_spec hle
  have hcall : mm_callS q1 S = some ([.ref 0, .int p0, .int p1, .ref 281], rest) := hcall
  unfold mm_callS at hcall
  split at hcall
  · rename_i hch
    rw [Bool.and_eq_true, Bool.and_eq_true, decide_eq_true_eq, decide_eq_true_eq, decide_eq_true_eq] at hch
    obtain ⟨hn, hfl, hcat⟩ := hch
    have hcc := Option.some.inj hcall
    have ha : (S.take 4).reverse = [.ref 0, .int p0, .int p1, .ref 281] := congrArg Prod.fst hcc
    have hb : S.drop 4 = rest := congrArg Prod.snd hcc
    have hcat : mm_cats (S.drop 4) ≤ 8 := hcat
    rw [hb] at hcat
    have hS : S = [.ref 281, .int p1, .int p0, .ref 0] ++ rest := by
      rw [← List.take_append_drop 4 S, hb, ← List.reverse_reverse (S.take 4), ha]
      rfl
    have hoks : mm_okS μ S → mm_okS μ [.ref 281, .int p1, .int p0, .ref 0] ∧ mm_okS μ rest := fun h => mm_okS_app (by rw [← hS]; exact h)
    have hasok : mm_okS μ S → mm_okS μ [.ref 0, .int p0, .int p1, .ref 281] := fun h => mm_okS_rev (hoks h).1
    refine mm_V_run (t := q1) (n := k + 8) C hasok (fun h => (hoks h).2) hle (fun adr ca H locs cells slots ls hZ hY hl2' hoL hoS hc hs hpre => ?_) kk
    have cw := vx_cwSW (R := R) (s := s) (args := args) (own := mm_name 12) (index := 38) (y := q1.2.1) (bytes := method_3_code) (maxL := 5) (ret := some .int) (hh := [(0, 10, 13, 13)]) (mc := μ1.1.2.1 - μ.1.2.1) (ms := μ1.1.2.2.1 - μ.1.2.2.1) (rm := mm_rm (k + 8) (μ1.1.2.1 - μ.1.2.1) (μ1.1.2.2.1 - μ.1.2.2.1)) 4 C.2.2.2.1 (ws := lw_ws1) (fun w hw => by
      unfold va_wsS at hw
      rcases List.mem_append.mp hw with h | h
      · simp only [List.mem_cons, List.not_mem_nil, or_false] at h
        rcases h with rfl | rfl | rfl
        · exact ⟨mm_in (b := 4) (i := 155) rfl rfl, Or.inl rfl⟩
        · exact ⟨mm_in (b := 4) (i := 156) rfl rfl, Or.inl rfl⟩
        · exact ⟨mm_in (b := 1) (i := 0) rfl rfl, Or.inl rfl⟩
      · exact lw_ws1_good w h) rfl rfl rfl ⟨by decide, by decide, by decide +kernel⟩ ⟨hf, by show 8 + (5 + 11) + (k + 8) * 200 ≤ R.locals; omega⟩
    exact vx_runSW (As := [Value.ref 0, .int p0, .int p1, .ref 281].map (mm_re adr)) ⟨C.1, C.2.1, hml, C.2.2.1, C.2.2.2.1⟩ (lw_met1 hl hR hZ.2.2.2.2 D adr ca H.size) cw ⟨mm_Pc_blind, fun U hU hW => hpre U hU hW⟩ rfl rfl hl2'.1 (by rw [hS]; rfl) (lv_room (by rw [mm_cats_re]; exact hcat)) hd ⟨by omega, by omega⟩
  · cases hcall
