/-! ===== calls, and all runs ===== -/
theorem mm_x6_ok : (mm_mlt.all fun q => decide (q.2.2.2 ≠ 6) || (decide (q.2.2.1 = 1) && decide (q.1 = 12))) = true := by decide +kernel
theorem mm_pop_spec {n : Nat} {S : List Value} {as rest : List Value} (h : mm_pop n S = some (as, rest)) : ∃ (b : Nat) (as' : List Value), as = .ref b :: as' ∧ S = as'.reverse ++ .ref b :: rest ∧ as'.length = n := by
  unfold mm_pop at h
  split at h
  · rename_i b r hb
    split at h
    · rename_i hn
      cases h
      refine ⟨b, (S.take n).reverse, rfl, ?_, by rw [List.length_reverse]; exact hn⟩
      rw [List.reverse_reverse, ← hb, List.take_append_drop]
    · cases h
  · cases h
theorem mm_ml_P {own idx k kind : Nat} (h : mm_ml own idx = some (k, kind)) : mm_mlP (own, idx, k, kind) := mm_mlt_ok _ (mm_ml_spec h)
theorem mm_ml_2 {own idx k kind : Nat} (h : mm_ml own idx = some (k, kind)) (hk : kind < 5) : 2 ≤ k := by
  have h1 := List.all_eq_true.mp mm_mx_ok _ (mm_ml_spec h)
  rw [Bool.or_eq_true, decide_eq_true_eq, decide_eq_true_eq] at h1
  rcases h1 with h1 | h1
  · exact h1.1
  · exact absurd h1 (by show ¬ 5 ≤ kind; omega)
theorem mm_cats_re (adr : Nat → Nat) (S : List Value) : ((S.map (mm_re adr)).map fun v => v.category).sum = mm_cats S := by
  unfold mm_cats
  rw [List.map_map]
  congr 1
  apply List.map_congr_left
  intro v _
  exact mm_re_cat adr v
theorem mm_ok_grow {μ μ' : mm_M} (h : mm_next μ ≤ mm_next μ') {v : Value} (hv : mm_ok μ v) : mm_ok μ' v := by
  cases v with
  | ref k =>
    have hv : k < mm_next μ ∨ (mm_K ≤ k ∧ k < mm_K + 4) := hv
    rcases hv with h1 | h1
    · exact Or.inl (Nat.lt_of_lt_of_le h1 h)
    · exact Or.inr h1
  | _ => trivial
theorem mm_re_Y {adr0 : Nat → Nat} {ca0 : Nat → ClassId} {adr : Nat → Nat} {ca : Nat → ClassId} {μ μ' : mm_M} (hY : mm_Y adr0 ca0 (mm_next μ) adr ca μ') {v : Value} (hv : mm_ok μ v) : mm_re adr v = mm_re adr0 v := by
  cases v with
  | ref k =>
    have hv : k < mm_next μ ∨ (mm_K ≤ k ∧ k < mm_K + 4) := hv
    show Value.ref _ = Value.ref _
    rw [hY.1 k (hv.imp id (fun h => h.1))]
  | _ => rfl
section CALLS
variable {l : Launch} {xs : List Int32} {ext : mm_X} {p : Program} {e : Env} {R : Room} {s : State} {m : MethodId} {args : Array Value} {below : List Frame} {meth : Method} {c : Code} {D : va_G} {A : Nat → Prop} {adr0 : Nat → Nat} {ca0 : Nat → ClassId} {n0 cb sb : Nat} {Q : State → Prop} {own : Nat} {cc : ByteArray} {ini : Bool}
variable {pc : Nat} {L : mm_L} {S : List Value} {μ : mm_M}
/-- what a caller knows before a call, and what it does behind it -/
theorem mm_V_run {as rest : List Value} {v : Option Value} {μ1 : mm_M} {n : Nat} {t : mm_T} (C : mm_C p s m args meth c D xs A adr0 own cc ini) (has : mm_okS μ S → mm_okS μ as) (hrest : mm_okS μ S → mm_okS μ rest) (hle : mm_le μ μ1 = true)
    (hrun : ∀ (adr : Nat → Nat) (ca : Nat → ClassId) (H : Heap) (locs : List Loc) (cells slots : Nat) (ls : Array Slot), mm_Z D A s adr ca μ H locs → mm_Y adr0 ca0 n0 adr ca μ → mm_lr adr L ls → mm_okL μ L → mm_okS μ S → cells + cb = μ.1.2.1 → slots + sb = μ.1.2.2.1 →
      (∀ U : State, U.heap = H → s.WarmedH U.vm → mm_Pc D xs adr ca μ H.size as ((as.map (mm_re adr)).toArray) U) →
      va_Run p l e R s m args below meth c H locs cells slots (μ1.1.2.1 - μ.1.2.1) (μ1.1.2.2.1 - μ.1.2.2.1) (F0 m pc ls (S.map (mm_re adr))) (rest.map (mm_re adr)) (mm_Qc D adr ca (mm_next μ) v μ1 (va_A (mm_w adr ca μ) H.size) ((as.map (mm_re adr)).toArray)) (va_A (mm_w adr ca μ) H.size))
    (kk : mm_V p l e R s m args below meth c D A adr0 ca0 n0 cb sb Q (pc + 3) L (v.toList ++ rest) μ1) : mm_V p l e R s m args below meth c D A adr0 ca0 n0 cb sb Q pc L S μ := by
  intro adr ca H locs cells slots ls hZ hY hl hoL hoS hc hs
  obtain ⟨hl1, hl2, hl3⟩ := mm_le_spec hle
  have hA1 : ∀ q, va_A (mm_w adr ca μ) H.size q → A q := fun q h => by
    rcases h with ⟨k, en, h⟩ | h
    · exact hZ.2.1.2 k _ h
    · exact C.2.2.2.2.2.1 q (Nat.le_trans hZ.2.2.1.1 h)
  have hpre : ∀ U : State, U.heap = H → s.WarmedH U.vm → mm_Pc D xs adr ca μ H.size as ((as.map (mm_re adr)).toArray) U := fun U hU hW => by
    refine ⟨rfl, by rw [hU], by rw [hU]; exact hZ.1, hZ.2.1.weaken (fun _ _ _ _ => trivial), mm_arr_moved hW.alike hZ.2.2.2.1, va_K.moved hW.alike C.2.2.2.2.1, mm_nw_warm hW (mm_nw_of C.2.2.2.1), ?_⟩
    rw [hU]
    exact mm_const_at (mm_const_moved hW.alike C.2.2.2.2.2.2.1) hZ.2.2.1.2.1 hA1 (fun k hk => hY.1 k (Or.inr hk))
  refine mm_called (hrun adr ca H locs cells slots ls hZ hY hl hoL hoS hc hs hpre) (fun st o t h => h.2) hZ.2.2.1 hA1 hA1 (fun v' st T H1 locs1 hst hT hal hq hS => ?_)
  obtain ⟨⟨adr', ca', ho, hY', hP', hD', hAr', hin', hok'⟩, hF⟩ := hq
  have hv : v' = v.map (mm_re adr') := by
    have := ho
    injection this
  subst hv
  have hkk := kk adr' ca' H1 locs1 (cells + (μ1.1.2.1 - μ.1.2.1)) (slots + (μ1.1.2.2.1 - μ.1.2.2.1)) ls ⟨by rw [← hT]; exact hP', hD'.weaken (fun _ q _ h => hA1 q.1 h), hS, mm_arr_moved hal.symm hAr', hin'⟩
    ⟨fun k hk => by
      have hn := hY.2.2
      rw [hY'.1 k (by rcases hk with h | h; exact Or.inl (by omega); exact Or.inr h)]; exact hY.1 k hk, fun k hk => by
      have hn := hY.2.2
      rw [hY'.2.1 k (by omega)]; exact hY.2.1 k hk, Nat.le_trans hY.2.2 hl1⟩
    ⟨hl.1, hl.2.1, fun i w hw => by rw [mm_re_Y hY' (hoL i w hw)]; exact hl.2.2 i w hw⟩ (fun i w hw => mm_ok_grow hl1 (hoL i w hw))
    (fun w hw => by
      rcases List.mem_append.mp hw with h | h
      · cases v with
        | none => cases h
        | some z =>
          have : w = z := by simpa using h
          subst this
          exact hok' w rfl
      · exact mm_ok_grow hl1 (hrest hoS w h)) (by omega) (by omega)
  have e1 : (v.toList ++ rest).map (mm_re adr') = (v.map (mm_re adr')).toList ++ rest.map (mm_re adr) := by
    rw [List.map_append]
    congr 1
    · cases v <;> rfl
    · exact List.map_congr_left (fun w hw => mm_re_Y hY' (hrest hoS w hw))
  rw [e1] at hkk
  exact hkk
theorem mm_okS_app {S1 S2 : List Value} (h : mm_okS μ (S1 ++ S2)) : mm_okS μ S1 ∧ mm_okS μ S2 := ⟨fun v hv => h v (List.mem_append_left _ hv), fun v hv => h v (List.mem_append_right _ hv)⟩
theorem mm_okS_rev {S1 : List Value} (h : mm_okS μ S1.reverse) : mm_okS μ S1 := fun v hv => h v (List.mem_reverse.mpr hv)
set_option maxHeartbeats 4000000 in
theorem mm_V_call {f : Nat} (IH : mm_RunOK l xs ext f) (C : mm_C p s m args meth c D xs A adr0 own cc ini) (hml : c.maxLocals = L.length) {n idx k kind a len : Nat} {i : Instr} {t : mm_T} {as rest : List Value} {v : Option Value} {μ1 : mm_M} (hi : mm_inv i = some (idx, a)) (hlen : mm_lenok i len = true) (hd : decode cc pc = .ok (i, len)) (hlk : mm_ml own idx = some (k, kind)) (hft : mm_fits a kind = true) (hk6 : kind ≠ 6) (ht : mm_mt[k]? = some t) (hcall : mm_call μ (k, kind) t S = some (as, rest)) (hrun : mm_run xs ext f n k 0 (mm_entry as t.2.2.2.1) [] μ = some (v, μ1)) (hle : mm_le μ μ1 = true)
    (hf : n + 1 ≤ R.frames) (hlo : (n + 1) * 200 ≤ R.locals) (hr1 : μ1.1.2.1 ≤ cb + R.cells) (hr2 : μ1.1.2.2.1 ≤ sb + R.slots)
    (kk : mm_V p l e R s m args below meth c D A adr0 ca0 n0 cb sb Q (pc + 3) L (v.toList ++ rest) μ1) : mm_V p l e R s m args below meth c D A adr0 ca0 n0 cb sb Q pc L S μ := by
  obtain ⟨hl1, hl2, hl3⟩ := mm_le_spec hle
  have hP := mm_ml_P hlk
  have hy := mm_mt_y ht
  have hfm := hft
  unfold mm_fits at hfm
  simp only [Bool.or_eq_true, Bool.and_eq_true, decide_eq_true_eq] at hfm
  have hkind : (a = 0 ∧ kind = 0) ∨ (a = 1 ∧ kind = 1) ∨ (a = 2 ∧ kind = 2) ∨ (a = 2 ∧ kind = 4) := by omega
  have hk2 : 2 ≤ k := mm_ml_2 hlk (by omega)
  have htm := mm_mt_in ht hk2
  have hcls := mm_mt_cls htm
  have hna := mm_mt_na htm
  have hml100 := mm_mt_ml htm
  have hgood := mm_ws_good (mm_mtx_ok t htm).1
  have hroom : (mm_rm n (μ1.1.2.1 - μ.1.2.1) (μ1.1.2.2.1 - μ.1.2.2.1)).frames + 1 ≤ R.frames ∧ 8 + (t.2.2.2.1 + 11) + (mm_rm n (μ1.1.2.1 - μ.1.2.1) (μ1.1.2.2.1 - μ.1.2.2.1)).locals ≤ R.locals := ⟨hf, by show 8 + (t.2.2.2.1 + 11) + n * 200 ≤ R.locals; omega⟩
  have hmeth := fun (has : mm_okS μ as) (hin : mm_in1 μ) (hfl : (mm_flat as).length ≤ t.2.2.2.1) (adr : Nat → Nat) (ca : Nat → ClassId) (sz : Nat) => mm_met IH ht hk2 hrun hle hfl has hin D adr ca sz
  have inv : (a = 0 → i = .invokevirtual idx) ∧ (a = 1 → i = .invokestatic idx) ∧ (a = 2 → i = .invokespecial idx) := by
    unfold mm_inv at hi
    split at hi <;> first | (cases hi; exact ⟨by decide, by decide, by decide⟩) | (cases hi; refine ⟨?_, ?_, ?_⟩ <;> intro h <;> first | rfl | cases h) | cases hi
  have hg : ∀ w, w ∈ lw_g → (w.onTables && w.keeps) = true → w ∈ lw_g ∧ ((w.onTables && w.keeps) = true ∨ ∃ ty, w = .arrayClass ty) := fun w h1 h2 => ⟨h1, Or.inl h2⟩
  rcases hkind with ⟨ha, hkd⟩ | ⟨ha, hkd⟩ | ⟨ha, hkd⟩ | ⟨ha, hkd⟩
  · subst hkd
    have hi2 := inv.1 ha
    subst hi2
    obtain rfl : len = 3 := of_decide_eq_true hlen
    have hcall : mm_callV μ t S = some (as, rest) := hcall
    unfold mm_callV at hcall
    split at hcall
    · rename_i b as0 rest0 hpop
      split at hcall
      · rename_i hch
        cases hcall
        rw [Bool.and_eq_true, Bool.and_eq_true, decide_eq_true_eq, decide_eq_true_eq] at hch
        obtain ⟨hO, hfl, hcat⟩ := hch
        obtain ⟨hb, hsh⟩ := mm_isO_spec hO
        obtain ⟨b', as', he, hS, hn⟩ := mm_pop_spec hpop
        cases he
        subst hS
        have hasok : mm_okS μ (as0.reverse ++ .ref b :: rest) → mm_okS μ (.ref b :: as0) := fun h => mm_okS_c (mm_okS_h (mm_okS_app h).2) (mm_okS_rev (mm_okS_app h).1)
        refine mm_V_run (t := t) (n := n) C hasok (fun h => mm_okS_t (mm_okS_app h).2) hle (fun adr ca H locs cells slots ls hZ hY hl hoL hoS hc hs hpre => ?_) kk
        obtain ⟨⟨p1, p2⟩, p3, p4⟩ := hP
        rw [hy] at p1 p2 p3 p4
        have ht12 : t.1 < 12 := by
          have := hZ.2.2.2.2.2.2 b hb
          rw [hsh] at this
          by_cases h20 : t.1 < 20
          · exact this h20
          · have h0 := List.all_eq_true.mp mm_ix_ok t htm
            rw [Bool.and_eq_true, decide_eq_true_eq] at h0
            omega
        have hw := mm_w_get (adr := adr) (ca := ca) hb
        rw [mm_e_obj (by omega), hsh] at hw
        have hrecv := va_recv C.2.2.2.2.1 hZ.1 (mm_cl_get ht12) hw
        rw [← (mm_mtx_ok t htm).2] at hrecv
        have cw := cwV (R := R) (s := s) (args := args) (own := mm_name own) (C := t.2.1.cls) (index := idx) (y := t.2.1) (bytes := t.2.2.1) (maxL := t.2.2.2.1) (ret := t.2.2.2.2.1) (mc := μ1.1.2.1 - μ.1.2.1) (ms := μ1.1.2.2.1 - μ.1.2.2.1) (rm := mm_rm n (μ1.1.2.1 - μ.1.2.1) (μ1.1.2.2.1 - μ.1.2.2.1)) t.2.2.2.2.2 C.2.2.2.1 (ws := mm_ws t) (fun w hw => by
          rcases List.mem_append.mp hw with h | h
          · simp only [List.mem_cons, List.not_mem_nil, or_false] at h
            rcases h with rfl | rfl | rfl | rfl
            · exact hg _ p1 rfl
            · exact hg _ p3 rfl
            · exact hg _ p4 rfl
            · exact hg _ p2 rfl
          · exact hgood w h) rfl rfl rfl ⟨rfl, hcls.1, hcls.2, hna⟩ hroom
        exact va_runV (As := as0.map (mm_re adr)) (b := adr b) ⟨C.1, C.2.1, hml, C.2.2.1, C.2.2.2.1⟩ (hmeth (hasok hoS) hZ.2.2.2.2 hfl adr ca H.size) cw ⟨mm_Pc_blind, hrecv, fun U hU hW => hpre U hU hW⟩ rfl (by rw [List.length_map]; exact hn) hl.1 (by rw [List.map_append, List.map_reverse]; rfl) (lv_room (by rw [mm_cats_re]; exact hcat)) hd ⟨by omega, by omega⟩
      · cases hcall
    · cases hcall
  · subst hkd
    have hi2 := inv.2.1 ha
    subst hi2
    obtain rfl : len = 3 := of_decide_eq_true hlen
    have hcall : mm_callS t S = some (as, rest) := hcall
    unfold mm_callS at hcall
    split at hcall
    · rename_i hch
      cases hcall
      rw [Bool.and_eq_true, Bool.and_eq_true, decide_eq_true_eq, decide_eq_true_eq, decide_eq_true_eq] at hch
      obtain ⟨hn, hfl, hcat⟩ := hch
      have hS : S.take t.2.2.2.2.2 ++ S.drop t.2.2.2.2.2 = S := List.take_append_drop _ _
      have hoks : mm_okS μ S → mm_okS μ (S.take t.2.2.2.2.2) ∧ mm_okS μ (S.drop t.2.2.2.2.2) := fun h => mm_okS_app (by rw [hS]; exact h)
      have hasok : mm_okS μ S → mm_okS μ (S.take t.2.2.2.2.2).reverse := fun h => mm_okS_rev (by rw [List.reverse_reverse]; exact (hoks h).1)
      refine mm_V_run (t := t) (n := n) C hasok (fun h => (hoks h).2) hle (fun adr ca H locs cells slots ls hZ hY hl hoL hoS hc hs hpre => ?_) kk
      obtain ⟨⟨p1, p2⟩, p3⟩ := hP
      rw [hy] at p1 p2 p3
      have cb' := callB_of (R := R) (s := s) (args := args) (own := mm_name own) (index := idx) (y := t.2.1) (bytes := t.2.2.1) (maxL := t.2.2.2.1) (ret := t.2.2.2.2.1) (mc := μ1.1.2.1 - μ.1.2.1) (ms := μ1.1.2.2.1 - μ.1.2.2.1) (rm := mm_rm n (μ1.1.2.1 - μ.1.2.1) (μ1.1.2.2.1 - μ.1.2.2.1)) t.2.2.2.2.2 C.2.2.2.1 (ws := mm_ws t) hgood rfl rfl rfl (C.2.2.2.1 _ p2) (C.2.2.2.1 _ p1) ⟨hcls.1, hcls.2, hna⟩ hroom
      exact va_runS (As := (S.take t.2.2.2.2.2).reverse.map (mm_re adr)) ⟨C.1, C.2.1, hml, C.2.2.1, C.2.2.2.1⟩ (hmeth (hasok hoS) hZ.2.2.2.2 hfl adr ca H.size) ⟨cb', C.2.2.2.1 _ p3⟩ ⟨mm_Pc_blind, fun U hU hW => hpre U hU hW⟩ rfl (by rw [List.length_map, List.length_reverse]; exact hn) hl.1 (by rw [← List.map_reverse, List.reverse_reverse, ← List.map_append, hS]) (lv_room (by rw [mm_cats_re]; exact hcat)) hd ⟨by omega, by omega⟩
    · cases hcall
  · subst hkd
    have hi2 := inv.2.2 ha
    subst hi2
    obtain rfl : len = 3 := of_decide_eq_true hlen
    have hcall : mm_callI t S = some (as, rest) := hcall
    unfold mm_callI at hcall
    split at hcall
    · rename_i b as0 rest0 hpop
      split at hcall
      · rename_i hch
        cases hcall
        rw [Bool.and_eq_true, Bool.and_eq_true, decide_eq_true_eq, decide_eq_true_eq, decide_eq_true_eq] at hch
        obtain ⟨hrt, hfl, hcat⟩ := hch
        obtain ⟨b', as', he, hS, hn⟩ := mm_pop_spec hpop
        cases he
        subst hS
        have hasok : mm_okS μ (as0.reverse ++ .ref b :: rest) → mm_okS μ (.ref b :: as0) := fun h => mm_okS_c (mm_okS_h (mm_okS_app h).2) (mm_okS_rev (mm_okS_app h).1)
        refine mm_V_run (t := t) (n := n) C hasok (fun h => mm_okS_t (mm_okS_app h).2) hle (fun adr ca H locs cells slots ls hZ hY hl hoL hoS hc hs hpre => ?_) kk
        obtain ⟨⟨p1, p2⟩, p3, p4⟩ := hP
        rw [hy] at p1 p2 p3 p4
        have hM := hmeth (hasok hoS) hZ.2.2.2.2 hfl adr ca H.size
        have hws : mm_ws t = Cond.code t.2.1 t.2.2.1 t.2.2.2.1 none :: lw_tbl.filter goodWord := by unfold mm_ws; rw [hrt]
        have cw := cwI (R := R) (s := s) (args := args) (own := mm_name own) (index := idx) (y := t.2.1) (bytes := t.2.2.1) (maxL := t.2.2.2.1) (mc := μ1.1.2.1 - μ.1.2.1) (ms := μ1.1.2.2.1 - μ.1.2.2.1) (rm := mm_rm n (μ1.1.2.1 - μ.1.2.1) (μ1.1.2.2.1 - μ.1.2.2.1)) t.2.2.2.2.2 C.2.2.2.1 (ws := mm_ws t) hgood hws rfl rfl (C.2.2.2.1 _ p2) (C.2.2.2.1 _ p1) (C.2.2.2.1 _ p3) p4 ⟨hcls.1, hcls.2, hna⟩ hroom
        exact va_runI (As := as0.map (mm_re adr)) (b := adr b) ⟨C.1, C.2.1, hml, C.2.2.1, C.2.2.2.1⟩ hM cw ⟨mm_Pc_blind, fun U hU hW => hpre U hU hW⟩ rfl (by rw [List.length_map]; exact hn) hl.1 (by rw [List.map_append, List.map_reverse]; rfl) (lv_room (by rw [mm_cats_re]; exact hcat)) hd ⟨by omega, by omega⟩
      · cases hcall
    · cases hcall
  · subst hkd
    have hi2 := inv.2.2 ha
    subst hi2
    obtain rfl : len = 3 := of_decide_eq_true hlen
    have hcall : mm_callI t S = some (as, rest) := hcall
    unfold mm_callI at hcall
    split at hcall
    · rename_i b as0 rest0 hpop
      split at hcall
      · rename_i hch
        cases hcall
        rw [Bool.and_eq_true, Bool.and_eq_true, decide_eq_true_eq, decide_eq_true_eq, decide_eq_true_eq] at hch
        obtain ⟨hrt, hfl, hcat⟩ := hch
        obtain ⟨b', as', he, hS, hn⟩ := mm_pop_spec hpop
        cases he
        subst hS
        have hasok : mm_okS μ (as0.reverse ++ .ref b :: rest) → mm_okS μ (.ref b :: as0) := fun h => mm_okS_c (mm_okS_h (mm_okS_app h).2) (mm_okS_rev (mm_okS_app h).1)
        refine mm_V_run (t := t) (n := n) C hasok (fun h => mm_okS_t (mm_okS_app h).2) hle (fun adr ca H locs cells slots ls hZ hY hl hoL hoS hc hs hpre => ?_) kk
        obtain ⟨⟨p1, p2⟩, p3, p4⟩ := hP
        rw [hy] at p1 p2 p3 p4
        have hM := hmeth (hasok hoS) hZ.2.2.2.2 hfl adr ca H.size
        have hws : mm_ws t = Cond.code t.2.1 t.2.2.1 t.2.2.2.1 none :: lw_tbl.filter goodWord := by unfold mm_ws; rw [hrt]
        have cw := va_cnB (R := R) (s := s) (args := args) (own := mm_name own) (host := "ShyBell") (index := idx) (y := t.2.1) (bytes := t.2.2.1) (maxL := t.2.2.2.1) (mc := μ1.1.2.1 - μ.1.2.1) (ms := μ1.1.2.2.1 - μ.1.2.2.1) (rm := mm_rm n (μ1.1.2.1 - μ.1.2.1) (μ1.1.2.2.1 - μ.1.2.2.1)) t.2.2.2.2.2 C.2.2.2.1 (ws := mm_ws t) hgood hws rfl rfl (va_Nw.of rfl (C.2.2.2.1 _ p1)) (C.2.2.2.1 _ p2) ⟨hcls.1, hcls.2, hna⟩ hroom
        exact va_runIN (Ts := lw_g) (As := as0.map (mm_re adr)) (b := adr b) ⟨C.1, C.2.1, hml, C.2.2.1, C.2.2.2.1⟩ hM ⟨cw, p4, C.2.2.2.1 _ p3⟩ ⟨mm_Pc_blind, fun U hU hW => hpre U hU hW⟩ rfl (by rw [List.length_map]; exact hn) hl.1 (by rw [List.map_append, List.map_reverse]; rfl) (lv_room (by rw [mm_cats_re]; exact hcat)) hd ⟨by omega, by omega⟩
      · cases hcall
    · cases hcall
end CALLS
/-- the law's own try: what is asked of it -/
def mm_ExtOK (l : Launch) (xs : List Int32) (ext : mm_X) : Prop := ∀ (n idx : Nat) (as rest : List Value) (μ : mm_M) (v : Option Value) (μ1 : mm_M) (t : mm_T), mm_ml 12 idx = some (1, 6) → mm_mt[1]? = some t → ext n as μ = some (v, μ1) → mm_le μ μ1 = true →
  ∀ (p : Program) (e : Env) (R : Room) (s : State) (m : MethodId) (args : Array Value) (below : List Frame) (meth : Method) (c : Code) (D : va_G) (A : Nat → Prop) (adr0 : Nat → Nat) (ca0 : Nat → ClassId) (n0 cb sb : Nat) (Q : State → Prop) (cc : ByteArray) (ini : Bool) (pc : Nat) (L : mm_L) (S : List Value), mm_C p s m args meth c D xs A adr0 12 cc ini → c.maxLocals = L.length → decode cc pc = .ok (.invokestatic idx, 3) → mm_call μ (1, 6) t S = some (as, rest) →
  n + 1 ≤ R.frames → (n + 1) * 200 ≤ R.locals → μ1.1.2.1 ≤ cb + R.cells → μ1.1.2.2.1 ≤ sb + R.slots → mm_V p l e R s m args below meth c D A adr0 ca0 n0 cb sb Q (pc + 3) L (v.toList ++ rest) μ1 → mm_V p l e R s m args below meth c D A adr0 ca0 n0 cb sb Q pc L S μ
theorem mm_run_mono {xs : List Int32} {ext : mm_X} : ∀ (f n k pc : Nat) (L : mm_L) (S : List Value) (μ : mm_M) (v : Option Value) (μf : mm_M), mm_run xs ext f n k pc L S μ = some (v, μf) → mm_le μ μf = true
  | 0, _, _, _, _, _, _, _, _, h => by cases h
  | f + 1, n, k, pc, L, S, μ, v, μf, h => by
    have tr : ∀ {a b c : mm_M}, mm_le a b = true → mm_le b c = true → mm_le a c = true := fun h1 h2 => by
      obtain ⟨a1, a2, a3⟩ := mm_le_spec h1
      obtain ⟨b1, b2, b3⟩ := mm_le_spec h2
      unfold mm_le
      rw [Bool.and_eq_true, Bool.and_eq_true, decide_eq_true_eq, decide_eq_true_eq, decide_eq_true_eq]
      exact ⟨Nat.le_trans a1 b1, Nat.le_trans a2 b2, Nat.le_trans a3 b3⟩
    have rf : mm_le μ μ = true := by
      unfold mm_le
      rw [Bool.and_eq_true, Bool.and_eq_true, decide_eq_true_eq, decide_eq_true_eq, decide_eq_true_eq]
      exact ⟨Nat.le_refl _, Nat.le_refl _, Nat.le_refl _⟩
    unfold mm_run at h
    split at h
    · cases h
    · split at h
      · cases h
      · split at h
        · split at h
          · cases h
          · split at h
            · cases h
            · split at h
              · cases h
              · split at h
                · split at h
                  · split at h
                    · exact mm_run_mono f _ _ _ _ _ _ _ _ h
                    · cases h
                  · cases h
                · split at h
                  · split at h
                    · cases h
                    · split at h
                      · cases h
                      · split at h
                        · cases h
                        · split at h
                          · rename_i hle
                            exact tr hle (mm_run_mono f _ _ _ _ _ _ _ _ h)
                          · cases h
                  · cases h
        · split at h
          · cases h
            exact rf
          · split at h
            · cases h
            · split at h
              · rename_i hle
                exact tr hle (mm_run_mono f _ _ _ _ _ _ _ _ h)
              · cases h
theorem mm_dec_spec {q : mm_T} {pc : Nat} {i : Instr} (h : mm_dec q pc = some i) : ∃ len, decode q.2.2.1 pc = .ok (i, len) ∧ mm_lenok i len = true := by
  unfold mm_dec at h
  split at h
  · cases h
  · rename_i j len hj
    split at h
    · rename_i hl
      cases h
      exact ⟨len, hj, hl⟩
    · cases h
set_option maxHeartbeats 4000000 in
theorem mm_sound {l : Launch} {xs : List Int32} {ext : mm_X} (hM : mm_MnaOK) (hX : mm_ExtOK l xs ext) : ∀ f, mm_RunOK l xs ext f := by
  intro f
  induction f using Nat.strongRecOn with
  | _ f ih =>
  cases f with
  | zero => intro n k pc L S μ v μf q hq h; cases h
  | succ f =>
    have ih := ih f (Nat.lt_succ_self f)
    intro n k pc L S μ v μf q hq h p e R s m args below meth c D A adr0 ca0 n0 cb sb Q C hml hf hlo hr1 hr2 hret
    unfold mm_run at h
    rw [hq] at h
    dsimp only at h
    split at h
    · cases h
    · rename_i i hi
      obtain ⟨len, hd, hlen⟩ := mm_dec_spec hi
      split at h
      · rename_i idx a hinv
        split at h
        · cases h
        · rename_i n' 
          split at h
          · cases h
          · rename_i lk hlk
            split at h
            · cases h
            · rename_i hLl
              have hLl : L.length = q.2.2.2.1 := Classical.not_not.mp hLl
              split at h
              · rename_i h5
                split at h
                · rename_i x S0
                  split at h
                  · rename_i hcat
                    have hkk := ih (n' + 1) k (pc + 3) L S0 μ v μf q hq h p e R s m args below meth c D A adr0 ca0 n0 cb sb Q C hml hf hlo hr1 hr2 hret
                    obtain ⟨k5, kind5⟩ := lk
                    obtain ⟨rfl, ha⟩ : kind5 = 5 ∧ a = 2 := h5
                    have hP := mm_ml_P hlk
                    have hi2 : i = .invokespecial idx := by
                      unfold mm_inv at hinv
                      split at hinv <;> first | (cases hinv; rfl) | (cases hinv; cases ha) | cases hinv
                    subst hi2
                    obtain rfl : len = 3 := of_decide_eq_true hlen
                    intro adr ca H locs cells slots ls hZ hY hl hoL hoS hc hs
                    refine W.objInit C.1 C.2.1 C.2.2.1 (C.2.2.2.1 _ hP) (C.2.2.2.1 _ mm_oi_ok.1) (C.2.2.2.1 _ mm_oi_ok.2) (g := F0 m pc ls _) rfl (by rw [hml, ← hLl]; exact hl.1) rfl hd (by omega) ?_ (hkk adr ca H locs cells slots ls hZ hY hl hoL (mm_okS_t hoS) hc hs)
                    have h8 := lv_room (m := m) (pc := pc) (ls := ls) (rest := ((Value.ref x :: S0).map (mm_re adr))) (st := S0.map (mm_re adr)) (by rw [mm_cats_re]; exact hcat)
                    omega
                  · cases h
                · cases h
              · rename_i h5
                split at h
                · rename_i hft
                  split at h
                  · cases h
                  · rename_i t ht
                    split at h
                    · cases h
                    · rename_i as rest hcall
                      split at h
                      · cases h
                      · rename_i v1 μ1 hcr
                        split at h
                        · rename_i hle
                          have hle2 := mm_run_mono _ _ _ _ _ _ _ _ _ h
                          obtain ⟨_, b2, b3⟩ := mm_le_spec hle2
                          have hkk := ih (n' + 1) k (pc + 3) L _ μ1 v μf q hq h p e R s m args below meth c D A adr0 ca0 n0 cb sb Q C hml hf hlo hr1 hr2 hret
                          obtain ⟨k1, kind⟩ := lk
                          by_cases h6 : kind = 6
                          · subst h6
                            rw [if_pos rfl] at hcr
                            have hfm := hft
                            unfold mm_fits at hfm
                            simp only [Bool.or_eq_true, Bool.and_eq_true, decide_eq_true_eq] at hfm
                            have ha : a = 1 := by omega
                            have hi2 : i = .invokestatic idx := by
                              unfold mm_inv at hinv
                              split at hinv <;> first | (cases hinv; rfl) | (cases hinv; cases ha) | cases hinv
                            subst hi2
                            obtain rfl : len = 3 := of_decide_eq_true hlen
                            have hk1 : k1 = 1 ∧ q.1 = 12 := by
                              have h1 := List.all_eq_true.mp mm_x6_ok _ (mm_ml_spec hlk)
                              simp only [Bool.or_eq_true, Bool.and_eq_true, decide_eq_true_eq] at h1
                              rcases h1 with h1 | h1
                              · exact absurd rfl h1
                              · exact h1
                            obtain ⟨rfl, hq12⟩ := hk1
                            rw [hq12] at hlk C
                            exact hX n' idx as rest μ v1 μ1 t hlk ht hcr hle p e R s m args below meth c D A adr0 ca0 n0 cb sb Q _ _ pc L S C (by rw [hml, hLl]) hd hcall hf hlo (by omega) (by omega) hkk
                          · rw [if_neg h6] at hcr
                            exact mm_V_call ih C (by rw [hml, hLl]) hinv hlen hd hlk hft h6 ht hcall hcr hle hf hlo (by omega) (by omega) hkk
                        · cases h
                · cases h
      · rename_i hinv
        split at h
        · rename_i v1 hr
          cases h
          exact hret pc L S i len hd hlen hr
        · split at h
          · cases h
          · rename_i pc' L' S' μ' hst
            split at h
            · rename_i hle
              have hle2 := mm_run_mono _ _ _ _ _ _ _ _ _ h
              obtain ⟨_, b2, b3⟩ := mm_le_spec hle2
              exact mm_step_ok hM C hlen hd hst (by omega) (by omega) (ih n k pc' L' S' μ' v μf q hq h p e R s m args below meth c D A adr0 ca0 n0 cb sb Q C hml hf hlo hr1 hr2 hret)
            · cases h
