/-! ===== runs of the small machine are runs of the machine ===== -/
theorem mm_overA {t : FieldType} {u U : State} (hvm : u.vm.Alike U.vm) (h : (Cond.arrayOver (.array t)).before #[] u = true) : (Cond.arrayOver (.array t)).before #[] U = true := by
  have h : (Cond.arrayOver (.array t)).holds #[] u none u [] = true := h
  simp only [Cond.holds, Cond.value, beq_iff_eq] at h
  cases hc : u.vm.findClass (FieldType.array t).toString with
  | none => simp [hc] at h
  | some comp =>
    simp only [hc, Option.bind_some, Option.bind_eq_some_iff, Option.map_eq_some_iff] at h
    obtain ⟨c, h2, k, h3, hb⟩ := h
    obtain ⟨hlt, hp, -⟩ := Array.findIdx?_eq_some_iff_getElem.mp h2
    have hkk : u.vm.classes[c] = k := (Array.getElem?_eq_some_iff.mp h3).2
    rw [hkk] at hp
    have hkind : k.kind = .array comp (.array t) ∧ u.vm.findClass ("[" ++ (FieldType.array t).toString) = some c := by
      cases hkind : k.kind with
      | array component ty =>
        rw [hkind] at hb hp
        simp at hb hp
        exact ⟨by rw [hp, hb.1], hb.2⟩
      | _ => rw [hkind] at hb; simp at hb
    obtain ⟨h4, h5⟩ := hkind
    obtain ⟨k', hk', he⟩ := hvm.2.2 _ _ h3
    have hi : (U.vm.classes.findIdx? fun (x : Class) => match x.kind with | .array component _ => component == comp | _ => false) = some c := by
      have e1 := va_idx_bare U.vm comp
      have e2 := va_idx_bare u.vm comp
      have e3 : u.vm.bare = U.vm.bare := by first | exact hvm.bare_eq | exact hvm.bare_eq.symm
      rw [e3] at e2
      exact e1.symm.trans (e2.trans h2)
    have hkind : k'.kind = .array comp (.array t) := by rw [he]; exact h4
    have f1 : U.vm.findClass (FieldType.array t).toString = some comp := by rw [hvm.findClass]; exact hc
    have f2 : U.vm.findClass ("[" ++ (FieldType.array t).toString) = some c := by rw [hvm.findClass]; exact h5
    unfold Cond.before Cond.holds
    simp only [Cond.value]
    rw [f1, Option.bind_some]
    refine (congrArg (fun o : Option Nat => (o.bind (fun c => (U.vm.classes[c]?).map fun (k : Class) => match k.kind with | .array _ ty => decide (ty = FieldType.array t) && decide (U.vm.findClass ("[" ++ (FieldType.array t).toString) = some c) | _ => false) == some true)) hi).trans ?_
    simp [hk', hkind, f2]
/-- the words that go with a call's start -/
def mm_nw (U : State) : Prop := ∀ w ∈ lw_tbl, mm_nest w = true → va_Nw w U
theorem mm_nest_use {w : Cond} (h : mm_nest w = true) {A B : Array Value} {U : State} (hw : w.before A U = true) : w.before B U = true := by
  unfold mm_nest at h
  split at h
  · exact va_tabs rfl rfl hw
  · exact va_tabs rfl rfl hw
  · exact hw
  · exact hw
  · exact va_tabs rfl rfl hw
  · exact va_tabs rfl rfl hw
  · cases h
theorem mm_nw_warm {s U : State} (hW : s.WarmedH U.vm) (h : mm_nw s) : mm_nw U := by
  intro w hw hn
  have h1 := h w hw hn
  unfold mm_nest at hn
  split at hn
  · exact va_Nw.warmF hW h1
  · exact va_Nw.warmM hW h1
  · exact (va_AO.moved hW.alike (va_AO.of h1)).use
  · exact mm_overA hW.alike h1
  · exact va_Nw.warmC hW h1
  · exact va_Nw.warmD hW h1
  · cases hn
theorem mm_nw_same {u U : State} (h : u.vm = U.vm) (hx : mm_nw u) : mm_nw U := by
  intro w hw hn
  have h1 := hx w hw hn
  have hal : u.vm.Alike U.vm := by rw [h]; exact Vm.Alike.refl _
  unfold mm_nest at hn
  split at hn
  · exact va_Nw.same rfl h h1
  · exact va_Nw.same rfl h h1
  · exact (va_AO.moved hal (va_AO.of h1)).use
  · exact mm_overA hal h1
  · exact va_Nw.same rfl h h1
  · exact va_Nw.same rfl h h1
  · cases hn
theorem mm_nw_of {args : Array Value} {s : State} (h : ∀ w ∈ lw_g, w.before args s = true) : mm_nw s := fun w hw hn => mm_nest_use hn (h w (List.mem_filter.mpr ⟨hw, by unfold mm_gw; rw [hn]; rfl⟩))
def mm_ws (q : Nat × MethodName × ByteArray × Nat × Option FieldType × Nat) : List Cond := Cond.code q.2.1 q.2.2.1 q.2.2.2.1 q.2.2.2.2.1 :: lw_tbl.filter goodWord
theorem mm_ws_good {q : Nat × MethodName × ByteArray × Nat × Option FieldType × Nat} (h : Cond.code q.2.1 q.2.2.1 q.2.2.2.1 q.2.2.2.2.1 ∈ lw_g) : GoodIn lw_g (mm_ws q) := by
  intro w hw
  rcases List.mem_cons.mp hw with rfl | hw
  · exact ⟨h, good_of_word rfl⟩
  · obtain ⟨h1, h2⟩ := List.mem_filter.mp hw
    exact ⟨List.mem_filter.mpr ⟨h1, by unfold mm_gw; rw [h2, Bool.or_true]⟩, good_of_word h2⟩
theorem mm_hts {q : Nat × MethodName × ByteArray × Nat × Option FieldType × Nat} {args : Array Value} {s : State} (h : ∀ w ∈ mm_ws q, w.before args s = true) (hn : mm_nw s) : ∀ w ∈ lw_g, w.before args s = true := by
  intro w hw
  obtain ⟨h1, h2⟩ := List.mem_filter.mp hw
  unfold mm_gw at h2
  cases hx : mm_nest w with
  | true => exact mm_nest_use hx (hn w h1 hx)
  | false =>
    rw [hx, Bool.false_or] at h2
    exact h w (List.mem_cons_of_mem _ (List.mem_filter.mpr ⟨h1, h2⟩))
-- a call, whatever it answers
section CALL
variable {p : Program} {l : Launch} {e : Env} {R : Room} {s : State} {m : MethodId} {args : Array Value} {below : List Frame} {meth : Method} {c : Code} {H : Heap} {locs : List Loc} {cells slots : Nat} {Q : State → Prop}
theorem mm_called {pc : Nat} {ls : Array Slot} {rest st0 : List Value} {A0 A1 : Nat → Prop} {mc ms : Nat} {free : Addr → Prop} {Qa : State → Outcome → State → Prop} (hr : va_Run p l e R s m args below meth c H locs cells slots mc ms (F0 m pc ls st0) rest Qa free) (hQ : ∀ st o t, Qa st o t → va_F A1 st t) (hS : va_S A0 s.heap H locs) (hA : ∀ q, A1 q → A0 q) (hf : ∀ q, free q → A0 q)
    (kk : ∀ (v : Option Value) (st t : State) (H1 : Heap) (locs1 : List Loc), st.heap = H → t.heap = H1 → s.vm.Alike t.vm → Qa st (.returned v) t → va_S A0 s.heap H1 locs1 → W p l e R s m args below meth c H1 locs1 (cells + mc) (slots + ms) Q (F0 m (pc + 3) ls (v.toList ++ rest))) : W p l e R s m args below meth c H locs cells slots Q (F0 m pc ls st0) := by
  intro T hT X
  obtain ⟨v, st₀, t, T', L, h0, X', hL, e1, e2, hq, st⟩ := hr T hT X
  obtain ⟨hz, hk⟩ := hQ _ _ _ hq
  rw [h0] at hz hk
  obtain ⟨t2, a1, b1⟩ := kk v st₀ t T'.heap (locs ++ L) h0 e1.symm (by rw [← e2]; exact X'.warmed.alike) hq
    ⟨Nat.le_trans hS.1 (by rw [e1]; exact hz), fun q h1 h2 => by rw [e1, hk q (Nat.lt_of_lt_of_le h1 hS.1) (fun z => h2 (hA q z))]; exact hS.2.1 q h1 h2, fun q hq => by
      rcases List.mem_append.mp hq with h | h
      · exact hS.2.2 q h
      · exact hf _ (hL q h)⟩ T' rfl X'
  exact ⟨t2, st t2 a1, b1⟩
end CALL
/-- a call's start: the world, and what is known of the machine -/
def mm_Pc (D : va_G) (xs : List Int32) (adr : Nat → Nat) (ca : Nat → ClassId) (μ : mm_M) (sz : Nat) (as : List Value) : Array Value → State → Prop := fun v U => v = (as.map (mm_re adr)).toArray ∧ U.heap.size = sz ∧ va_P D mm_cl (mm_w adr ca μ) U.heap ∧ va_D (fun _ => True) (mm_w adr ca μ) ∧ mm_arr U ca μ ∧ va_K D mm_cl [] U ∧ mm_nw U ∧ mm_const xs adr (va_A (mm_w adr ca μ) sz) U U.heap
/-- a call's end -/
def mm_Qc (D : va_G) (adr0 : Nat → Nat) (ca0 : Nat → ClassId) (n0 : Nat) (v : Option Value) (μ' : mm_M) (A : Nat → Prop) : Array Value → State → Outcome → State → Prop := fun _ st o t =>
  (∃ adr ca, o = .returned (v.map (mm_re adr)) ∧ mm_Y adr0 ca0 n0 adr ca μ' ∧ va_P D mm_cl (mm_w adr ca μ') t.heap ∧ va_D A (mm_w adr ca μ') ∧ mm_arr t ca μ' ∧ mm_in1 μ' ∧ (∀ w, v = some w → mm_ok μ' w)) ∧ va_F A st t
theorem mm_arr_moved {u U : State} {ca : Nat → ClassId} {μ : mm_M} (hvm : u.vm.Alike U.vm) (h : mm_arr u ca μ) : mm_arr U ca μ := fun k hk ht => ⟨arrOfT_moved hvm (h k hk ht).1, (h k hk ht).2.moved hvm⟩
theorem mm_const_moved {xs : List Int32} {adr : Nat → Nat} {A : Nat → Prop} {u U : State} {H : Heap} (hvm : u.vm.Alike U.vm) (h : mm_const xs adr A u H) : mm_const xs adr A U H := ⟨fun j hj => (h.1 j hj).moved hvm, fun c h1 h2 => (h.2.1 c h1 h2).moved hvm, h.2.2.1.moved hvm, h.2.2.2.moved hvm⟩
theorem mm_const_at {xs : List Int32} {adr adr' : Nat → Nat} {A B : Nat → Prop} {U : State} {H0 H : Heap} (h : mm_const xs adr A U H0) (hq : ∀ a : Nat, a < H0.size → ¬ A a → H[a]? = H0[a]?) (hAB : ∀ q, B q → A q) (ha : ∀ k, mm_K ≤ k → adr' k = adr k) : mm_const xs adr' B U H := by
  refine ⟨fun j hj => ?_, fun c h1 h2 => ?_, (h.2.2.1.kept hq).narrow hAB, (h.2.2.2.kept hq).narrow hAB⟩
  · rw [ha _ (by omega)]
    exact ((h.1 j hj).kept hq).narrow hAB
  · rw [ha _ h1]
    exact ((h.2.1 c h1 h2).kept hq).narrow hAB
theorem mm_Pc_blind {D : va_G} {xs : List Int32} {adr : Nat → Nat} {ca : Nat → ClassId} {μ : mm_M} {sz : Nat} {as : List Value} : FrameBlind (mm_Pc D xs adr ca μ sz as) := fun a U g mk q => by
  obtain ⟨q0, q1, q2, q3, q4, q5, q6, q7⟩ := q
  exact ⟨q0, q1, q2, q3, mm_arr_moved (u := U) (U := U.calling g mk a) (Vm.Alike.refl U.vm) q4, va_K.moved (u := U) (U := U.calling g mk a) (Vm.Alike.refl U.vm) q5, mm_nw_same (u := U) (U := U.calling g mk a) rfl q6, mm_const_moved (u := U) (U := U.calling g mk a) (Vm.Alike.refl U.vm) q7⟩
def mm_rm (n mc ms : Nat) : Room := { frames := n, cells := mc, slots := ms, locals := n * 200 }
-- the entry's locals
theorem mm_flat_get : ∀ (as : List Value) (adr : Nat → Nat) (o j : Nat) (v : Value), (mm_flat as)[j]? = some (some v) → (o + j, mm_re adr v) ∈ lv_args o (as.map (mm_re adr))
  | [], _, _, _, _, h => by simp [mm_flat] at h
  | a :: as, adr, o, j, v, h => by
    unfold mm_flat at h
    rw [List.map_cons]
    unfold lv_args
    rw [mm_re_cat]
    by_cases hc : a.category = 2
    · rw [if_pos hc] at h
      rw [if_pos hc]
      match j, h with
      | 0, h => cases h; exact List.mem_cons_self
      | 1, h => cases h
      | j + 2, h =>
        have := mm_flat_get as adr (o + 2) j v h
        rw [show o + (j + 2) = o + 2 + j by omega]
        exact List.mem_cons_of_mem _ this
    · rw [if_neg hc] at h
      rw [if_neg hc]
      match j, h with
      | 0, h => cases h; exact List.mem_cons_self
      | j + 1, h =>
        have := mm_flat_get as adr (o + 1) j v h
        rw [show o + (j + 1) = o + 1 + j by omega]
        exact List.mem_cons_of_mem _ this
theorem mm_flat_len (as : List Value) (adr : Nat → Nat) : (lg_sl (as.map (mm_re adr))).length = (mm_flat as).length := by
  induction as with
  | nil => rfl
  | cons a as ih =>
    rw [List.map_cons]
    unfold lg_sl at ih ⊢
    rw [List.flatMap_cons, List.length_append, ih, mm_re_cat]
    show _ = (if a.category = 2 then some a :: none :: mm_flat as else some a :: mm_flat as).length
    split <;> simp <;> omega
theorem mm_entry_len {as : List Value} {ml : Nat} (h : (mm_flat as).length ≤ ml) : (mm_entry as ml).length = ml := by
  unfold mm_entry
  rw [List.length_append, List.length_replicate]
  omega
theorem mm_entry_lr {as : List Value} {ml : Nat} (h : (mm_flat as).length ≤ ml) (adr : Nat → Nat) {ls : Array Slot} (hl : lv_has ls ml (lv_args 0 (as.map (mm_re adr)))) : mm_lr adr (mm_entry as ml) ls := by
  refine ⟨by rw [mm_entry_len h]; exact hl.1, hl.2.1, fun j v hv => ?_⟩
  unfold mm_entry at hv
  by_cases hj : j < (mm_flat as).length
  · rw [List.getElem?_append_left hj] at hv
    have := mm_flat_get as adr 0 j v hv
    rw [Nat.zero_add] at this
    exact hl.2.2 _ this
  · rw [List.getElem?_append_right (by omega)] at hv
    have := List.mem_of_getElem? hv
    have := List.eq_of_mem_replicate this
    cases this
theorem mm_flat_ok : ∀ {as : List Value} {j : Nat} {v : Value}, (mm_flat as)[j]? = some (some v) → v ∈ as
  | [], _, _, h => by simp [mm_flat] at h
  | a :: as, j, v, h => by
    unfold mm_flat at h
    split at h
    · match j, h with
      | 0, h => cases h; exact List.mem_cons_self
      | 1, h => cases h
      | j + 2, h => exact List.mem_cons_of_mem _ (mm_flat_ok (as := as) (j := j) h)
    · match j, h with
      | 0, h => cases h; exact List.mem_cons_self
      | j + 1, h => exact List.mem_cons_of_mem _ (mm_flat_ok (as := as) (j := j) h)
theorem mm_entry_ok {μ : mm_M} {as : List Value} {ml : Nat} (h : mm_okS μ as) : mm_okL μ (mm_entry as ml) := by
  intro j v hv
  unfold mm_entry at hv
  by_cases hj : j < (mm_flat as).length
  · rw [List.getElem?_append_left hj] at hv
    exact h v (mm_flat_ok hv)
  · rw [List.getElem?_append_right (by omega)] at hv
    have := List.eq_of_mem_replicate (List.mem_of_getElem? hv)
    cases this
