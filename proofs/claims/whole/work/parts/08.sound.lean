/-! ===== the small machine's runs, by induction on their length ===== -/
theorem mm_pf_ok : (mm_mtx.filter (fun q => decide (12 ≤ q.1))).all (fun q => plainFor q.2.1) = true := by decide +kernel
theorem mm_mt_in {k : Nat} {t : Nat × MethodName × ByteArray × Nat × Option FieldType × Nat} (h : mm_mt[k]? = some t) (hk : 2 ≤ k) : t ∈ mm_mtx := by
  match k, hk, h with
  | k + 2, _, h => exact List.mem_of_getElem? (i := k) h
theorem mm_mt_y {k : Nat} {t : Nat × MethodName × ByteArray × Nat × Option FieldType × Nat} (h : mm_mt[k]? = some t) : mm_y k = t.2.1 := by unfold mm_y; rw [h]
theorem mm_mt_plain {t : Nat × MethodName × ByteArray × Nat × Option FieldType × Nat} (h : t ∈ mm_mtx) : plainFor t.2.1 = true := by
  by_cases h12 : 12 ≤ t.1
  · exact List.all_eq_true.mp mm_pf_ok t (List.mem_filter.mpr ⟨h, decide_eq_true h12⟩)
  · unfold plainFor
    rw [(mm_mtx_ok t h).2]
    have h1 : (mm_cn.take 12)[t.1]? = some (mm_name t.1) := by
      rw [List.getElem?_take_of_lt (by omega)]
      unfold mm_name
      rw [List.getD_eq_getElem?_getD]
      have : t.1 < mm_cn.length := Nat.lt_of_lt_of_le (show t.1 < 12 by omega) (by decide)
      rw [List.getElem?_eq_getElem this]
      rfl
    rw [List.all_eq_true.mp mm_pn_ok _ (List.mem_of_getElem? h1)]
    rfl
theorem mm_mt_cls {t : Nat × MethodName × ByteArray × Nat × Option FieldType × Nat} (h : t ∈ mm_mtx) : t.2.1.cls ≠ "java/lang/invoke/MethodHandle" ∧ t.2.1.cls ≠ "java/lang/invoke/VarHandle" := by
  have h0 := List.all_eq_true.mp mm_ix_ok t h
  rw [Bool.and_eq_true, decide_eq_true_eq, decide_eq_true_eq] at h0
  have h1 : mm_cn[t.1]? = some (mm_name t.1) := by
    unfold mm_name
    rw [List.getD_eq_getElem?_getD]
    have : t.1 < mm_cn.length := Nat.lt_of_lt_of_le h0.1 (by decide)
    rw [List.getElem?_eq_getElem this]
    rfl
  have h2 := List.all_eq_true.mp mm_mh_ok _ (List.mem_of_getElem? h1)
  rw [Bool.and_eq_true, decide_eq_true_eq, decide_eq_true_eq, ← (mm_mtx_ok t h).2] at h2
  exact h2
theorem mm_mt_ml {t : Nat × MethodName × ByteArray × Nat × Option FieldType × Nat} (h : t ∈ mm_mtx) : t.2.2.2.1 ≤ 100 := by
  have h0 := List.all_eq_true.mp mm_ix_ok t h
  rw [Bool.and_eq_true, decide_eq_true_eq, decide_eq_true_eq] at h0
  exact h0.2
theorem mm_mt_na {t : Nat × MethodName × ByteArray × Nat × Option FieldType × Nat} (h : t ∈ mm_mtx) : (parseMethodDescriptor t.2.1.desc).map (fun d => d.parameters.length) = some t.2.2.2.2.2 := by
  have key : ∀ q ∈ mm_mtx, (parseMethodDescriptor q.2.1.desc).map (fun d => d.parameters.length) = some q.2.2.2.2.2 := by
    intro q hq
    obtain ⟨i, hi⟩ := List.getElem?_of_mem hq
    have hlt := (List.getElem?_eq_some_iff.mp hi).1
    have hlen : mm_mtx.length = 229 := by decide +kernel
    have at' : ∀ a, a ≤ i → i < a + 40 → q ∈ (mm_mtx.drop a).take 40 := fun a h1 h2 => by
      refine List.mem_of_getElem? (i := i - a) ?_
      rw [List.getElem?_take_of_lt (by omega), List.getElem?_drop, show a + (i - a) = i by omega]
      exact hi
    have fin : ∀ a, ((mm_mtx.drop a).take 40).all (fun q => decide ((parseMethodDescriptor q.2.1.desc).map (fun d => d.parameters.length) = some q.2.2.2.2.2)) = true → a ≤ i → i < a + 40 → (parseMethodDescriptor q.2.1.desc).map (fun d => d.parameters.length) = some q.2.2.2.2.2 := fun a ha h1 h2 => of_decide_eq_true (List.all_eq_true.mp ha q (at' a h1 h2))
    by_cases h0 : i < 40
    · exact fin 0 mm_na0 (by omega) (by omega)
    by_cases h0 : i < 80
    · exact fin 40 mm_na1 (by omega) (by omega)
    by_cases h0 : i < 120
    · exact fin 80 mm_na2 (by omega) (by omega)
    by_cases h0 : i < 160
    · exact fin 120 mm_na3 (by omega) (by omega)
    by_cases h0 : i < 200
    · exact fin 160 mm_na4 (by omega) (by omega)
    · exact fin 200 mm_na5 (by omega) (by omega)
  exact key t h
abbrev mm_T : Type := Nat × MethodName × ByteArray × Nat × Option FieldType × Nat
abbrev mm_X : Type := Nat → List Value → mm_M → Option (Option Value × mm_M)
def mm_RunOK (l : Launch) (xs : List Int32) (ext : mm_X) (f : Nat) : Prop := ∀ (n k pc : Nat) (L : mm_L) (S : List Value) (μ : mm_M) (v : Option Value) (μf : mm_M) (q : mm_T), mm_mt[k]? = some q → mm_run xs ext f n k pc L S μ = some (v, μf) →
  ∀ (p : Program) (e : Env) (R : Room) (s : State) (m : MethodId) (args : Array Value) (below : List Frame) (meth : Method) (c : Code) (D : va_G) (A : Nat → Prop) (adr0 : Nat → Nat) (ca0 : Nat → ClassId) (n0 cb sb : Nat) (Q : State → Prop), mm_C p s m args meth c D xs A adr0 q.1 q.2.2.1 (decide (q.2.1.name = "<init>")) → c.maxLocals = q.2.2.2.1 → n ≤ R.frames → n * 200 ≤ R.locals → μf.1.2.1 ≤ cb + R.cells → μf.1.2.2.1 ≤ sb + R.slots →
  (∀ (pc' : Nat) (L' : mm_L) (S' : List Value) (i : Instr) (len : Nat), decode q.2.2.1 pc' = .ok (i, len) → mm_lenok i len = true → mm_ret i q.2.2.2.2.1 S' = some v → mm_V p l e R s m args below meth c D A adr0 ca0 n0 cb sb Q pc' L' S' μf) → mm_V p l e R s m args below meth c D A adr0 ca0 n0 cb sb Q pc L S μ
theorem mm_le_spec {μ μ' : mm_M} (h : mm_le μ μ' = true) : mm_next μ ≤ mm_next μ' ∧ μ.1.2.1 ≤ μ'.1.2.1 ∧ μ.1.2.2.1 ≤ μ'.1.2.2.1 := by
  unfold mm_le at h
  rw [Bool.and_eq_true, Bool.and_eq_true, decide_eq_true_eq, decide_eq_true_eq, decide_eq_true_eq] at h
  exact h
set_option maxHeartbeats 4000000 in
theorem mm_met {l : Launch} {xs : List Int32} {ext : mm_X} {f : Nat} (IH : mm_RunOK l xs ext f) {n k : Nat} {t : mm_T} {as : List Value} {μ : mm_M} {v : Option Value} {μ1 : mm_M} (ht : mm_mt[k]? = some t) (hk : 2 ≤ k) (hrun : mm_run xs ext f n k 0 (mm_entry as t.2.2.2.1) [] μ = some (v, μ1)) (hle : mm_le μ μ1 = true) (hfl : (mm_flat as).length ≤ t.2.2.2.1) (has : mm_okS μ as) (hin1 : mm_in1 μ) (D : va_G) (adr : Nat → Nat) (ca : Nat → ClassId) (sz : Nat) :
    Met l t.2.1 (mm_ws t) (mm_rm n (μ1.1.2.1 - μ.1.2.1) (μ1.1.2.2.1 - μ.1.2.2.1)) (mm_Pc D xs adr ca μ sz as) (mm_Qc D adr ca (mm_next μ) v μ1 (va_A (mm_w adr ca μ) sz)) (μ1.1.2.1 - μ.1.2.1) (μ1.1.2.2.1 - μ.1.2.2.1) (va_A (mm_w adr ca μ) sz) := by
  have htm := mm_mt_in ht hk
  obtain ⟨hl1, hl2, hl3⟩ := mm_le_spec hle
  refine va_MetF (cc := t.2.2.1) (maxL := t.2.2.2.1) (ret := t.2.2.2.2.1) (mm_mt_plain htm) rfl ?_
  intro p e s m args below meth c s₁ B hml hv
  obtain ⟨rfl, hsz, hP, hD0, hAr, hK, hnw, hco⟩ := hv
  have hx := B.exec
  have hb := B.bytes
  have hr := B.returns
  have hts := mm_hts (atoms_spec (ws := mm_ws t) B.pre) hnw
  have hown : s.vm.findClass (mm_name t.1) = some m.cls := by rw [← (mm_mtx_ok t htm).2]; exact findClass_of_methodNamed B.named
  have hlocks := B.notSynchronized
  have hnm : meth.name = t.2.1.name := (name_of_methodNamed B.named B.method).1
  subst hsz
  have hD := hD0.self (sz := s.heap.size)
  generalize hAe : va_A (mm_w adr ca μ) s.heap.size = A at hD hco ⊢
  have hA : ∀ q : Nat, s.heap.size ≤ q → A q := fun q h => by rw [← hAe]; exact Or.inr h
  have C : mm_C p s m (as.map (mm_re adr)).toArray meth c D xs A adr t.1 t.2.2.1 (decide (t.2.1.name = "<init>")) := ⟨hx, hb, hown, hts, hK, hA, hco, fun h => by rw [hnm]; exact of_decide_eq_true h⟩
  have hl := lv_entry (as.map (mm_re adr)) (n := t.2.2.2.1) (by rw [mm_flat_len]; exact hfl)
  rw [lg_entry_eq]
  generalize (lg_sl (as.map (mm_re adr)) ++ List.replicate (t.2.2.2.1 - (lg_sl (as.map (mm_re adr))).length) Slot.unset).toArray = ls at hl ⊢
  refine IH n k 0 (mm_entry as t.2.2.2.1) [] μ v μ1 t ht hrun p e _ s m _ below meth c D A adr ca (mm_next μ) μ.1.2.1 μ.1.2.2.1 _ C hml (Nat.le_refl _) (Nat.le_refl _) (by show _ ≤ μ.1.2.1 + (μ1.1.2.1 - μ.1.2.1); omega) (by show _ ≤ μ.1.2.2.1 + (μ1.1.2.2.1 - μ.1.2.2.1); omega) ?_ adr ca s.heap [] 0 0 ls ⟨hP, hD, va_S.rf, hAr, hin1⟩ ⟨fun _ _ => rfl, fun _ _ => rfl, Nat.le_refl _⟩ (mm_entry_lr hfl adr hl) (mm_entry_ok has) (fun v hv => by cases hv) (Nat.zero_add _) (Nat.zero_add _)
  intro pc' L' S' i len hd hlen hret adr' ca' H locs cells slots ls' hZ hY hl' hoL hoS hc hs
  obtain rfl : cells = μ1.1.2.1 - μ.1.2.1 := by omega
  obtain rfl : slots = μ1.1.2.2.1 - μ.1.2.2.1 := by omega
  have hend : ∀ (T : State), T.heap = H → s.WarmedH T.vm → (∀ w, v = some w → mm_ok μ1 w) → mm_Qc D adr ca (mm_next μ) v μ1 A (as.map (mm_re adr)).toArray s (.returned (v.map (mm_re adr'))) T := fun T hT hW hv => ⟨⟨adr', ca', rfl, hY, by rw [hT]; exact hZ.1, hZ.2.1, mm_arr_moved hW.alike hZ.2.2.2.1, hZ.2.2.2.2, hv⟩, hZ.2.2.1.F hT⟩
  unfold mm_ret at hret
  split at hret
  · rename_i x hi hS hrt
    cases hret
    obtain rfl : len = 1 := of_decide_eq_true hlen
    exact W.iret hx hb (hr.trans hrt) (fun T hT hW => hend T hT hW (fun w hw => by cases hw; trivial)) hZ.2.2.1.2.2 hd
  · rename_i x hi hS hrt
    split at hret
    · rename_i h01
      cases hret
      obtain rfl : len = 1 := of_decide_eq_true hlen
      exact W.zret hx hb (hr.trans hrt) (by rcases h01 with rfl | rfl <;> rfl) (fun T hT hW => hend T hT hW (fun w hw => by cases hw; trivial)) hZ.2.2.1.2.2 hd
    · cases hret
  · rename_i x hi hS hrt
    cases hret
    obtain rfl : len = 1 := of_decide_eq_true hlen
    exact W.lret hx hb (hr.trans hrt) (fun T hT hW => hend T hT hW (fun w hw => by cases hw; trivial)) hZ.2.2.1.2.2 hd
  · rename_i a cl hi hS hrt
    cases hret
    obtain rfl : len = 1 := of_decide_eq_true hlen
    exact W.aret hx hb (hr.trans hrt) (Or.inl ⟨_, rfl⟩) (Or.inr ⟨_, rfl⟩) (fun T hT hW => hend T hT hW (fun w hw => by cases hw; exact hoS _ List.mem_cons_self)) hZ.2.2.1.2.2 hd
  · rename_i a cl hi hS hrt
    cases hret
    obtain rfl : len = 1 := of_decide_eq_true hlen
    exact W.aret hx hb (hr.trans hrt) (Or.inr ⟨_, rfl⟩) (Or.inr ⟨_, rfl⟩) (fun T hT hW => hend T hT hW (fun w hw => by cases hw; exact hoS _ List.mem_cons_self)) hZ.2.2.1.2.2 hd
  · rename_i cl hi hS hrt
    cases hret
    obtain rfl : len = 1 := of_decide_eq_true hlen
    exact W.aret hx hb (hr.trans hrt) (Or.inl ⟨_, rfl⟩) (Or.inl rfl) (fun T hT hW => hend T hT hW (fun w hw => by cases hw; trivial)) hZ.2.2.1.2.2 hd
  · rename_i cl hi hS hrt
    cases hret
    obtain rfl : len = 1 := of_decide_eq_true hlen
    exact W.aret hx hb (hr.trans hrt) (Or.inr ⟨_, rfl⟩) (Or.inl rfl) (fun T hT hW => hend T hT hW (fun w hw => by cases hw; trivial)) hZ.2.2.1.2.2 hd
  · rename_i hi hS hrt
    cases hret
    obtain rfl : len = 1 := of_decide_eq_true hlen
    exact W.vret hx hb (hr.trans hrt) (fun T hT hW => hend T hT hW (fun w hw => by cases hw)) hZ.2.2.1.2.2 hd
  · cases hret
