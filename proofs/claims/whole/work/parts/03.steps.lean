/-! ===== each step of the small machine is a step of the machine ===== -/
def mm_re (adr : Nat → Nat) (v : Value) : Value := match v with
  | .ref k => .ref (adr k)
  | v => v
def mm_e (adr : Nat → Nat) (ca : Nat → ClassId) (μ : mm_M) (k : Nat) : va_E :=
  if (mm_sh μ k).1 < 20 then .inr ((mm_sh μ k).1, (List.range (mm_nf (mm_sh μ k).1)).map (fun i => mm_val (mm_kd (mm_sh μ k).1 i) (μ.2.1 k i) (μ.2.2.1 k i) ((μ.2.2.2 k i).map adr)))
  else .inl (ca k, (mm_sh μ k).2, if (mm_sh μ k).1 = 22 then .inr (.inl (μ.2.2.1 k)) else if (mm_sh μ k).1 < 22 then .inl (μ.2.1 k) else .inr (.inr (.inr (.inr (fun i => (μ.2.2.2 k i).map adr)))))
def mm_w (adr : Nat → Nat) (ca : Nat → ClassId) (μ : mm_M) : va_W := (List.range (mm_next μ)).map (fun k => (adr k, mm_e adr ca μ k))
def mm_aty (t : Nat) : FieldType := match t with
  | 20 => .int
  | 21 => .boolean
  | 22 => .long
  | 23 => .object (mm_name 0)
  | 24 => .object (mm_name 6)
  | _ => .array .int
def mm_ok (μ : mm_M) (v : Value) : Prop := match v with
  | .ref k => k < mm_next μ ∨ (mm_K ≤ k ∧ k < mm_K + 4)
  | _ => True
def mm_okL (μ : mm_M) (L : mm_L) : Prop := ∀ (i : Nat) (v : Value), L[i]? = some (some v) → mm_ok μ v
def mm_okS (μ : mm_M) (S : List Value) : Prop := ∀ v ∈ S, mm_ok μ v
def mm_const (xs : List Int32) (adr : Nat → Nat) (A : Nat → Prop) (U : State) (H : Heap) : Prop :=
  (∀ j, j < 3 → va_Z "ShyBell" (mm_sn.getD j "") "[I" (.ref (adr (mm_K + 1 + j))) A U H) ∧ (∀ c, mm_K ≤ c → c < mm_K + 4 → va_T .int (adr c) (mm_ca xs c).length (fun i => .int ((mm_ca xs c).getD i 0)) A U H) ∧ vx_Zq Bundle.tN "UNASSIGNED_STACK" Bundle.steD A U H ∧ vx_Zq Bundle.tN "SUPPRESSED_SENTINEL" Bundle.listD A U H
/-- the arrays' classes -/
def mm_arr (U : State) (ca : Nat → ClassId) (μ : mm_M) : Prop := ∀ k, k < mm_next μ → 20 ≤ (mm_sh μ k).1 → ArrOfT U (ca k) (mm_aty (mm_sh μ k).1) ∧ va_RA U (ca k) (mm_aty (mm_sh μ k).1)
def mm_in1 (μ : mm_M) : Prop := (∀ k i x, k < mm_next μ → μ.2.2.2 k i = some x → x < mm_next μ) ∧ mm_next μ ≤ 990000 ∧ ∀ k, k < mm_next μ → (mm_sh μ k).1 < 20 → (mm_sh μ k).1 < 12
def mm_Z (D : va_G) (A : Nat → Prop) (s : State) (adr : Nat → Nat) (ca : Nat → ClassId) (μ : mm_M) (H : Heap) (locs : List Loc) : Prop :=
  va_P D mm_cl (mm_w adr ca μ) H ∧ va_D A (mm_w adr ca μ) ∧ va_S A s.heap H locs ∧ mm_arr s ca μ ∧ mm_in1 μ
def mm_Y (adr0 : Nat → Nat) (ca0 : Nat → ClassId) (n0 : Nat) (adr : Nat → Nat) (ca : Nat → ClassId) (μ : mm_M) : Prop :=
  (∀ k, (k < n0 ∨ mm_K ≤ k) → adr k = adr0 k) ∧ (∀ k, k < n0 → ca k = ca0 k) ∧ n0 ≤ mm_next μ
def mm_lr (adr : Nat → Nat) (L : mm_L) (ls : Array Slot) : Prop := ls.size = L.length ∧ lv_wf ls ∧ ∀ (i : Nat) (v : Value), L[i]? = some (some v) → ls[i]? = some (.val (mm_re adr v))
def mm_C (p : Program) (s : State) (m : MethodId) (args : Array Value) (meth : Method) (c : Code) (D : va_G) (xs : List Int32) (A : Nat → Prop) (adr0 : Nat → Nat) (own : Nat) (cc : ByteArray) (ini : Bool) : Prop :=
  p.tables.exec = Jvm.exec ∧ c.code = cc ∧ s.vm.findClass (mm_name own) = some m.cls ∧ (∀ w ∈ lw_g, w.before args s = true) ∧ va_K D mm_cl [] s ∧ (∀ q : Nat, s.heap.size ≤ q → A q) ∧ mm_const xs adr0 A s s.heap ∧ (ini = true → meth.name = "<init>")
/-- from here the method comes to Q -/
def mm_V (p : Program) (l : Launch) (e : Env) (R : Room) (s : State) (m : MethodId) (args : Array Value) (below : List Frame) (meth : Method) (c : Code) (D : va_G) (A : Nat → Prop) (adr0 : Nat → Nat) (ca0 : Nat → ClassId) (n0 cb sb : Nat) (Q : State → Prop) (pc : Nat) (L : mm_L) (S : List Value) (μ : mm_M) : Prop :=
  ∀ (adr : Nat → Nat) (ca : Nat → ClassId) (H : Heap) (locs : List Loc) (cells slots : Nat) (ls : Array Slot), mm_Z D A s adr ca μ H locs → mm_Y adr0 ca0 n0 adr ca μ → mm_lr adr L ls → mm_okL μ L → mm_okS μ S → cells + cb = μ.1.2.1 → slots + sb = μ.1.2.2.1 →
    W p l e R s m args below meth c H locs cells slots Q (F0 m pc ls (S.map (mm_re adr)))
theorem mm_okS_c {μ : mm_M} {v : Value} {S : List Value} (h : mm_ok μ v) (hS : mm_okS μ S) : mm_okS μ (v :: S) := fun w hw => by
  rcases List.mem_cons.mp hw with rfl | hw
  · exact h
  · exact hS w hw
theorem mm_okS_t {μ : mm_M} {v : Value} {S : List Value} (hS : mm_okS μ (v :: S)) : mm_okS μ S := fun w hw => hS w (List.mem_cons_of_mem _ hw)
theorem mm_okS_h {μ : mm_M} {v : Value} {S : List Value} (hS : mm_okS μ (v :: S)) : mm_ok μ v := hS v List.mem_cons_self
theorem mm_re_cat (adr : Nat → Nat) (v : Value) : (mm_re adr v).category = v.category := by cases v <;> rfl
-- locals
def mm_lv (adr : Nat → Nat) (L : mm_L) : List (Nat × Value) := (List.range L.length).filterMap (fun i => match L[i]? with
  | some (some v) => some (i, mm_re adr v)
  | _ => none)
theorem mm_lv_mem {adr : Nat → Nat} {L : mm_L} {i : Nat} {w : Value} : (i, w) ∈ mm_lv adr L ↔ ∃ v, L[i]? = some (some v) ∧ w = mm_re adr v := by
  unfold mm_lv
  rw [List.mem_filterMap]
  constructor
  · rintro ⟨j, hj, h⟩
    split at h
    · rename_i v hv
      cases h
      exact ⟨v, hv, rfl⟩
    · cases h
  · rintro ⟨v, hv, rfl⟩
    refine ⟨i, List.mem_range.mpr (List.getElem?_eq_some_iff.mp hv).1, ?_⟩
    rw [hv]
theorem mm_lr_has {adr : Nat → Nat} {L : mm_L} {ls : Array Slot} (h : mm_lr adr L ls) : lv_has ls L.length (mm_lv adr L) := ⟨h.1, h.2.1, fun q hq => by
  obtain ⟨i, w⟩ := q
  obtain ⟨v, h1, rfl⟩ := mm_lv_mem.mp hq
  exact h.2.2 i v h1⟩
theorem mm_clr_len (L : mm_L) (i : Nat) : (mm_clr L i).length = L.length := by
  unfold mm_clr
  split
  · rfl
  · split
    · split <;> simp
    · rfl
theorem mm_clr_get {L : mm_L} {i j : Nat} {v : Value} (h : (mm_clr L i)[j]? = some (some v)) : L[j]? = some (some v) ∧ ¬ (j + 1 = i ∧ v.category = 2) := by
  unfold mm_clr at h
  cases i with
  | zero => exact ⟨h, fun q => by omega⟩
  | succ a =>
    dsimp only at h
    cases ha : L[a]? with
    | none =>
      rw [ha] at h
      refine ⟨h, fun q => ?_⟩
      have : j = a := by omega
      subst this
      rw [ha] at h
      cases h
    | some o =>
      cases o with
      | none =>
        rw [ha] at h
        refine ⟨h, fun q => ?_⟩
        have : j = a := by omega
        subst this
        rw [ha] at h
        cases h
      | some w =>
        rw [ha] at h
        dsimp only at h
        by_cases hw : w.category = 2
        · rw [if_pos hw] at h
          by_cases hj : j = a
          · subst hj
            rw [List.getElem?_set_self (List.getElem?_eq_some_iff.mp ha).1] at h
            cases h
          · rw [List.getElem?_set_ne (fun q => hj q.symm)] at h
            exact ⟨h, fun q => hj (by omega)⟩
        · rw [if_neg hw] at h
          refine ⟨h, fun q => ?_⟩
          have : j = a := by omega
          subst this
          rw [ha] at h
          cases h
          exact hw q.2
theorem mm_s1_len (L : mm_L) (i : Nat) (v : Value) : (mm_s1 L i v).length = L.length := by unfold mm_s1; rw [List.length_set, mm_clr_len]
theorem mm_s2_len (L : mm_L) (i : Nat) (v : Value) : (mm_s2 L i v).length = L.length := by unfold mm_s2; rw [List.length_set, List.length_set, mm_clr_len]
theorem mm_s1_get {L : mm_L} {i j : Nat} {v w : Value} (h : (mm_s1 L i v)[j]? = some (some w)) : (j = i ∧ w = v) ∨ (j ≠ i ∧ L[j]? = some (some w) ∧ ¬ (j + 1 = i ∧ w.category = 2)) := by
  unfold mm_s1 at h
  by_cases hj : j = i
  · subst hj
    have hlt : j < (mm_clr L j).length := by
      have := (List.getElem?_eq_some_iff.mp h).1
      rwa [List.length_set] at this
    rw [List.getElem?_set_self hlt] at h
    cases h
    exact Or.inl ⟨rfl, rfl⟩
  · rw [List.getElem?_set_ne (fun q => hj q.symm)] at h
    exact Or.inr ⟨hj, mm_clr_get h⟩
theorem mm_s2_get {L : mm_L} {i j : Nat} {v w : Value} (h : (mm_s2 L i v)[j]? = some (some w)) : (j = i ∧ w = v) ∨ (j ≠ i ∧ j ≠ i + 1 ∧ L[j]? = some (some w) ∧ ¬ (j + 1 = i ∧ w.category = 2)) := by
  have h0 := h
  unfold mm_s2 at h
  by_cases hj : j = i + 1
  · subst hj
    have hlt := (List.getElem?_eq_some_iff.mp h).1
    rw [List.length_set] at hlt
    rw [List.getElem?_set_self hlt] at h
    cases h
  · rw [List.getElem?_set_ne (fun q => hj q.symm)] at h
    rcases mm_s1_get (L := L) (i := i) (v := v) h with h | ⟨h1, h2⟩
    · exact Or.inl h
    · exact Or.inr ⟨h1, hj, h2⟩
theorem mm_lr_s1 {adr : Nat → Nat} {L : mm_L} {i : Nat} {v : Value} {ls' : Array Slot} (h : lv_has ls' L.length ((i, mm_re adr v) :: (mm_lv adr L).filter (fun q => !(q.1 == i) && !(q.1 + 1 == i && q.2.category == 2)))) : mm_lr adr (mm_s1 L i v) ls' := by
  refine ⟨by rw [mm_s1_len]; exact h.1, h.2.1, fun j w hw => ?_⟩
  rcases mm_s1_get hw with ⟨rfl, rfl⟩ | ⟨h1, h2, h3⟩
  · exact h.2.2 _ List.mem_cons_self
  · refine h.2.2 (j, mm_re adr w) (List.mem_cons_of_mem _ (List.mem_filter.mpr ⟨mm_lv_mem.mpr ⟨w, h2, rfl⟩, ?_⟩))
    simp only [mm_re_cat]
    simp [h1]
    by_cases hq : j + 1 = i
    · exact Or.inr (fun z => h3 ⟨hq, z⟩)
    · exact Or.inl hq
theorem mm_lr_s2 {adr : Nat → Nat} {L : mm_L} {i : Nat} {v : Value} {ls' : Array Slot} (h : lv_has ls' L.length ((i, mm_re adr v) :: (mm_lv adr L).filter (fun q => !(q.1 == i) && (!(q.1 == i + 1) && !(q.1 + 1 == i && q.2.category == 2))))) : mm_lr adr (mm_s2 L i v) ls' := by
  refine ⟨by rw [mm_s2_len]; exact h.1, h.2.1, fun j w hw => ?_⟩
  rcases mm_s2_get hw with ⟨rfl, rfl⟩ | ⟨h1, h0, h2, h3⟩
  · exact h.2.2 _ List.mem_cons_self
  · refine h.2.2 (j, mm_re adr w) (List.mem_cons_of_mem _ (List.mem_filter.mpr ⟨mm_lv_mem.mpr ⟨w, h2, rfl⟩, ?_⟩))
    simp only [mm_re_cat]
    simp [h1, h0]
    by_cases hq : j + 1 = i
    · exact Or.inr (fun z => h3 ⟨hq, z⟩)
    · exact Or.inl hq
theorem mm_okL_s1 {μ : mm_M} {L : mm_L} {i : Nat} {v : Value} (h : mm_okL μ L) (hv : mm_ok μ v) : mm_okL μ (mm_s1 L i v) := fun j w hw => by
  rcases mm_s1_get hw with ⟨rfl, rfl⟩ | ⟨-, h2, -⟩
  · exact hv
  · exact h j w h2
theorem mm_okL_s2 {μ : mm_M} {L : mm_L} {i : Nat} {v : Value} (h : mm_okL μ L) (hv : mm_ok μ v) : mm_okL μ (mm_s2 L i v) := fun j w hw => by
  rcases mm_s2_get hw with ⟨rfl, rfl⟩ | ⟨-, -, h2, -⟩
  · exact hv
  · exact h j w h2
theorem mm_jmp_ok {pc : Nat} {off : Int} {t : Nat} (h : mm_jmp pc off = some t) : (pc : Int) + off = (t : Int) := by
  unfold mm_jmp at h
  split at h
  · cases h; omega
  · cases h
section PURE
variable {p : Program} {l : Launch} {e : Env} {R : Room} {s : State} {m : MethodId} {args : Array Value} {below : List Frame} {meth : Method} {c : Code} {D : va_G} {xs : List Int32} {A : Nat → Prop} {adr0 : Nat → Nat} {ca0 : Nat → ClassId} {n0 cb sb : Nat} {Q : State → Prop} {own : Nat} {cc : ByteArray} {ini : Bool}
variable {pc : Nat} {L : mm_L} {S : List Value} {μ : mm_M} {pc' : Nat} {L' : mm_L} {S' : List Value} {μ' : mm_M}
theorem mv_iconst (C : mm_C p s m args meth c D xs A adr0 own cc ini) {n : Int} (hd : decode cc pc = .ok (.iconst n, 1)) (k : mm_V p l e R s m args below meth c D A adr0 ca0 n0 cb sb Q (pc + 1) L (.int (Int32.ofInt n) :: S) μ) : mm_V p l e R s m args below meth c D A adr0 ca0 n0 cb sb Q pc L (S) μ := by
  intro adr ca H locs cells slots ls hZ hY hl hoL hoS hc hs
  exact lv_iconst C.1 C.2.1 hd rfl (k adr ca H locs cells slots ls hZ hY hl hoL (mm_okS_c (μ := μ) (v := .int _) trivial hoS) hc hs)
theorem mv_bipush (C : mm_C p s m args meth c D xs A adr0 own cc ini) {n : Int} (hd : decode cc pc = .ok (.bipush n, 2)) (k : mm_V p l e R s m args below meth c D A adr0 ca0 n0 cb sb Q (pc + 2) L (.int (Int8.ofInt n).toInt32 :: S) μ) : mm_V p l e R s m args below meth c D A adr0 ca0 n0 cb sb Q pc L (S) μ := by
  intro adr ca H locs cells slots ls hZ hY hl hoL hoS hc hs
  exact lv_bipush C.1 C.2.1 hd rfl (k adr ca H locs cells slots ls hZ hY hl hoL (mm_okS_c (μ := μ) (v := .int _) trivial hoS) hc hs)
theorem mv_sipush (C : mm_C p s m args meth c D xs A adr0 own cc ini) {n : Int} (hd : decode cc pc = .ok (.sipush n, 3)) (k : mm_V p l e R s m args below meth c D A adr0 ca0 n0 cb sb Q (pc + 3) L (.int (Int16.ofInt n).toInt32 :: S) μ) : mm_V p l e R s m args below meth c D A adr0 ca0 n0 cb sb Q pc L (S) μ := by
  intro adr ca H locs cells slots ls hZ hY hl hoL hoS hc hs
  exact lv_sipush C.1 C.2.1 hd rfl (k adr ca H locs cells slots ls hZ hY hl hoL (mm_okS_c (μ := μ) (v := .int _) trivial hoS) hc hs)
theorem mv_lconst (C : mm_C p s m args meth c D xs A adr0 own cc ini) {n : Fin 2} (hd : decode cc pc = .ok (.lconst n, 1)) (k : mm_V p l e R s m args below meth c D A adr0 ca0 n0 cb sb Q (pc + 1) L (.long (Int64.ofNat (n : Nat)) :: S) μ) : mm_V p l e R s m args below meth c D A adr0 ca0 n0 cb sb Q pc L (S) μ := by
  intro adr ca H locs cells slots ls hZ hY hl hoL hoS hc hs
  exact lv_lconst C.1 C.2.1 hd rfl (k adr ca H locs cells slots ls hZ hY hl hoL (mm_okS_c (μ := μ) (v := .long _) trivial hoS) hc hs)
theorem mv_null (C : mm_C p s m args meth c D xs A adr0 own cc ini)  (hd : decode cc pc = .ok (.aconst_null, 1)) (k : mm_V p l e R s m args below meth c D A adr0 ca0 n0 cb sb Q (pc + 1) L (.null :: S) μ) : mm_V p l e R s m args below meth c D A adr0 ca0 n0 cb sb Q pc L (S) μ := by
  intro adr ca H locs cells slots ls hZ hY hl hoL hoS hc hs
  exact lv_null C.1 C.2.1 hd (k adr ca H locs cells slots ls hZ hY hl hoL (mm_okS_c (μ := μ) (v := .null) trivial hoS) hc hs)
theorem mv_iadd (C : mm_C p s m args meth c D xs A adr0 own cc ini) {x y : Int32} (hd : decode cc pc = .ok (.iadd, 1)) (k : mm_V p l e R s m args below meth c D A adr0 ca0 n0 cb sb Q (pc + 1) L (.int (x + y) :: S) μ) : mm_V p l e R s m args below meth c D A adr0 ca0 n0 cb sb Q pc L (.int y :: .int x :: S) μ := by
  intro adr ca H locs cells slots ls hZ hY hl hoL hoS hc hs
  exact lv_iadd C.1 C.2.1 hd (k adr ca H locs cells slots ls hZ hY hl hoL (mm_okS_c (μ := μ) (v := .int _) trivial (mm_okS_t (mm_okS_t hoS))) hc hs)
theorem mv_isub (C : mm_C p s m args meth c D xs A adr0 own cc ini) {x y : Int32} (hd : decode cc pc = .ok (.isub, 1)) (k : mm_V p l e R s m args below meth c D A adr0 ca0 n0 cb sb Q (pc + 1) L (.int (x - y) :: S) μ) : mm_V p l e R s m args below meth c D A adr0 ca0 n0 cb sb Q pc L (.int y :: .int x :: S) μ := by
  intro adr ca H locs cells slots ls hZ hY hl hoL hoS hc hs
  exact lv_isub C.1 C.2.1 hd (k adr ca H locs cells slots ls hZ hY hl hoL (mm_okS_c (μ := μ) (v := .int _) trivial (mm_okS_t (mm_okS_t hoS))) hc hs)
theorem mv_imul (C : mm_C p s m args meth c D xs A adr0 own cc ini) {x y : Int32} (hd : decode cc pc = .ok (.imul, 1)) (k : mm_V p l e R s m args below meth c D A adr0 ca0 n0 cb sb Q (pc + 1) L (.int (x * y) :: S) μ) : mm_V p l e R s m args below meth c D A adr0 ca0 n0 cb sb Q pc L (.int y :: .int x :: S) μ := by
  intro adr ca H locs cells slots ls hZ hY hl hoL hoS hc hs
  exact lv_imul C.1 C.2.1 hd (k adr ca H locs cells slots ls hZ hY hl hoL (mm_okS_c (μ := μ) (v := .int _) trivial (mm_okS_t (mm_okS_t hoS))) hc hs)
theorem mv_iand (C : mm_C p s m args meth c D xs A adr0 own cc ini) {x y : Int32} (hd : decode cc pc = .ok (.iand, 1)) (k : mm_V p l e R s m args below meth c D A adr0 ca0 n0 cb sb Q (pc + 1) L (.int (x &&& y) :: S) μ) : mm_V p l e R s m args below meth c D A adr0 ca0 n0 cb sb Q pc L (.int y :: .int x :: S) μ := by
  intro adr ca H locs cells slots ls hZ hY hl hoL hoS hc hs
  exact lv_iand C.1 C.2.1 hd (k adr ca H locs cells slots ls hZ hY hl hoL (mm_okS_c (μ := μ) (v := .int _) trivial (mm_okS_t (mm_okS_t hoS))) hc hs)
theorem mv_ior (C : mm_C p s m args meth c D xs A adr0 own cc ini) {x y : Int32} (hd : decode cc pc = .ok (.ior, 1)) (k : mm_V p l e R s m args below meth c D A adr0 ca0 n0 cb sb Q (pc + 1) L (.int (x ||| y) :: S) μ) : mm_V p l e R s m args below meth c D A adr0 ca0 n0 cb sb Q pc L (.int y :: .int x :: S) μ := by
  intro adr ca H locs cells slots ls hZ hY hl hoL hoS hc hs
  exact lv_ior C.1 C.2.1 hd (k adr ca H locs cells slots ls hZ hY hl hoL (mm_okS_c (μ := μ) (v := .int _) trivial (mm_okS_t (mm_okS_t hoS))) hc hs)
theorem mv_ixor (C : mm_C p s m args meth c D xs A adr0 own cc ini) {x y : Int32} (hd : decode cc pc = .ok (.ixor, 1)) (k : mm_V p l e R s m args below meth c D A adr0 ca0 n0 cb sb Q (pc + 1) L (.int (x ^^^ y) :: S) μ) : mm_V p l e R s m args below meth c D A adr0 ca0 n0 cb sb Q pc L (.int y :: .int x :: S) μ := by
  intro adr ca H locs cells slots ls hZ hY hl hoL hoS hc hs
  exact lv_ixor C.1 C.2.1 hd (k adr ca H locs cells slots ls hZ hY hl hoL (mm_okS_c (μ := μ) (v := .int _) trivial (mm_okS_t (mm_okS_t hoS))) hc hs)
theorem mv_ishl (C : mm_C p s m args meth c D xs A adr0 own cc ini) {x y : Int32} (hd : decode cc pc = .ok (.ishl, 1)) (k : mm_V p l e R s m args below meth c D A adr0 ca0 n0 cb sb Q (pc + 1) L (.int (x <<< (y &&& 31)) :: S) μ) : mm_V p l e R s m args below meth c D A adr0 ca0 n0 cb sb Q pc L (.int y :: .int x :: S) μ := by
  intro adr ca H locs cells slots ls hZ hY hl hoL hoS hc hs
  exact lv_ishl C.1 C.2.1 hd (k adr ca H locs cells slots ls hZ hY hl hoL (mm_okS_c (μ := μ) (v := .int _) trivial (mm_okS_t (mm_okS_t hoS))) hc hs)
theorem mv_ishr (C : mm_C p s m args meth c D xs A adr0 own cc ini) {x y : Int32} (hd : decode cc pc = .ok (.ishr, 1)) (k : mm_V p l e R s m args below meth c D A adr0 ca0 n0 cb sb Q (pc + 1) L (.int (x >>> (y &&& 31)) :: S) μ) : mm_V p l e R s m args below meth c D A adr0 ca0 n0 cb sb Q pc L (.int y :: .int x :: S) μ := by
  intro adr ca H locs cells slots ls hZ hY hl hoL hoS hc hs
  exact lv_ishr C.1 C.2.1 hd (k adr ca H locs cells slots ls hZ hY hl hoL (mm_okS_c (μ := μ) (v := .int _) trivial (mm_okS_t (mm_okS_t hoS))) hc hs)
theorem mv_iushr (C : mm_C p s m args meth c D xs A adr0 own cc ini) {x y : Int32} (hd : decode cc pc = .ok (.iushr, 1)) (k : mm_V p l e R s m args below meth c D A adr0 ca0 n0 cb sb Q (pc + 1) L (.int (x.toUInt32 >>> (y.toUInt32 &&& Int32.toUInt32 31)).toInt32 :: S) μ) : mm_V p l e R s m args below meth c D A adr0 ca0 n0 cb sb Q pc L (.int y :: .int x :: S) μ := by
  intro adr ca H locs cells slots ls hZ hY hl hoL hoS hc hs
  exact lv_iushr C.1 C.2.1 hd rfl (k adr ca H locs cells slots ls hZ hY hl hoL (mm_okS_c (μ := μ) (v := .int _) trivial (mm_okS_t (mm_okS_t hoS))) hc hs)
theorem mv_idiv (C : mm_C p s m args meth c D xs A adr0 own cc ini) {x y : Int32} (hne : ¬ y = 0) (hd : decode cc pc = .ok (.idiv, 1)) (k : mm_V p l e R s m args below meth c D A adr0 ca0 n0 cb sb Q (pc + 1) L (.int (x / y) :: S) μ) : mm_V p l e R s m args below meth c D A adr0 ca0 n0 cb sb Q pc L (.int y :: .int x :: S) μ := by
  intro adr ca H locs cells slots ls hZ hY hl hoL hoS hc hs
  exact lv_idiv C.1 C.2.1 hd hne (k adr ca H locs cells slots ls hZ hY hl hoL (mm_okS_c (μ := μ) (v := .int _) trivial (mm_okS_t (mm_okS_t hoS))) hc hs)
theorem mv_irem (C : mm_C p s m args meth c D xs A adr0 own cc ini) {x y : Int32} (hne : ¬ y = 0) (hd : decode cc pc = .ok (.irem, 1)) (k : mm_V p l e R s m args below meth c D A adr0 ca0 n0 cb sb Q (pc + 1) L (.int (x - (x / y) * y) :: S) μ) : mm_V p l e R s m args below meth c D A adr0 ca0 n0 cb sb Q pc L (.int y :: .int x :: S) μ := by
  intro adr ca H locs cells slots ls hZ hY hl hoL hoS hc hs
  exact lv_irem C.1 C.2.1 hd hne (k adr ca H locs cells slots ls hZ hY hl hoL (mm_okS_c (μ := μ) (v := .int _) trivial (mm_okS_t (mm_okS_t hoS))) hc hs)
theorem mv_ladd (C : mm_C p s m args meth c D xs A adr0 own cc ini) {x y : Int64} (hd : decode cc pc = .ok (.ladd, 1)) (k : mm_V p l e R s m args below meth c D A adr0 ca0 n0 cb sb Q (pc + 1) L (.long (x + y) :: S) μ) : mm_V p l e R s m args below meth c D A adr0 ca0 n0 cb sb Q pc L (.long y :: .long x :: S) μ := by
  intro adr ca H locs cells slots ls hZ hY hl hoL hoS hc hs
  exact lv_ladd C.1 C.2.1 hd (k adr ca H locs cells slots ls hZ hY hl hoL (mm_okS_c (μ := μ) (v := .long _) trivial (mm_okS_t (mm_okS_t hoS))) hc hs)
theorem mv_lsub (C : mm_C p s m args meth c D xs A adr0 own cc ini) {x y : Int64} (hd : decode cc pc = .ok (.lsub, 1)) (k : mm_V p l e R s m args below meth c D A adr0 ca0 n0 cb sb Q (pc + 1) L (.long (x - y) :: S) μ) : mm_V p l e R s m args below meth c D A adr0 ca0 n0 cb sb Q pc L (.long y :: .long x :: S) μ := by
  intro adr ca H locs cells slots ls hZ hY hl hoL hoS hc hs
  exact lv_lsub C.1 C.2.1 hd (k adr ca H locs cells slots ls hZ hY hl hoL (mm_okS_c (μ := μ) (v := .long _) trivial (mm_okS_t (mm_okS_t hoS))) hc hs)
theorem mv_lmul (C : mm_C p s m args meth c D xs A adr0 own cc ini) {x y : Int64} (hd : decode cc pc = .ok (.lmul, 1)) (k : mm_V p l e R s m args below meth c D A adr0 ca0 n0 cb sb Q (pc + 1) L (.long (x * y) :: S) μ) : mm_V p l e R s m args below meth c D A adr0 ca0 n0 cb sb Q pc L (.long y :: .long x :: S) μ := by
  intro adr ca H locs cells slots ls hZ hY hl hoL hoS hc hs
  exact lv_lmul C.1 C.2.1 hd (k adr ca H locs cells slots ls hZ hY hl hoL (mm_okS_c (μ := μ) (v := .long _) trivial (mm_okS_t (mm_okS_t hoS))) hc hs)
theorem mv_land (C : mm_C p s m args meth c D xs A adr0 own cc ini) {x y : Int64} (hd : decode cc pc = .ok (.land, 1)) (k : mm_V p l e R s m args below meth c D A adr0 ca0 n0 cb sb Q (pc + 1) L (.long (x &&& y) :: S) μ) : mm_V p l e R s m args below meth c D A adr0 ca0 n0 cb sb Q pc L (.long y :: .long x :: S) μ := by
  intro adr ca H locs cells slots ls hZ hY hl hoL hoS hc hs
  exact lv_land C.1 C.2.1 hd (k adr ca H locs cells slots ls hZ hY hl hoL (mm_okS_c (μ := μ) (v := .long _) trivial (mm_okS_t (mm_okS_t hoS))) hc hs)
theorem mv_lor (C : mm_C p s m args meth c D xs A adr0 own cc ini) {x y : Int64} (hd : decode cc pc = .ok (.lor, 1)) (k : mm_V p l e R s m args below meth c D A adr0 ca0 n0 cb sb Q (pc + 1) L (.long (x ||| y) :: S) μ) : mm_V p l e R s m args below meth c D A adr0 ca0 n0 cb sb Q pc L (.long y :: .long x :: S) μ := by
  intro adr ca H locs cells slots ls hZ hY hl hoL hoS hc hs
  exact lv_lor C.1 C.2.1 hd (k adr ca H locs cells slots ls hZ hY hl hoL (mm_okS_c (μ := μ) (v := .long _) trivial (mm_okS_t (mm_okS_t hoS))) hc hs)
theorem mv_ldiv (C : mm_C p s m args meth c D xs A adr0 own cc ini) {x y : Int64} (hne : ¬ y = 0) (hd : decode cc pc = .ok (.ldiv, 1)) (k : mm_V p l e R s m args below meth c D A adr0 ca0 n0 cb sb Q (pc + 1) L (.long (x / y) :: S) μ) : mm_V p l e R s m args below meth c D A adr0 ca0 n0 cb sb Q pc L (.long y :: .long x :: S) μ := by
  intro adr ca H locs cells slots ls hZ hY hl hoL hoS hc hs
  exact lv_ldiv C.1 C.2.1 hd hne (k adr ca H locs cells slots ls hZ hY hl hoL (mm_okS_c (μ := μ) (v := .long _) trivial (mm_okS_t (mm_okS_t hoS))) hc hs)
theorem mv_lrem (C : mm_C p s m args meth c D xs A adr0 own cc ini) {x y : Int64} (hne : ¬ y = 0) (hd : decode cc pc = .ok (.lrem, 1)) (k : mm_V p l e R s m args below meth c D A adr0 ca0 n0 cb sb Q (pc + 1) L (.long (x - (x / y) * y) :: S) μ) : mm_V p l e R s m args below meth c D A adr0 ca0 n0 cb sb Q pc L (.long y :: .long x :: S) μ := by
  intro adr ca H locs cells slots ls hZ hY hl hoL hoS hc hs
  exact lv_lrem C.1 C.2.1 hd hne (k adr ca H locs cells slots ls hZ hY hl hoL (mm_okS_c (μ := μ) (v := .long _) trivial (mm_okS_t (mm_okS_t hoS))) hc hs)
theorem mv_lushr (C : mm_C p s m args meth c D xs A adr0 own cc ini) {x : Int64} {y : Int32} (hd : decode cc pc = .ok (.lushr, 1)) (k : mm_V p l e R s m args below meth c D A adr0 ca0 n0 cb sb Q (pc + 1) L (.long (x.toUInt64 >>> (y.toInt64.toUInt64 &&& Int64.toUInt64 63)).toInt64 :: S) μ) : mm_V p l e R s m args below meth c D A adr0 ca0 n0 cb sb Q pc L (.int y :: .long x :: S) μ := by
  intro adr ca H locs cells slots ls hZ hY hl hoL hoS hc hs
  exact lv_lushr C.1 C.2.1 hd rfl (k adr ca H locs cells slots ls hZ hY hl hoL (mm_okS_c (μ := μ) (v := .long _) trivial (mm_okS_t (mm_okS_t hoS))) hc hs)
theorem mv_lshl (C : mm_C p s m args meth c D xs A adr0 own cc ini) {x : Int64} {y : Int32} (hd : decode cc pc = .ok (.lshl, 1)) (k : mm_V p l e R s m args below meth c D A adr0 ca0 n0 cb sb Q (pc + 1) L (.long (x <<< (y.toInt64 &&& 63)) :: S) μ) : mm_V p l e R s m args below meth c D A adr0 ca0 n0 cb sb Q pc L (.int y :: .long x :: S) μ := by
  intro adr ca H locs cells slots ls hZ hY hl hoL hoS hc hs
  exact lv_lshl C.1 C.2.1 hd rfl (k adr ca H locs cells slots ls hZ hY hl hoL (mm_okS_c (μ := μ) (v := .long _) trivial (mm_okS_t (mm_okS_t hoS))) hc hs)
theorem mv_lcmp (C : mm_C p s m args meth c D xs A adr0 own cc ini) {x y : Int64} (hd : decode cc pc = .ok (.lcmp, 1)) (k : mm_V p l e R s m args below meth c D A adr0 ca0 n0 cb sb Q (pc + 1) L (.int (lg_cmp x y) :: S) μ) : mm_V p l e R s m args below meth c D A adr0 ca0 n0 cb sb Q pc L (.long y :: .long x :: S) μ := by
  intro adr ca H locs cells slots ls hZ hY hl hoL hoS hc hs
  exact W.lcmp C.1 C.2.1 hd (k adr ca H locs cells slots ls hZ hY hl hoL (mm_okS_c (μ := μ) (v := .int _) trivial (mm_okS_t (mm_okS_t hoS))) hc hs)
theorem mv_i2l (C : mm_C p s m args meth c D xs A adr0 own cc ini) {x : Int32} (hd : decode cc pc = .ok (.i2l, 1)) (k : mm_V p l e R s m args below meth c D A adr0 ca0 n0 cb sb Q (pc + 1) L (.long x.toInt64 :: S) μ) : mm_V p l e R s m args below meth c D A adr0 ca0 n0 cb sb Q pc L (.int x :: S) μ := by
  intro adr ca H locs cells slots ls hZ hY hl hoL hoS hc hs
  exact lv_i2l C.1 C.2.1 hd rfl (k adr ca H locs cells slots ls hZ hY hl hoL (mm_okS_c (μ := μ) (v := .long _) trivial (mm_okS_t hoS)) hc hs)
theorem mv_l2i (C : mm_C p s m args meth c D xs A adr0 own cc ini) {x : Int64} (hd : decode cc pc = .ok (.l2i, 1)) (k : mm_V p l e R s m args below meth c D A adr0 ca0 n0 cb sb Q (pc + 1) L (.int x.toInt32 :: S) μ) : mm_V p l e R s m args below meth c D A adr0 ca0 n0 cb sb Q pc L (.long x :: S) μ := by
  intro adr ca H locs cells slots ls hZ hY hl hoL hoS hc hs
  exact lv_l2i C.1 C.2.1 hd rfl (k adr ca H locs cells slots ls hZ hY hl hoL (mm_okS_c (μ := μ) (v := .int _) trivial (mm_okS_t hoS)) hc hs)
theorem mv_dup (C : mm_C p s m args meth c D xs A adr0 own cc ini) {v : Value} (hv : v.category = 1) (hd : decode cc pc = .ok (.dup, 1)) (k : mm_V p l e R s m args below meth c D A adr0 ca0 n0 cb sb Q (pc + 1) L (v :: v :: S) μ) : mm_V p l e R s m args below meth c D A adr0 ca0 n0 cb sb Q pc L (v :: S) μ := by
  intro adr ca H locs cells slots ls hZ hY hl hoL hoS hc hs
  exact lv_dup C.1 C.2.1 hd ((mm_re_cat adr v).trans hv) (k adr ca H locs cells slots ls hZ hY hl hoL (mm_okS_c (mm_okS_h hoS) hoS) hc hs)
theorem mv_pop (C : mm_C p s m args meth c D xs A adr0 own cc ini) {v : Value} (hv : v.category = 1) (hd : decode cc pc = .ok (.pop, 1)) (k : mm_V p l e R s m args below meth c D A adr0 ca0 n0 cb sb Q (pc + 1) L (S) μ) : mm_V p l e R s m args below meth c D A adr0 ca0 n0 cb sb Q pc L (v :: S) μ := by
  intro adr ca H locs cells slots ls hZ hY hl hoL hoS hc hs
  exact lv_pop C.1 C.2.1 hd ((mm_re_cat adr v).trans hv) (k adr ca H locs cells slots ls hZ hY hl hoL ((mm_okS_t hoS)) hc hs)
theorem mv_dup2 (C : mm_C p s m args meth c D xs A adr0 own cc ini) {v w : Value} (hv : v.category = 1) (hw : w.category = 1) (hd : decode cc pc = .ok (.dup2, 1)) (k : mm_V p l e R s m args below meth c D A adr0 ca0 n0 cb sb Q (pc + 1) L (v :: w :: v :: w :: S) μ) : mm_V p l e R s m args below meth c D A adr0 ca0 n0 cb sb Q pc L (v :: w :: S) μ := by
  intro adr ca H locs cells slots ls hZ hY hl hoL hoS hc hs
  exact lv_dup2_11 C.1 C.2.1 hd ((mm_re_cat adr v).trans hv) ((mm_re_cat adr w).trans hw) (k adr ca H locs cells slots ls hZ hY hl hoL (mm_okS_c (mm_okS_h hoS) (mm_okS_c (mm_okS_h (mm_okS_t hoS)) hoS)) hc hs)
theorem mm_find {α : Type} {l : List α} {f : α → Bool} {q : α} (h : l.find? f = some q) : q ∈ l ∧ f q = true := ⟨List.mem_of_find?_eq_some h, List.find?_some h⟩
theorem mm_fl_spec {own idx : Nat} {q : Nat × Nat × Nat} (h : mm_fl own idx = some q) : (own, idx, q) ∈ mm_flt := by
  unfold mm_fl at h
  cases hf : mm_flt.find? (fun q => q.1 == own && q.2.1 == idx) with
  | none => rw [hf] at h; cases h
  | some r =>
    rw [hf] at h
    cases h
    obtain ⟨h1, h2⟩ := mm_find hf
    simp only [Bool.and_eq_true, beq_iff_eq] at h2
    obtain ⟨rfl, rfl⟩ := h2
    exact h1
theorem mm_ml_spec {own idx : Nat} {q : Nat × Nat} (h : mm_ml own idx = some q) : (own, idx, q) ∈ mm_mlt := by
  unfold mm_ml at h
  cases hf : mm_mlt.find? (fun q => q.1 == own && q.2.1 == idx) with
  | none => rw [hf] at h; cases h
  | some r =>
    rw [hf] at h
    cases h
    obtain ⟨h1, h2⟩ := mm_find hf
    simp only [Bool.and_eq_true, beq_iff_eq] at h2
    obtain ⟨rfl, rfl⟩ := h2
    exact h1
theorem mm_gs_spec {own idx : Nat} {q : Nat × Nat} (h : mm_gs own idx = some q) : (own, idx, q) ∈ mm_gst := by
  unfold mm_gs at h
  cases hf : mm_gst.find? (fun q => q.1 == own && q.2.1 == idx) with
  | none => rw [hf] at h; cases h
  | some r =>
    rw [hf] at h
    cases h
    obtain ⟨h1, h2⟩ := mm_find hf
    simp only [Bool.and_eq_true, beq_iff_eq] at h2
    obtain ⟨rfl, rfl⟩ := h2
    exact h1
theorem mm_clk_spec {own idx q : Nat} (h : mm_clk own idx = some q) : (own, idx, q) ∈ mm_clt := by
  unfold mm_clk at h
  cases hf : mm_clt.find? (fun q => q.1 == own && q.2.1 == idx) with
  | none => rw [hf] at h; cases h
  | some r =>
    rw [hf] at h
    cases h
    obtain ⟨h1, h2⟩ := mm_find hf
    simp only [Bool.and_eq_true, beq_iff_eq] at h2
    obtain ⟨rfl, rfl⟩ := h2
    exact h1
theorem mm_an_spec {own idx q : Nat} (h : mm_an own idx = some q) : (own, idx, q) ∈ mm_ant := by
  unfold mm_an at h
  cases hf : mm_ant.find? (fun q => q.1 == own && q.2.1 == idx) with
  | none => rw [hf] at h; cases h
  | some r =>
    rw [hf] at h
    cases h
    obtain ⟨h1, h2⟩ := mm_find hf
    simp only [Bool.and_eq_true, beq_iff_eq] at h2
    obtain ⟨rfl, rfl⟩ := h2
    exact h1
theorem mm_kc_spec {own idx : Nat} {q : Int32} (h : mm_kc own idx = some q) : (own, idx, q) ∈ mm_kct := by
  unfold mm_kc at h
  cases hf : mm_kct.find? (fun q => q.1 == own && q.2.1 == idx) with
  | none => rw [hf] at h; cases h
  | some r =>
    rw [hf] at h
    cases h
    obtain ⟨h1, h2⟩ := mm_find hf
    simp only [Bool.and_eq_true, beq_iff_eq] at h2
    obtain ⟨rfl, rfl⟩ := h2
    exact h1
theorem mm_kl_spec {own idx : Nat} {q : Int64} (h : mm_kl own idx = some q) : (own, idx, q) ∈ mm_klt := by
  unfold mm_kl at h
  cases hf : mm_klt.find? (fun q => q.1 == own && q.2.1 == idx) with
  | none => rw [hf] at h; cases h
  | some r =>
    rw [hf] at h
    cases h
    obtain ⟨h1, h2⟩ := mm_find hf
    simp only [Bool.and_eq_true, beq_iff_eq] at h2
    obtain ⟨rfl, rfl⟩ := h2
    exact h1
theorem mv_ldc (C : mm_C p s m args meth c D xs A adr0 own cc ini) {idx : Nat} {v : Int32} (hk : mm_kc own idx = some v) (hd : decode cc pc = .ok (.ldc idx, 2)) (k : mm_V p l e R s m args below meth c D A adr0 ca0 n0 cb sb Q (pc + 2) L (.int v :: S) μ) : mm_V p l e R s m args below meth c D A adr0 ca0 n0 cb sb Q pc L (S) μ := by
  intro adr ca H locs cells slots ls hZ hY hl hoL hoS hc hs
  exact lv_ldc C.1 C.2.1 C.2.2.1 (C.2.2.2.1 _ (mm_kct_ok _ (mm_kc_spec hk))) hd (k adr ca H locs cells slots ls hZ hY hl hoL (mm_okS_c (μ := μ) (v := .int _) trivial hoS) hc hs)
theorem mv_ldc_w (C : mm_C p s m args meth c D xs A adr0 own cc ini) {idx : Nat} {v : Int32} (hk : mm_kc own idx = some v) (hd : decode cc pc = .ok (.ldc_w idx, 3)) (k : mm_V p l e R s m args below meth c D A adr0 ca0 n0 cb sb Q (pc + 3) L (.int v :: S) μ) : mm_V p l e R s m args below meth c D A adr0 ca0 n0 cb sb Q pc L (S) μ := by
  intro adr ca H locs cells slots ls hZ hY hl hoL hoS hc hs
  exact lv_ldcw C.1 C.2.1 C.2.2.1 (C.2.2.2.1 _ (mm_kct_ok _ (mm_kc_spec hk))) hd (k adr ca H locs cells slots ls hZ hY hl hoL (mm_okS_c (μ := μ) (v := .int _) trivial hoS) hc hs)
theorem mv_ldc2 (C : mm_C p s m args meth c D xs A adr0 own cc ini) {idx : Nat} {v : Int64} (hk : mm_kl own idx = some v) (hd : decode cc pc = .ok (.ldc2_w idx, 3)) (k : mm_V p l e R s m args below meth c D A adr0 ca0 n0 cb sb Q (pc + 3) L (.long v :: S) μ) : mm_V p l e R s m args below meth c D A adr0 ca0 n0 cb sb Q pc L (S) μ := by
  intro adr ca H locs cells slots ls hZ hY hl hoL hoS hc hs
  exact lv_ldc2 C.1 C.2.1 C.2.2.1 (C.2.2.2.1 _ (mm_klt_ok _ (mm_kl_spec hk))) hd (k adr ca H locs cells slots ls hZ hY hl hoL (mm_okS_c (μ := μ) (v := .long _) trivial hoS) hc hs)
theorem mv_iload_n (C : mm_C p s m args meth c D xs A adr0 own cc ini) {j : Fin 4} {x : Int32} (hL : L[(j : Nat)]? = some (some (.int x))) (hd : decode cc pc = .ok (.iload_n j, 1)) (k : mm_V p l e R s m args below meth c D A adr0 ca0 n0 cb sb Q (pc + 1) L (.int x :: S) μ) : mm_V p l e R s m args below meth c D A adr0 ca0 n0 cb sb Q pc L (S) μ := by
  intro adr ca H locs cells slots ls hZ hY hl hoL hoS hc hs
  exact lv_iload_n C.1 C.2.1 hd rfl (hl.2.2 _ _ hL) (k adr ca H locs cells slots ls hZ hY hl hoL (mm_okS_c (μ := μ) (v := .int _) trivial hoS) hc hs)
theorem mv_iload (C : mm_C p s m args meth c D xs A adr0 own cc ini) {j : Nat} {x : Int32} (hL : L[(j : Nat)]? = some (some (.int x))) (hd : decode cc pc = .ok (.iload j, 2)) (k : mm_V p l e R s m args below meth c D A adr0 ca0 n0 cb sb Q (pc + 2) L (.int x :: S) μ) : mm_V p l e R s m args below meth c D A adr0 ca0 n0 cb sb Q pc L (S) μ := by
  intro adr ca H locs cells slots ls hZ hY hl hoL hoS hc hs
  exact lv_iload C.1 C.2.1 hd (hl.2.2 _ _ hL) (k adr ca H locs cells slots ls hZ hY hl hoL (mm_okS_c (μ := μ) (v := .int _) trivial hoS) hc hs)
theorem mv_lload_n (C : mm_C p s m args meth c D xs A adr0 own cc ini) {j : Fin 4} {x : Int64} (hL : L[(j : Nat)]? = some (some (.long x))) (hd : decode cc pc = .ok (.lload_n j, 1)) (k : mm_V p l e R s m args below meth c D A adr0 ca0 n0 cb sb Q (pc + 1) L (.long x :: S) μ) : mm_V p l e R s m args below meth c D A adr0 ca0 n0 cb sb Q pc L (S) μ := by
  intro adr ca H locs cells slots ls hZ hY hl hoL hoS hc hs
  exact lv_lload_n C.1 C.2.1 hd rfl (hl.2.2 _ _ hL) (k adr ca H locs cells slots ls hZ hY hl hoL (mm_okS_c (μ := μ) (v := .long _) trivial hoS) hc hs)
theorem mv_lload (C : mm_C p s m args meth c D xs A adr0 own cc ini) {j : Nat} {x : Int64} (hL : L[(j : Nat)]? = some (some (.long x))) (hd : decode cc pc = .ok (.lload j, 2)) (k : mm_V p l e R s m args below meth c D A adr0 ca0 n0 cb sb Q (pc + 2) L (.long x :: S) μ) : mm_V p l e R s m args below meth c D A adr0 ca0 n0 cb sb Q pc L (S) μ := by
  intro adr ca H locs cells slots ls hZ hY hl hoL hoS hc hs
  exact lv_lload C.1 C.2.1 hd (hl.2.2 _ _ hL) (k adr ca H locs cells slots ls hZ hY hl hoL (mm_okS_c (μ := μ) (v := .long _) trivial hoS) hc hs)
theorem mv_aload_n (C : mm_C p s m args meth c D xs A adr0 own cc ini) {j : Fin 4} {x : Nat} (hL : L[(j : Nat)]? = some (some (.ref x))) (hd : decode cc pc = .ok (.aload_n j, 1)) (k : mm_V p l e R s m args below meth c D A adr0 ca0 n0 cb sb Q (pc + 1) L (.ref x :: S) μ) : mm_V p l e R s m args below meth c D A adr0 ca0 n0 cb sb Q pc L (S) μ := by
  intro adr ca H locs cells slots ls hZ hY hl hoL hoS hc hs
  exact lv_aload_n C.1 C.2.1 hd rfl (hl.2.2 _ _ hL) (k adr ca H locs cells slots ls hZ hY hl hoL (mm_okS_c (hoL _ _ hL) hoS) hc hs)
theorem mv_aload_nN (C : mm_C p s m args meth c D xs A adr0 own cc ini) {j : Fin 4} (hL : L[(j : Nat)]? = some (some .null)) (hd : decode cc pc = .ok (.aload_n j, 1)) (k : mm_V p l e R s m args below meth c D A adr0 ca0 n0 cb sb Q (pc + 1) L (.null :: S) μ) : mm_V p l e R s m args below meth c D A adr0 ca0 n0 cb sb Q pc L (S) μ := by
  intro adr ca H locs cells slots ls hZ hY hl hoL hoS hc hs
  exact lv_aload_nN C.1 C.2.1 hd rfl (hl.2.2 _ _ hL) (k adr ca H locs cells slots ls hZ hY hl hoL (mm_okS_c (hoL _ _ hL) hoS) hc hs)
theorem mv_aload (C : mm_C p s m args meth c D xs A adr0 own cc ini) {j : Nat} {x : Nat} (hL : L[(j : Nat)]? = some (some (.ref x))) (hd : decode cc pc = .ok (.aload j, 2)) (k : mm_V p l e R s m args below meth c D A adr0 ca0 n0 cb sb Q (pc + 2) L (.ref x :: S) μ) : mm_V p l e R s m args below meth c D A adr0 ca0 n0 cb sb Q pc L (S) μ := by
  intro adr ca H locs cells slots ls hZ hY hl hoL hoS hc hs
  exact lv_aload C.1 C.2.1 hd (hl.2.2 _ _ hL) (k adr ca H locs cells slots ls hZ hY hl hoL (mm_okS_c (hoL _ _ hL) hoS) hc hs)
theorem mv_aloadN (C : mm_C p s m args meth c D xs A adr0 own cc ini) {j : Nat} (hL : L[(j : Nat)]? = some (some .null)) (hd : decode cc pc = .ok (.aload j, 2)) (k : mm_V p l e R s m args below meth c D A adr0 ca0 n0 cb sb Q (pc + 2) L (.null :: S) μ) : mm_V p l e R s m args below meth c D A adr0 ca0 n0 cb sb Q pc L (S) μ := by
  intro adr ca H locs cells slots ls hZ hY hl hoL hoS hc hs
  exact lv_aloadN C.1 C.2.1 hd (hl.2.2 _ _ hL) (k adr ca H locs cells slots ls hZ hY hl hoL (mm_okS_c (hoL _ _ hL) hoS) hc hs)
theorem mv_istore_n (C : mm_C p s m args meth c D xs A adr0 own cc ini) {j : Fin 4} {x : Int32} (hj : (j : Nat) < L.length) (hd : decode cc pc = .ok (.istore_n j, 1)) (k : mm_V p l e R s m args below meth c D A adr0 ca0 n0 cb sb Q (pc + 1) (mm_s1 L j (.int x)) S μ) : mm_V p l e R s m args below meth c D A adr0 ca0 n0 cb sb Q pc L (.int x :: S) μ := by
  intro adr ca H locs cells slots ls hZ hY hl hoL hoS hc hs
  exact lv_istore_n C.1 C.2.1 hd rfl (mm_lr_has hl) hj rfl (fun ls2 h2 => k adr ca H locs cells slots ls2 hZ hY (mm_lr_s1 (v := .int x) h2) (mm_okL_s1 hoL (mm_okS_h hoS)) (mm_okS_t hoS) hc hs)
theorem mv_istore (C : mm_C p s m args meth c D xs A adr0 own cc ini) {j : Nat} {x : Int32} (hj : (j : Nat) < L.length) (hd : decode cc pc = .ok (.istore j, 2)) (k : mm_V p l e R s m args below meth c D A adr0 ca0 n0 cb sb Q (pc + 2) (mm_s1 L j (.int x)) S μ) : mm_V p l e R s m args below meth c D A adr0 ca0 n0 cb sb Q pc L (.int x :: S) μ := by
  intro adr ca H locs cells slots ls hZ hY hl hoL hoS hc hs
  exact lv_istore C.1 C.2.1 hd (mm_lr_has hl) hj rfl (fun ls2 h2 => k adr ca H locs cells slots ls2 hZ hY (mm_lr_s1 (v := .int x) h2) (mm_okL_s1 hoL (mm_okS_h hoS)) (mm_okS_t hoS) hc hs)
theorem mv_lstore_n (C : mm_C p s m args meth c D xs A adr0 own cc ini) {j : Fin 4} {x : Int64} (hj : (j : Nat) + 1 < L.length) (hd : decode cc pc = .ok (.lstore_n j, 1)) (k : mm_V p l e R s m args below meth c D A adr0 ca0 n0 cb sb Q (pc + 1) (mm_s2 L j (.long x)) S μ) : mm_V p l e R s m args below meth c D A adr0 ca0 n0 cb sb Q pc L (.long x :: S) μ := by
  intro adr ca H locs cells slots ls hZ hY hl hoL hoS hc hs
  exact lv_lstore_n C.1 C.2.1 hd rfl (mm_lr_has hl) hj rfl (fun ls2 h2 => k adr ca H locs cells slots ls2 hZ hY (mm_lr_s2 (v := .long x) h2) (mm_okL_s2 hoL (mm_okS_h hoS)) (mm_okS_t hoS) hc hs)
theorem mv_lstore (C : mm_C p s m args meth c D xs A adr0 own cc ini) {j : Nat} {x : Int64} (hj : (j : Nat) + 1 < L.length) (hd : decode cc pc = .ok (.lstore j, 2)) (k : mm_V p l e R s m args below meth c D A adr0 ca0 n0 cb sb Q (pc + 2) (mm_s2 L j (.long x)) S μ) : mm_V p l e R s m args below meth c D A adr0 ca0 n0 cb sb Q pc L (.long x :: S) μ := by
  intro adr ca H locs cells slots ls hZ hY hl hoL hoS hc hs
  exact lv_lstore C.1 C.2.1 hd (mm_lr_has hl) hj rfl (fun ls2 h2 => k adr ca H locs cells slots ls2 hZ hY (mm_lr_s2 (v := .long x) h2) (mm_okL_s2 hoL (mm_okS_h hoS)) (mm_okS_t hoS) hc hs)
theorem mv_astore_n (C : mm_C p s m args meth c D xs A adr0 own cc ini) {j : Fin 4} {x : Nat} (hj : (j : Nat) < L.length) (hd : decode cc pc = .ok (.astore_n j, 1)) (k : mm_V p l e R s m args below meth c D A adr0 ca0 n0 cb sb Q (pc + 1) (mm_s1 L j (.ref x)) S μ) : mm_V p l e R s m args below meth c D A adr0 ca0 n0 cb sb Q pc L (.ref x :: S) μ := by
  intro adr ca H locs cells slots ls hZ hY hl hoL hoS hc hs
  exact lv_astore_n C.1 C.2.1 hd rfl (mm_lr_has hl) hj rfl (fun ls2 h2 => k adr ca H locs cells slots ls2 hZ hY (mm_lr_s1 (v := .ref x) h2) (mm_okL_s1 hoL (mm_okS_h hoS)) (mm_okS_t hoS) hc hs)
theorem mv_astore (C : mm_C p s m args meth c D xs A adr0 own cc ini) {j : Nat} {x : Nat} (hj : (j : Nat) < L.length) (hd : decode cc pc = .ok (.astore j, 2)) (k : mm_V p l e R s m args below meth c D A adr0 ca0 n0 cb sb Q (pc + 2) (mm_s1 L j (.ref x)) S μ) : mm_V p l e R s m args below meth c D A adr0 ca0 n0 cb sb Q pc L (.ref x :: S) μ := by
  intro adr ca H locs cells slots ls hZ hY hl hoL hoS hc hs
  exact lv_astore C.1 C.2.1 hd (mm_lr_has hl) hj rfl (fun ls2 h2 => k adr ca H locs cells slots ls2 hZ hY (mm_lr_s1 (v := .ref x) h2) (mm_okL_s1 hoL (mm_okS_h hoS)) (mm_okS_t hoS) hc hs)
theorem mv_astoreN_n (C : mm_C p s m args meth c D xs A adr0 own cc ini) {j : Fin 4} (hj : (j : Nat) < L.length) (hd : decode cc pc = .ok (.astore_n j, 1)) (k : mm_V p l e R s m args below meth c D A adr0 ca0 n0 cb sb Q (pc + 1) (mm_s1 L j (.null)) S μ) : mm_V p l e R s m args below meth c D A adr0 ca0 n0 cb sb Q pc L (.null :: S) μ := by
  intro adr ca H locs cells slots ls hZ hY hl hoL hoS hc hs
  exact lv_astore_nN C.1 C.2.1 hd rfl (mm_lr_has hl) hj rfl (fun ls2 h2 => k adr ca H locs cells slots ls2 hZ hY (mm_lr_s1 (v := .null) h2) (mm_okL_s1 hoL (mm_okS_h hoS)) (mm_okS_t hoS) hc hs)
theorem mv_astoreN (C : mm_C p s m args meth c D xs A adr0 own cc ini) {j : Nat} (hj : (j : Nat) < L.length) (hd : decode cc pc = .ok (.astore j, 2)) (k : mm_V p l e R s m args below meth c D A adr0 ca0 n0 cb sb Q (pc + 2) (mm_s1 L j (.null)) S μ) : mm_V p l e R s m args below meth c D A adr0 ca0 n0 cb sb Q pc L (.null :: S) μ := by
  intro adr ca H locs cells slots ls hZ hY hl hoL hoS hc hs
  exact lv_astoreN C.1 C.2.1 hd (mm_lr_has hl) hj rfl (fun ls2 h2 => k adr ca H locs cells slots ls2 hZ hY (mm_lr_s1 (v := .null) h2) (mm_okL_s1 hoL (mm_okS_h hoS)) (mm_okS_t hoS) hc hs)
theorem mv_iinc (C : mm_C p s m args meth c D xs A adr0 own cc ini) {j : Nat} {n : Int} {x : Int32} (hL : L[j]? = some (some (.int x))) (hd : decode cc pc = .ok (.iinc j n, 3)) (k : mm_V p l e R s m args below meth c D A adr0 ca0 n0 cb sb Q (pc + 3) (mm_s1 L j (.int (x + Int32.ofInt n))) S μ) : mm_V p l e R s m args below meth c D A adr0 ca0 n0 cb sb Q pc L S μ := by
  intro adr ca H locs cells slots ls hZ hY hl hoL hoS hc hs
  obtain ⟨a, ha⟩ := List.getElem?_of_mem (mm_lv_mem.mpr ⟨_, hL, rfl⟩ : (j, mm_re adr (.int x)) ∈ mm_lv adr L)
  exact lv_iinc C.1 C.2.1 hd (mm_lr_has hl) ha rfl (List.getElem?_eq_some_iff.mp hL).1 rfl (fun ls2 h2 => k adr ca H locs cells slots ls2 hZ hY (mm_lr_s1 (v := .int (x + Int32.ofInt n)) h2) (mm_okL_s1 hoL trivial) hoS hc hs)
theorem mv_if_eq (C : mm_C p s m args meth c D xs A adr0 own cc ini) {x : Int32} {off : Int} {tgt : Nat} (ht : mm_jmp pc off = some tgt) (hd : decode cc pc = .ok (.ifCond .eq off, 3)) (k1 : mm_cnd .eq x 0 = true → mm_V p l e R s m args below meth c D A adr0 ca0 n0 cb sb Q tgt L S μ) (k2 : mm_cnd .eq x 0 = false → mm_V p l e R s m args below meth c D A adr0 ca0 n0 cb sb Q (pc + 3) L S μ) : mm_V p l e R s m args below meth c D A adr0 ca0 n0 cb sb Q pc L (.int x :: S) μ := by
  intro adr ca H locs cells slots ls hZ hY hl hoL hoS hc hs
  exact lv_if_eq C.1 C.2.1 hd (mm_jmp_ok ht) (fun h => k1 (by simp only [mm_cnd]; exact decide_eq_true h) adr ca H locs cells slots ls hZ hY hl hoL (mm_okS_t hoS) hc hs) (fun h => k2 (by simp only [mm_cnd]; exact decide_eq_false h) adr ca H locs cells slots ls hZ hY hl hoL (mm_okS_t hoS) hc hs)
theorem mv_icmp_eq (C : mm_C p s m args meth c D xs A adr0 own cc ini) {x y : Int32} {off : Int} {tgt : Nat} (ht : mm_jmp pc off = some tgt) (hd : decode cc pc = .ok (.if_icmp .eq off, 3)) (k1 : mm_cnd .eq x y = true → mm_V p l e R s m args below meth c D A adr0 ca0 n0 cb sb Q tgt L S μ) (k2 : mm_cnd .eq x y = false → mm_V p l e R s m args below meth c D A adr0 ca0 n0 cb sb Q (pc + 3) L S μ) : mm_V p l e R s m args below meth c D A adr0 ca0 n0 cb sb Q pc L (.int y :: .int x :: S) μ := by
  intro adr ca H locs cells slots ls hZ hY hl hoL hoS hc hs
  exact lv_icmp_eq C.1 C.2.1 hd (mm_jmp_ok ht) (fun h => k1 (by simp only [mm_cnd]; exact decide_eq_true h) adr ca H locs cells slots ls hZ hY hl hoL (mm_okS_t (mm_okS_t hoS)) hc hs) (fun h => k2 (by simp only [mm_cnd]; exact decide_eq_false h) adr ca H locs cells slots ls hZ hY hl hoL (mm_okS_t (mm_okS_t hoS)) hc hs)
theorem mv_if_ne (C : mm_C p s m args meth c D xs A adr0 own cc ini) {x : Int32} {off : Int} {tgt : Nat} (ht : mm_jmp pc off = some tgt) (hd : decode cc pc = .ok (.ifCond .ne off, 3)) (k1 : mm_cnd .ne x 0 = true → mm_V p l e R s m args below meth c D A adr0 ca0 n0 cb sb Q tgt L S μ) (k2 : mm_cnd .ne x 0 = false → mm_V p l e R s m args below meth c D A adr0 ca0 n0 cb sb Q (pc + 3) L S μ) : mm_V p l e R s m args below meth c D A adr0 ca0 n0 cb sb Q pc L (.int x :: S) μ := by
  intro adr ca H locs cells slots ls hZ hY hl hoL hoS hc hs
  exact lv_if_ne C.1 C.2.1 hd (mm_jmp_ok ht) (fun h => k1 (by simp only [mm_cnd]; exact decide_eq_true h) adr ca H locs cells slots ls hZ hY hl hoL (mm_okS_t hoS) hc hs) (fun h => k2 (by simp only [mm_cnd]; exact decide_eq_false (fun z => z h)) adr ca H locs cells slots ls hZ hY hl hoL (mm_okS_t hoS) hc hs)
theorem mv_icmp_ne (C : mm_C p s m args meth c D xs A adr0 own cc ini) {x y : Int32} {off : Int} {tgt : Nat} (ht : mm_jmp pc off = some tgt) (hd : decode cc pc = .ok (.if_icmp .ne off, 3)) (k1 : mm_cnd .ne x y = true → mm_V p l e R s m args below meth c D A adr0 ca0 n0 cb sb Q tgt L S μ) (k2 : mm_cnd .ne x y = false → mm_V p l e R s m args below meth c D A adr0 ca0 n0 cb sb Q (pc + 3) L S μ) : mm_V p l e R s m args below meth c D A adr0 ca0 n0 cb sb Q pc L (.int y :: .int x :: S) μ := by
  intro adr ca H locs cells slots ls hZ hY hl hoL hoS hc hs
  exact lv_icmp_ne C.1 C.2.1 hd (mm_jmp_ok ht) (fun h => k1 (by simp only [mm_cnd]; exact decide_eq_true h) adr ca H locs cells slots ls hZ hY hl hoL (mm_okS_t (mm_okS_t hoS)) hc hs) (fun h => k2 (by simp only [mm_cnd]; exact decide_eq_false (fun z => z h)) adr ca H locs cells slots ls hZ hY hl hoL (mm_okS_t (mm_okS_t hoS)) hc hs)
theorem mv_if_lt (C : mm_C p s m args meth c D xs A adr0 own cc ini) {x : Int32} {off : Int} {tgt : Nat} (ht : mm_jmp pc off = some tgt) (hd : decode cc pc = .ok (.ifCond .lt off, 3)) (k1 : mm_cnd .lt x 0 = true → mm_V p l e R s m args below meth c D A adr0 ca0 n0 cb sb Q tgt L S μ) (k2 : mm_cnd .lt x 0 = false → mm_V p l e R s m args below meth c D A adr0 ca0 n0 cb sb Q (pc + 3) L S μ) : mm_V p l e R s m args below meth c D A adr0 ca0 n0 cb sb Q pc L (.int x :: S) μ := by
  intro adr ca H locs cells slots ls hZ hY hl hoL hoS hc hs
  exact lv_if_lt C.1 C.2.1 hd (mm_jmp_ok ht) (fun h => k1 (by simp only [mm_cnd]; exact decide_eq_true h) adr ca H locs cells slots ls hZ hY hl hoL (mm_okS_t hoS) hc hs) (fun h => k2 (by simp only [mm_cnd]; exact decide_eq_false h) adr ca H locs cells slots ls hZ hY hl hoL (mm_okS_t hoS) hc hs)
theorem mv_icmp_lt (C : mm_C p s m args meth c D xs A adr0 own cc ini) {x y : Int32} {off : Int} {tgt : Nat} (ht : mm_jmp pc off = some tgt) (hd : decode cc pc = .ok (.if_icmp .lt off, 3)) (k1 : mm_cnd .lt x y = true → mm_V p l e R s m args below meth c D A adr0 ca0 n0 cb sb Q tgt L S μ) (k2 : mm_cnd .lt x y = false → mm_V p l e R s m args below meth c D A adr0 ca0 n0 cb sb Q (pc + 3) L S μ) : mm_V p l e R s m args below meth c D A adr0 ca0 n0 cb sb Q pc L (.int y :: .int x :: S) μ := by
  intro adr ca H locs cells slots ls hZ hY hl hoL hoS hc hs
  exact lv_icmp_lt C.1 C.2.1 hd (mm_jmp_ok ht) (fun h => k1 (by simp only [mm_cnd]; exact decide_eq_true h) adr ca H locs cells slots ls hZ hY hl hoL (mm_okS_t (mm_okS_t hoS)) hc hs) (fun h => k2 (by simp only [mm_cnd]; exact decide_eq_false h) adr ca H locs cells slots ls hZ hY hl hoL (mm_okS_t (mm_okS_t hoS)) hc hs)
theorem mv_if_ge (C : mm_C p s m args meth c D xs A adr0 own cc ini) {x : Int32} {off : Int} {tgt : Nat} (ht : mm_jmp pc off = some tgt) (hd : decode cc pc = .ok (.ifCond .ge off, 3)) (k1 : mm_cnd .ge x 0 = true → mm_V p l e R s m args below meth c D A adr0 ca0 n0 cb sb Q tgt L S μ) (k2 : mm_cnd .ge x 0 = false → mm_V p l e R s m args below meth c D A adr0 ca0 n0 cb sb Q (pc + 3) L S μ) : mm_V p l e R s m args below meth c D A adr0 ca0 n0 cb sb Q pc L (.int x :: S) μ := by
  intro adr ca H locs cells slots ls hZ hY hl hoL hoS hc hs
  exact lv_if_ge C.1 C.2.1 hd (mm_jmp_ok ht) (fun h => k1 (by simp only [mm_cnd]; exact decide_eq_true h) adr ca H locs cells slots ls hZ hY hl hoL (mm_okS_t hoS) hc hs) (fun h => k2 (by simp only [mm_cnd]; exact decide_eq_false h) adr ca H locs cells slots ls hZ hY hl hoL (mm_okS_t hoS) hc hs)
theorem mv_icmp_ge (C : mm_C p s m args meth c D xs A adr0 own cc ini) {x y : Int32} {off : Int} {tgt : Nat} (ht : mm_jmp pc off = some tgt) (hd : decode cc pc = .ok (.if_icmp .ge off, 3)) (k1 : mm_cnd .ge x y = true → mm_V p l e R s m args below meth c D A adr0 ca0 n0 cb sb Q tgt L S μ) (k2 : mm_cnd .ge x y = false → mm_V p l e R s m args below meth c D A adr0 ca0 n0 cb sb Q (pc + 3) L S μ) : mm_V p l e R s m args below meth c D A adr0 ca0 n0 cb sb Q pc L (.int y :: .int x :: S) μ := by
  intro adr ca H locs cells slots ls hZ hY hl hoL hoS hc hs
  exact lv_icmp_ge C.1 C.2.1 hd (mm_jmp_ok ht) (fun h => k1 (by simp only [mm_cnd]; exact decide_eq_true h) adr ca H locs cells slots ls hZ hY hl hoL (mm_okS_t (mm_okS_t hoS)) hc hs) (fun h => k2 (by simp only [mm_cnd]; exact decide_eq_false h) adr ca H locs cells slots ls hZ hY hl hoL (mm_okS_t (mm_okS_t hoS)) hc hs)
theorem mv_if_gt (C : mm_C p s m args meth c D xs A adr0 own cc ini) {x : Int32} {off : Int} {tgt : Nat} (ht : mm_jmp pc off = some tgt) (hd : decode cc pc = .ok (.ifCond .gt off, 3)) (k1 : mm_cnd .gt x 0 = true → mm_V p l e R s m args below meth c D A adr0 ca0 n0 cb sb Q tgt L S μ) (k2 : mm_cnd .gt x 0 = false → mm_V p l e R s m args below meth c D A adr0 ca0 n0 cb sb Q (pc + 3) L S μ) : mm_V p l e R s m args below meth c D A adr0 ca0 n0 cb sb Q pc L (.int x :: S) μ := by
  intro adr ca H locs cells slots ls hZ hY hl hoL hoS hc hs
  exact lv_if_gt C.1 C.2.1 hd (mm_jmp_ok ht) (fun h => k1 (by simp only [mm_cnd]; exact decide_eq_true h) adr ca H locs cells slots ls hZ hY hl hoL (mm_okS_t hoS) hc hs) (fun h => k2 (by simp only [mm_cnd]; exact decide_eq_false h) adr ca H locs cells slots ls hZ hY hl hoL (mm_okS_t hoS) hc hs)
theorem mv_icmp_gt (C : mm_C p s m args meth c D xs A adr0 own cc ini) {x y : Int32} {off : Int} {tgt : Nat} (ht : mm_jmp pc off = some tgt) (hd : decode cc pc = .ok (.if_icmp .gt off, 3)) (k1 : mm_cnd .gt x y = true → mm_V p l e R s m args below meth c D A adr0 ca0 n0 cb sb Q tgt L S μ) (k2 : mm_cnd .gt x y = false → mm_V p l e R s m args below meth c D A adr0 ca0 n0 cb sb Q (pc + 3) L S μ) : mm_V p l e R s m args below meth c D A adr0 ca0 n0 cb sb Q pc L (.int y :: .int x :: S) μ := by
  intro adr ca H locs cells slots ls hZ hY hl hoL hoS hc hs
  exact lv_icmp_gt C.1 C.2.1 hd (mm_jmp_ok ht) (fun h => k1 (by simp only [mm_cnd]; exact decide_eq_true h) adr ca H locs cells slots ls hZ hY hl hoL (mm_okS_t (mm_okS_t hoS)) hc hs) (fun h => k2 (by simp only [mm_cnd]; exact decide_eq_false h) adr ca H locs cells slots ls hZ hY hl hoL (mm_okS_t (mm_okS_t hoS)) hc hs)
theorem mv_if_le (C : mm_C p s m args meth c D xs A adr0 own cc ini) {x : Int32} {off : Int} {tgt : Nat} (ht : mm_jmp pc off = some tgt) (hd : decode cc pc = .ok (.ifCond .le off, 3)) (k1 : mm_cnd .le x 0 = true → mm_V p l e R s m args below meth c D A adr0 ca0 n0 cb sb Q tgt L S μ) (k2 : mm_cnd .le x 0 = false → mm_V p l e R s m args below meth c D A adr0 ca0 n0 cb sb Q (pc + 3) L S μ) : mm_V p l e R s m args below meth c D A adr0 ca0 n0 cb sb Q pc L (.int x :: S) μ := by
  intro adr ca H locs cells slots ls hZ hY hl hoL hoS hc hs
  exact lv_if_le C.1 C.2.1 hd (mm_jmp_ok ht) (fun h => k1 (by simp only [mm_cnd]; exact decide_eq_true h) adr ca H locs cells slots ls hZ hY hl hoL (mm_okS_t hoS) hc hs) (fun h => k2 (by simp only [mm_cnd]; exact decide_eq_false h) adr ca H locs cells slots ls hZ hY hl hoL (mm_okS_t hoS) hc hs)
theorem mv_icmp_le (C : mm_C p s m args meth c D xs A adr0 own cc ini) {x y : Int32} {off : Int} {tgt : Nat} (ht : mm_jmp pc off = some tgt) (hd : decode cc pc = .ok (.if_icmp .le off, 3)) (k1 : mm_cnd .le x y = true → mm_V p l e R s m args below meth c D A adr0 ca0 n0 cb sb Q tgt L S μ) (k2 : mm_cnd .le x y = false → mm_V p l e R s m args below meth c D A adr0 ca0 n0 cb sb Q (pc + 3) L S μ) : mm_V p l e R s m args below meth c D A adr0 ca0 n0 cb sb Q pc L (.int y :: .int x :: S) μ := by
  intro adr ca H locs cells slots ls hZ hY hl hoL hoS hc hs
  exact lv_icmp_le C.1 C.2.1 hd (mm_jmp_ok ht) (fun h => k1 (by simp only [mm_cnd]; exact decide_eq_true h) adr ca H locs cells slots ls hZ hY hl hoL (mm_okS_t (mm_okS_t hoS)) hc hs) (fun h => k2 (by simp only [mm_cnd]; exact decide_eq_false h) adr ca H locs cells slots ls hZ hY hl hoL (mm_okS_t (mm_okS_t hoS)) hc hs)
theorem mv_goto (C : mm_C p s m args meth c D xs A adr0 own cc ini) {off : Int} {tgt : Nat} (ht : mm_jmp pc off = some tgt) (hd : decode cc pc = .ok (.goto off, 3)) (k : mm_V p l e R s m args below meth c D A adr0 ca0 n0 cb sb Q tgt L S μ) : mm_V p l e R s m args below meth c D A adr0 ca0 n0 cb sb Q pc L S μ := by
  intro adr ca H locs cells slots ls hZ hY hl hoL hoS hc hs
  exact lv_goto C.1 C.2.1 hd (mm_jmp_ok ht) (k adr ca H locs cells slots ls hZ hY hl hoL hoS hc hs)
theorem mv_ifnull (C : mm_C p s m args meth c D xs A adr0 own cc ini) {off : Int} {x : Nat} (hd : decode cc pc = .ok (.ifnull off, 3)) (k : mm_V p l e R s m args below meth c D A adr0 ca0 n0 cb sb Q (pc + 3) L S μ) : mm_V p l e R s m args below meth c D A adr0 ca0 n0 cb sb Q pc L (.ref x :: S) μ := by
  intro adr ca H locs cells slots ls hZ hY hl hoL hoS hc hs
  exact lv_ifnull C.1 C.2.1 hd (k adr ca H locs cells slots ls hZ hY hl hoL (mm_okS_t hoS) hc hs)
theorem mv_ifnullN (C : mm_C p s m args meth c D xs A adr0 own cc ini) {off : Int} {tgt : Nat} (ht : mm_jmp pc off = some tgt) (hd : decode cc pc = .ok (.ifnull off, 3)) (k : mm_V p l e R s m args below meth c D A adr0 ca0 n0 cb sb Q tgt L S μ) : mm_V p l e R s m args below meth c D A adr0 ca0 n0 cb sb Q pc L (.null :: S) μ := by
  intro adr ca H locs cells slots ls hZ hY hl hoL hoS hc hs
  exact lv_ifnullN C.1 C.2.1 hd (mm_jmp_ok ht) (k adr ca H locs cells slots ls hZ hY hl hoL (mm_okS_t hoS) hc hs)
theorem mv_ifnonnull (C : mm_C p s m args meth c D xs A adr0 own cc ini) {off : Int} {x : Nat} {tgt : Nat} (ht : mm_jmp pc off = some tgt) (hd : decode cc pc = .ok (.ifnonnull off, 3)) (k : mm_V p l e R s m args below meth c D A adr0 ca0 n0 cb sb Q tgt L S μ) : mm_V p l e R s m args below meth c D A adr0 ca0 n0 cb sb Q pc L (.ref x :: S) μ := by
  intro adr ca H locs cells slots ls hZ hY hl hoL hoS hc hs
  exact lv_ifnonnull C.1 C.2.1 hd (mm_jmp_ok ht) (k adr ca H locs cells slots ls hZ hY hl hoL (mm_okS_t hoS) hc hs)
theorem mv_ifnonnullN (C : mm_C p s m args meth c D xs A adr0 own cc ini) {off : Int} (hd : decode cc pc = .ok (.ifnonnull off, 3)) (k : mm_V p l e R s m args below meth c D A adr0 ca0 n0 cb sb Q (pc + 3) L S μ) : mm_V p l e R s m args below meth c D A adr0 ca0 n0 cb sb Q pc L (.null :: S) μ := by
  intro adr ca H locs cells slots ls hZ hY hl hoL hoS hc hs
  exact lv_ifnonnullN C.1 C.2.1 hd (k adr ca H locs cells slots ls hZ hY hl hoL (mm_okS_t hoS) hc hs)
theorem mv_swO (C : mm_C p s m args meth c D xs A adr0 own cc ini) {d lo hi : Int} {os : Array Int} {len tgt : Nat} {x : Int32} (h : x.toInt < lo ∨ hi < x.toInt) (ht : mm_jmp pc d = some tgt) (hd : decode cc pc = .ok (.tableswitch d lo hi os, len)) (k : mm_V p l e R s m args below meth c D A adr0 ca0 n0 cb sb Q tgt L S μ) : mm_V p l e R s m args below meth c D A adr0 ca0 n0 cb sb Q pc L (.int x :: S) μ := by
  intro adr ca H locs cells slots ls hZ hY hl hoL hoS hc hs
  exact lv_tableOut C.1 C.2.1 hd h (mm_jmp_ok ht) (k adr ca H locs cells slots ls hZ hY hl hoL (mm_okS_t hoS) hc hs)
theorem mv_swI (C : mm_C p s m args meth c D xs A adr0 own cc ini) {d lo hi : Int} {os : Array Int} {len tgt : Nat} {x : Int32} {off : Int} (h : ¬ (x.toInt < lo ∨ hi < x.toInt)) (ho : os[(x.toInt - lo).toNat]? = some off) (ht : mm_jmp pc off = some tgt) (hd : decode cc pc = .ok (.tableswitch d lo hi os, len)) (k : mm_V p l e R s m args below meth c D A adr0 ca0 n0 cb sb Q tgt L S μ) : mm_V p l e R s m args below meth c D A adr0 ca0 n0 cb sb Q pc L (.int x :: S) μ := by
  intro adr ca H locs cells slots ls hZ hY hl hoL hoS hc hs
  exact lv_tableIn C.1 C.2.1 hd (fun z => h (Or.inl z)) (fun z => h (Or.inr z)) ho (mm_jmp_ok ht) (k adr ca H locs cells slots ls hZ hY hl hoL (mm_okS_t hoS) hc hs)
end PURE
