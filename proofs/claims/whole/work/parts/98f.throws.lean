/-! ===== the class's person throws ===== -/
def lwX0 : mm_X := fun _ _ _ => none
theorem lw_X0ok {l : Launch} {xs : List Int32} : mm_ExtOK l xs lwX0 := fun n idx as rest μ v μ1 t _ _ h => by cases h
theorem lw_run0 {l : Launch} {xs : List Int32} (f : Nat) : mm_RunOK l xs lwX0 f := mm_sound mm_mna_ok lw_X0ok f
section STEPS
variable {p : Program} {l : Launch} {e : Env} {R : Room} {s : State} {m : MethodId} {args : Array Value} {below : List Frame} {meth : Method} {c : Code} {D : va_G} {xs : List Int32} {A : Nat → Prop} {adr0 : Nat → Nat} {ca0 : Nat → ClassId} {n0 cb sb : Nat} {Q : State → Prop} {q : mm_T} {ini : Bool}
theorem lw_step (C : mm_C p s m args meth c D xs A adr0 q.1 q.2.2.1 ini) {i : Instr} {pc pc' : Nat} {L L' : mm_L} {S S' : List Value} {μ μ' : mm_M} (hd : mm_dec q pc = some i) (h : mm_step xs ini q.1 i pc L S μ = some (pc', L', S', μ')) (hr1 : μ'.1.2.1 ≤ cb + R.cells) (hr2 : μ'.1.2.2.1 ≤ sb + R.slots) (kk : mm_V p l e R s m args below meth c D A adr0 ca0 n0 cb sb Q pc' L' S' μ') : mm_V p l e R s m args below meth c D A adr0 ca0 n0 cb sb Q pc L S μ := by
  obtain ⟨len, hd', hlen⟩ := mm_dec_spec hd
  exact mm_step_ok mm_mna_ok C hlen hd' h hr1 hr2 kk
theorem lw_if {own pc t : Nat} {x : Int32} {off : Int} {cd : ClassFile.Cond} {b : Bool} {L : mm_L} {S : List Value} {μ : mm_M} (ht : mm_jmp pc off = some t) (hb : mm_cnd cd x 0 = b) : mm_step xs ini own (.ifCond cd off) pc L (.int x :: S) μ = some (if b then t else pc + 3, L, S, μ) := by
  show mm_br (mm_cnd cd x 0) pc off L S μ = _
  unfold mm_br
  rw [ht, hb]
  rfl
theorem lw_icmp {own pc t : Nat} {x y : Int32} {off : Int} {cd : ClassFile.Cond} {b : Bool} {L : mm_L} {S : List Value} {μ : mm_M} (ht : mm_jmp pc off = some t) (hb : mm_cnd cd x y = b) : mm_step xs ini own (.if_icmp cd off) pc L (.int y :: .int x :: S) μ = some (if b then t else pc + 3, L, S, μ) := by
  show mm_br (mm_cnd cd x y) pc off L S μ = _
  unfold mm_br
  rw [ht, hb]
  rfl
theorem lw_call (C : mm_C p s m args meth c D xs A adr0 q.1 q.2.2.1 ini) {i : Instr} {pc : Nat} {L : mm_L} (hml : c.maxLocals = L.length) {idx k kind a f n : Nat} {t : mm_T} {S as rest : List Value} {μ μ1 : mm_M} {v : Option Value} (hd : mm_dec q pc = some i) (hi : mm_inv i = some (idx, a)) (hlk : mm_ml q.1 idx = some (k, kind)) (hft : mm_fits a kind = true) (hk6 : kind ≠ 6) (ht : mm_mt[k]? = some t) (hcall : mm_call μ (k, kind) t S = some (as, rest)) (hrun : mm_run xs lwX0 f n k 0 (mm_entry as t.2.2.2.1) [] μ = some (v, μ1)) (hle : mm_le μ μ1 = true)
    (hf : n + 1 ≤ R.frames) (hlo : (n + 1) * 200 ≤ R.locals) (hr1 : μ1.1.2.1 ≤ cb + R.cells) (hr2 : μ1.1.2.2.1 ≤ sb + R.slots) (kk : mm_V p l e R s m args below meth c D A adr0 ca0 n0 cb sb Q (pc + 3) L (v.toList ++ rest) μ1) : mm_V p l e R s m args below meth c D A adr0 ca0 n0 cb sb Q pc L S μ := by
  obtain ⟨len, hd', hlen⟩ := mm_dec_spec hd
  exact mm_V_call (lw_run0 f) C hml hi hlen hd' hlk hft hk6 ht hcall hrun hle hf hlo hr1 hr2 kk
end STEPS
/-- where person throws -/
def lwT (d : mm_D) (p0 p1 : Int32) : Prop := perC d p0 = 0 ∨ p1 < 0 ∨ 6 < p1
/-- the world behind the throw: as it was -/
def lwB (D : va_G) (μ : mm_M) (A : Nat → Prop) : String → (Nat → Nat) × (Nat → ClassId) → State → Prop := fun E u t => E = lw_NS ∧ va_P D mm_cl (mm_w u.1 u.2 μ) t.heap ∧ va_D A (mm_w u.1 u.2 μ) ∧ mm_arr t u.2 μ
theorem lw_kept {D : va_G} {ws : va_W} {H H1 : Heap} (h : va_P D mm_cl ws H) (hs : ∀ q : Nat, q < H.size → H1[q]? = H[q]?) : va_P D mm_cl ws H1 := h.kept (fun k q hk => hs q.1 (vx_lt h hk))
theorem lw_throws {l : Launch} (hl : l.stackTraces = false) {xs : List Int32} {n : Nat} {sh : mm_S} {d : mm_D} {g : mm_G} {r : mm_R} (hsh : shp sh) (hr : rfx r) {p0 p1 : Int32} (hT : lwT d p0 p1) (hin1 : mm_in1 (sh, d, g, r)) (D : va_G) (adr : Nat → Nat) (ca : Nat → ClassId) (sz : Nat) :
    vx_Met l q94.2.1 (mm_ws q94) (mm_rm (n + 6) 1 6) (mm_Pc D xs adr ca (sh, d, g, r) sz [.ref 0, .int p0, .int p1]) (va_Qi (fun (_ : Int32) (_ : Unit) => False) (fun _ _ => True) (va_A (mm_w adr ca (sh, d, g, r)) sz))
      (vx_X (fun u : (Nat → Nat) × (Nat → ClassId) => mm_Y adr ca (mm_next (sh, d, g, r)) u.1 u.2 (sh, d, g, r)) (lwB D (sh, d, g, r) (va_A (mm_w adr ca (sh, d, g, r)) sz)) (va_A (mm_w adr ca (sh, d, g, r)) sz)) 1 6 (va_A (mm_w adr ca (sh, d, g, r)) sz) := by
  have htm := mm_mt_in q94_ok (by decide)
  refine vx_ofW (cc := q94.2.2.1) (maxL := 4) (ret := some .int) (by decide) rfl ?_
  intro p e s m args below meth c s₁ B hml hnt hv
  obtain ⟨rfl, hsz, hP, hD0, hAr, hK, hnw, hco⟩ := hv
  have hx := B.exec
  have hb := B.bytes
  have hts := mm_hts (atoms_spec (ws := mm_ws q94) B.pre) hnw
  have hown : s.vm.findClass (mm_name q94.1) = some m.cls := by rw [← (mm_mtx_ok q94 htm).2]; exact findClass_of_methodNamed B.named
  have hlocks := B.notSynchronized
  have hnm : meth.name = q94.2.1.name := (name_of_methodNamed B.named B.method).1
  subst hsz
  have hD := hD0.self (sz := s.heap.size)
  generalize hAe : va_A (mm_w adr ca (sh, d, g, r)) s.heap.size = A at hD hco ⊢
  have hA : ∀ q : Nat, s.heap.size ≤ q → A q := fun q h => by rw [← hAe]; exact Or.inr h
  have C : mm_C p s m ([Value.ref 0, .int p0, .int p1].map (mm_re adr)).toArray meth c D xs A adr q94.1 q94.2.2.1 (decide (q94.2.1.name = "<init>")) := ⟨hx, hb, hown, hts, hK, hA, hco, fun h => by rw [hnm]; exact of_decide_eq_true h⟩
  have hfl : (mm_flat [Value.ref 0, .int p0, .int p1]).length ≤ 4 := Nat.le_of_ble_eq_true rfl
  have hle := lv_entry ([Value.ref 0, .int p0, .int p1].map (mm_re adr)) (n := 4) (by rw [mm_flat_len]; exact hfl)
  rw [lg_entry_eq]
  generalize (lg_sl ([Value.ref 0, .int p0, .int p1].map (mm_re adr)) ++ List.replicate (4 - (lg_sl ([Value.ref 0, .int p0, .int p1].map (mm_re adr))).length) Slot.unset).toArray = ls at hle ⊢
  have h0 : 0 < mm_next (sh, d, g, r) := by show 0 < sh.1; rw [hsh.1]; decide
  have hokS : mm_okS (sh, d, g, r) [Value.ref 0, .int p0, .int p1] := fun v hv => by
    simp only [List.mem_cons, List.not_mem_nil, or_false] at hv
    rcases hv with rfl | rfl | rfl
    · exact Or.inl h0
    · trivial
    · trivial
  have key : mm_V p l e (headSpec (mm_ws q94) (mm_rm (n + 6) 1 6)).room s m ([Value.ref 0, .int p0, .int p1].map (mm_re adr)).toArray below meth c D A adr ca (mm_next (sh, d, g, r)) sh.2.1 sh.2.2.1 (vx_MQ below (va_Qi (fun (_ : Int32) (_ : Unit) => False) (fun _ _ => True) A) (vx_X (fun u : (Nat → Nat) × (Nat → ClassId) => mm_Y adr ca (mm_next (sh, d, g, r)) u.1 u.2 (sh, d, g, r)) (lwB D (sh, d, g, r) A) A) ([Value.ref 0, .int p0, .int p1].map (mm_re adr)).toArray s 1 6 A) 0 [some (.ref 0), some (.int p0), some (.int p1), none] [] (sh, d, g, r) := by
    have r1 : sh.2.1 ≤ sh.2.1 + (headSpec (mm_ws q94) (mm_rm (n + 6) 1 6)).room.cells := Nat.le_add_right _ _
    have r2 : sh.2.2.1 ≤ sh.2.2.1 + (headSpec (mm_ws q94) (mm_rm (n + 6) 1 6)).room.slots := Nat.le_add_right _ _
    have fin : mm_V p l e (headSpec (mm_ws q94) (mm_rm (n + 6) 1 6)).room s m ([Value.ref 0, .int p0, .int p1].map (mm_re adr)).toArray below meth c D A adr ca (mm_next (sh, d, g, r)) sh.2.1 sh.2.2.1 (vx_MQ below (va_Qi (fun (_ : Int32) (_ : Unit) => False) (fun _ _ => True) A) (vx_X (fun u : (Nat → Nat) × (Nat → ClassId) => mm_Y adr ca (mm_next (sh, d, g, r)) u.1 u.2 (sh, d, g, r)) (lwB D (sh, d, g, r) A) A) ([Value.ref 0, .int p0, .int p1].map (mm_re adr)).toArray s 1 6 A) 18 [some (.ref 0), some (.int p0), some (.int p1), none] [] (sh, d, g, r) := by
      intro adr1 ca1 H locs cells slots ls1 hZ hY hl1 hoL hoS hc hs
      have hc0 : cells = 0 := by have : cells + sh.2.1 = sh.2.1 := hc; omega
      have hs0 : slots = 0 := by have : slots + sh.2.2.1 = sh.2.2.1 := hs; omega
      subst hc0 hs0
      have hwd : ∀ w ∈ lw_thrw, w.before ([Value.ref 0, .int p0, .int p1].map (mm_re adr)).toArray s = true := fun w hw => hts w (lw_thrw_in w hw)
      refine vx_throw0 (own := "ShyBell") (cls := lw_NS) (names := lw_sup) (ik := 152) (ic := 154) (A := A) (cc := q94.2.2.1) (pc := 18) hx hb hl hown (by decide +kernel) (by decide +kernel) (hwd _ List.mem_cons_self) (hwd _ (List.mem_cons_of_mem _ List.mem_cons_self)) (fun w hw => hwd w (List.mem_cons_of_mem _ (List.mem_cons_of_mem _ hw))) lw_thrw_ot hco.2.2.1 hco.2.2.2 hZ.2.2.1 (hl1.1.trans hml.symm) (by decide +kernel) (by decide +kernel) (by decide +kernel) (by decide +kernel) (fun x hx2 => (hnt x hx2).elim) (by show 2 + 3 < n + 6; omega) (by show 0 + (13 * (2 + 1) + 42) ≤ (n + 6) * 200; omega) (Nat.le_refl _) (Nat.le_refl _) hlocks ?_ hZ.2.2.1.2.2 (Nat.le_refl _) (Nat.le_refl _)
      intro t hal hsz2 hkp
      refine ⟨(adr1, ca1), hY, ⟨rfl, lw_kept hZ.1 hkp, hZ.2.1, mm_arr_moved hal hZ.2.2.2.1⟩, Nat.le_trans hZ.2.2.1.1 hsz2, fun q h1 h2 => ?_⟩
      rw [hkp q (Nat.lt_of_lt_of_le h1 hZ.2.2.1.1)]
      exact hZ.2.2.1.2.1 q h1 h2
    obtain ⟨f, v, μ1, hrun, rfl, rfl⟩ := c_isPerson (xs := xs) (ext := lwX0) (n := n) (g := g) hsh hr (d := d) p0
    refine lw_step (q := q94) C d94_0 rfl r1 r2 ?_
    refine lw_step (q := q94) C d94_1 rfl r1 r2 ?_
    refine lw_call (q := q94) (L := [some (.ref 0), some (.int p0), some (.int p1), none]) C hml d94_2 rfl ml_10_148 rfl (by decide) q129_ok (by
      show mm_callV (sh, d, g, r) q129 [.int p0, .ref 0] = some ([.ref 0, .int p0], [])
      unfold mm_callV
      have hO : mm_isO (sh, d, g, r) 0 10 = true := so_is (so0 hsh rfl)
      show (if mm_isO (sh, d, g, r) 0 10 && _ then _ else _) = _
      rw [hO]
      rfl) hrun (mm_le_same rfl) (by show n + 1 ≤ n + 6; omega) (by show (n + 1) * 200 ≤ (n + 6) * 200; omega) r1 r2 ?_
    by_cases q0 : perC d p0 = 0
    · refine lw_step (q := q94) C d94_5 (lw_if (t := 18) (b := true) rfl (decide_eq_true q0)) r1 r2 ?_
      exact fin
    refine lw_step (q := q94) C d94_5 (lw_if (t := 18) (b := false) rfl (decide_eq_false q0)) r1 r2 ?_
    refine lw_step (q := q94) C d94_8 rfl r1 r2 ?_
    by_cases q1 : p1 < 0
    · refine lw_step (q := q94) C d94_9 (lw_if (t := 18) (b := true) rfl (decide_eq_true q1)) r1 r2 ?_
      exact fin
    refine lw_step (q := q94) C d94_9 (lw_if (t := 18) (b := false) rfl (decide_eq_false q1)) r1 r2 ?_
    refine lw_step (q := q94) C d94_12 rfl r1 r2 ?_
    refine lw_step (q := q94) C d94_13 rfl r1 r2 ?_
    have q6 : ¬ p1 ≤ 6 := by
      rcases hT with h | h | h
      · exact absurd h q0
      · exact absurd h q1
      · exact Int32.not_le.mpr h
    refine lw_step (q := q94) C d94_15 (lw_icmp (t := 26) (b := false) rfl (decide_eq_false q6)) r1 r2 ?_
    exact fin
  exact key adr ca s.heap [] 0 0 ls ⟨hP, hD, va_S.rf, hAr, hin1⟩ ⟨fun _ _ => rfl, fun _ _ => rfl, Nat.le_refl _⟩ (mm_entry_lr hfl adr hle) (mm_entry_ok (ml := 4) hokS) (fun v hv => by cases hv) (Nat.zero_add _) (Nat.zero_add _)
