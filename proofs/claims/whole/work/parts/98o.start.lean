/-! THE CLAIM OUT OF ONE WALK OF THE LAW'S BODY. Your part is whole_start (and what it stands on); all else here is the same for every law, but numbers. -/
def R_law : String := "ShyBellLaw"
def lw_P (b : Addr) (xs : List Int32) (args : Array Value) (s : State) : Prop := args = #[.ref b] ∧ s.IntsAt b xs ∧ xs.length ≤ 3072 ∧ (Jvm.Cond.and given_1 narrow_1).before args s = true
def lw_Q (_ : Array Value) (s : State) (o : Outcome) (t : State) : Prop := o = .returned (some (.int 1)) ∧ Framed s o t [] 601024 7293034
def lw_Z (below : List Frame) (a : Array Value) (s : State) : State → Prop := fun t => ∃ o, t.status = .running ∧ Ended t below o ∧ lw_Q a s o t
/-- the law's own end, with 1 on the stack, nothing written that was there before, its room as the claim has it -/
theorem lw_ret {p : Program} {l : Launch} {e : Env} {s : State} {m : MethodId} {below : List Frame} {meth : Method} {c : Code} {b : Nat} (hx : p.tables.exec = Jvm.exec) (hb : c.code = code) (hr : meth.sig.returnType = ret) (hlocks : meth.locks = false) {pc : Nat} {H : Heap} {ls : Array Slot} (hdg : decode code pc = .ok (.ireturn, 1)) : W p l e room_1 s m #[Value.ref b] below meth c H [] 601024 7293034 (lw_Z below #[Value.ref b] s) (F0 m pc ls [.int 1]) := by
  intro T hT X
  obtain ⟨fs, hret, hrun, hended, hW, hframe⟩ := X.leave (v := some (.int 1)) (hlocks := hlocks) (fun h => by rw [hr] at h; cases h)
  have hmeth' : T.vm.method? m = some meth := X.method'
  refine ⟨T.setFrames fs, ?_, .returned (some (.int 1)), hrun, hended, rfl, ⟨_, rfl⟩, hW, hframe⟩
  jvm_step X.here [X.here.top, hx, hb, hdg, hmeth', hr, ret, narrow_b1]
  (try refine ⟨rfl, ?_⟩); (try refine ⟨rfl, ?_⟩)
  first | (intro acts; rw [hret _ acts rfl rfl rfl]) | rw [hret _ _ rfl rfl rfl]
  exact Steps.refl _
/-- what holds at the law's entry: the machine, the code, the tables' words (any of lw_tbl by 'hts w (by decide +kernel)'), the script of L ints xs at the cell b, what the Statement gives of the start (any of its parts by flat_of_before) -/
def lw_At (p : Program) (s : State) (m : MethodId) (meth : Method) (c : Code) (b L : Nat) (xs : Nat → Int32) : Prop :=
  p.tables.exec = Jvm.exec ∧ c.code = code ∧ meth.sig.returnType = ret ∧ c.maxLocals = 7 ∧ s.vm.findClass R_law = some m.cls ∧ (∀ w ∈ lw_tbl, w.before #[Value.ref b] s = true) ∧ va_X b L xs s s.heap ∧ b < s.heap.size ∧ meth.locks = false ∧ (Jvm.Cond.and given_1 narrow_1).before #[Value.ref b] s = true
theorem st_in {b i : Nat} {w : Cond} (h : (mm_tb b)[i]? = some w) : w ∈ lw_tbl := by
  have h1 := List.mem_of_getElem? h
  unfold lw_tbl tables_1
  simp only [List.mem_append]
  unfold mm_tb at h1
  split at h1 <;> simp [h1]
theorem st_one {args : Array Value} {s : State} {A : Nat → Prop} (j : Nat) (hts : ∀ w ∈ lw_tbl, w.before args s = true) (hgv : (Jvm.Cond.and given_1 narrow_1).before args s = true) (hA : ∀ a : Nat, a < s.heap.size → ¬ A a)
    (hl : Cond.laysStatic "ShyBell" (mm_sn.getD j "") "[I" ∈ lw_tbl) (hN : (mm_st.getD j []).length < 2 ^ 31)
    (harr : Cond.arrayOf (.static "ShyBell" (mm_sn.getD j "") "[I") .int ∈ flatC (Jvm.Cond.and given_1 narrow_1))
    (hlen : Cond.eq (.length (.static "ShyBell" (mm_sn.getD j "") "[I")) (.int (Int32.ofNat (mm_st.getD j []).length)) ∈ flatC (Jvm.Cond.and given_1 narrow_1))
    (hel : ∀ i : Nat, i < (mm_st.getD j []).length → Cond.eq (.elem (.static "ShyBell" (mm_sn.getD j "") "[I") (.int (Int32.ofNat i))) (.int ((mm_st.getD j []).getD i 0)) ∈ flatC (Jvm.Cond.and given_1 narrow_1)) :
    ∃ t : Nat, va_Z "ShyBell" (mm_sn.getD j "") "[I" (.ref t) A s s.heap ∧ va_T .int t (mm_st.getD j []).length (fun i => .int ((mm_st.getD j []).getD i 0)) A s s.heap := by
  have hs := flat_of_before _ hgv
  obtain ⟨t, ht, hT⟩ := va_Tof (f := fun i => .int ((mm_st.getD j []).getD i 0)) (A := A) hN (hs _ harr) (va_eqt (hs _ hlen)) (fun i hi => va_eqt (hs _ (hel i hi))) hA
  exact ⟨t, va_Zref (hts _ hl) (hts _ (st_in (b := 1) (i := 1) rfl)) ht hA, hT⟩
theorem st_a0 {args : Array Value} {s : State} {A : Nat → Prop} (hts : ∀ w ∈ lw_tbl, w.before args s = true) (hgv : (Jvm.Cond.and given_1 narrow_1).before args s = true) (hA : ∀ a : Nat, a < s.heap.size → ¬ A a) : ∃ t : Nat, va_Z "ShyBell" (mm_sn.getD 0 "") "[I" (.ref t) A s s.heap ∧ va_T .int t (mm_st.getD 0 []).length (fun i => .int ((mm_st.getD 0 []).getD i 0)) A s s.heap :=
  st_one 0 hts hgv hA (st_in (b := 2) (i := 143) rfl) (by decide) (by decide +kernel) (by decide +kernel) (by decide +kernel)
theorem st_a1 {args : Array Value} {s : State} {A : Nat → Prop} (hts : ∀ w ∈ lw_tbl, w.before args s = true) (hgv : (Jvm.Cond.and given_1 narrow_1).before args s = true) (hA : ∀ a : Nat, a < s.heap.size → ¬ A a) : ∃ t : Nat, va_Z "ShyBell" (mm_sn.getD 1 "") "[I" (.ref t) A s s.heap ∧ va_T .int t (mm_st.getD 1 []).length (fun i => .int ((mm_st.getD 1 []).getD i 0)) A s s.heap :=
  st_one 1 hts hgv hA (st_in (b := 2) (i := 152) rfl) (by decide) (by decide +kernel) (by decide +kernel) (by decide +kernel)
theorem st_a2 {args : Array Value} {s : State} {A : Nat → Prop} (hts : ∀ w ∈ lw_tbl, w.before args s = true) (hgv : (Jvm.Cond.and given_1 narrow_1).before args s = true) (hA : ∀ a : Nat, a < s.heap.size → ¬ A a) : ∃ t : Nat, va_Z "ShyBell" (mm_sn.getD 2 "") "[I" (.ref t) A s s.heap ∧ va_T .int t (mm_st.getD 2 []).length (fun i => .int ((mm_st.getD 2 []).getD i 0)) A s s.heap :=
  st_one 2 hts hgv hA (st_in (b := 2) (i := 158) rfl) (by decide) (by decide +kernel) (by decide +kernel) (by decide +kernel)
theorem st_inst {k : Nat} (hk : k < 12) : Cond.instantiable (mm_name k) (mm_nf k) ∈ lw_g := by
  have h : ∀ k, k < 12 → ∃ q, q ∈ mm_clt ∧ q.2.2 = k := by decide +kernel
  obtain ⟨q, hq, rfl⟩ := h k hk
  exact (mm_clt_ok q hq).2.1
theorem st_K {args : Array Value} {s : State} (hts : ∀ w ∈ lw_g, w.before args s = true) : ∃ D : va_G, va_K D mm_cl [] s := by
  have h1 : ∀ k : Nat, k < 12 → ∃ (cC : ClassId) (iS : Nat → Nat), u_Kn s (mm_name k) (mm_F k) (mm_nf k) cC iS := fun k hk => u_known (n := mm_nf k) hts (mm_uws hk) (hts _ (st_inst hk))
  obtain ⟨c0, i0, -⟩ := h1 0 (by decide)
  have h : ∀ k : Nat, ∃ q : ClassId × (Nat → Nat), k < 12 → u_Kn s (mm_name k) (mm_F k) (mm_nf k) q.1 q.2 := by
    intro k
    by_cases hk : k < 12
    · obtain ⟨cC, iS, h⟩ := h1 k hk
      exact ⟨(cC, iS), fun _ => h⟩
    · exact ⟨(c0, i0), fun q => absurd q hk⟩
  refine ⟨(fun k => (Classical.choose (h k)).1, fun k => (Classical.choose (h k)).2), fun c q hq => ?_, fun k q hk => by cases hk⟩
  have hlt : c < 12 := by
    have h2 := (List.getElem?_eq_some_iff.mp hq).1
    unfold mm_cl at h2
    rwa [List.length_map, List.length_range] at h2
  cases (mm_cl_get hlt).symm.trans hq
  exact Classical.choose_spec (h c) hlt
theorem st_ca (xs : List Int32) (j : Nat) : mm_ca xs (mm_K + 1 + j) = mm_st.getD j [] := by
  unfold mm_ca
  rw [show mm_K + 1 + j - mm_K = j + 1 by omega]
  rfl
theorem st_ca0 (xs : List Int32) : mm_ca xs mm_K = xs := by
  unfold mm_ca
  rw [Nat.sub_self]
  rfl
theorem st_slots : slP 282 + 6 * 513 ≤ 7293034 := by decide +kernel
theorem st_flags {l : Launch} (h : l.flags = flags0) : l.stackTraces = false := by
  unfold Launch.stackTraces
  rw [h]
  decide +kernel
theorem st_ret {i : Instr} {rt : Option FieldType} {S : List Value} (h : mm_ret i rt S = some (some (.int 1))) : i = .ireturn ∧ S = [.int 1] := by
  unfold mm_ret at h
  split at h
  · cases h
    exact ⟨rfl, rfl⟩
  · split at h
    · cases h
      exact ⟨rfl, rfl⟩
    · cases h
  all_goals cases h
set_option maxHeartbeats 4000000 in
theorem whole_start {p : Program} {e : Env} {s : State} {m : MethodId} {below : List Frame} {meth : Method} {c : Code} (l : Launch) (hflags : l.flags = flags0) {b L : Nat} {xs : Nat → Int32} (hL : L ≤ 3072) (C0 : lw_At p s m meth c b L xs) : W p l e room_1 s m #[Value.ref b] below meth c s.heap [] 0 0 (lw_Z below #[Value.ref b] s) (entryFrame m ([Value.ref b] : List Value).toArray 7) := by
  obtain ⟨hx, hb, hr, hml, hown, hts, hX, hbl, hlocks, hgv⟩ := C0
  have hA : ∀ a : Nat, a < s.heap.size → ¬ (fun q : Nat => s.heap.size ≤ q) a := fun a h => Nat.not_le.mpr h
  have htg : ∀ w ∈ lw_g, w.before #[Value.ref b] s = true := fun w hw => hts w (List.mem_filter.mp hw).1
  have hs := flat_of_before _ hgv
  obtain ⟨D, hK⟩ := st_K htg
  obtain ⟨t0, z0, a0⟩ := st_a0 hts hgv hA
  obtain ⟨t1, z1, a1⟩ := st_a1 hts hgv hA
  obtain ⟨t2, z2, a2⟩ := st_a2 hts hgv hA
  obtain ⟨xl, hxl, hxv⟩ : ∃ xl : List Int32, xl.length = L ∧ ∀ j, j < L → xl.getD j 0 = xs j := by
    refine ⟨(List.range L).map xs, by rw [List.length_map, List.length_range], fun j hj => ?_⟩
    rw [List.getD_eq_getElem?_getD, List.getElem?_map, List.getElem?_range hj]
    rfl
  obtain ⟨adr0, e0, e1⟩ : ∃ adr0 : Nat → Nat, adr0 mm_K = b ∧ ∀ j, j < 3 → adr0 (mm_K + 1 + j) = (if j = 0 then t0 else if j = 1 then t1 else t2) := by
    refine ⟨fun k => if k = mm_K then b else if k = mm_K + 1 + 0 then t0 else if k = mm_K + 1 + 1 then t1 else t2, if_pos rfl, fun j hj => ?_⟩
    have q0 : ¬ (mm_K + 1 + j = mm_K) := by omega
    rcases (show j = 0 ∨ j = 1 ∨ j = 2 by omega) with rfl | rfl | rfl
    · show (if _ then _ else _) = _
      rw [if_neg q0, if_pos rfl, if_pos rfl]
    · show (if _ then _ else _) = _
      rw [if_neg q0, if_neg (by omega), if_pos rfl, if_neg (by decide), if_pos rfl]
    · show (if _ then _ else _) = _
      rw [if_neg q0, if_neg (by omega), if_neg (by omega), if_neg (by decide), if_neg (by decide)]
  have hco : mm_const xl adr0 (fun q : Nat => s.heap.size ≤ q) s s.heap := by
    refine ⟨fun j hj => ?_, fun cc h1 h2 => ?_, vx_Zqof (hts _ (st_in (b := 4) (i := 190) rfl)) (hts _ (st_in (b := 1) (i := 13) rfl)) (hs _ (by decide +kernel)) hA, vx_Zqof (hts _ (st_in (b := 4) (i := 192) rfl)) (hts _ (st_in (b := 1) (i := 13) rfl)) (hs _ (by decide +kernel)) hA⟩
    · rw [e1 j hj]
      rcases (show j = 0 ∨ j = 1 ∨ j = 2 by omega) with rfl | rfl | rfl
      · exact z0
      · exact z1
      · exact z2
    · by_cases hc : cc = mm_K
      · subst hc
        rw [e0, st_ca0, hxl]
        obtain ⟨scr, g1, g2, g3, g4, g5⟩ := hX
        refine ⟨scr, g1, g2, g3, Nat.le_of_eq g4.symm, by rw [g4], fun j hj => ?_, hA b hbl⟩
        rw [g5 j hj]
        show some (Value.int (xs j)) = some (Value.int (xl.getD j 0))
        rw [hxv j hj]
      · obtain ⟨j, hj, rfl⟩ : ∃ j, j < 3 ∧ cc = mm_K + 1 + j := ⟨cc - mm_K - 1, by omega, by omega⟩
        rw [e1 j hj, st_ca]
        rcases (show j = 0 ∨ j = 1 ∨ j = 2 by omega) with rfl | rfl | rfl
        · exact a0
        · exact a1
        · exact a2
  obtain ⟨f, v, μf, hrun, hv, hn, hc, hsl⟩ := lw_law (xs := xl) (n := 0) (by rw [st_ca0, hxl]; exact hL)
  subst hv
  have hC : mm_C p s m #[Value.ref b] meth c D xl (fun q : Nat => s.heap.size ≤ q) adr0 q0.1 q0.2.2.1 (decide (q0.2.1.name = "<init>")) := ⟨hx, hb, hown, htg, hK, fun q h => h, hco, fun h => absurd (of_decide_eq_true h) (by decide)⟩
  have hlv := lv_entry ([.ref b]) (n := 7) (Nat.le_of_ble_eq_true rfl)
  rw [lg_entry_eq]
  generalize (lg_sl ([.ref b]) ++ List.replicate (7 - (lg_sl ([.ref b])).length) Slot.unset).toArray = ls at hlv ⊢
  have hlr : mm_lr adr0 (mm_entry [.ref mm_K] 7) ls := mm_entry_lr (by decide) adr0 (by
    show lv_has ls 7 (lv_args 0 [.ref (adr0 mm_K)])
    rw [e0]
    exact hlv)
  have hoL : mm_okL mu00 (mm_entry [.ref mm_K] 7) := mm_entry_ok (fun v hv => by
    cases List.mem_singleton.mp hv
    exact Or.inr ⟨Nat.le_refl _, show mm_K < mm_K + 4 by omega⟩)
  have hZ : mm_Z D (fun q : Nat => s.heap.size ≤ q) s adr0 (fun _ => m.cls) mu00 s.heap [] := ⟨fun k q h => (by cases h), ⟨fun i j p q h => (by cases h), fun k q h => (by cases h)⟩, va_S.rf, fun k hk => absurd hk (Nat.not_lt_zero k), fun k i x hk => absurd hk (Nat.not_lt_zero k), Nat.zero_le _, fun k hk => absurd hk (Nat.not_lt_zero k)⟩
  have h1 : μf.1.2.1 ≤ 0 + 601024 := by omega
  have h2 : μf.1.2.2.1 ≤ 0 + 7293034 := by
    have := st_slots
    omega
  refine mm_sound mm_mna_ok (lw_ext (st_flags hflags)) f (0 + 70) 0 0 _ [] mu00 (some (.int 1)) μf q0 q0_ok hrun p e room_1 s m #[Value.ref b] below meth c D (fun q : Nat => s.heap.size ≤ q) adr0 (fun _ => m.cls) 0 0 0 _ hC hml (Nat.le_of_ble_eq_true rfl) (Nat.le_of_ble_eq_true rfl) h1 h2 ?_ adr0 (fun _ => m.cls) s.heap [] 0 0 ls hZ ⟨fun _ _ => rfl, fun _ _ => rfl, Nat.zero_le _⟩ hlr hoL (fun v hv => by cases hv) rfl rfl
  intro pc' L' S' i len hd hlen hret adr' ca' H locs cells slots ls' hZ' hY' hl' hoL' hoS' hcc hss
  obtain ⟨rfl, rfl⟩ := st_ret hret
  obtain rfl : len = 1 := of_decide_eq_true hlen
  refine va_forget hZ'.2.2.1.2.2 ?_
  refine W.widen (k := 601024) (n := 7293034) (by omega) (by omega) ?_
  exact lw_ret hx hb hr hlocks hd
