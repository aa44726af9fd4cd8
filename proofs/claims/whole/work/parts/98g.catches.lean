/-! ===== the law's person catches ===== -/
def lw_ws1 : List Cond := Cond.codeWith q1.2.1 method_3_code 5 (some .int) [(0, 10, 13, 13)] :: lw_tbl.filter goodWord
theorem lw_ws1_good : GoodIn lw_g lw_ws1 := by
  intro w hw
  rcases List.mem_cons.mp hw with rfl | hw
  · exact ⟨mm_in (b := 4) (i := 157) rfl rfl, good_of_word rfl⟩
  · obtain ⟨h1, h2⟩ := List.mem_filter.mp hw
    exact ⟨List.mem_filter.mpr ⟨h1, by unfold mm_gw; rw [h2, Bool.or_true]⟩, good_of_word h2⟩
theorem lw_hts1 {args : Array Value} {s : State} (h : ∀ w ∈ lw_ws1, w.before args s = true) (hn : mm_nw s) : ∀ w ∈ lw_g, w.before args s = true := by
  intro w hw
  obtain ⟨h1, h2⟩ := List.mem_filter.mp hw
  unfold mm_gw at h2
  cases hx : mm_nest w with
  | true => exact mm_nest_use hx (hn w h1 hx)
  | false =>
    rw [hx, Bool.false_or] at h2
    exact h w (List.mem_cons_of_mem _ (List.mem_filter.mpr ⟨h1, h2⟩))
theorem lw_ofWH {l : Launch} {y : MethodName} {ws ws' : List Cond} {rm : Room} {Pc : Array Value → State → Prop} {Qc : Array Value → State → Outcome → State → Prop} {mc ms : Nat} {free : Addr → Prop} {cc : ByteArray} {maxL : Nat} {ret : Option FieldType} {hh : List (Nat × Nat × Nat × Nat)}
    (hy : plainName y.cls = true) (hw : ws = Cond.codeWith y cc maxL ret hh :: ws')
    (body : ∀ p e s m args below meth c s₁, BodyLoose p l y (headSpec ws rm) cc maxL ret e s m args below meth c s₁ → c.maxLocals = maxL → Pc args s →
      W p l e (headSpec ws rm).room s m args below meth c s.heap [] 0 0 (MQ below Qc args s mc ms free) (entryFrame m args maxL)) : Met l y ws rm Pc Qc mc ms free := by
  refine MetFree.of_bodyS (code := cc) (maxLocals := maxL) (ret := ret) hy ?_ ?_
  · intro args s m h hn
    obtain ⟨m9, meth, c, hn9, h1, h2, h3, h4, -, h5, h6, -⟩ := Cond.codeWith_spec (atoms_spec (ws := ws) h _ (by rw [hw]; exact List.mem_cons_self))
    cases hn.symm.trans hn9
    exact ⟨meth, c, h1, h2, h3, h4, h5, h6⟩
  · intro p e s m args below meth c s₁ B hml hP _
    have hh0 : s₁.heap = s.heap := by rw [B.state]; rfl
    obtain ⟨t, a1, o, b1, b2, b3⟩ := body p e s m args below meth c s₁ B hml hP s₁ hh0 (Stand.of_body B)
    exact ⟨t, o, a1, b1, b2, ⟨b3.1, b3.2⟩⟩
def lwBump (μ : mm_M) : mm_M := ((μ.1.1, μ.1.2.1 + 1, μ.1.2.2.1 + 6, μ.1.2.2.2), μ.2)
def lwSto (μ : mm_M) (b : Int32) : mm_M := (μ.1, μ.2.1, mm_up μ.2.2.1 281 0 b.toInt64, μ.2.2.2)
/-- what the law's person does to the memory -/
def lwR (xs : List Int32) (k : Nat) (p0 p1 : Int32) (μ : mm_M) (r : Option Value × mm_M) : Prop :=
  (lwT μ.2.1 p0 p1 ∧ shp μ.1 ∧ rfx μ.2.2.2 ∧ r = (some (.int 1), lwBump μ)) ∨
  (¬ lwT μ.2.1 p0 p1 ∧ shp μ.1 ∧ ∃ f b μ', mm_run xs lwX0 f (k + 7) 94 0 [some (.ref 0), some (.int p0), some (.int p1), none] [] μ = some (some (.int b), μ') ∧ mm_le μ μ' = true ∧ mm_isO μ' 281 22 = true ∧ (mm_sh μ' 281).2 = 1 ∧ r = (some (.int 0), lwSto μ' b))
theorem lw_dec1 : mm_dec q1 0 = some (.aload_n 3) ∧ mm_dec q1 1 = some (.iconst 0) ∧ mm_dec q1 2 = some (.aload_n 0) ∧ mm_dec q1 3 = some (.iload_n 1) ∧ mm_dec q1 4 = some (.iload_n 2) ∧ mm_dec q1 5 = some (.invokevirtual 7) ∧ mm_dec q1 8 = some .i2l ∧ mm_dec q1 9 = some .lastore ∧ mm_dec q1 10 = some (.goto 7) ∧ mm_dec q1 17 = some (.iconst 0) := by
  refine ⟨?_, ?_, ?_, ?_, ?_, ?_, ?_, ?_, ?_, ?_⟩ <;> decide +kernel
set_option maxHeartbeats 4000000 in
theorem lw_met1 {l : Launch} (hl : l.stackTraces = false) {xs : List Int32} {k : Nat} {p0 p1 : Int32} {μ : mm_M} {v : Option Value} {μ1 : mm_M} (hR : lwR xs k p0 p1 μ (v, μ1)) (hin1 : mm_in1 μ) (D : va_G) (adr : Nat → Nat) (ca : Nat → ClassId) (sz : Nat) :
    Met l q1.2.1 lw_ws1 (mm_rm (k + 8) (μ1.1.2.1 - μ.1.2.1) (μ1.1.2.2.1 - μ.1.2.2.1)) (mm_Pc D xs adr ca μ sz [.ref 0, .int p0, .int p1, .ref 281]) (mm_Qc D adr ca (mm_next μ) v μ1 (va_A (mm_w adr ca μ) sz)) (μ1.1.2.1 - μ.1.2.1) (μ1.1.2.2.1 - μ.1.2.2.1) (va_A (mm_w adr ca μ) sz) := by
  have hsh : shp μ.1 := by rcases hR with h | h; exact h.2.1; exact h.2.1
  refine lw_ofWH (cc := method_3_code) (maxL := 5) (ret := some .int) (hh := [(0, 10, 13, 13)]) (by decide) rfl ?_
  intro p e s m args below meth c s₁ B hml hv
  obtain ⟨rfl, hsz, hP, hD0, hAr, hK, hnw, hco⟩ := hv
  have hx := B.exec
  have hb := B.bytes
  have hrt := B.returns
  have hws := atoms_spec (ws := lw_ws1) B.pre
  have hts := lw_hts1 hws hnw
  have htab := vx_table (x := q1.2.1) B (hws _ List.mem_cons_self)
  have hown : s.vm.findClass (mm_name 12) = some m.cls := findClass_of_methodNamed B.named
  have hlocks := B.notSynchronized
  subst hsz
  have hD := hD0.self (sz := s.heap.size)
  generalize hAe : va_A (mm_w adr ca μ) s.heap.size = A at hD hco ⊢
  have hA : ∀ q : Nat, s.heap.size ≤ q → A q := fun q h => by rw [← hAe]; exact Or.inr h
  have C : mm_C p s m ([Value.ref 0, .int p0, .int p1, .ref 281].map (mm_re adr)).toArray meth c D xs A adr q1.1 q1.2.2.1 false := ⟨hx, hb, hown, hts, hK, hA, hco, fun h => by cases h⟩
  have hfl : (mm_flat [Value.ref 0, .int p0, .int p1, .ref 281]).length ≤ 5 := Nat.le_of_ble_eq_true rfl
  have hle := lv_entry ([Value.ref 0, .int p0, .int p1, .ref 281].map (mm_re adr)) (n := 5) (by rw [mm_flat_len]; exact hfl)
  rw [lg_entry_eq]
  generalize (lg_sl ([Value.ref 0, .int p0, .int p1, .ref 281].map (mm_re adr)) ++ List.replicate (5 - (lg_sl ([Value.ref 0, .int p0, .int p1, .ref 281].map (mm_re adr))).length) Slot.unset).toArray = ls at hle ⊢
  have hn282 : mm_next μ = 282 := hsh.1
  have hokS : mm_okS μ [Value.ref 0, .int p0, .int p1, .ref 281] := fun v hv => by
    simp only [List.mem_cons, List.not_mem_nil, or_false] at hv
    rcases hv with rfl | rfl | rfl | rfl
    · exact Or.inl (by rw [hn282]; decide)
    · trivial
    · trivial
    · exact Or.inl (by rw [hn282]; decide)
  obtain ⟨e0, e1, e2, e3, e4, e5, e8, e9, e10, e17⟩ := lw_dec1
  have hm1 : μ.1.2.1 ≤ μ1.1.2.1 ∧ μ.1.2.2.1 ≤ μ1.1.2.2.1 := by
    rcases hR with ⟨_, _, _, h⟩ | ⟨_, _, f, b, μ', _, hle2, _, _, h⟩
    · cases h; exact ⟨Nat.le_add_right _ _, Nat.le_add_right _ _⟩
    · cases h
      obtain ⟨_, a, b⟩ := mm_le_spec hle2
      exact ⟨a, b⟩
  have r1 : μ.1.2.1 ≤ μ.1.2.1 + (headSpec lw_ws1 (mm_rm (k + 8) (μ1.1.2.1 - μ.1.2.1) (μ1.1.2.2.1 - μ.1.2.2.1))).room.cells := Nat.le_add_right _ _
  have r2 : μ.1.2.2.1 ≤ μ.1.2.2.1 + (headSpec lw_ws1 (mm_rm (k + 8) (μ1.1.2.1 - μ.1.2.1) (μ1.1.2.2.1 - μ.1.2.2.1))).room.slots := Nat.le_add_right _ _
  have r3 : μ1.1.2.1 ≤ μ.1.2.1 + (headSpec lw_ws1 (mm_rm (k + 8) (μ1.1.2.1 - μ.1.2.1) (μ1.1.2.2.1 - μ.1.2.2.1))).room.cells := by show _ ≤ μ.1.2.1 + (μ1.1.2.1 - μ.1.2.1); omega
  have r4 : μ1.1.2.2.1 ≤ μ.1.2.2.1 + (headSpec lw_ws1 (mm_rm (k + 8) (μ1.1.2.1 - μ.1.2.1) (μ1.1.2.2.1 - μ.1.2.2.1))).room.slots := by show _ ≤ μ.1.2.2.1 + (μ1.1.2.2.1 - μ.1.2.2.1); omega
  have key : mm_V p l e (headSpec lw_ws1 (mm_rm (k + 8) (μ1.1.2.1 - μ.1.2.1) (μ1.1.2.2.1 - μ.1.2.2.1))).room s m ([Value.ref 0, .int p0, .int p1, .ref 281].map (mm_re adr)).toArray below meth c D A adr ca (mm_next μ) μ.1.2.1 μ.1.2.2.1 (MQ below (mm_Qc D adr ca (mm_next μ) v μ1 A) ([Value.ref 0, .int p0, .int p1, .ref 281].map (mm_re adr)).toArray s (μ1.1.2.1 - μ.1.2.1) (μ1.1.2.2.1 - μ.1.2.2.1) A) 0 [some (.ref 0), some (.int p0), some (.int p1), some (.ref 281), none] [] μ := by
    refine lw_step (q := q1) C e0 rfl r1 r2 ?_
    refine lw_step (q := q1) C e1 rfl r1 r2 ?_
    refine lw_step (q := q1) C e2 rfl r1 r2 ?_
    refine lw_step (q := q1) C e3 rfl r1 r2 ?_
    refine lw_step (q := q1) C e4 rfl r1 r2 ?_
    have hcallV : mm_callV μ q94 [.int p1, .int p0, .ref 0, .int (Int32.ofInt 0), .ref 281] = some ([.ref 0, .int p0, .int p1], [.int (Int32.ofInt 0), .ref 281]) := by
      unfold mm_callV
      have hO : mm_isO μ 0 10 = true := so_is (sh := μ.1) (d := μ.2.1) (g := μ.2.2.1) (r := μ.2.2.2) (so0 hsh rfl)
      show (if mm_isO μ 0 10 && _ then _ else _) = _
      rw [hO]
      rfl
    rcases hR with ⟨hT, _, hr, hv⟩ | ⟨hT, _, f, b, μ', hrun, hle2, hO2, hn2, hv⟩
    · cases hv
      intro adr1 ca1 H locs cells slots ls1 hZ hY hl1 hoL hoS hc hs
      have hc0 : cells = 0 := by omega
      have hs0 : slots = 0 := by omega
      subst hc0 hs0
      have htm := mm_mt_in q94_ok (by decide)
      have hA1 : ∀ q, va_A (mm_w adr1 ca1 μ) H.size q → A q := fun q h => by
        rcases h with ⟨k, en, h⟩ | h
        · exact hZ.2.1.2 k _ h
        · exact hA q (Nat.le_trans hZ.2.2.1.1 h)
      have hpre : ∀ U : State, U.heap = H → s.WarmedH U.vm → mm_Pc D xs adr1 ca1 μ H.size [.ref 0, .int p0, .int p1] (([Value.ref 0, .int p0, .int p1].map (mm_re adr1)).toArray) U := fun U hU hW => by
        refine ⟨rfl, by rw [hU], by rw [hU]; exact hZ.1, hZ.2.1.weaken (fun _ _ _ _ => trivial), mm_arr_moved hW.alike hZ.2.2.2.1, va_K.moved hW.alike C.2.2.2.2.1, mm_nw_warm hW (mm_nw_of C.2.2.2.1), ?_⟩
        rw [hU]
        exact mm_const_at (mm_const_moved hW.alike C.2.2.2.2.2.2.1) hZ.2.2.1.2.1 hA1 (fun k hk => hY.1 k (Or.inr hk))
      have hw := mm_w_get (adr := adr1) (ca := ca1) (μ := μ) (k := 0) (by rw [hn282]; decide)
      have hsh0 : (mm_sh μ 0).1 = 10 := by show (μ.1.2.2.2 0).1 = 10; rw [hsh.2 0 (by decide)]; rfl
      rw [mm_e_obj (by rw [hsh0]; decide), hsh0] at hw
      have hrecv := va_recv C.2.2.2.2.1 hZ.1 (mm_cl_get (show 10 < 12 by decide)) hw
      have hP7 := mm_ml_P ml_12_7
      obtain ⟨⟨p1', p2'⟩, p3', p4'⟩ := hP7
      have hy := mm_mt_y q94_ok
      rw [hy] at p1' p2' p3' p4'
      have hg : ∀ w, w ∈ lw_g → (w.onTables && w.keeps) = true → w ∈ lw_g ∧ ((w.onTables && w.keeps) = true ∨ ∃ ty, w = .arrayClass ty) := fun w h1 h2 => ⟨h1, Or.inl h2⟩
      have cw := cwV (R := (headSpec lw_ws1 (mm_rm (k + 8) ((lwBump μ).1.2.1 - μ.1.2.1) ((lwBump μ).1.2.2.1 - μ.1.2.2.1))).room) (s := s) (args := ([Value.ref 0, .int p0, .int p1, .ref 281].map (mm_re adr)).toArray) (own := mm_name 12) (C := q94.2.1.cls) (index := 7) (y := q94.2.1) (bytes := q94.2.2.1) (maxL := 4) (ret := q94.2.2.2.2.1) (mc := 1) (ms := 6) (rm := mm_rm (k + 7) 1 6) 2 C.2.2.2.1 (ws := mm_ws q94) (fun w hw => by
        rcases List.mem_append.mp hw with h | h
        · simp only [List.mem_cons, List.not_mem_nil, or_false] at h
          rcases h with rfl | rfl | rfl | rfl
          · exact hg _ p1' rfl
          · exact hg _ p3' rfl
          · exact hg _ p4' rfl
          · exact hg _ p2' rfl
        · exact mm_ws_good (mm_mtx_ok q94 htm).1 w h) rfl rfl rfl ⟨rfl, (mm_mt_cls htm).1, (mm_mt_cls htm).2, mm_mt_na htm⟩ ⟨Nat.le_refl _, by show 8 + (4 + 11) + (k + 7) * 200 ≤ (k + 8) * 200; omega⟩
      have hmc : (lwBump μ).1.2.1 - μ.1.2.1 = 1 := by show (μ.1.2.1 + 1) - μ.1.2.1 = 1; omega
      have hms : (lwBump μ).1.2.2.1 - μ.1.2.2.1 = 6 := by show (μ.1.2.2.1 + 6) - μ.1.2.2.1 = 6; omega
      have hd5 : decode method_3_code 5 = .ok (.invokevirtual 7, 3) := by decide +kernel
      have hrunV := vx_runV (e := e) (below := below) (meth := meth) (H := H) (As := [Value.int p0, .int p1].map (mm_re adr1)) (b := adr1 0) (g := F0 m 5 ls1 ([Value.int p1, .int p0, .ref 0, .int (Int32.ofInt 0), .ref 281].map (mm_re adr1))) (rest := [Value.int (Int32.ofInt 0), .ref 281].map (mm_re adr1)) (locs := locs) (cells := 0) (slots := 0) ⟨C.1, C.2.1, hml, C.2.2.1, C.2.2.2.1⟩ (lw_throws hl (xs := xs) (n := k + 1) hsh hr hT hin1 D adr1 ca1 H.size) cw ⟨mm_Pc_blind, hrecv, fun U hU hW => hpre U hU hW⟩ rfl rfl hl1.1 rfl (lv_room (Nat.le_of_ble_eq_true rfl)) hd5 ⟨by show 0 + 1 ≤ (lwBump μ).1.2.1 - μ.1.2.1; omega, by show 0 + 6 ≤ (lwBump μ).1.2.2.1 - μ.1.2.2.1; omega⟩
      refine vx_calli (A0 := A) (H0 := s.heap) hrunV hZ.2.2.1 (fun q _ h => hA1 q h) hA1 (fun q _ h => hA1 q h) ?_ ?_
      · intro E ce q9 u t H1 locs1 ht hal hpx hB hsz hkp hS1 hce hcv hcl
        obtain ⟨rfl, hP1, hD1, hAr1⟩ := hB
        have hd13 : decode method_3_code 13 = .ok (.astore 4, 2) := by decide +kernel
        have hd15 : decode method_3_code 15 = .ok (.iconst 1, 1) := by decide +kernel
        have hd16 : decode method_3_code 16 = .ok (.ireturn, 1) := by decide +kernel
        refine vx_catch (own := "ShyBellLaw") (name := lw_NS) (E := lw_NS) hown [] ⟨0, 10, 13, 13⟩ [] htab (fun z hz => by cases hz) rfl (by decide) (hts _ lw_catch_in.1) (hts _ lw_catch_in.2) hce hcv hcl ?_
        refine lv_astore hx hb hd13 (mm_lr_has hl1) (show 4 < 5 by decide) rfl (fun ls2 h2 => ?_)
        refine lv_iconst hx hb hd15 (v := 1) (by decide) ?_
        rw [hmc, hms]
        refine W.iret hx hb hrt (fun T hT hW => ?_) hS1.2.2 hd16
        have hYY : mm_Y adr ca (mm_next μ) u.1 u.2 (lwBump μ) := ⟨fun j hj => (hpx.1 j hj).trans (hY.1 j hj), fun j hj => (hpx.2.1 j hj).trans (hY.2.1 j hj), Nat.le_refl _⟩
        refine ⟨⟨u.1, u.2, rfl, hYY, by rw [hT, ← ht]; exact hP1, ?_, ?_, hin1, fun w hw => by cases hw; trivial⟩, hS1.F hT⟩
        · exact hD1.weaken (fun _ q _ h => hA1 q.1 h)
        · exact mm_arr_moved (hal.symm.trans hW.alike) hAr1
      · intro r0 u t H1 locs1 ht hal hp _ _ _ _
        exact hp.elim
    · cases hv
      obtain ⟨q1a, q1b, q1c⟩ := mm_le_spec hle2
      refine lw_call (q := q1) (L := [some (.ref 0), some (.int p0), some (.int p1), some (.ref 281), none]) C hml e5 rfl ml_12_7 rfl (by decide) q94_ok hcallV hrun hle2 (Nat.le_refl _) (Nat.le_refl _) r3 r4 ?_
      refine lw_step (q := q1) C e8 rfl r3 r4 ?_
      refine lw_step (q := q1) (pc' := 10) (L' := [some (.ref 0), some (.int p0), some (.int p1), some (.ref 281), none]) (S' := []) (μ' := lwSto μ' b) C e9 (by
        show (if mm_isO μ' 281 22 && mm_ix (Int32.ofInt 0) (mm_sh μ' 281).2 then _ else _) = _
        rw [hO2, hn2]
        rfl) r3 r4 ?_
      refine lw_step (q := q1) C e10 rfl r3 r4 ?_
      refine lw_step (q := q1) C e17 rfl r3 r4 ?_
      intro adr1 ca1 H locs cells slots ls1 hZ hY hl1 hoL hoS hc hs
      have hc : cells + μ.1.2.1 = μ'.1.2.1 := hc
      have hs : slots + μ.1.2.2.1 = μ'.1.2.2.1 := hs
      obtain rfl : cells = (lwSto μ' b).1.2.1 - μ.1.2.1 := by show cells = μ'.1.2.1 - μ.1.2.1; omega
      obtain rfl : slots = (lwSto μ' b).1.2.2.1 - μ.1.2.2.1 := by show slots = μ'.1.2.2.1 - μ.1.2.2.1; omega
      have hd18 : decode method_3_code 18 = .ok (.ireturn, 1) := by decide +kernel
      exact W.iret hx hb hrt (fun T hT hW => ⟨⟨adr1, ca1, rfl, hY, by rw [hT]; exact hZ.1, hZ.2.1, mm_arr_moved hW.alike hZ.2.2.2.1, hZ.2.2.2.2, fun w hw => by cases hw; trivial⟩, hZ.2.2.1.F hT⟩) hZ.2.2.1.2.2 hd18
  exact key adr ca s.heap [] 0 0 ls ⟨hP, hD, va_S.rf, hAr, hin1⟩ ⟨fun _ _ => rfl, fun _ _ => rfl, Nat.le_refl _⟩ (mm_entry_lr hfl adr hle) (mm_entry_ok (ml := 5) hokS) (fun v hv => by cases hv) (Nat.zero_add _) (Nat.zero_add _)
