/-! ===== new int[n][k] (over Shelf42/MA1, MA6 of the library) ===== -/
theorem mr_rows {μ0 : mm_M} {k : Nat} : ∀ j, mm_next (mm_rows μ0 k j) = mm_next μ0 + j ∧ (mm_rows μ0 k j).1.2.1 = μ0.1.2.1 + j ∧ (mm_rows μ0 k j).1.2.2.1 = μ0.1.2.2.1 + j * k ∧ (∀ x, x < mm_next μ0 → mm_sh (mm_rows μ0 k j) x = mm_sh μ0 x ∧ (mm_rows μ0 k j).2.1 x = μ0.2.1 x ∧ (mm_rows μ0 k j).2.2.1 x = μ0.2.2.1 x ∧ (mm_rows μ0 k j).2.2.2 x = μ0.2.2.2 x) ∧ (∀ x, mm_next μ0 ≤ x → x < mm_next μ0 + j → mm_sh (mm_rows μ0 k j) x = (20, k) ∧ (mm_rows μ0 k j).2.1 x = (fun _ => 0) ∧ (mm_rows μ0 k j).2.2.2 x = (fun _ => none))
  | 0 => ⟨rfl, rfl, by show _ = _ + 0 * k; rw [Nat.zero_mul]; rfl, fun _ _ => ⟨rfl, rfl, rfl, rfl⟩, fun x h1 h2 => by omega⟩
  | j + 1 => by
    obtain ⟨h1, h2, h3, h4, h5⟩ := mr_rows (μ0 := μ0) (k := k) j
    have hn : mm_next (mm_rows μ0 k (j + 1)) = mm_next (mm_rows μ0 k j) + 1 := rfl
    have hne : ∀ x, x ≠ mm_next (mm_rows μ0 k j) → mm_sh (mm_rows μ0 k (j + 1)) x = mm_sh (mm_rows μ0 k j) x ∧ (mm_rows μ0 k (j + 1)).2.1 x = (mm_rows μ0 k j).2.1 x ∧ (mm_rows μ0 k (j + 1)).2.2.1 x = (mm_rows μ0 k j).2.2.1 x ∧ (mm_rows μ0 k (j + 1)).2.2.2 x = (mm_rows μ0 k j).2.2.2 x := fun x hx => ⟨mm_rs_ne hx, mm_rs_ne hx, mm_rs_ne hx, mm_rs_ne hx⟩
    refine ⟨by rw [hn, h1]; omega, by show (mm_rows μ0 k j).1.2.1 + 1 = _; rw [h2]; omega, by show (mm_rows μ0 k j).1.2.2.1 + k = _; rw [h3, Nat.succ_mul]; omega, fun x hx => ?_, fun x hx1 hx2 => ?_⟩
    · obtain ⟨a1, a2, a3, a4⟩ := hne x (by omega)
      obtain ⟨b1, b2, b3, b4⟩ := h4 x hx
      exact ⟨a1.trans b1, a2.trans b2, a3.trans b3, a4.trans b4⟩
    · by_cases hxe : x = mm_next (mm_rows μ0 k j)
      · subst hxe
        exact ⟨mm_rs_at, mm_rs_at, mm_rs_at⟩
      · obtain ⟨a1, a2, a3, a4⟩ := hne x hxe
        obtain ⟨b1, b2, b4⟩ := h5 x hx1 (by omega)
        exact ⟨a1.trans b1, a2.trans b2, a4.trans b4⟩
theorem mm_outer (c : ClassId) (N h0 : Nat) : ∀ i : Nat, Jvm.Free.Multi.outerC c N h0 i = arrV c N (fun j => va_rf (if j < i then some (h0 + 1 + j) else none))
  | 0 => by
    show ({ cls := c, slots := Array.replicate N .null, vm := .none } : Cell) = _
    rw [arrV_new]
    refine congrArg (arrV c N) (funext fun j => ?_)
    simp [va_rf]
  | i + 1 => by
    show (Jvm.Free.Multi.outerC c N h0 i).setSlot i (.ref (h0 + 1 + i)) = _
    rw [mm_outer c N h0 i, arrV_store]
    refine congrArg (arrV c N) (funext fun j => ?_)
    by_cases e : j = i
    · subst e
      simp [updV, va_rf]
    · by_cases h : j < i
      · simp [updV, e, h, Nat.lt_succ_of_lt h]
      · simp [updV, e, h, show ¬ j < i + 1 by omega]
set_option maxHeartbeats 4000000 in
theorem mm_mna_ok : mm_MnaOK := by
  intro p l e R s m args below meth c D xs A adr0 ca0 n0 cb sb Q cc ini pc L S μ n k C hn0 hn1 hk0 hk1 hnx hr1 hr2 hd kk adr ca H locs cells slots ls hZ hY hl hoL hoS hc hs
  generalize hN : n.toNatClampNeg = N at hn1 hr1 hr2 kk
  generalize hM : k.toNatClampNeg = M at hk1 hr1 hr2 kk
  obtain ⟨q1, q2, q3, q4, q5⟩ := mr_rows (μ0 := mm_push μ 25 N N) (k := M) N
  have hK : mm_K = 1000000 := rfl
  generalize hν : mm_mnaM μ N M = ν at hr1 hr2 kk
  have hnext : mm_next ν = mm_next μ + 1 + N := by rw [← hν]; exact q1
  have hcell : ν.1.2.1 = μ.1.2.1 + 1 + N := by rw [← hν]; exact q2
  have hslot : ν.1.2.2.1 = μ.1.2.2.1 + N + N * M := by rw [← hν]; exact q3
  have hold : ∀ x, x < mm_next μ → mm_sh ν x = mm_sh μ x ∧ ν.2.1 x = μ.2.1 x ∧ ν.2.2.1 x = μ.2.2.1 x ∧ ν.2.2.2 x = μ.2.2.2 x := fun x hx => by
    obtain ⟨b1, b2, b3, b4⟩ := q4 x (by rw [mm_push_next]; omega)
    have hne : x ≠ mm_next μ := by omega
    rw [← hν]
    refine ⟨b1.trans (mm_push_sh_ne hne), b2.trans (mm_rs_ne hne), b3.trans (mm_rs_ne hne), ?_⟩
    show mm_rowset _ (mm_next μ) _ x = _
    rw [mm_rs_ne hne]
    exact b4.trans (mm_rs_ne hne)
  have hout : mm_sh ν (mm_next μ) = (25, N) ∧ ν.2.2.2 (mm_next μ) = (fun i => if i < N then some (mm_next μ + 1 + i) else none) := by
    obtain ⟨b1, -, -, -⟩ := q4 (mm_next μ) (by rw [mm_push_next]; omega)
    rw [← hν]
    exact ⟨b1.trans mm_push_sh_at, mm_rs_at⟩
  have hrow : ∀ i, i < N → mm_sh ν (mm_next μ + 1 + i) = (20, M) ∧ ν.2.1 (mm_next μ + 1 + i) = (fun _ => 0) ∧ ν.2.2.2 (mm_next μ + 1 + i) = (fun _ => none) := fun i hi => by
    obtain ⟨b1, b2, b4⟩ := q5 (mm_next μ + 1 + i) (by rw [mm_push_next]; omega) (by rw [mm_push_next]; omega)
    rw [← hν]
    refine ⟨b1, b2, ?_⟩
    show mm_rowset _ (mm_next μ) _ (mm_next μ + 1 + i) = _
    rw [mm_rs_ne (by omega)]
    exact b4
  intro T hT Xs
  have hmn1 : Cond.classLink (mm_name 7) 9 ("[" ++ (FieldType.array .int).toString) ∈ lw_g := mm_mn_ok.1
  obtain ⟨vm₁, cA, cy, -, fA, fC, hO, hI, X', step⟩ := Xs.multianewarray2F C.1 C.2.2.1 (C.2.2.2.1 _ hmn1) (C.2.2.2.1 _ mm_mn_ok.2) (C.2.2.2.1 _ mm_ac_ok.1) (g := F0 m pc ls (.int k :: .int n :: S.map (mm_re adr))) rfl (by rw [C.2.1]; exact hd) rfl (mm_nn hn0) (mm_nn hk0) (by rw [hN]; omega) (by rw [hM]; show M * 4 ≤ _; omega) (by rw [hM]; omega) rfl rfl (by rw [hN]; omega) (by rw [hN, hM]; omega)
  rw [hN, hM] at X' step
  generalize hF : Jvm.Free.Multi.fill (T.setVm vm₁) cA cy N M (defaultValue .int) N = F at X' step
  have hTh : (T.setVm vm₁).heap = H := hT
  obtain ⟨f1, f2, -, -⟩ := Jvm.Free.Multi.fill_facts (T.setVm vm₁) cA cy N M (defaultValue .int) N
  rw [hF, hTh] at f1 f2
  have hkeep : ∀ x : Nat, x < H.size → F.heap[x]? = H[x]? := fun x hx => by
    have := Jvm.Free.Multi.fill_old (T.setVm vm₁) cA cy N M (defaultValue .int) (a := x) (by rw [hTh]; exact hx) N
    rw [hF, hTh] at this
    exact this
  have hinn : ∀ j : Nat, j < N → F.heap[H.size + 1 + j]? = some (vp_cell cy (M, .inl (fun _ => 0))) := fun j hj => by
    have := Jvm.Free.Multi.fill_inner (T.setVm vm₁) cA cy N M (defaultValue .int) N j hj
    rw [hF, hTh] at this
    rw [this]
    show some ({ cls := cy, slots := Array.replicate M (.int 0), vm := .none } : Cell) = _
    rw [arrV_new]
    rfl
  rw [mm_outer] at f2
  -- the new addresses and classes
  generalize hadr : (fun x => if x = mm_next μ then H.size else if mm_next μ < x ∧ x ≤ mm_next μ + N then H.size + (x - mm_next μ) else adr x : Nat → Nat) = adr'
  generalize hca : (fun x => if x = mm_next μ then cA else if mm_next μ < x ∧ x ≤ mm_next μ + N then cy else ca x : Nat → ClassId) = ca'
  have a1 : ∀ x, (x < mm_next μ ∨ mm_K ≤ x) → adr' x = adr x ∧ ca' x = ca x := fun x hx => by
    rw [← hadr, ← hca]
    dsimp only
    rw [if_neg (by omega), if_neg (by omega), if_neg (by omega), if_neg (by omega)]
    exact ⟨rfl, rfl⟩
  have a2 : adr' (mm_next μ) = H.size ∧ ca' (mm_next μ) = cA := by rw [← hadr, ← hca]; exact ⟨if_pos rfl, if_pos rfl⟩
  have a3 : ∀ i, i < N → adr' (mm_next μ + 1 + i) = H.size + 1 + i ∧ ca' (mm_next μ + 1 + i) = cy := fun i hi => by
    rw [← hadr, ← hca]
    dsimp only
    rw [if_neg (by omega), if_pos (by omega), if_neg (by omega), if_pos (by omega)]
    exact ⟨by omega, rfl⟩
  have e1 : ∀ x, x < mm_next μ → mm_e adr' ca' ν x = mm_e adr ca μ x := fun x hx => by
    obtain ⟨b1, b2, b3, b4⟩ := hold x hx
    have hr : ∀ i, (ν.2.2.2 x i).map adr' = (μ.2.2.2 x i).map adr := fun i => by
      rw [b4]
      cases hx2 : μ.2.2.2 x i with
      | none => rfl
      | some y => show some (adr' y) = some (adr y); rw [(a1 y (Or.inl (hZ.2.2.2.2.1 x i y hx hx2))).1]
    unfold mm_e
    rw [b1, b2, b3, (a1 x (Or.inl hx)).2]
    simp only [hr]
  have e2 : mm_e adr' ca' ν (mm_next μ) = .inl (cA, N, .inr (.inr (.inr (.inr (fun j => if j < N then some (H.size + 1 + j) else none))))) := by
    rw [mm_e_arr (by rw [hout.1]; exact (show ¬ (25 : Nat) < 20 by decide)), hout.1, a2.2, hout.2, if_neg (show ¬ (25 : Nat) = 22 by decide), if_neg (show ¬ (25 : Nat) < 22 by decide)]
    congr 7
    funext j
    by_cases hj : j < N
    · simp only [if_pos hj]
      show some _ = some _
      rw [(a3 j hj).1]
    · simp only [if_neg hj, Option.map_none]
  have e3 : ∀ i, i < N → mm_e adr' ca' ν (mm_next μ + 1 + i) = .inl (cy, M, .inl (fun _ => 0)) := fun i hi => by
    obtain ⟨b1, b2, b4⟩ := hrow i hi
    rw [mm_e_arr (by rw [b1]; exact (show ¬ (20 : Nat) < 20 by decide)), b1, (a3 i hi).2, b2, if_neg (show ¬ (20 : Nat) = 22 by decide), if_pos (show (20 : Nat) < 22 by decide)]
  have cases3 : ∀ x, x < mm_next ν → x < mm_next μ ∨ x = mm_next μ ∨ ∃ i, i < N ∧ x = mm_next μ + 1 + i := fun x hx => by
    rw [hnext] at hx
    by_cases h1 : x < mm_next μ
    · exact Or.inl h1
    · by_cases h2 : x = mm_next μ
      · exact Or.inr (Or.inl h2)
      · exact Or.inr (Or.inr ⟨x - mm_next μ - 1, by omega, by omega⟩)
  have getw : ∀ {x : Nat} {y : Nat × va_E}, (mm_w adr' ca' ν)[x]? = some y → x < mm_next ν ∧ y = (adr' x, mm_e adr' ca' ν x) := fun {x y} h => by
    have hx : x < mm_next ν := by
      have := (List.getElem?_eq_some_iff.mp h).1
      rwa [mm_w_len] at this
    rw [mm_w_get hx] at h
    cases h
    exact ⟨hx, rfl⟩
  have hPn : va_P D mm_cl (mm_w adr' ca' ν) F.heap := fun x y hy => by
    obtain ⟨hx, rfl⟩ := getw hy
    rcases cases3 x hx with h1 | rfl | ⟨i, hi, rfl⟩
    · rw [e1 x h1, (a1 x (Or.inl h1)).1]
      have h0 := hZ.1 x _ (mm_w_get h1)
      exact h0.kept (hkeep _ h0.lt)
    · rw [e2, a2.1]
      exact f2
    · rw [e3 i hi, (a3 i hi).1]
      exact hinn i hi
  have lt0 : ∀ x, x < mm_next μ → adr x < H.size := fun x hx => (hZ.1 x _ (mm_w_get hx)).lt
  have hDn : va_D A (mm_w adr' ca' ν) := by
    refine ⟨fun x y u v hu hv huv => ?_, fun x u hu => ?_⟩
    · obtain ⟨hx, rfl⟩ := getw hu
      obtain ⟨hy, rfl⟩ := getw hv
      have huv : adr' x = adr' y := huv
      rcases cases3 x hx with h1 | rfl | ⟨i, hi, rfl⟩ <;> rcases cases3 y hy with h2 | rfl | ⟨j, hj, rfl⟩
      · rw [(a1 x (Or.inl h1)).1, (a1 y (Or.inl h2)).1] at huv
        exact hZ.2.1.1 x y _ _ (mm_w_get h1) (mm_w_get h2) huv
      · rw [(a1 x (Or.inl h1)).1, a2.1] at huv
        have := lt0 x h1
        omega
      · rw [(a1 x (Or.inl h1)).1, (a3 j hj).1] at huv
        have := lt0 x h1
        omega
      · rw [a2.1, (a1 y (Or.inl h2)).1] at huv
        have := lt0 y h2
        omega
      · rfl
      · rw [a2.1, (a3 j hj).1] at huv
        omega
      · rw [(a3 i hi).1, (a1 y (Or.inl h2)).1] at huv
        have := lt0 y h2
        omega
      · rw [(a3 i hi).1, a2.1] at huv
        omega
      · rw [(a3 i hi).1, (a3 j hj).1] at huv
        omega
    · obtain ⟨hx, rfl⟩ := getw hu
      show A (adr' x)
      have hA := C.2.2.2.2.2.1
      have hsz := hZ.2.2.1.1
      rcases cases3 x hx with h1 | rfl | ⟨i, hi, rfl⟩
      · rw [(a1 x (Or.inl h1)).1]
        exact hZ.2.1.2 x _ (mm_w_get h1)
      · rw [a2.1]
        exact hA _ hsz
      · rw [(a3 i hi).1]
        exact hA _ (by omega)
  have hSn : va_S A s.heap F.heap locs := ⟨by rw [f1]; have := hZ.2.2.1.1; omega, fun x h1 h2 => (hkeep x (Nat.lt_of_lt_of_le h1 hZ.2.2.1.1)).trans (hZ.2.2.1.2.1 x h1 h2), hZ.2.2.1.2.2⟩
  have hArA : ArrOfT s cA (.array .int) := fun N9 z9 => by
    obtain ⟨-, k9, hk9, cm9, hkk9⟩ := (hO 0 0 0).1
    exact ⟨(fun q hq => by cases hq), k9, hk9, cm9, hkk9⟩
  have hArI : ArrOfT s cy .int := fun N9 z9 => by
    obtain ⟨-, k9, hk9, cm9, hkk9⟩ := (hI 0 (.int 0)).1
    exact ⟨(fun q hq => by cases hq), k9, hk9, cm9, hkk9⟩
  have hArrn : mm_arr s ca' ν := fun x hx ht => by
    rcases cases3 x hx with h1 | rfl | ⟨i, hi, rfl⟩
    · rw [(hold x h1).1] at ht ⊢
      rw [(a1 x (Or.inl h1)).2]
      exact hZ.2.2.2.1 x h1 ht
    · rw [hout.1, a2.2]
      exact ⟨hArA, fA⟩
    · rw [(hrow i hi).1, (a3 i hi).2]
      exact ⟨hArI, fC⟩
  have hinn1 : mm_in1 ν := by
    refine ⟨fun x i y hx hxy => ?_, by rw [hnext]; omega, fun x hx h20 => ?_⟩
    · rw [hnext]
      rcases cases3 x hx with h1 | rfl | ⟨j, hj, rfl⟩
      · rw [(hold x h1).2.2.2] at hxy
        have := hZ.2.2.2.2.1 x i y h1 hxy
        omega
      · rw [hout.2] at hxy
        dsimp only at hxy
        split at hxy
        · cases hxy; omega
        · cases hxy
      · rw [(hrow j hj).2.2] at hxy
        cases hxy
    · rcases cases3 x hx with h1 | rfl | ⟨j, hj, rfl⟩
      · rw [(hold x h1).1] at h20 ⊢
        exact hZ.2.2.2.2.2.2 x h1 h20
      · rw [hout.1] at h20
        exact absurd h20 (show ¬ (25 : Nat) < 20 by decide)
      · rw [(hrow j hj).1] at h20
        exact absurd h20 (show ¬ (20 : Nat) < 20 by decide)
  have reo : ∀ w, mm_ok μ w → mm_re adr' w = mm_re adr w := fun w hw => by
    cases w with
    | ref x =>
      have hw : x < mm_next μ ∨ (mm_K ≤ x ∧ x < mm_K + 4) := hw
      show Value.ref _ = Value.ref _
      rw [(a1 x (hw.imp id (fun h => h.1))).1]
    | _ => rfl
  have grow : ∀ w, mm_ok μ w → mm_ok ν w := fun w hw => mm_ok_grow (by rw [hnext]; omega) hw
  have hoS2 : mm_okS μ S := mm_okS_t (mm_okS_t hoS)
  have hokn : mm_ok ν (.ref (mm_next μ)) := Or.inl (show mm_next μ < mm_next ν by omega)
  have hkk := kk adr' ca' F.heap locs (cells + 1 + N) (slots + N + N * M) ls ⟨hPn, hDn, hSn, hArrn, hinn1⟩ ⟨fun x hx => by
      have h3 := hY.2.2
      rw [(a1 x (by omega)).1]; exact hY.1 x hx, fun x hx => by
      have h3 := hY.2.2
      rw [(a1 x (by omega)).2]; exact hY.2.1 x hx, by have := hY.2.2; rw [hnext]; omega⟩ ⟨hl.1, hl.2.1, fun i w hw => by rw [reo w (hoL i w hw)]; exact hl.2.2 i w hw⟩ (fun i w hw => grow w (hoL i w hw)) (mm_okS_c hokn (fun w hw => grow w (hoS2 w hw))) (by rw [hcell]; omega) (by rw [hslot]; omega)
  have es : (Value.ref (mm_next μ) :: S).map (mm_re adr') = .ref H.size :: S.map (mm_re adr) := by
    rw [List.map_cons, List.map_congr_left (fun w hw => reo w (hoS2 w hw))]
    show Value.ref _ :: _ = _
    rw [a2.1]
  rw [es] at hkk
  obtain ⟨t, b1, b2⟩ := hkk F rfl X'
  refine ⟨t, step t ?_, b2⟩
  have e : T.heap.size = H.size := by rw [hT]
  rw [e]
  exact b1
