/-! ===== steps that read and write cells ===== -/
theorem mm_w_get {adr : Nat → Nat} {ca : Nat → ClassId} {μ : mm_M} {k : Nat} (h : k < mm_next μ) : (mm_w adr ca μ)[k]? = some (adr k, mm_e adr ca μ k) := by
  unfold mm_w
  rw [List.getElem?_map, List.getElem?_range h]
  rfl
theorem mm_w_len {adr : Nat → Nat} {ca : Nat → ClassId} {μ : mm_M} : (mm_w adr ca μ).length = mm_next μ := by unfold mm_w; simp
theorem mm_w_set {adr : Nat → Nat} {ca : Nat → ClassId} {μ μ' : mm_M} {c : Nat} (hn : mm_next μ' = mm_next μ) (h : ∀ j, j ≠ c → mm_e adr ca μ' j = mm_e adr ca μ j) : (mm_w adr ca μ).set c (adr c, mm_e adr ca μ' c) = mm_w adr ca μ' := by
  apply List.ext_getElem?
  intro j
  by_cases hj : j < mm_next μ
  · by_cases e : c = j
    · subst e
      rw [List.getElem?_set_self (by rw [mm_w_len]; exact hj), mm_w_get (by rw [hn]; exact hj)]
    · rw [List.getElem?_set_ne e, mm_w_get hj, mm_w_get (by rw [hn]; exact hj), h j (fun q => e q.symm)]
  · rw [List.getElem?_eq_none (by rw [List.length_set, mm_w_len]; omega), List.getElem?_eq_none (by rw [mm_w_len, hn]; omega)]
theorem mm_cl_get {t : Nat} (h : t < 12) : mm_cl[t]? = some (mm_name t, mm_F t, mm_nf t) := by
  unfold mm_cl
  rw [List.getElem?_map, List.getElem?_range h]
  rfl
theorem mm_uws {t : Nat} (ht : t < 12) : ∀ w ∈ u_ws (mm_name t) (mm_F t) (mm_nf t), w ∈ lw_g := by
  intro w hw
  obtain ⟨k, hk, rfl⟩ := List.mem_map.mp hw
  refine mm_lat_ok (t, k) ?_
  rw [mm_la_all]
  exact List.mem_flatMap.mpr ⟨t, List.mem_range.mpr ht, List.mem_map.mpr ⟨k, hk, rfl⟩⟩
theorem mm_ty_at {t k : Nat} (ht : t < 12) (hk : k < mm_nf t) : mm_tyok (mm_kd t k) (mm_fld t k).2.1 = true :=
  List.all_eq_true.mp (List.all_eq_true.mp mm_ty_ok t (List.mem_range.mpr ht)) k (List.mem_range.mpr hk)
/-- what values fit a field of this kind -/
def mm_vk (kd : Nat) (v : Value) : Prop := match v with
  | .int x => kd = 0 ∨ (kd = 3 ∧ (x = 0 ∨ x = 1))
  | .long _ => kd = 1
  | .null => kd = 2
  | .ref _ => kd = 2
  | _ => False
theorem mm_ty_fit {t k : Nat} (ht : t < 12) (hk : k < mm_nf t) {v : Value} (hv : mm_vk (mm_kd t k) v) : ∃ ty, parseFieldDescriptor (mm_fld t k).2.1 = some ty ∧ narrow ty v = v ∧ fits ty v = true := by
  have h := mm_ty_at ht hk
  unfold mm_tyok at h
  split at h
  · rename_i h1 h2
    refine ⟨_, h2, ?_⟩
    rw [h1] at hv
    cases v <;> simp [mm_vk] at hv
    exact ⟨rfl, rfl⟩
  · rename_i h1 h2
    refine ⟨_, h2, ?_⟩
    rw [h1] at hv
    cases v <;> simp [mm_vk] at hv
    rcases hv with rfl | rfl
    · exact ⟨rfl, rfl⟩
    · exact ⟨rfl, rfl⟩
  · rename_i h1 h2
    refine ⟨_, h2, ?_⟩
    rw [h1] at hv
    cases v <;> simp [mm_vk] at hv
    exact ⟨rfl, rfl⟩
  · rename_i h1 h2
    refine ⟨_, h2, ?_⟩
    rw [h1] at hv
    cases v <;> simp [mm_vk] at hv
    · exact ⟨rfl, rfl⟩
    · exact ⟨rfl, rfl⟩
  · rename_i h1 h2
    refine ⟨_, h2, ?_⟩
    rw [h1] at hv
    cases v <;> simp [mm_vk] at hv
    · exact ⟨rfl, rfl⟩
    · exact ⟨rfl, rfl⟩
  · cases h
def mm_ty0 (t k : Nat) : FieldType := (parseFieldDescriptor (mm_fld t k).2.1).getD .int
theorem mm_ty0_ok {t : Nat} (ht : t < 12) : ∀ k, k < mm_nf t → parseFieldDescriptor (mm_F t k).2.2.1 = some (mm_ty0 t k) := by
  intro k hk
  have h := mm_ty_at ht hk
  unfold mm_ty0
  show parseFieldDescriptor (mm_fld t k).2.1 = _
  cases hp : parseFieldDescriptor (mm_fld t k).2.1 with
  | some ty => rfl
  | none => unfold mm_tyok at h; rw [hp] at h; split at h <;> simp_all
theorem mm_nm_at {t : Nat} (ht : t < 12) : ∀ a, a < mm_nf t → ∀ b, b < mm_nf t → a ≠ b → (mm_F t a).2.1 ≠ (mm_F t b).2.1 := by
  intro a ha b hb hab
  have h := List.all_eq_true.mp (List.all_eq_true.mp (List.all_eq_true.mp mm_nm_ok t (List.mem_range.mpr ht)) a (List.mem_range.mpr ha)) b (List.mem_range.mpr hb)
  rw [Bool.or_eq_true, decide_eq_true_eq, decide_eq_true_eq] at h
  rcases h with h | h
  · exact absurd h hab
  · exact h
theorem mm_flx {own idx t k nest : Nat} (h : mm_fl own idx = some (t, k, nest)) : t < 12 ∧ k < mm_nf t := by
  have h1 := List.all_eq_true.mp mm_fx_ok _ (mm_fl_spec h)
  rw [Bool.and_eq_true, decide_eq_true_eq, decide_eq_true_eq] at h1
  exact h1
def mm_fs (adr : Nat → Nat) (μ : mm_M) (c : Nat) : List Value := (List.range (mm_nf (mm_sh μ c).1)).map (fun i => mm_val (mm_kd (mm_sh μ c).1 i) (μ.2.1 c i) (μ.2.2.1 c i) ((μ.2.2.2 c i).map adr))
theorem mm_e_obj {adr : Nat → Nat} {ca : Nat → ClassId} {μ : mm_M} {c : Nat} (h : (mm_sh μ c).1 < 20) : mm_e adr ca μ c = .inr ((mm_sh μ c).1, mm_fs adr μ c) := by unfold mm_e; rw [if_pos h]; rfl
theorem mm_val_re (adr : Nat → Nat) (kd : Nat) (x : Int32) (y : Int64) (z : Option Nat) : mm_val kd x y (z.map adr) = mm_re adr (mm_val kd x y z) := by
  unfold mm_val
  split
  · rfl
  · split
    · cases z <;> rfl
    · rfl
theorem mm_fs_get {adr : Nat → Nat} {μ : mm_M} {c k : Nat} (hk : k < mm_nf (mm_sh μ c).1) : (mm_fs adr μ c)[k]? = some (mm_re adr (mm_val (mm_kd (mm_sh μ c).1 k) (μ.2.1 c k) (μ.2.2.1 c k) (μ.2.2.2 c k))) := by
  unfold mm_fs
  rw [List.getElem?_map, List.getElem?_range hk, ← mm_val_re]
  rfl
theorem mm_fs_len {adr : Nat → Nat} {μ : mm_M} {c : Nat} : (mm_fs adr μ c).length = mm_nf (mm_sh μ c).1 := by unfold mm_fs; simp
theorem mm_isO_spec {μ : mm_M} {c t : Nat} (h : mm_isO μ c t = true) : c < mm_next μ ∧ (mm_sh μ c).1 = t := by
  unfold mm_isO at h
  rw [Bool.and_eq_true, decide_eq_true_eq, decide_eq_true_eq] at h
  exact h
theorem mm_ix_spec {i : Int32} {n : Nat} (h : mm_ix i n = true) : vp_in i n := by
  unfold mm_ix at h
  rw [Bool.and_eq_true, decide_eq_true_eq, decide_eq_true_eq] at h
  rintro (h1 | h1)
  · exact absurd h1 (Int32.not_lt.mpr h.1)
  · omega
theorem mm_ok_val {μ : mm_M} (h : mm_in1 μ) {c k : Nat} (hc : c < mm_next μ) (kd : Nat) : mm_ok μ (mm_val kd (μ.2.1 c k) (μ.2.2.1 c k) (μ.2.2.2 c k)) := by
  unfold mm_val
  split
  · trivial
  · split
    · cases hr : μ.2.2.2 c k with
      | none => trivial
      | some x => exact Or.inl (h.1 c k x hc hr)
    · trivial
theorem mm_K1 {D : va_G} {s : State} {cA : ClassId} {ty : FieldType} (h : va_K D mm_cl [] s) (h2 : ArrOfT s cA ty ∧ va_RA s cA ty) : va_K D mm_cl [(cA, ty)] s := ⟨h.1, fun k q hk => by
  cases k with
  | zero => cases hk; exact h2
  | succ k => cases hk⟩
/-- two memories alike but at one cell -/
def mm_same (μ μ' : mm_M) (c : Nat) : Prop := μ'.1 = μ.1 ∧ ∀ j, j ≠ c → μ'.2.1 j = μ.2.1 j ∧ μ'.2.2.1 j = μ.2.2.1 j ∧ μ'.2.2.2 j = μ.2.2.2 j
theorem mm_same_sh {μ μ' : mm_M} {c : Nat} (h : mm_same μ μ' c) (k : Nat) : mm_sh μ' k = mm_sh μ k := by unfold mm_sh; rw [h.1]
theorem mm_same_n {μ μ' : mm_M} {c : Nat} (h : mm_same μ μ' c) : mm_next μ' = mm_next μ := by unfold mm_next; rw [h.1]
theorem mm_same_e {μ μ' : mm_M} {c : Nat} (h : mm_same μ μ' c) {adr : Nat → Nat} {ca : Nat → ClassId} (j : Nat) (hj : j ≠ c) : mm_e adr ca μ' j = mm_e adr ca μ j := by
  obtain ⟨a, b, d⟩ := h.2 j hj
  unfold mm_e
  rw [mm_same_sh h, a, b, d]
theorem mm_up_ne {α : Type} {f : Nat → Nat → α} {c k j : Nat} {v : α} (h : j ≠ c) : mm_up f c k v j = f j := by unfold mm_up; rw [if_neg h]
theorem mm_up_at {α : Type} {f : Nat → Nat → α} {c k : Nat} {v : α} (i : Nat) : mm_up f c k v c i = if i = k then v else f c i := by unfold mm_up; rw [if_pos rfl]
theorem mm_same_d (μ : mm_M) (c k : Nat) (x : Int32) : mm_same μ (μ.1, mm_up μ.2.1 c k x, μ.2.2.1, μ.2.2.2) c := ⟨rfl, fun j hj => ⟨mm_up_ne hj, rfl, rfl⟩⟩
theorem mm_same_g (μ : mm_M) (c k : Nat) (x : Int64) : mm_same μ (μ.1, μ.2.1, mm_up μ.2.2.1 c k x, μ.2.2.2) c := ⟨rfl, fun j hj => ⟨rfl, mm_up_ne hj, rfl⟩⟩
theorem mm_same_r (μ : mm_M) (c k : Nat) (x : Option Nat) : mm_same μ (μ.1, μ.2.1, μ.2.2.1, mm_up μ.2.2.2 c k x) c := ⟨rfl, fun j hj => ⟨rfl, rfl, mm_up_ne hj⟩⟩
theorem mm_in1_same {μ μ' : mm_M} {c : Nat} (h : mm_same μ μ' c) (hr : ∀ i x, μ'.2.2.2 c i = some x → x < mm_next μ) (hi : mm_in1 μ) : mm_in1 μ' := by
  refine ⟨fun k i x hk hx => ?_, by rw [mm_same_n h]; exact hi.2.1, fun k hk => by rw [mm_same_sh h]; exact hi.2.2 k (by rw [mm_same_n h] at hk; exact hk)⟩
  rw [mm_same_n h] at hk ⊢
  by_cases e : k = c
  · subst e; exact hr i x hx
  · rw [(h.2 k e).2.2] at hx; exact hi.1 k i x hk hx
theorem mm_in1_d {μ : mm_M} {c k : Nat} {x : Int32} (hc : c < mm_next μ) (hi : mm_in1 μ) : mm_in1 (μ.1, mm_up μ.2.1 c k x, μ.2.2.1, μ.2.2.2) := mm_in1_same (mm_same_d μ c k x) (fun i x hx => hi.1 c i x hc hx) hi
theorem mm_in1_g {μ : mm_M} {c k : Nat} {x : Int64} (hc : c < mm_next μ) (hi : mm_in1 μ) : mm_in1 (μ.1, μ.2.1, mm_up μ.2.2.1 c k x, μ.2.2.2) := mm_in1_same (mm_same_g μ c k x) (fun i x hx => hi.1 c i x hc hx) hi
theorem mm_in1_r {μ : mm_M} {c k : Nat} {x : Option Nat} (hc : c < mm_next μ) (hx : ∀ y, x = some y → y < mm_next μ) (hi : mm_in1 μ) : mm_in1 (μ.1, μ.2.1, μ.2.2.1, mm_up μ.2.2.2 c k x) := mm_in1_same (mm_same_r μ c k x) (fun i y hy => by
  have hy : mm_up μ.2.2.2 c k x c i = some y := hy
  rw [mm_up_at] at hy
  by_cases e : i = k
  · rw [if_pos e] at hy; exact hx y hy
  · rw [if_neg e] at hy; exact hi.1 c i y hc hy) hi
theorem mm_ok_n {μ μ' : mm_M} (h : mm_next μ' = mm_next μ) {v : Value} (hv : mm_ok μ v) : mm_ok μ' v := by
  unfold mm_ok at hv ⊢
  rw [h]
  exact hv
theorem mm_okL_n {μ μ' : mm_M} (h : mm_next μ' = mm_next μ) {L : mm_L} (hL : mm_okL μ L) : mm_okL μ' L := fun i v hv => mm_ok_n h (hL i v hv)
theorem mm_okS_n {μ μ' : mm_M} (h : mm_next μ' = mm_next μ) {S : List Value} (hS : mm_okS μ S) : mm_okS μ' S := fun v hv => mm_ok_n h (hS v hv)
/-- behind a store: the new world -/
theorem mm_Z_same {D : va_G} {A : Nat → Prop} {s : State} {adr : Nat → Nat} {ca : Nat → ClassId} {μ μ' : mm_M} {H H1 : Heap} {locs locs1 : List Loc} {c : Nat} {en : va_E} (hm : mm_same μ μ' c) (hi : mm_in1 μ') (he : mm_e adr ca μ' c = en) (hZ : mm_Z D A s adr ca μ H locs)
    (hP : va_P D mm_cl ((mm_w adr ca μ).set c (adr c, en)) H1) (hD : va_D A ((mm_w adr ca μ).set c (adr c, en))) (hS : va_S A s.heap H1 locs1) : mm_Z D A s adr ca μ' H1 locs1 := by
  subst he
  rw [mm_w_set (mm_same_n hm) (fun j hj => mm_same_e hm j hj)] at hP hD
  refine ⟨hP, hD, hS, fun k hk ht => ?_, hi⟩
  rw [mm_same_sh hm] at ht ⊢
  rw [mm_same_n hm] at hk
  exact hZ.2.2.2.1 k hk ht
theorem mm_Y_same {adr0 : Nat → Nat} {ca0 : Nat → ClassId} {n0 : Nat} {adr : Nat → Nat} {ca : Nat → ClassId} {μ μ' : mm_M} {c : Nat} (hm : mm_same μ μ' c) (h : mm_Y adr0 ca0 n0 adr ca μ) : mm_Y adr0 ca0 n0 adr ca μ' := ⟨h.1, h.2.1, by rw [mm_same_n hm]; exact h.2.2⟩
section CELLS
variable {p : Program} {l : Launch} {e : Env} {R : Room} {s : State} {m : MethodId} {args : Array Value} {below : List Frame} {meth : Method} {c : Code} {D : va_G} {xs : List Int32} {A : Nat → Prop} {adr0 : Nat → Nat} {ca0 : Nat → ClassId} {n0 cb sb : Nat} {Q : State → Prop} {own : Nat} {cc : ByteArray} {ini : Bool}
variable {pc : Nat} {L : mm_L} {S : List Value} {μ : mm_M}
theorem mv_getf (C : mm_C p s m args meth c D xs A adr0 own cc ini) {idx x t k nest : Nat} (hf : mm_fl own idx = some (t, k, nest)) (hO : mm_isO μ x t = true) (hd : decode cc pc = .ok (.getfield idx, 3))
    (kk : mm_V p l e R s m args below meth c D A adr0 ca0 n0 cb sb Q (pc + 3) L (mm_val (mm_kd t k) (μ.2.1 x k) (μ.2.2.1 x k) (μ.2.2.2 x k) :: S) μ) : mm_V p l e R s m args below meth c D A adr0 ca0 n0 cb sb Q pc L (.ref x :: S) μ := by
  intro adr ca H locs cells slots ls hZ hY hl hoL hoS hc hs
  obtain ⟨ht, hk⟩ := mm_flx hf
  obtain ⟨hx, hsh⟩ := mm_isO_spec hO
  have hw := mm_w_get (adr := adr) (ca := ca) hx
  rw [mm_e_obj (by omega), hsh] at hw
  have hv : (mm_fs adr μ x)[k]? = _ := mm_fs_get (by rw [hsh]; exact hk)
  rw [hsh] at hv
  have hkk := kk adr ca H locs cells slots ls hZ hY hl hoL (mm_okS_c (mm_ok_val hZ.2.2.2.2 hx _) (mm_okS_t hoS)) hc hs
  have hP := mm_flt_ok _ (mm_fl_spec hf)
  unfold mm_flP at hP
  dsimp only at hP
  split at hP
  · exact va_get (C := mm_name t) (T := mm_F t) (N := mm_nf t) C.1 C.2.1 C.2.2.2.1 (mm_uws ht) C.2.2.1 C.2.2.2.2.1 hZ.1 x hw (mm_cl_get ht) k hk (C.2.2.2.1 _ hP) (fun _ h => h) hv hd hkk
  · exact va_getN (C := mm_name t) (T := mm_F t) (N := mm_nf t) C.1 C.2.1 C.2.2.2.1 (mm_uws ht) C.2.2.1 C.2.2.2.2.1 hZ.1 x hw (mm_cl_get ht) k hk (C.2.2.2.1 _ hP) (fun _ h => h) hv hd hkk
theorem mv_putf (C : mm_C p s m args meth c D xs A adr0 own cc ini) {idx x t k nest : Nat} {v : Value} {μ' : mm_M} (hf : mm_fl own idx = some (t, k, nest)) (hO : mm_isO μ x t = true) (hv : mm_vk (mm_kd t k) v) (hfin : (mm_fld t k).2.2 = false ∨ (ini = true ∧ t = own ∧ nest = 0 ∧ (mm_fld t k).2.2 = true)) (hm : mm_same μ μ' x) (hi : mm_in1 μ → mm_in1 μ')
    (hfs : ∀ adr, mm_fs adr μ' x = (mm_fs adr μ x).set k (mm_re adr v)) (hd : decode cc pc = .ok (.putfield idx, 3))
    (kk : mm_V p l e R s m args below meth c D A adr0 ca0 n0 cb sb Q (pc + 3) L S μ') : mm_V p l e R s m args below meth c D A adr0 ca0 n0 cb sb Q pc L (v :: .ref x :: S) μ := by
  intro adr ca H locs cells slots ls hZ hY hl hoL hoS hc hs
  obtain ⟨ht, hk⟩ := mm_flx hf
  obtain ⟨hx, hsh⟩ := mm_isO_spec hO
  have hw := mm_w_get (adr := adr) (ca := ca) hx
  rw [mm_e_obj (by omega), hsh] at hw
  obtain ⟨ty, h1, h2, h3⟩ := mm_ty_fit ht hk (v := mm_re adr v) (by cases v <;> exact hv)
  have hn := mm_same_n hm
  have hen : mm_e adr ca μ' x = .inr (t, (mm_fs adr μ x).set k (mm_re adr v)) := by
    rw [mm_e_obj (by rw [mm_same_sh hm]; omega), mm_same_sh hm, hsh, hfs]
  have hkk : ∀ (H1 : Heap) (locs1 : List Loc), va_P D mm_cl ((mm_w adr ca μ).set x (adr x, .inr (t, (mm_fs adr μ x).set k (mm_re adr v)))) H1 → va_D A ((mm_w adr ca μ).set x (adr x, .inr (t, (mm_fs adr μ x).set k (mm_re adr v)))) → va_S A s.heap H1 locs1 → W p l e R s m args below meth c H1 locs1 cells slots Q (F0 m (pc + 3) ls (S.map (mm_re adr))) := fun H1 locs1 a1 a2 a3 =>
    kk adr ca H1 locs1 cells slots ls (mm_Z_same hm (hi hZ.2.2.2.2) hen hZ a1 a2 a3) (mm_Y_same hm hY) hl (mm_okL_n hn hoL) (mm_okS_n hn (mm_okS_t (mm_okS_t hoS))) (by rw [hm.1]; exact hc) (by rw [hm.1]; exact hs)
  have hlen : k < (mm_fs adr μ x).length := by rw [mm_fs_len, hsh]; exact hk
  have hP := mm_flt_ok _ (mm_fl_spec hf)
  unfold mm_flP at hP
  dsimp only at hP
  rcases hfin with hfin | ⟨hini, ho, hne, hfin⟩
  · split at hP
    · exact va_put (C := mm_name t) (T := mm_F t) (N := mm_nf t) C.1 C.2.1 C.2.2.2.1 (mm_uws ht) (mm_ty0 t) (mm_ty0_ok ht) (mm_nm_at ht) C.2.2.1 C.2.2.2.2.1 hZ.1 hZ.2.1 hZ.2.2.1 x hw (mm_cl_get ht) k hk (C.2.2.2.1 _ hP) (fun _ h => h) hfin h1 h2 h3 hlen hd hkk
    · exact va_putN (C := mm_name t) (T := mm_F t) (N := mm_nf t) C.1 C.2.1 C.2.2.2.1 (mm_uws ht) (mm_ty0 t) (mm_ty0_ok ht) (mm_nm_at ht) C.2.2.1 C.2.2.2.2.1 hZ.1 hZ.2.1 hZ.2.2.1 x hw (mm_cl_get ht) k hk (C.2.2.2.1 _ hP) (fun _ h => h) hfin h1 h2 h3 hlen hd hkk
  · subst hne
    rw [if_pos rfl] at hP
    exact va_putF (C := mm_name t) (T := mm_F t) (N := mm_nf t) C.1 C.2.1 C.2.2.2.1 (mm_uws ht) (mm_ty0 t) (mm_ty0_ok ht) (mm_nm_at ht) C.2.2.1 C.2.2.2.2.1 hZ.1 hZ.2.1 hZ.2.2.1 x hw (mm_cl_get ht) k hk (C.2.2.2.1 _ hP) (fun _ h => h) hfin (C.2.2.2.2.2.2.2 hini) (show mm_name t = mm_name own by rw [ho]) h1 h2 h3 hlen hd hkk
theorem mm_fs_d {t k x : Nat} {y : Int32} (hs : (mm_sh μ x).1 = t) (hk : mm_kd t k = 0 ∨ mm_kd t k = 3) (adr : Nat → Nat) : mm_fs adr (μ.1, mm_up μ.2.1 x k y, μ.2.2.1, μ.2.2.2) x = (mm_fs adr μ x).set k (.int y) := by
  apply List.ext_getElem?
  intro j
  have e1 : mm_sh (μ.1, mm_up μ.2.1 x k y, μ.2.2.1, μ.2.2.2) x = mm_sh μ x := rfl
  by_cases hj : j < mm_nf t
  · rw [mm_fs_get (by rw [e1, hs]; exact hj), e1, hs]
    show some (mm_re adr (mm_val (mm_kd t j) (mm_up μ.2.1 x k y x j) (μ.2.2.1 x j) (μ.2.2.2 x j))) = _
    rw [mm_up_at]
    by_cases e : j = k
    · subst e
      rw [if_pos rfl, List.getElem?_set_self (by rw [mm_fs_len, hs]; exact hj)]
      unfold mm_val
      rcases hk with h | h <;> rw [h] <;> rfl
    · rw [if_neg e, List.getElem?_set_ne (fun q => e q.symm), mm_fs_get (by rw [hs]; exact hj), hs]
  · rw [List.getElem?_eq_none (by rw [mm_fs_len, e1, hs]; omega), List.getElem?_eq_none (by rw [List.length_set, mm_fs_len, hs]; omega)]
theorem mm_fs_g {t k x : Nat} {y : Int64} (hs : (mm_sh μ x).1 = t) (hk : mm_kd t k = 1) (adr : Nat → Nat) : mm_fs adr (μ.1, μ.2.1, mm_up μ.2.2.1 x k y, μ.2.2.2) x = (mm_fs adr μ x).set k (.long y) := by
  apply List.ext_getElem?
  intro j
  have e1 : mm_sh (μ.1, μ.2.1, mm_up μ.2.2.1 x k y, μ.2.2.2) x = mm_sh μ x := rfl
  by_cases hj : j < mm_nf t
  · rw [mm_fs_get (by rw [e1, hs]; exact hj), e1, hs]
    show some (mm_re adr (mm_val (mm_kd t j) (μ.2.1 x j) (mm_up μ.2.2.1 x k y x j) (μ.2.2.2 x j))) = _
    rw [mm_up_at]
    by_cases e : j = k
    · subst e
      rw [if_pos rfl, List.getElem?_set_self (by rw [mm_fs_len, hs]; exact hj)]
      unfold mm_val
      rw [hk]; rfl
    · rw [if_neg e, List.getElem?_set_ne (fun q => e q.symm), mm_fs_get (by rw [hs]; exact hj), hs]
  · rw [List.getElem?_eq_none (by rw [mm_fs_len, e1, hs]; omega), List.getElem?_eq_none (by rw [List.length_set, mm_fs_len, hs]; omega)]
theorem mm_fs_r {t k x : Nat} {y : Option Nat} (hs : (mm_sh μ x).1 = t) (hk : mm_kd t k = 2) (adr : Nat → Nat) : mm_fs adr (μ.1, μ.2.1, μ.2.2.1, mm_up μ.2.2.2 x k y) x = (mm_fs adr μ x).set k (mm_re adr (va_rf y)) := by
  apply List.ext_getElem?
  intro j
  have e1 : mm_sh (μ.1, μ.2.1, μ.2.2.1, mm_up μ.2.2.2 x k y) x = mm_sh μ x := rfl
  by_cases hj : j < mm_nf t
  · rw [mm_fs_get (by rw [e1, hs]; exact hj), e1, hs]
    show some (mm_re adr (mm_val (mm_kd t j) (μ.2.1 x j) (μ.2.2.1 x j) (mm_up μ.2.2.2 x k y x j))) = _
    rw [mm_up_at]
    by_cases e : j = k
    · subst e
      rw [if_pos rfl, List.getElem?_set_self (by rw [mm_fs_len, hs]; exact hj)]
      unfold mm_val
      rw [hk]; rfl
    · rw [if_neg e, List.getElem?_set_ne (fun q => e q.symm), mm_fs_get (by rw [hs]; exact hj), hs]
  · rw [List.getElem?_eq_none (by rw [mm_fs_len, e1, hs]; omega), List.getElem?_eq_none (by rw [List.length_set, mm_fs_len, hs]; omega)]
/-- arrays -/
theorem mm_e_arr {adr : Nat → Nat} {ca : Nat → ClassId} {x : Nat} (h : ¬ (mm_sh μ x).1 < 20) : mm_e adr ca μ x = .inl (ca x, (mm_sh μ x).2, if (mm_sh μ x).1 = 22 then .inr (.inl (μ.2.2.1 x)) else if (mm_sh μ x).1 < 22 then .inl (μ.2.1 x) else .inr (.inr (.inr (.inr (fun i => (μ.2.2.2 x i).map adr))))) := by unfold mm_e; rw [if_neg h]
theorem mv_iald (C : mm_C p s m args meth c D xs A adr0 own cc ini) {x : Nat} {i : Int32} (hO : mm_isO μ x 20 = true) (hin : mm_ix i (mm_sh μ x).2 = true) (hd : decode cc pc = .ok (.iaload, 1))
    (kk : mm_V p l e R s m args below meth c D A adr0 ca0 n0 cb sb Q (pc + 1) L (.int (μ.2.1 x i.toNatClampNeg) :: S) μ) : mm_V p l e R s m args below meth c D A adr0 ca0 n0 cb sb Q pc L (.int i :: .ref x :: S) μ := by
  intro adr ca H locs cells slots ls hZ hY hl hoL hoS hc hs
  obtain ⟨hx, hsh⟩ := mm_isO_spec hO
  have hw := mm_w_get (adr := adr) (ca := ca) hx
  rw [mm_e_arr (by omega), hsh, if_neg (by decide), if_pos (by decide)] at hw
  have ha := hZ.2.2.2.1 x hx (by omega)
  rw [hsh] at ha
  exact va_iald C.1 C.2.1 (mm_K1 C.2.2.2.2.1 ha) hZ.1 x 0 hw rfl (mm_ix_spec hin) hd (kk adr ca H locs cells slots ls hZ hY hl hoL (mm_okS_c (v := .int _) trivial (mm_okS_t (mm_okS_t hoS))) hc hs)
theorem mv_bald (C : mm_C p s m args meth c D xs A adr0 own cc ini) {x : Nat} {i : Int32} (hO : mm_isO μ x 21 = true) (hin : mm_ix i (mm_sh μ x).2 = true) (hd : decode cc pc = .ok (.baload, 1))
    (kk : mm_V p l e R s m args below meth c D A adr0 ca0 n0 cb sb Q (pc + 1) L (.int (μ.2.1 x i.toNatClampNeg) :: S) μ) : mm_V p l e R s m args below meth c D A adr0 ca0 n0 cb sb Q pc L (.int i :: .ref x :: S) μ := by
  intro adr ca H locs cells slots ls hZ hY hl hoL hoS hc hs
  obtain ⟨hx, hsh⟩ := mm_isO_spec hO
  have hw := mm_w_get (adr := adr) (ca := ca) hx
  rw [mm_e_arr (by omega), hsh, if_neg (by decide), if_pos (by decide)] at hw
  have ha := hZ.2.2.2.1 x hx (by omega)
  rw [hsh] at ha
  exact va_zald C.1 C.2.1 (mm_K1 C.2.2.2.2.1 ha) hZ.1 x 0 hw rfl (mm_ix_spec hin) hd (kk adr ca H locs cells slots ls hZ hY hl hoL (mm_okS_c (v := .int _) trivial (mm_okS_t (mm_okS_t hoS))) hc hs)
theorem mv_lald (C : mm_C p s m args meth c D xs A adr0 own cc ini) {x : Nat} {i : Int32} (hO : mm_isO μ x 22 = true) (hin : mm_ix i (mm_sh μ x).2 = true) (hd : decode cc pc = .ok (.laload, 1))
    (kk : mm_V p l e R s m args below meth c D A adr0 ca0 n0 cb sb Q (pc + 1) L (.long (μ.2.2.1 x i.toNatClampNeg) :: S) μ) : mm_V p l e R s m args below meth c D A adr0 ca0 n0 cb sb Q pc L (.int i :: .ref x :: S) μ := by
  intro adr ca H locs cells slots ls hZ hY hl hoL hoS hc hs
  obtain ⟨hx, hsh⟩ := mm_isO_spec hO
  have hw := mm_w_get (adr := adr) (ca := ca) hx
  rw [mm_e_arr (by omega), hsh, if_pos rfl] at hw
  have ha := hZ.2.2.2.1 x hx (by omega)
  rw [hsh] at ha
  exact va_lald C.1 C.2.1 (mm_K1 C.2.2.2.2.1 ha) hZ.1 x 0 hw rfl (mm_ix_spec hin) hd (kk adr ca H locs cells slots ls hZ hY hl hoL (mm_okS_c (v := .long _) trivial (mm_okS_t (mm_okS_t hoS))) hc hs)
theorem mm_rf_re (adr : Nat → Nat) (z : Option Nat) : va_rf (z.map adr) = mm_re adr (va_rf z) := by cases z <;> rfl
theorem mm_ok_rf {x i : Nat} (h : mm_in1 μ) (hx : x < mm_next μ) : mm_ok μ (va_rf (μ.2.2.2 x i)) := by
  cases hr : μ.2.2.2 x i with
  | none => trivial
  | some y => exact Or.inl (h.1 x i y hx hr)
theorem mv_aald (C : mm_C p s m args meth c D xs A adr0 own cc ini) {x t : Nat} {i : Int32} (ht : t = 23 ∨ t = 24) (hO : mm_isO μ x t = true) (hin : mm_ix i (mm_sh μ x).2 = true) (hd : decode cc pc = .ok (.aaload, 1))
    (kk : mm_V p l e R s m args below meth c D A adr0 ca0 n0 cb sb Q (pc + 1) L (va_rf (μ.2.2.2 x i.toNatClampNeg) :: S) μ) : mm_V p l e R s m args below meth c D A adr0 ca0 n0 cb sb Q pc L (.int i :: .ref x :: S) μ := by
  intro adr ca H locs cells slots ls hZ hY hl hoL hoS hc hs
  obtain ⟨hx, hsh⟩ := mm_isO_spec hO
  have hw := mm_w_get (adr := adr) (ca := ca) hx
  have ha := hZ.2.2.2.1 x hx (by omega)
  rw [mm_e_arr (by omega), hsh, if_neg (by omega), if_neg (by omega)] at hw
  rw [hsh] at ha
  have hkk := kk adr ca H locs cells slots ls hZ hY hl hoL (mm_okS_c (mm_ok_rf hZ.2.2.2.2 hx) (mm_okS_t (mm_okS_t hoS))) hc hs
  rw [List.map_cons, ← mm_rf_re] at hkk
  rcases ht with rfl | rfl
  · exact va_aldq C.1 C.2.1 (mm_K1 C.2.2.2.2.1 ha) hZ.1 x 0 hw rfl (mm_ix_spec hin) hd hkk
  · exact va_aldq C.1 C.2.1 (mm_K1 C.2.2.2.2.1 ha) hZ.1 x 0 hw rfl (mm_ix_spec hin) hd hkk
theorem mv_iast (C : mm_C p s m args meth c D xs A adr0 own cc ini) {x : Nat} {i v : Int32} (hO : mm_isO μ x 20 = true) (hin : mm_ix i (mm_sh μ x).2 = true) (hd : decode cc pc = .ok (.iastore, 1))
    (kk : mm_V p l e R s m args below meth c D A adr0 ca0 n0 cb sb Q (pc + 1) L S (μ.1, mm_up μ.2.1 x i.toNatClampNeg v, μ.2.2.1, μ.2.2.2)) : mm_V p l e R s m args below meth c D A adr0 ca0 n0 cb sb Q pc L (.int v :: .int i :: .ref x :: S) μ := by
  intro adr ca H locs cells slots ls hZ hY hl hoL hoS hc hs
  obtain ⟨hx, hsh⟩ := mm_isO_spec hO
  have hw := mm_w_get (adr := adr) (ca := ca) hx
  rw [mm_e_arr (by omega), hsh, if_neg (by decide), if_pos (by decide)] at hw
  have ha := hZ.2.2.2.1 x hx (by omega)
  rw [hsh] at ha
  have hm := mm_same_d μ x i.toNatClampNeg v
  have hn := mm_same_n hm
  refine va_iast C.1 C.2.1 (mm_K1 C.2.2.2.2.1 ha) hZ.1 hZ.2.1 hZ.2.2.1 x 0 hw rfl (mm_ix_spec hin) hd (fun H1 locs1 a1 a2 a3 => kk adr ca H1 locs1 cells slots ls (mm_Z_same hm (mm_in1_d hx hZ.2.2.2.2) ?_ hZ a1 a2 a3) (mm_Y_same hm hY) hl (mm_okL_n hn hoL) (mm_okS_n hn (mm_okS_t (mm_okS_t (mm_okS_t hoS)))) hc hs)
  rw [mm_e_arr (by rw [mm_same_sh hm]; omega), mm_same_sh hm, hsh, if_neg (by decide), if_pos (by decide)]
  congr 3
  exact congrArg Sum.inl (funext fun j => mm_up_at j)
theorem mv_bast (C : mm_C p s m args meth c D xs A adr0 own cc ini) {x : Nat} {i v : Int32} (hO : mm_isO μ x 21 = true) (hin : mm_ix i (mm_sh μ x).2 = true) (h01 : v = 0 ∨ v = 1) (hd : decode cc pc = .ok (.bastore, 1))
    (kk : mm_V p l e R s m args below meth c D A adr0 ca0 n0 cb sb Q (pc + 1) L S (μ.1, mm_up μ.2.1 x i.toNatClampNeg v, μ.2.2.1, μ.2.2.2)) : mm_V p l e R s m args below meth c D A adr0 ca0 n0 cb sb Q pc L (.int v :: .int i :: .ref x :: S) μ := by
  intro adr ca H locs cells slots ls hZ hY hl hoL hoS hc hs
  obtain ⟨hx, hsh⟩ := mm_isO_spec hO
  have hw := mm_w_get (adr := adr) (ca := ca) hx
  rw [mm_e_arr (by omega), hsh, if_neg (by decide), if_pos (by decide)] at hw
  have ha := hZ.2.2.2.1 x hx (by omega)
  rw [hsh] at ha
  have hm := mm_same_d μ x i.toNatClampNeg v
  have hn := mm_same_n hm
  have hv : vp_nar .boolean v = v := by rcases h01 with rfl | rfl <;> rfl
  refine va_zast C.1 C.2.1 (mm_K1 C.2.2.2.2.1 ha) hZ.1 hZ.2.1 hZ.2.2.1 x 0 hw rfl (mm_ix_spec hin) hd (fun H1 locs1 a1 a2 a3 => kk adr ca H1 locs1 cells slots ls (mm_Z_same hm (mm_in1_d hx hZ.2.2.2.2) ?_ hZ a1 a2 a3) (mm_Y_same hm hY) hl (mm_okL_n hn hoL) (mm_okS_n hn (mm_okS_t (mm_okS_t (mm_okS_t hoS)))) hc hs)
  rw [mm_e_arr (by rw [mm_same_sh hm]; omega), mm_same_sh hm, hsh, if_neg (by decide), if_pos (by decide), hv]
  congr 3
  exact congrArg Sum.inl (funext fun j => mm_up_at j)
theorem mv_last (C : mm_C p s m args meth c D xs A adr0 own cc ini) {x : Nat} {i : Int32} {v : Int64} (hO : mm_isO μ x 22 = true) (hin : mm_ix i (mm_sh μ x).2 = true) (hd : decode cc pc = .ok (.lastore, 1))
    (kk : mm_V p l e R s m args below meth c D A adr0 ca0 n0 cb sb Q (pc + 1) L S (μ.1, μ.2.1, mm_up μ.2.2.1 x i.toNatClampNeg v, μ.2.2.2)) : mm_V p l e R s m args below meth c D A adr0 ca0 n0 cb sb Q pc L (.long v :: .int i :: .ref x :: S) μ := by
  intro adr ca H locs cells slots ls hZ hY hl hoL hoS hc hs
  obtain ⟨hx, hsh⟩ := mm_isO_spec hO
  have hw := mm_w_get (adr := adr) (ca := ca) hx
  rw [mm_e_arr (by omega), hsh, if_pos rfl] at hw
  have ha := hZ.2.2.2.1 x hx (by omega)
  rw [hsh] at ha
  have hm := mm_same_g μ x i.toNatClampNeg v
  have hn := mm_same_n hm
  refine va_last C.1 C.2.1 (mm_K1 C.2.2.2.2.1 ha) hZ.1 hZ.2.1 hZ.2.2.1 x 0 hw rfl (mm_ix_spec hin) hd (fun H1 locs1 a1 a2 a3 => kk adr ca H1 locs1 cells slots ls (mm_Z_same hm (mm_in1_g hx hZ.2.2.2.2) ?_ hZ a1 a2 a3) (mm_Y_same hm hY) hl (mm_okL_n hn hoL) (mm_okS_n hn (mm_okS_t (mm_okS_t (mm_okS_t hoS)))) hc hs)
  rw [mm_e_arr (by rw [mm_same_sh hm]; omega), mm_same_sh hm, hsh, if_pos rfl]
  congr 4
  exact congrArg Sum.inl (funext fun j => mm_up_at j)
theorem mm_e_q {adr : Nat → Nat} {ca : Nat → ClassId} {x k t : Nat} {v : Option Nat} (ht : t = 23 ∨ t = 24) (hsh : (mm_sh μ x).1 = t) : mm_e adr ca (μ.1, μ.2.1, μ.2.2.1, mm_up μ.2.2.2 x k v) x = .inl (ca x, (mm_sh μ x).2, .inr (.inr (.inr (.inr (va_up (fun i => (μ.2.2.2 x i).map adr) k (v.map adr)))))) := by
  have hm := mm_same_r μ x k v
  rw [mm_e_arr (by rw [mm_same_sh hm]; omega), mm_same_sh hm, hsh, if_neg (by omega), if_neg (by omega)]
  congr 7
  funext j
  show (mm_up μ.2.2.2 x k v x j).map adr = _
  rw [mm_up_at]
  unfold va_up
  split <;> rfl
theorem mv_aast (C : mm_C p s m args meth c D xs A adr0 own cc ini) {x y t u : Nat} {i : Int32} (ht : (t = 23 ∧ u = 0) ∨ (t = 24 ∧ u = 6)) (hO : mm_isO μ x t = true) (hU : mm_isO μ y u = true) (hin : mm_ix i (mm_sh μ x).2 = true) (hd : decode cc pc = .ok (.aastore, 1))
    (kk : mm_V p l e R s m args below meth c D A adr0 ca0 n0 cb sb Q (pc + 1) L S (μ.1, μ.2.1, μ.2.2.1, mm_up μ.2.2.2 x i.toNatClampNeg (some y))) : mm_V p l e R s m args below meth c D A adr0 ca0 n0 cb sb Q pc L (.ref y :: .int i :: .ref x :: S) μ := by
  intro adr ca H locs cells slots ls hZ hY hl hoL hoS hc hs
  obtain ⟨hx, hsh⟩ := mm_isO_spec hO
  obtain ⟨hy, hshy⟩ := mm_isO_spec hU
  have hw := mm_w_get (adr := adr) (ca := ca) hx
  rw [mm_e_arr (by omega), hsh, if_neg (by omega), if_neg (by omega)] at hw
  have hwy := mm_w_get (adr := adr) (ca := ca) hy
  rw [mm_e_obj (by omega), hshy] at hwy
  have ha := hZ.2.2.2.1 x hx (by omega)
  rw [hsh] at ha
  have hm := mm_same_r μ x i.toNatClampNeg (some y)
  have hn := mm_same_n hm
  have hen := mm_e_q (μ := μ) (adr := adr) (ca := ca) (k := i.toNatClampNeg) (v := some y) (x := x) (t := t) (by omega) hsh
  have hin1 := mm_in1_r (k := i.toNatClampNeg) (x := some y) hx (fun z hz => by cases hz; exact hy) hZ.2.2.2.2
  rcases ht with ⟨rfl, rfl⟩ | ⟨rfl, rfl⟩
  · exact va_astq C.1 C.2.1 (mm_K1 C.2.2.2.2.1 ha) hZ.1 hZ.2.1 hZ.2.2.1 x 0 y 0 (r := (mm_name 0, mm_F 0, mm_nf 0)) hw rfl hwy (mm_cl_get (by decide)) (mm_ix_spec hin) hd (fun H1 locs1 a1 a2 a3 => kk adr ca H1 locs1 cells slots ls (mm_Z_same hm hin1 hen hZ a1 a2 a3) (mm_Y_same hm hY) hl (mm_okL_n hn hoL) (mm_okS_n hn (mm_okS_t (mm_okS_t (mm_okS_t hoS)))) hc hs)
  · exact va_astq C.1 C.2.1 (mm_K1 C.2.2.2.2.1 ha) hZ.1 hZ.2.1 hZ.2.2.1 x 0 y 6 (r := (mm_name 6, mm_F 6, mm_nf 6)) hw rfl hwy (mm_cl_get (by decide)) (mm_ix_spec hin) hd (fun H1 locs1 a1 a2 a3 => kk adr ca H1 locs1 cells slots ls (mm_Z_same hm hin1 hen hZ a1 a2 a3) (mm_Y_same hm hY) hl (mm_okL_n hn hoL) (mm_okS_n hn (mm_okS_t (mm_okS_t (mm_okS_t hoS)))) hc hs)
theorem mv_aastN (C : mm_C p s m args meth c D xs A adr0 own cc ini) {x t : Nat} {i : Int32} (ht : t = 23 ∨ t = 24) (hO : mm_isO μ x t = true) (hin : mm_ix i (mm_sh μ x).2 = true) (hd : decode cc pc = .ok (.aastore, 1))
    (kk : mm_V p l e R s m args below meth c D A adr0 ca0 n0 cb sb Q (pc + 1) L S (μ.1, μ.2.1, μ.2.2.1, mm_up μ.2.2.2 x i.toNatClampNeg none)) : mm_V p l e R s m args below meth c D A adr0 ca0 n0 cb sb Q pc L (.null :: .int i :: .ref x :: S) μ := by
  intro adr ca H locs cells slots ls hZ hY hl hoL hoS hc hs
  obtain ⟨hx, hsh⟩ := mm_isO_spec hO
  have hw := mm_w_get (adr := adr) (ca := ca) hx
  rw [mm_e_arr (by omega), hsh, if_neg (by omega), if_neg (by omega)] at hw
  have ha := hZ.2.2.2.1 x hx (by omega)
  rw [hsh] at ha
  have hm := mm_same_r μ x i.toNatClampNeg none
  have hn := mm_same_n hm
  have hen := mm_e_q (μ := μ) (adr := adr) (ca := ca) (k := i.toNatClampNeg) (v := none) (x := x) (t := t) ht hsh
  have hin1 := mm_in1_r (k := i.toNatClampNeg) (x := none) hx (fun z hz => by cases hz) hZ.2.2.2.2
  rcases ht with rfl | rfl
  · exact va_astqN C.1 C.2.1 (mm_K1 C.2.2.2.2.1 ha) hZ.1 hZ.2.1 hZ.2.2.1 x 0 hw rfl (mm_ix_spec hin) hd (fun H1 locs1 a1 a2 a3 => kk adr ca H1 locs1 cells slots ls (mm_Z_same hm hin1 hen hZ a1 a2 a3) (mm_Y_same hm hY) hl (mm_okL_n hn hoL) (mm_okS_n hn (mm_okS_t (mm_okS_t (mm_okS_t hoS)))) hc hs)
  · exact va_astqN C.1 C.2.1 (mm_K1 C.2.2.2.2.1 ha) hZ.1 hZ.2.1 hZ.2.2.1 x 0 hw rfl (mm_ix_spec hin) hd (fun H1 locs1 a1 a2 a3 => kk adr ca H1 locs1 cells slots ls (mm_Z_same hm hin1 hen hZ a1 a2 a3) (mm_Y_same hm hY) hl (mm_okL_n hn hoL) (mm_okS_n hn (mm_okS_t (mm_okS_t (mm_okS_t hoS)))) hc hs)
theorem mv_alen (C : mm_C p s m args meth c D xs A adr0 own cc ini) {x : Nat} (hx : x < mm_next μ) (ht : 20 ≤ (mm_sh μ x).1) (hd : decode cc pc = .ok (.arraylength, 1))
    (kk : mm_V p l e R s m args below meth c D A adr0 ca0 n0 cb sb Q (pc + 1) L (.int (Int32.ofNat (mm_sh μ x).2) :: S) μ) : mm_V p l e R s m args below meth c D A adr0 ca0 n0 cb sb Q pc L (.ref x :: S) μ := by
  intro adr ca H locs cells slots ls hZ hY hl hoL hoS hc hs
  have hw := mm_w_get (adr := adr) (ca := ca) hx
  rw [mm_e_arr (by omega)] at hw
  have ha := hZ.2.2.2.1 x hx ht
  exact va_alen C.1 C.2.1 (mm_K1 C.2.2.2.2.1 ha) hZ.1 x 0 hw rfl rfl hd (kk adr ca H locs cells slots ls hZ hY hl hoL (mm_okS_c (v := .int _) trivial (mm_okS_t hoS)) hc hs)
/-- arrays that are never written -/
theorem mv_ialdK (C : mm_C p s m args meth c D xs A adr0 own cc ini) {x : Nat} {i : Int32} (h1 : mm_K ≤ x) (h2 : x < mm_K + 4) (hin : mm_ix i (mm_ca xs x).length = true) (hd : decode cc pc = .ok (.iaload, 1))
    (kk : mm_V p l e R s m args below meth c D A adr0 ca0 n0 cb sb Q (pc + 1) L (.int ((mm_ca xs x).getD i.toNatClampNeg 0) :: S) μ) : mm_V p l e R s m args below meth c D A adr0 ca0 n0 cb sb Q pc L (.int i :: .ref x :: S) μ := by
  intro adr ca H locs cells slots ls hZ hY hl hoL hoS hc hs
  have hT := C.2.2.2.2.2.2.1.2.1 x h1 h2
  rw [← hY.1 x (Or.inr h1)] at hT
  exact va_ti C.1 C.2.1 hT hZ.2.2.1 (mm_ix_spec hin) rfl hd (kk adr ca H locs cells slots ls hZ hY hl hoL (mm_okS_c (v := .int _) trivial (mm_okS_t (mm_okS_t hoS))) hc hs)
theorem mv_alenK (C : mm_C p s m args meth c D xs A adr0 own cc ini) {x : Nat} (h1 : mm_K ≤ x) (h2 : x < mm_K + 4) (hd : decode cc pc = .ok (.arraylength, 1))
    (kk : mm_V p l e R s m args below meth c D A adr0 ca0 n0 cb sb Q (pc + 1) L (.int (Int32.ofNat (mm_ca xs x).length) :: S) μ) : mm_V p l e R s m args below meth c D A adr0 ca0 n0 cb sb Q pc L (.ref x :: S) μ := by
  intro adr ca H locs cells slots ls hZ hY hl hoL hoS hc hs
  have hT := C.2.2.2.2.2.2.1.2.1 x h1 h2
  rw [← hY.1 x (Or.inr h1)] at hT
  exact va_tlen C.1 C.2.1 hT hZ.2.2.1 rfl hd (kk adr ca H locs cells slots ls hZ hY hl hoL (mm_okS_c (v := .int _) trivial (mm_okS_t hoS)) hc hs)
theorem mv_gets (C : mm_C p s m args meth c D xs A adr0 own cc ini) {idx : Nat} {q : Nat × Nat} (hg : mm_gs own idx = some q) (hd : decode cc pc = .ok (.getstatic idx, 3))
    (kk : mm_V p l e R s m args below meth c D A adr0 ca0 n0 cb sb Q (pc + 3) L (.ref (mm_K + 1 + q.1) :: S) μ) : mm_V p l e R s m args below meth c D A adr0 ca0 n0 cb sb Q pc L S μ := by
  intro adr ca H locs cells slots ls hZ hY hl hoL hoS hc hs
  have hj : q.1 < 3 := by
    have h1 := List.all_eq_true.mp mm_gx_ok _ (mm_gs_spec hg)
    exact of_decide_eq_true h1
  have hT := C.2.2.2.2.2.2.1.1 q.1 hj
  rw [← hY.1 (mm_K + 1 + q.1) (Or.inr (by omega))] at hT
  have hok : mm_ok μ (.ref (mm_K + 1 + q.1)) := by
    show mm_K + 1 + q.1 < mm_next μ ∨ (mm_K ≤ mm_K + 1 + q.1 ∧ mm_K + 1 + q.1 < mm_K + 4)
    exact Or.inr ⟨by omega, by omega⟩
  have hkk := kk adr ca H locs cells slots ls hZ hY hl hoL (mm_okS_c hok hoS) hc hs
  have hP := mm_gst_ok _ (mm_gs_spec hg)
  unfold mm_gsP at hP
  dsimp only at hP
  split at hP
  · exact va_gets C.1 C.2.1 hT hZ.2.2.1 C.2.2.1 (C.2.2.2.1 _ hP) (fun _ h => h) hd hkk
  · exact va_getsN C.1 C.2.1 hT hZ.2.2.1 C.2.2.1 (C.2.2.2.1 _ hP) (fun _ h => h) hd hkk
end CELLS
