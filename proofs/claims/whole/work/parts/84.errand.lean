/-! ===== errand and veil of the model ===== -/
/-- a question leaves these alone -/
def uf (d d2 : mm_D) : Prop := (∀ c, c ≠ 250 → c ≠ 259 → c ≠ 260 → c ≠ 268 → c ≠ 269 → c ≠ 270 → c ≠ 274 → c ≠ 275 → c ≠ 278 → c ≠ 279 → d2 c = d c) ∧ ∀ j, j ≠ 32 → j ≠ 38 → j ≠ 45 → d2 250 j = d 250 j
theorem uf_refl (d : mm_D) : uf d d := ⟨fun _ _ _ _ _ _ _ _ _ _ _ => rfl, fun _ _ _ _ => rfl⟩
theorem uf_trans {d d1 d2 : mm_D} (h : uf d d1) (h' : uf d1 d2) : uf d d2 := ⟨fun c a1 a2 a3 a4 a5 a6 a7 a8 a9 a0 => (h'.1 c a1 a2 a3 a4 a5 a6 a7 a8 a9 a0).trans (h.1 c a1 a2 a3 a4 a5 a6 a7 a8 a9 a0), fun j a1 a2 a3 => (h'.2 j a1 a2 a3).trans (h.2 j a1 a2 a3)⟩
theorem uf_qf {d d2 : mm_D} (h : qf d d2) : uf d d2 := ⟨fun c a1 a2 a3 a4 a5 a6 a7 a8 _ _ => h.1 c a1 a2 a3 a4 a5 a6 a7 a8, h.2⟩
theorem MR_uf {d d2 : mm_D} {T : wo_T} {o : wo_O} (hR : MR d T o) (h : uf d d2) : MR d2 T o := MR_eq hR (fun c h1 h2 h3 h4 => h.1 c (by omega) h3 h4 (by omega) (by omega) (by omega) (by omega) (by omega) (by omega) (by omega)) (fun j hj => h.2 j (by omega) (by omega) (by omega))
/-- and all but one slot of one row -/
def wq (t s : Nat) (d d2 : mm_D) : Prop := (∀ c, c ≠ 250 → c ≠ 259 → c ≠ 260 → c ≠ 268 → c ≠ 269 → c ≠ 270 → c ≠ 274 → c ≠ 275 → c ≠ 278 → c ≠ 279 → c ≠ t → d2 c = d c) ∧ (∀ j, j ≠ s → d2 t j = d t j) ∧ ∀ j, j ≠ 32 → j ≠ 38 → j ≠ 45 → d2 250 j = d 250 j
theorem wq_refl (t s : Nat) (d : mm_D) : wq t s d d := ⟨fun _ _ _ _ _ _ _ _ _ _ _ _ => rfl, fun _ _ => rfl, fun _ _ _ _ => rfl⟩
theorem wq_uf {t s : Nat} {d d1 d2 : mm_D} (ht : t = 264 ∨ t = 265) (h : wq t s d d1) (h' : uf d1 d2) : wq t s d d2 := ⟨fun c a1 a2 a3 a4 a5 a6 a7 a8 a9 a0 b => (h'.1 c a1 a2 a3 a4 a5 a6 a7 a8 a9 a0).trans (h.1 c a1 a2 a3 a4 a5 a6 a7 a8 a9 a0 b), fun j a1 => by rw [h'.1 t (by omega) (by omega) (by omega) (by omega) (by omega) (by omega) (by omega) (by omega) (by omega) (by omega)]; exact h.2.1 j a1, fun j a1 a2 a3 => (h'.2 j a1 a2 a3).trans (h.2.2 j a1 a2 a3)⟩
theorem wq_up {t s : Nat} {d d1 : mm_D} {x : Int32} (ht : t = 264 ∨ t = 265) (h : wq t s d d1) : wq t s d (mm_up d1 t s x) := ⟨fun c a1 a2 a3 a4 a5 a6 a7 a8 a9 a0 b => (mm_up_ne b).trans (h.1 c a1 a2 a3 a4 a5 a6 a7 a8 a9 a0 b), fun j a1 => ((mm_up_at j).trans (if_neg a1)).trans (h.2.1 j a1), fun j a1 a2 a3 => (congrFun (mm_up_ne (by omega)) j).trans (h.2.2 j a1 a2 a3)⟩
theorem wq_fin {t s : Nat} {d d1 : mm_D} {x : Int32} (ht : t = 264 ∨ t = 265) (h : wq t s d d1) (hx : d t s = x) : uf d (mm_up d1 t s x) := ⟨fun c a1 a2 a3 a4 a5 a6 a7 a8 a9 a0 => by
  by_cases q : c = t
  · subst q
    funext j
    by_cases w : j = s
    · rw [w, hx]; exact (mm_up_at s).trans (if_pos rfl)
    · exact ((mm_up_at j).trans (if_neg w)).trans (h.2.1 j w)
  · exact (mm_up_ne q).trans (h.1 c a1 a2 a3 a4 a5 a6 a7 a8 a9 a0 q), fun j a1 a2 a3 => (congrFun (mm_up_ne (by omega)) j).trans (h.2.2 j a1 a2 a3)⟩
theorem hM_row {t s : Nat} {d : mm_D} {x : Int32} {B : wo_A} (h : hM d B) (ht : t = 264 ∨ t = 265) : hM (mm_up d t s x) B := by
  refine ⟨(congrFun (mm_up_ne (by omega)) 32).trans h.1, fun b hb => ?_⟩
  rw [mm_up_ne (by omega), mm_up_ne (by omega)]
  exact h.2 b hb
theorem MR_mv {d d1 : mm_D} {T : wo_T} {p : Nat} (hR : MR d T (o0 T)) (hp : p < tnp T) (h : wq 264 (4 * p) d d1) (hf : d 267 p = -1) (hs : ∀ f m, onC m f (d 264 (4 * p + 1)) (d 264 (4 * p + 2)) = tsp T p f m) (x : Int32) : MR (mm_up d1 264 (4 * p) x) T (mvO T p x) := by
  obtain ⟨n6, n2, nb0, e26, e27, e35, e36, hdis, hlk, hfar, hbel, hfog⟩ := hR
  have hu := wq_up (x := x) (Or.inl rfl) h
  generalize hD : mm_up d1 264 (4 * p) x = D at hu
  have hx : D 264 (4 * p) = x := by rw [← hD]; exact (mm_up_at _).trans (if_pos rfl)
  obtain ⟨u1, u2, u3⟩ := hu
  have ec : ∀ c, 252 ≤ c → c < 268 → c ≠ 259 → c ≠ 260 → c ≠ 264 → D c = d c := fun c a1 a2 a3 a4 a5 => u1 c (by omega) a3 a4 (by omega) (by omega) (by omega) (by omega) (by omega) (by omega) (by omega) a5
  have e5 : ∀ j, j ≠ 32 → j ≠ 38 → j ≠ 45 → D 250 j = d 250 j := u3
  refine ⟨n6, n2, nb0, by rw [e5 26 (by decide) (by decide) (by decide)]; exact e26, by rw [e5 27 (by decide) (by decide) (by decide)]; exact e27, by rw [e5 35 (by decide) (by decide) (by decide)]; exact e35, by rw [e5 36 (by decide) (by decide) (by decide)]; exact e36, Or.inl rfl, fun q hq => ?_, fun q hq => by rw [u2 _ (by omega)]; exact hfar q hq, by rw [ec 266 (by decide) (by decide) (by decide) (by decide) (by decide)]; exact hbel, by rw [e5 28 (by decide) (by decide) (by decide), ec 265 (by decide) (by decide) (by decide) (by decide) (by decide)]; exact hfog⟩
  by_cases e : q = p
  · subst e
    rcases hlk q hq with ⟨c1, c2, c3⟩ | ⟨w, cl, c0, c1, _⟩
    · refine Or.inl ⟨by rw [ec 267 (by decide) (by decide) (by decide) (by decide) (by decide)]; exact hf, by rw [u2 _ (by omega)]; exact c2, fun m ow => ?_⟩
      rw [hx, u2 _ (by omega), u2 _ (by omega), hs]
      show _ = (if q = q then tsp T q x m else _)
      rw [if_pos rfl]
    · exact absurd (c1.symm.trans hf) (nI_nm1 (by omega))
  · have eb : basT T (mvO T p x) q = basT T (o0 T) q := by
      funext m ow
      show (if q = p then _ else tlk T q m ow) = _
      rw [if_neg e]; rfl
    rw [eb]
    exact mlk_x (fun c a1 a2 a3 a4 a5 _ => ec c a1 a2 a3 a4 a5) (fun _ => u2 _ (by omega)) (u2 _ (by omega)) (u2 _ (by omega)) (u2 _ (by omega)) (hlk q hq)
theorem MR_vw {d d1 : mm_D} {T : wo_T} (hR : MR d T (o0 T)) (h : wq 265 3 d d1) (hf : d 250 28 = 1) (x : Int32) : MR (mm_up d1 265 3 x) T (vwO x) := by
  obtain ⟨n6, n2, nb0, e26, e27, e35, e36, hdis, hlk, hfar, hbel, hfog⟩ := hR
  have hu := wq_up (x := x) (Or.inr rfl) h
  generalize hD : mm_up d1 265 3 x = D at hu
  have hx : D 265 3 = x := by rw [← hD]; exact (mm_up_at _).trans (if_pos rfl)
  obtain ⟨u1, u2, u3⟩ := hu
  have ec : ∀ c, 252 ≤ c → c < 268 → c ≠ 259 → c ≠ 260 → c ≠ 265 → D c = d c := fun c a1 a2 a3 a4 a5 => u1 c (by omega) a3 a4 (by omega) (by omega) (by omega) (by omega) (by omega) (by omega) (by omega) a5
  have e5 : ∀ j, j ≠ 32 → j ≠ 38 → j ≠ 45 → D 250 j = d 250 j := u3
  have e264 := ec 264 (by decide) (by decide) (by decide) (by decide) (by decide)
  refine ⟨n6, n2, nb0, by rw [e5 26 (by decide) (by decide) (by decide)]; exact e26, by rw [e5 27 (by decide) (by decide) (by decide)]; exact e27, by rw [e5 35 (by decide) (by decide) (by decide)]; exact e35, by rw [e5 36 (by decide) (by decide) (by decide)]; exact e36, Or.inl rfl, fun q hq => ?_, fun q hq => by rw [e264]; exact hfar q hq, by rw [ec 266 (by decide) (by decide) (by decide) (by decide) (by decide)]; exact hbel, ?_⟩
  · exact mlk_x (fun c a1 a2 a3 a4 _ a5 => ec c a1 a2 a3 a4 a5) (fun _ => by rw [e264]) (by rw [e264]) (by rw [e264]) (by rw [e264]) (hlk q hq)
  · rw [e5 28 (by decide) (by decide) (by decide), u2 0 (by decide), u2 1 (by decide), u2 2 (by decide), hx]
    rcases hfog with ⟨f0, _⟩ | ⟨f0, f1, f2, _⟩
    · exact absurd (f0.symm.trans hf) (by decide)
    · exact Or.inr ⟨f0, f1, f2, rfl⟩
theorem m_err_l {xs : List Int32} {ext : mm_X} {n : Nat} {sh : mm_S} {d : mm_D} {g : mm_G} {r : mm_R} {T : wo_T} {B : wo_A} (hsh : shp sh) (hr : rfx r) (hR : MR d T (o0 T)) {N p : Nat} (w wa : Int32) (hwa : d 264 (4 * p) = wa) (hN : N < 2 ^ 31) (hp : p < tnp T) (hf : d 267 p = -1) (hs : ∀ f m, onC m f (d 264 (4 * p + 1)) (d 264 (4 * p + 2)) = tsp T p f m) : ∀ (z k : Nat) (d1 : mm_D) (u6 : Option Value), z + k = 60 → wq 264 (4 * p) d d1 → hM d1 B → wp xs ext (n + 10) 210 56 [some (.ref 250), some (.int (nI p)), some (.int (nI N)), some (.int w), some (.int wa), some (.int (obA (fun f => lateA T (mvO T p (nI f)) B 0 N) k).1), some (.int (obA (fun f => lateA T (mvO T p (nI f)) B 0 N) k).2), some (.int (nI k)), u6] [] (sh, d1, g, r) (fun v μ => v = some (.int (if w = 0 then (obA (fun f => lateA T (mvO T p (nI f)) B 0 N) 60).1 else (obA (fun f => lateA T (mvO T p (nI f)) B 0 N) 60).2)) ∧ ∃ d2, μ = (sh, d2, g, r) ∧ uf d d2 ∧ hM d2 B) := by
  have h6 := hR.1
  intro z
  induction z with
  | zero =>
    intro k d1 u6 hz ht hM1
    have hvb : k = 60 := by omega
    subst hvb
    refine wp_iload (j := 7) rfl q210_ok d210_56 ?_
    refine wp_bipush (v := 60) (by decide) q210_ok d210_58 ?_
    refine wp_icmp_ge q210_ok d210_60 (t := 108) rfl (fun h60 => ?_) (fun h60 => ?_)
    · refine wp_aload_n (j := 0) rfl q210_ok d210_108 ?_
      refine wp_getR q210_ok d210_109 fl_11_49 rfl (by first | assumption | exact so0 hsh rfl) (by first | assumption | exact hr _ _ _ rfl) ?_
      refine wp_iconst (v := 4) (by decide) q210_ok d210_112 ?_
      refine wp_iload_n (j := 1) rfl q210_ok d210_113 ?_
      refine wp_imul rfl q210_ok d210_114 ?_
      refine wp_iload (j := 4) rfl q210_ok d210_115 ?_
      refine wp_iast (m := 24) q210_ok d210_117 (by first | assumption | exact so0 hsh rfl) (shl hsh (m := 24) (Nat.le_of_ble_eq_true rfl) rfl) (show ixn (4 * nI p) (4 * p) 24 from by rw [show (4 : Int32) * nI p = nI (4 * p) from (Int32.ofNat_mul 4 p).symm]; exact ixn_nI (by omega)) ?_
      refine wp_iload_n (j := 3) rfl q210_ok d210_118 ?_
      refine wp_if_ne q210_ok d210_119 (t := 127) rfl (fun h119 => ?_) (fun h119 => ?_)
      · refine wp_iload (j := 6) rfl q210_ok d210_127 ?_
        refine wp_iret q210_ok d210_129 rfl ?_
        exact ⟨by rw [if_neg h119], _, rfl, wq_fin (Or.inl rfl) ht hwa, hM_row hM1 (Or.inl rfl)⟩
      · have h119 := Classical.not_not.mp h119
        refine wp_iload (j := 5) rfl q210_ok d210_122 ?_
        refine wp_goto (t := 129) rfl q210_ok d210_124 ?_
        refine wp_iret q210_ok d210_129 rfl ?_
        exact ⟨by rw [if_pos h119], _, rfl, wq_fin (Or.inl rfl) ht hwa, hM_row hM1 (Or.inl rfl)⟩
    · exact absurd (nI_le (Nat.le_refl _) (by decide)) h60
  | succ z ih =>
    intro k d1 u6 hz ht hM1
    have hlt : k < 60 := by omega
    refine wp_iload (j := 7) rfl q210_ok d210_56 ?_
    refine wp_bipush (v := 60) (by decide) q210_ok d210_58 ?_
    refine wp_icmp_ge q210_ok d210_60 (t := 108) rfl (fun h60 => ?_) (fun h60 => ?_)
    · exact absurd h60 (nI_ge hlt (by decide))
    · refine wp_aload_n (j := 0) rfl q210_ok d210_63 ?_
      refine wp_getR q210_ok d210_64 fl_11_49 rfl (by first | assumption | exact so0 hsh rfl) (by first | assumption | exact hr _ _ _ rfl) ?_
      refine wp_iconst (v := 4) (by decide) q210_ok d210_67 ?_
      refine wp_iload_n (j := 1) rfl q210_ok d210_68 ?_
      refine wp_imul rfl q210_ok d210_69 ?_
      refine wp_iload (j := 7) rfl q210_ok d210_70 ?_
      refine wp_iast (m := 24) q210_ok d210_72 (by first | assumption | exact so0 hsh rfl) (shl hsh (m := 24) (Nat.le_of_ble_eq_true rfl) rfl) (show ixn (4 * nI p) (4 * p) 24 from by rw [show (4 : Int32) * nI p = nI (4 * p) from (Int32.ofNat_mul 4 p).symm]; exact ixn_nI (by omega)) ?_
      refine wp_aload_n (j := 0) rfl q210_ok d210_73 ?_
      refine wp_iconst (v := 0) (by decide) q210_ok d210_74 ?_
      refine wp_iload_n (j := 2) rfl q210_ok d210_75 ?_
      refine wp_cV q210_ok d210_76 ml_11_365 rfl q200_ok (u := 11) rfl (by first | assumption | exact so0 hsh rfl) rfl (Nat.le_of_ble_eq_true rfl) (Nat.le_of_ble_eq_true rfl) (m_lateOf (n := n) (b := 0) hsh hr (MR_mv hR hp ht hf hs (nI k)) (hM_row hM1 (Or.inl rfl)) hN (by decide)) (fun v76 μ76 hc => ?_)
      obtain ⟨rfl, d2, rfl, f2, hM2⟩ := hc
      refine ⟨mm_le_same rfl, ?_⟩
      refine wp_istore (j := 8) (Nat.le_of_ble_eq_true rfl) (rfl : _ = [_, _, _, _, _, _, _, _, _]) q210_ok d210_79 ?_
      refine wp_iload (j := 5) rfl q210_ok d210_81 ?_
      refine wp_iconst (v := -1) (by decide) q210_ok d210_83 ?_
      refine wp_icmp_eq q210_ok d210_84 (t := 94) rfl (fun h84 => ?_) (fun h84 => ?_)
      · refine wp_iload (j := 7) rfl q210_ok d210_94 ?_
        refine wp_istore (j := 5) (Nat.le_of_ble_eq_true rfl) (rfl : _ = [_, _, _, _, _, _, _, _, _]) q210_ok d210_96 ?_
        refine wp_iload (j := 8) rfl q210_ok d210_98 ?_
        refine wp_istore (j := 6) (Nat.le_of_ble_eq_true rfl) (rfl : _ = [_, _, _, _, _, _, _, _, _]) q210_ok d210_100 ?_
        refine wp_iinc (j := 7) rfl (by first | exact inc1 | rfl) (rfl : _ = [_, _, _, _, _, _, _, _, _]) q210_ok d210_102 ?_
        refine wp_goto (t := 56) rfl q210_ok d210_105 ?_
        have this := ih (k + 1) d2 (some (.int (lateA T (mvO T p (nI k)) B 0 N))) (by omega) (wq_uf (Or.inl rfl) (wq_up (Or.inl rfl) ht) (uf_qf f2)) hM2
        rw [obA, if_pos (Or.inl h84)] at this
        exact this
      · refine wp_iload (j := 8) rfl q210_ok d210_87 ?_
        refine wp_iload (j := 6) rfl q210_ok d210_89 ?_
        refine wp_icmp_ge q210_ok d210_91 (t := 102) rfl (fun h91 => ?_) (fun h91 => ?_)
        · refine wp_iinc (j := 7) rfl (by first | exact inc1 | rfl) (rfl : _ = [_, _, _, _, _, _, _, _, _]) q210_ok d210_102 ?_
          refine wp_goto (t := 56) rfl q210_ok d210_105 ?_
          have this := ih (k + 1) d2 (some (.int (lateA T (mvO T p (nI k)) B 0 N))) (by omega) (wq_uf (Or.inl rfl) (wq_up (Or.inl rfl) ht) (uf_qf f2)) hM2
          rw [obA, if_neg (by rintro (q | q); exact h84 q; exact Int32.not_lt.mpr h91 q)] at this
          exact this
        · refine wp_iload (j := 7) rfl q210_ok d210_94 ?_
          refine wp_istore (j := 5) (Nat.le_of_ble_eq_true rfl) (rfl : _ = [_, _, _, _, _, _, _, _, _]) q210_ok d210_96 ?_
          refine wp_iload (j := 8) rfl q210_ok d210_98 ?_
          refine wp_istore (j := 6) (Nat.le_of_ble_eq_true rfl) (rfl : _ = [_, _, _, _, _, _, _, _, _]) q210_ok d210_100 ?_
          refine wp_iinc (j := 7) rfl (by first | exact inc1 | rfl) (rfl : _ = [_, _, _, _, _, _, _, _, _]) q210_ok d210_102 ?_
          refine wp_goto (t := 56) rfl q210_ok d210_105 ?_
          have this := ih (k + 1) d2 (some (.int (lateA T (mvO T p (nI k)) B 0 N))) (by omega) (wq_uf (Or.inl rfl) (wq_up (Or.inl rfl) ht) (uf_qf f2)) hM2
          rw [obA, if_pos (Or.inr (Int32.not_le.mp h91))] at this
          exact this
theorem m_errand {xs : List Int32} {ext : mm_X} {n : Nat} {sh : mm_S} {d : mm_D} {g : mm_G} {r : mm_R} {T : wo_T} {B : wo_A} (hsh : shp sh) (hr : rfx r) (hR : MR d T (o0 T)) (hB : hM d B) (hbn : tnb T ≠ 0 → tnp T ≠ 0) {fr : Nat → Bool} (hfr : ∀ p, p < tnp T → (d 267 p = -1 ↔ fr p = true)) (hs : ∀ p, p < tnp T → ∀ f m, onC m f (d 264 (4 * p + 1)) (d 264 (4 * p + 2)) = tsp T p f m) (i n1 w : Int32) : wp xs ext (n + 11) 210 0 [some (.ref 250), some (.int i), some (.int n1), some (.int w), none, none, none, none, none] [] (sh, d, g, r) (fun v μ => v = some (.int (errandQ T B fr i n1 w)) ∧ ∃ d2, μ = (sh, d2, g, r) ∧ uf d d2 ∧ hM d2 B) := by
  refine wp_aload_n (j := 0) rfl q210_ok d210_0 ?_
  refine wp_iload_n (j := 1) rfl q210_ok d210_1 ?_
  refine wp_cV q210_ok d210_2 ml_11_324 rfl q177_ok (u := 11) rfl (by first | assumption | exact so0 hsh rfl) rfl (Nat.le_of_ble_eq_true rfl) (Nat.le_of_ble_eq_true rfl) (m_isPerson hsh hr _) (fun v2 μ2 hc => ?_)
  obtain ⟨rfl, rfl⟩ := hc
  refine ⟨mm_le_same rfl, ?_⟩
  rw [mper_v hR i]
  by_cases cp : perT T i
  · have hh : hasT T := by have := per_lt cp hR.1; intro q; omega
    have hip : i.toNatClampNeg < tnp T := per_lt cp hR.1
    have hie := nI_ofn cp.1
    generalize hic : i.toNatClampNeg = p at hip hie
    rw [if_pos cp]
    refine wp_if_eq q210_ok d210_5 (t := 35) rfl (fun h5 => ?_) (fun h5 => ?_)
    · exact absurd h5 (by decide)
    · refine wp_aload_n (j := 0) rfl q210_ok d210_8 ?_
      refine wp_getR q210_ok d210_9 fl_11_58 rfl (by first | assumption | exact so0 hsh rfl) (by first | assumption | exact hr _ _ _ rfl) ?_
      refine wp_iload_n (j := 1) rfl q210_ok d210_12 ?_
      refine wp_iald (m := 6) q210_ok d210_13 (by first | assumption | exact so0 hsh rfl) (shl hsh (m := 6) (Nat.le_of_ble_eq_true rfl) rfl) (show ixn i p 6 from by rw [hie]; exact ixn_nI (by have := hR.1; omega)) (by first | assumption | rfl) ?_ (shK hsh)
      refine wp_iconst (v := -1) (by decide) q210_ok d210_14 ?_
      refine wp_icmp_ne q210_ok d210_15 (t := 35) rfl (fun h15 => ?_) (fun h15 => ?_)
      · refine wp_iconst (v := -1) (by decide) q210_ok d210_35 ?_
        refine wp_iret q210_ok d210_36 rfl ?_
        exact ⟨by unfold errandQ; rw [if_neg (fun q => h15 ((hfr p hip).mpr (by rw [← hic]; exact q.2)))], d, rfl, uf_refl d, hB⟩
      · have h15 := Classical.not_not.mp h15
        have c0 : spT T fr i := ⟨cp, by rw [hic]; exact (hfr p hip).mp h15⟩
        refine wp_aload_n (j := 0) rfl q210_ok d210_18 ?_
        refine wp_iload_n (j := 2) rfl q210_ok d210_19 ?_
        refine wp_cV q210_ok d210_20 ml_11_337 rfl q192_ok (u := 11) rfl (by first | assumption | exact so0 hsh rfl) rfl (Nat.le_of_ble_eq_true rfl) (Nat.le_of_ble_eq_true rfl) (m_are hsh hr _) (fun v20 μ20 hc => ?_)
        obtain ⟨rfl, rfl⟩ := hc
        refine ⟨mm_le_same rfl, ?_⟩
        rw [mare_v hR n1]
        by_cases c1 : ahdT n1
        · rw [if_pos ⟨hh, c1⟩]
          refine wp_if_eq q210_ok d210_23 (t := 35) rfl (fun h23 => ?_) (fun h23 => ?_)
          · exact absurd h23 (by decide)
          · refine wp_iload_n (j := 3) rfl q210_ok d210_26 ?_
            refine wp_iconst (v := 0) (by decide) q210_ok d210_27 ?_
            refine wp_iconst (v := 1) (by decide) q210_ok d210_28 ?_
            refine wp_cS q210_ok d210_29 ml_11_218 rfl q133_ok rfl rfl rfl (Nat.le_of_ble_eq_true rfl) (Nat.le_of_ble_eq_true rfl) (m_in _ _ _) (fun v29 μ29 hc => ?_)
            obtain ⟨rfl, rfl⟩ := hc
            refine ⟨mm_le_same rfl, ?_⟩
            by_cases c2 : whT w
            · rw [if_pos c2]
              refine wp_if_ne q210_ok d210_32 (t := 37) rfl (fun h32 => ?_) (fun h32 => ?_)
              · obtain ⟨N, hN1, hN, hNe⟩ := ahd_of (fun e => (ahd_T n1).mp e c1)
                have hNc : n1.toNatClampNeg = N := by rw [hNe]; exact nI_clamp (by omega)
                subst hNe
                subst hie
                have hp6 := hR.1
                refine wp_aload_n (j := 0) rfl q210_ok d210_37 ?_
                refine wp_getR q210_ok d210_38 fl_11_49 rfl (by first | assumption | exact so0 hsh rfl) (by first | assumption | exact hr _ _ _ rfl) ?_
                refine wp_iconst (v := 4) (by decide) q210_ok d210_41 ?_
                refine wp_iload_n (j := 1) rfl q210_ok d210_42 ?_
                refine wp_imul rfl q210_ok d210_43 ?_
                refine wp_iald (m := 24) q210_ok d210_44 (by first | assumption | exact so0 hsh rfl) (shl hsh (m := 24) (Nat.le_of_ble_eq_true rfl) rfl) (show ixn (4 * nI p) (4 * p) 24 from by rw [show (4 : Int32) * nI p = nI (4 * p) from (Int32.ofNat_mul 4 p).symm]; exact ixn_nI (by omega)) (by first | assumption | rfl) ?_ (shK hsh)
                refine wp_istore (j := 4) (Nat.le_of_ble_eq_true rfl) (rfl : _ = [_, _, _, _, _, _, _, _, _]) q210_ok d210_45 ?_
                refine wp_iconst (v := -1) (by decide) q210_ok d210_47 ?_
                refine wp_istore (j := 5) (Nat.le_of_ble_eq_true rfl) (rfl : _ = [_, _, _, _, _, _, _, _, _]) q210_ok d210_48 ?_
                refine wp_iconst (v := 0) (by decide) q210_ok d210_50 ?_
                refine wp_istore (j := 6) (Nat.le_of_ble_eq_true rfl) (rfl : _ = [_, _, _, _, _, _, _, _, _]) q210_ok d210_51 ?_
                refine wp_iconst (v := 0) (by decide) q210_ok d210_53 ?_
                refine wp_istore (j := 7) (Nat.le_of_ble_eq_true rfl) (rfl : _ = [_, _, _, _, _, _, _, _, _]) q210_ok d210_54 ?_
                refine wp_post (m_err_l hsh hr hR w _ rfl (show N < 2 ^ 31 by omega) hip h15 (hs p hip) 60 0 d none (by omega) (wq_refl _ _ d) hB) (fun v μ hc => ?_)
                obtain ⟨rfl, d9, rfl, q9, hM9⟩ := hc
                exact ⟨by unfold errandQ; rw [if_pos c0, if_pos c1, if_pos c2, hic, hNc], d9, rfl, q9, hM9⟩
              · have h32 := Classical.not_not.mp h32
                exact absurd h32 (by decide)
            · rw [if_neg c2]
              refine wp_if_ne q210_ok d210_32 (t := 37) rfl (fun h32 => ?_) (fun h32 => ?_)
              · exact absurd rfl h32
              · have h32 := Classical.not_not.mp h32
                refine wp_iconst (v := -1) (by decide) q210_ok d210_35 ?_
                refine wp_iret q210_ok d210_36 rfl ?_
                exact ⟨by unfold errandQ; rw [if_pos c0, if_pos c1, if_neg c2], d, rfl, uf_refl d, hB⟩
        · rw [if_neg (fun q => c1 q.2)]
          refine wp_if_eq q210_ok d210_23 (t := 35) rfl (fun h23 => ?_) (fun h23 => ?_)
          · refine wp_iconst (v := -1) (by decide) q210_ok d210_35 ?_
            refine wp_iret q210_ok d210_36 rfl ?_
            exact ⟨by unfold errandQ; rw [if_pos c0, if_neg c1], d, rfl, uf_refl d, hB⟩
          · exact absurd rfl h23
  · rw [if_neg cp]
    refine wp_if_eq q210_ok d210_5 (t := 35) rfl (fun h5 => ?_) (fun h5 => ?_)
    · refine wp_iconst (v := -1) (by decide) q210_ok d210_35 ?_
      refine wp_iret q210_ok d210_36 rfl ?_
      exact ⟨by unfold errandQ; rw [if_neg (fun q => cp q.1)], d, rfl, uf_refl d, hB⟩
    · exact absurd rfl h5
theorem m_vei_l {xs : List Int32} {ext : mm_X} {n : Nat} {sh : mm_S} {d : mm_D} {g : mm_G} {r : mm_R} {T : wo_T} {B : wo_A} (hsh : shp sh) (hr : rfx r) (hR : MR d T (o0 T)) {N : Nat} (w wa : Int32) (hwa : d 265 3 = wa) (hN : N < 2 ^ 31) (hf : d 250 28 = 1) : ∀ (z k : Nat) (d1 : mm_D) (u6 : Option Value), z + k = 10 → wq 265 3 d d1 → hM d1 B → wp xs ext (n + 10) 215 42 [some (.ref 250), some (.int (nI N)), some (.int w), some (.int wa), some (.int (obA (fun v => lateA T (vwO (nI v)) B 0 N) k).1), some (.int (obA (fun v => lateA T (vwO (nI v)) B 0 N) k).2), some (.int (nI k)), u6] [] (sh, d1, g, r) (fun v μ => v = some (.int (if w = 0 then (obA (fun v => lateA T (vwO (nI v)) B 0 N) 10).1 else (obA (fun v => lateA T (vwO (nI v)) B 0 N) 10).2)) ∧ ∃ d2, μ = (sh, d2, g, r) ∧ uf d d2 ∧ hM d2 B) := by
  intro z
  induction z with
  | zero =>
    intro k d1 u6 hz ht hM1
    have hvb : k = 10 := by omega
    subst hvb
    refine wp_iload (j := 6) rfl q215_ok d215_42 ?_
    refine wp_bipush (v := 10) (by decide) q215_ok d215_44 ?_
    refine wp_icmp_ge q215_ok d215_46 (t := 92) rfl (fun h46 => ?_) (fun h46 => ?_)
    · refine wp_aload_n (j := 0) rfl q215_ok d215_92 ?_
      refine wp_getR q215_ok d215_93 fl_11_52 rfl (by first | assumption | exact so0 hsh rfl) (by first | assumption | exact hr _ _ _ rfl) ?_
      refine wp_iconst (v := 3) (by decide) q215_ok d215_96 ?_
      refine wp_iload_n (j := 3) rfl q215_ok d215_97 ?_
      refine wp_iast (m := 4) q215_ok d215_98 (by first | assumption | exact so0 hsh rfl) (shl hsh (m := 4) (Nat.le_of_ble_eq_true rfl) rfl) (ixn_nI (j := 3) (by decide)) ?_
      refine wp_iload_n (j := 2) rfl q215_ok d215_99 ?_
      refine wp_if_ne q215_ok d215_100 (t := 108) rfl (fun h100 => ?_) (fun h100 => ?_)
      · refine wp_iload (j := 5) rfl q215_ok d215_108 ?_
        refine wp_iret q215_ok d215_110 rfl ?_
        exact ⟨by rw [if_neg h100], _, rfl, wq_fin (Or.inr rfl) ht hwa, hM_row hM1 (Or.inr rfl)⟩
      · have h100 := Classical.not_not.mp h100
        refine wp_iload (j := 4) rfl q215_ok d215_103 ?_
        refine wp_goto (t := 110) rfl q215_ok d215_105 ?_
        refine wp_iret q215_ok d215_110 rfl ?_
        exact ⟨by rw [if_pos h100], _, rfl, wq_fin (Or.inr rfl) ht hwa, hM_row hM1 (Or.inr rfl)⟩
    · exact absurd (nI_le (Nat.le_refl _) (by decide)) h46
  | succ z ih =>
    intro k d1 u6 hz ht hM1
    have hlt : k < 10 := by omega
    refine wp_iload (j := 6) rfl q215_ok d215_42 ?_
    refine wp_bipush (v := 10) (by decide) q215_ok d215_44 ?_
    refine wp_icmp_ge q215_ok d215_46 (t := 92) rfl (fun h46 => ?_) (fun h46 => ?_)
    · exact absurd h46 (nI_ge hlt (by decide))
    · refine wp_aload_n (j := 0) rfl q215_ok d215_49 ?_
      refine wp_getR q215_ok d215_50 fl_11_52 rfl (by first | assumption | exact so0 hsh rfl) (by first | assumption | exact hr _ _ _ rfl) ?_
      refine wp_iconst (v := 3) (by decide) q215_ok d215_53 ?_
      refine wp_iload (j := 6) rfl q215_ok d215_54 ?_
      refine wp_iast (m := 4) q215_ok d215_56 (by first | assumption | exact so0 hsh rfl) (shl hsh (m := 4) (Nat.le_of_ble_eq_true rfl) rfl) (ixn_nI (j := 3) (by decide)) ?_
      refine wp_aload_n (j := 0) rfl q215_ok d215_57 ?_
      refine wp_iconst (v := 0) (by decide) q215_ok d215_58 ?_
      refine wp_iload_n (j := 1) rfl q215_ok d215_59 ?_
      refine wp_cV q215_ok d215_60 ml_11_365 rfl q200_ok (u := 11) rfl (by first | assumption | exact so0 hsh rfl) rfl (Nat.le_of_ble_eq_true rfl) (Nat.le_of_ble_eq_true rfl) (m_lateOf (n := n) (b := 0) hsh hr (MR_vw hR ht hf (nI k)) (hM_row hM1 (Or.inr rfl)) hN (by decide)) (fun v60 μ60 hc => ?_)
      obtain ⟨rfl, d2, rfl, f2, hM2⟩ := hc
      refine ⟨mm_le_same rfl, ?_⟩
      refine wp_istore (j := 7) (Nat.le_of_ble_eq_true rfl) (rfl : _ = [_, _, _, _, _, _, _, _]) q215_ok d215_63 ?_
      refine wp_iload (j := 4) rfl q215_ok d215_65 ?_
      refine wp_iconst (v := -1) (by decide) q215_ok d215_67 ?_
      refine wp_icmp_eq q215_ok d215_68 (t := 78) rfl (fun h68 => ?_) (fun h68 => ?_)
      · refine wp_iload (j := 6) rfl q215_ok d215_78 ?_
        refine wp_istore (j := 4) (Nat.le_of_ble_eq_true rfl) (rfl : _ = [_, _, _, _, _, _, _, _]) q215_ok d215_80 ?_
        refine wp_iload (j := 7) rfl q215_ok d215_82 ?_
        refine wp_istore (j := 5) (Nat.le_of_ble_eq_true rfl) (rfl : _ = [_, _, _, _, _, _, _, _]) q215_ok d215_84 ?_
        refine wp_iinc (j := 6) rfl (by first | exact inc1 | rfl) (rfl : _ = [_, _, _, _, _, _, _, _]) q215_ok d215_86 ?_
        refine wp_goto (t := 42) rfl q215_ok d215_89 ?_
        have this := ih (k + 1) d2 (some (.int (lateA T (vwO (nI k)) B 0 N))) (by omega) (wq_uf (Or.inr rfl) (wq_up (Or.inr rfl) ht) (uf_qf f2)) hM2
        rw [obA, if_pos (Or.inl h68)] at this
        exact this
      · refine wp_iload (j := 7) rfl q215_ok d215_71 ?_
        refine wp_iload (j := 5) rfl q215_ok d215_73 ?_
        refine wp_icmp_ge q215_ok d215_75 (t := 86) rfl (fun h75 => ?_) (fun h75 => ?_)
        · refine wp_iinc (j := 6) rfl (by first | exact inc1 | rfl) (rfl : _ = [_, _, _, _, _, _, _, _]) q215_ok d215_86 ?_
          refine wp_goto (t := 42) rfl q215_ok d215_89 ?_
          have this := ih (k + 1) d2 (some (.int (lateA T (vwO (nI k)) B 0 N))) (by omega) (wq_uf (Or.inr rfl) (wq_up (Or.inr rfl) ht) (uf_qf f2)) hM2
          rw [obA, if_neg (by rintro (q | q); exact h68 q; exact Int32.not_lt.mpr h75 q)] at this
          exact this
        · refine wp_iload (j := 6) rfl q215_ok d215_78 ?_
          refine wp_istore (j := 4) (Nat.le_of_ble_eq_true rfl) (rfl : _ = [_, _, _, _, _, _, _, _]) q215_ok d215_80 ?_
          refine wp_iload (j := 7) rfl q215_ok d215_82 ?_
          refine wp_istore (j := 5) (Nat.le_of_ble_eq_true rfl) (rfl : _ = [_, _, _, _, _, _, _, _]) q215_ok d215_84 ?_
          refine wp_iinc (j := 6) rfl (by first | exact inc1 | rfl) (rfl : _ = [_, _, _, _, _, _, _, _]) q215_ok d215_86 ?_
          refine wp_goto (t := 42) rfl q215_ok d215_89 ?_
          have this := ih (k + 1) d2 (some (.int (lateA T (vwO (nI k)) B 0 N))) (by omega) (wq_uf (Or.inr rfl) (wq_up (Or.inr rfl) ht) (uf_qf f2)) hM2
          rw [obA, if_pos (Or.inr (Int32.not_le.mp h75))] at this
          exact this
theorem m_veil {xs : List Int32} {ext : mm_X} {n : Nat} {sh : mm_S} {d : mm_D} {g : mm_G} {r : mm_R} {T : wo_T} {B : wo_A} (hsh : shp sh) (hr : rfx r) (hR : MR d T (o0 T)) (hB : hM d B) (hbn : tnb T ≠ 0 → tnp T ≠ 0) {hf : Bool} (hfg : d 250 28 = if hf = true then 1 else 0) (n1 w : Int32) : wp xs ext (n + 11) 215 0 [some (.ref 250), some (.int n1), some (.int w), none, none, none, none, none] [] (sh, d, g, r) (fun v μ => v = some (.int (veilQ T B hf n1 w)) ∧ ∃ d2, μ = (sh, d2, g, r) ∧ uf d d2 ∧ hM d2 B) := by
  by_cases hfb : hf = true
  · rw [if_pos hfb] at hfg
    refine wp_aload_n (j := 0) rfl q215_ok d215_0 ?_
    refine wp_iload_n (j := 1) rfl q215_ok d215_1 ?_
    refine wp_cV q215_ok d215_2 ml_11_337 rfl q192_ok (u := 11) rfl (by first | assumption | exact so0 hsh rfl) rfl (Nat.le_of_ble_eq_true rfl) (Nat.le_of_ble_eq_true rfl) (m_are hsh hr _) (fun v2 μ2 hc => ?_)
    obtain ⟨rfl, rfl⟩ := hc
    refine ⟨mm_le_same rfl, ?_⟩
    rw [mare_v hR n1]
    by_cases hh : hasT T
    · skip
      by_cases c0 : ahdT n1
      · rw [if_pos ⟨hh, c0⟩]
        refine wp_if_eq q215_ok d215_5 (t := 24) rfl (fun h5 => ?_) (fun h5 => ?_)
        · exact absurd h5 (by decide)
        · refine wp_aload_n (j := 0) rfl q215_ok d215_8 ?_
          refine wp_getZ q215_ok d215_9 fl_11_271 rfl (by first | assumption | exact so0 hsh rfl) hfg ?_
          refine wp_if_eq q215_ok d215_12 (t := 24) rfl (fun h12 => ?_) (fun h12 => ?_)
          · exact absurd h12 (by decide)
          · refine wp_iload_n (j := 2) rfl q215_ok d215_15 ?_
            refine wp_iconst (v := 0) (by decide) q215_ok d215_16 ?_
            refine wp_iconst (v := 1) (by decide) q215_ok d215_17 ?_
            refine wp_cS q215_ok d215_18 ml_11_218 rfl q133_ok rfl rfl rfl (Nat.le_of_ble_eq_true rfl) (Nat.le_of_ble_eq_true rfl) (m_in _ _ _) (fun v18 μ18 hc => ?_)
            obtain ⟨rfl, rfl⟩ := hc
            refine ⟨mm_le_same rfl, ?_⟩
            by_cases c1 : whT w
            · rw [if_pos c1]
              refine wp_if_ne q215_ok d215_21 (t := 26) rfl (fun h21 => ?_) (fun h21 => ?_)
              · obtain ⟨N, hN1, hN, hNe⟩ := ahd_of (fun e => (ahd_T n1).mp e c0)
                have hNc : n1.toNatClampNeg = N := by rw [hNe]; exact nI_clamp (by omega)
                subst hNe
                refine wp_aload_n (j := 0) rfl q215_ok d215_26 ?_
                refine wp_getR q215_ok d215_27 fl_11_52 rfl (by first | assumption | exact so0 hsh rfl) (by first | assumption | exact hr _ _ _ rfl) ?_
                refine wp_iconst (v := 3) (by decide) q215_ok d215_30 ?_
                refine wp_iald (m := 4) q215_ok d215_31 (by first | assumption | exact so0 hsh rfl) (shl hsh (m := 4) (Nat.le_of_ble_eq_true rfl) rfl) (ixn_nI (j := 3) (by decide)) (by first | assumption | rfl) ?_ (shK hsh)
                refine wp_istore_n (j := 3) (Nat.le_of_ble_eq_true rfl) (rfl : _ = [_, _, _, _, _, _, _, _]) q215_ok d215_32 ?_
                refine wp_iconst (v := -1) (by decide) q215_ok d215_33 ?_
                refine wp_istore (j := 4) (Nat.le_of_ble_eq_true rfl) (rfl : _ = [_, _, _, _, _, _, _, _]) q215_ok d215_34 ?_
                refine wp_iconst (v := 0) (by decide) q215_ok d215_36 ?_
                refine wp_istore (j := 5) (Nat.le_of_ble_eq_true rfl) (rfl : _ = [_, _, _, _, _, _, _, _]) q215_ok d215_37 ?_
                refine wp_iconst (v := 0) (by decide) q215_ok d215_39 ?_
                refine wp_istore (j := 6) (Nat.le_of_ble_eq_true rfl) (rfl : _ = [_, _, _, _, _, _, _, _]) q215_ok d215_40 ?_
                refine wp_post (m_vei_l hsh hr hR w _ rfl (show N < 2 ^ 31 by omega) hfg 10 0 d none (by omega) (wq_refl _ _ d) hB) (fun v μ hc => ?_)
                obtain ⟨rfl, d9, rfl, q9, hM9⟩ := hc
                exact ⟨by unfold veilQ; rw [if_pos hfb, if_pos hh, if_pos c0, if_pos c1, hNc], d9, rfl, q9, hM9⟩
              · have h21 := Classical.not_not.mp h21
                exact absurd h21 (by decide)
            · rw [if_neg c1]
              refine wp_if_ne q215_ok d215_21 (t := 26) rfl (fun h21 => ?_) (fun h21 => ?_)
              · exact absurd rfl h21
              · have h21 := Classical.not_not.mp h21
                refine wp_iconst (v := -1) (by decide) q215_ok d215_24 ?_
                refine wp_iret q215_ok d215_25 rfl ?_
                exact ⟨by unfold veilQ; rw [if_pos hfb, if_pos hh, if_pos c0, if_neg c1], d, rfl, uf_refl d, hB⟩
      · rw [if_neg (fun q => c0 q.2)]
        refine wp_if_eq q215_ok d215_5 (t := 24) rfl (fun h5 => ?_) (fun h5 => ?_)
        · refine wp_iconst (v := -1) (by decide) q215_ok d215_24 ?_
          refine wp_iret q215_ok d215_25 rfl ?_
          exact ⟨by unfold veilQ; rw [if_pos hfb, if_pos hh, if_neg c0], d, rfl, uf_refl d, hB⟩
        · exact absurd rfl h5
    · rw [if_neg (fun q => hh q.1)]
      refine wp_if_eq q215_ok d215_5 (t := 24) rfl (fun h5 => ?_) (fun h5 => ?_)
      · refine wp_iconst (v := -1) (by decide) q215_ok d215_24 ?_
        refine wp_iret q215_ok d215_25 rfl ?_
        exact ⟨by unfold veilQ; rw [if_pos hfb, if_neg hh], d, rfl, uf_refl d, hB⟩
      · exact absurd rfl h5
  · rw [if_neg hfb] at hfg
    refine wp_aload_n (j := 0) rfl q215_ok d215_0 ?_
    refine wp_iload_n (j := 1) rfl q215_ok d215_1 ?_
    refine wp_cV q215_ok d215_2 ml_11_337 rfl q192_ok (u := 11) rfl (by first | assumption | exact so0 hsh rfl) rfl (Nat.le_of_ble_eq_true rfl) (Nat.le_of_ble_eq_true rfl) (m_are hsh hr _) (fun v2 μ2 hc => ?_)
    obtain ⟨rfl, rfl⟩ := hc
    refine ⟨mm_le_same rfl, ?_⟩
    rw [mare_v hR n1]
    have hv0 : veilQ T B hf n1 w = -1 := by unfold veilQ; rw [if_neg hfb]; split <;> rfl
    rw [hv0]
    refine wp_if_eq q215_ok d215_5 (t := 24) rfl (fun h5 => ?_) (fun h5 => ?_)
    · refine wp_iconst (v := -1) (by decide) q215_ok d215_24 ?_
      refine wp_iret q215_ok d215_25 rfl ?_
      exact ⟨rfl, d, rfl, uf_refl d, hB⟩
    · refine wp_aload_n (j := 0) rfl q215_ok d215_8 ?_
      refine wp_getZ q215_ok d215_9 fl_11_271 rfl (by first | assumption | exact so0 hsh rfl) hfg ?_
      refine wp_if_eq q215_ok d215_12 (t := 24) rfl (fun h12 => ?_) (fun h12 => ?_)
      · refine wp_iconst (v := -1) (by decide) q215_ok d215_24 ?_
        refine wp_iret q215_ok d215_25 rfl ?_
        exact ⟨rfl, d, rfl, uf_refl d, hB⟩
      · exact absurd rfl h12
