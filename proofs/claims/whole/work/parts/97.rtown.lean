/-! ===== the model reads a town ===== -/
theorem r_items_1 {xs : List Int32} {ext : mm_X} {n : Nat} {sh : mm_S} {d : mm_D} {g : mm_G} {r : mm_R} {L : wo_P} (hsh : shp sh) (hr : rfx r) {c f k m p : Nat} (hso : so sh c 20) (hm : (sh.2.2.2 c).2 = m) (hm31 : m < 2 ^ 31) (hfm : f + mK k ≤ m) (hc : 251 < c) (hk : k < 3) (hL : tapM d L) (ha : d 250 3 = nI p) (hp : p ≤ L.1) (hp1 : 1 ≤ p) (hw : d 250 4 = -1) : ∀ (z i : Nat) (d1 : mm_D), z + i = mK k → (∀ a, a ≠ c → d1 a = d a) → (∀ j, (j < f ∨ f + mK k ≤ j) → d1 c j = d c j) → (∀ j, j < i → d1 c (f + j) = defI k j) → wp xs ext (n + 3) 171 3 [some (.ref 250), some (.int (chrI k)), some (.ref c), some (.int (nI f)), some (.int (nI (mK k))), some (.int (nI i)), none] [] (sh, d1, g, r) (ipM sh g r L d c f k (itmL L k 160 p 0 (defI k))) := by
  have hm4 := mK4 k
  have h160 := hL.2.1
  intro z
  induction z with
  | zero =>
    intro i d1 hz h1 h2 h3
    have hvb : mK k = i := by omega
    subst hvb
    have e0 : d1 250 = d 250 := h1 250 (by omega)
    have hL1 : tapM d1 L := tapM_x hL (h1 251 (by omega)) (congrFun e0 2)
    have ha1 : d1 250 3 = nI p := (congrFun e0 3).trans ha
    have hwl := wsp_le L hp
    have J : jf c f (mK k) d d1 := ⟨fun a _ b => h1 a b, fun j _ _ => congrFun e0 j, h2⟩
    refine wp_iload (j := 5) rfl q171_ok d171_3 ?_
    refine wp_iload (j := 4) rfl q171_ok d171_5 ?_
    refine wp_icmp_ge q171_ok d171_7 (t := 28) rfl (fun h7 => ?_) (fun h7 => ?_)
    · refine wp_iconst (v := 0) (by decide) q171_ok d171_28 ?_
      refine wp_istore (j := 5) (Nat.le_of_ble_eq_true rfl) (rfl : _ = [_, _, _, _, _, _, _]) q171_ok d171_29 ?_
      refine wp_iload_n (j := 1) rfl q171_ok d171_31 ?_
      refine wp_aload_n (j := 0) rfl q171_ok d171_32 ?_
      refine wp_cV q171_ok d171_33 ml_11_132 rfl q141_ok (u := 11) rfl (by first | assumption | exact so0 hsh rfl) rfl (Nat.le_of_ble_eq_true rfl) (Nat.le_of_ble_eq_true rfl) (m_look hsh hr hL1 ha1 hp) (fun v33 μ33 hc => ?_)
      obtain ⟨rfl, rfl⟩ := hc
      refine ⟨mm_le_same rfl, ?_⟩
      refine wp_cS q171_ok d171_36 ml_11_226 rfl q167_ok rfl rfl rfl (Nat.le_of_ble_eq_true rfl) (Nat.le_of_ble_eq_true rfl) (m_item hk _) (fun v36 μ36 hc => ?_)
      obtain ⟨rfl, rfl⟩ := hc
      refine ⟨mm_le_same rfl, ?_⟩
      refine wp_istore (j := 6) (Nat.le_of_ble_eq_true rfl) (rfl : _ = [_, _, _, _, _, _, _]) q171_ok d171_39 ?_
      exact wp_post (r_items_l hsh hr hso hm hm31 hfm hc hk 160 _ p 0 (defI k) (by omega) (tapM_250 hL1 (by decide)) ((mm_up_at 3).trans (if_pos rfl)) hwl (((mm_up_at 4).trans (if_neg (by decide))).trans ((congrFun e0 4).trans hw)) (fun j hj => by rw [mm_up_ne (by omega)]; exact h3 j hj)) (fun v μ hc2 => ipM_trans (jf_trans J (jf_af (by omega) af_3)) hc2)
    · exact absurd (nI_le (Nat.le_refl _) (by omega)) h7
  | succ z ih =>
    intro i d1 hz h1 h2 h3
    have hlt : i < mK k := by omega
    refine wp_iload (j := 5) rfl q171_ok d171_3 ?_
    refine wp_iload (j := 4) rfl q171_ok d171_5 ?_
    refine wp_icmp_ge q171_ok d171_7 (t := 28) rfl (fun h7 => ?_) (fun h7 => ?_)
    · exact absurd h7 (nI_ge hlt (by omega))
    · refine wp_aload_n (j := 2) rfl q171_ok d171_10 ?_
      refine wp_iload_n (j := 3) rfl q171_ok d171_11 ?_
      refine wp_iload (j := 5) rfl q171_ok d171_12 ?_
      refine wp_iadd (nI_pl f i) q171_ok d171_14 ?_
      refine wp_iload_n (j := 1) rfl q171_ok d171_15 ?_
      refine wp_iload (j := 5) rfl q171_ok d171_16 ?_
      refine wp_cS q171_ok d171_18 ml_11_222 rfl q170_ok rfl rfl rfl (Nat.le_of_ble_eq_true rfl) (Nat.le_of_ble_eq_true rfl) (m_usual hk hlt) (fun v18 μ18 hc => ?_)
      obtain ⟨rfl, rfl⟩ := hc
      refine ⟨mm_le_same rfl, ?_⟩
      refine wp_iast q171_ok d171_21 hso hm (ixn_nI (show f + i < m by omega) hm31) ?_
      refine wp_iinc (j := 5) rfl (by first | exact inc1 | rfl) (rfl : _ = [_, _, _, _, _, _, _]) q171_ok d171_22 ?_
      refine wp_goto (t := 3) rfl q171_ok d171_25 ?_
      refine ih (i + 1) _ (by omega) (fun a h => (mm_up_ne h).trans (h1 a h)) (fun j hj => ?_) (fun j hj => ?_)
      · rw [mm_up_at, if_neg (by omega)]
        exact h2 j hj
      · rw [mm_up_at]
        by_cases q : j = i
        · rw [if_pos (by omega), q]; rfl
        · rw [if_neg (by omega)]
          exact h3 j (by omega)
theorem r_items {xs : List Int32} {ext : mm_X} {n : Nat} {sh : mm_S} {d : mm_D} {g : mm_G} {r : mm_R} {L : wo_P} (hsh : shp sh) (hr : rfx r) {c f k m p : Nat} (hso : so sh c 20) (hm : (sh.2.2.2 c).2 = m) (hm31 : m < 2 ^ 31) (hfm : f + mK k ≤ m) (hc : 251 < c) (hk : k < 3) (hL : tapM d L) (ha : d 250 3 = nI p) (hp : p ≤ L.1) (hp1 : 1 ≤ p) (hw : d 250 4 = -1) : wp xs ext (n + 3) 171 0 [some (.ref 250), some (.int (chrI k)), some (.ref c), some (.int (nI f)), some (.int (nI (mK k))), none, none] [] (sh, d, g, r) (ipM sh g r L d c f k (itmL L k 160 p 0 (defI k))) := by
  refine wp_iconst (v := 0) (by decide) q171_ok d171_0 ?_
  refine wp_istore (j := 5) (Nat.le_of_ble_eq_true rfl) (rfl : _ = [_, _, _, _, _, _, _]) q171_ok d171_1 ?_
  exact r_items_1 hsh hr hso hm hm31 hfm hc hk hL ha hp hp1 hw (mK k) 0 d (by omega) (fun _ _ => rfl) (fun _ _ => rfl) (fun j hj => absurd hj (Nat.not_lt_zero _))
theorem nI_x (a b : Nat) : nI a * nI b = nI (a * b) := (Int32.ofNat_mul a b).symm
/-- the model's town as read so far -/
def rpTM (d : mm_D) (W : wo_W) : Prop := d 250 20 = nI (wnp W) ∧ wnp W ≤ 6 ∧ d 250 21 = nI (wnb W) ∧ wnb W ≤ 2 ∧ (∀ p, p < wnp W → ∀ j, j < 4 → d 261 (4 * p + j) = wper W p j) ∧ (∀ b, b < wnb W → ∀ j, j < 3 → d 263 (3 * b + j) = wbel W b j) ∧ d 250 22 = (if wfg W = true then 1 else 0) ∧ (wfg W = true → ∀ j, j < 4 → d 262 j = wvl W j)
/-- the frame of a town's reading -/
def gfm (d d2 : mm_D) : Prop := (∀ a, a ≠ 250 → a ≠ 261 → a ≠ 262 → a ≠ 263 → d2 a = d a) ∧ ∀ j, j ≠ 3 → j ≠ 4 → j ≠ 20 → j ≠ 21 → j ≠ 22 → d2 250 j = d 250 j
theorem gfm_refl (d : mm_D) : gfm d d := ⟨fun _ _ _ _ _ => rfl, fun _ _ _ _ _ _ => rfl⟩
theorem gfm_trans {d d1 d2 : mm_D} (h : gfm d d1) (h' : gfm d1 d2) : gfm d d2 := ⟨fun a b c e f => (h'.1 a b c e f).trans (h.1 a b c e f), fun j a b c e f => (h'.2 j a b c e f).trans (h.2 j a b c e f)⟩
theorem gfm_af {d d2 : mm_D} (h : af d d2) : gfm d d2 := ⟨fun a b _ _ _ => h.1 a b, fun j a b _ _ _ => h.2 j a b⟩
theorem gfm_jf {c f m : Nat} {d d2 : mm_D} (hc : 261 ≤ c ∧ c ≤ 263) (h : jf c f m d d2) : gfm d d2 := ⟨fun a b e f i => h.1 a b (by omega), fun j a b _ _ _ => h.2.1 j a b⟩
theorem gfm_up {d : mm_D} {k : Nat} {v : Int32} (hk : k = 20 ∨ k = 21 ∨ k = 22) : gfm d (mm_up d 250 k v) := ⟨fun a b _ _ _ => mm_up_ne b, fun j _ _ c e f => (mm_up_at j).trans (if_neg (by omega))⟩
theorem tapM_gf {d d2 : mm_D} {L : wo_P} (h : tapM d L) (hf : gfm d d2) : tapM d2 L := tapM_x h (hf.1 251 (by decide) (by decide) (by decide) (by decide)) (hf.2 2 (by decide) (by decide) (by decide) (by decide) (by decide))
/-- an end of a clause that the town doesn't allow -/
def badT (L : wo_P) (d2 : mm_D) (e : Nat) : Prop := e ≤ L.1 ∧ (d2 250 4 = nI e ∨ (d2 250 4 = -1 ∧ d2 250 3 = nI e ∧ wsp L e = e ∧ ¬ bAt L e = 59 ∧ ¬ bAt L e = -1))
def ctM (sh : mm_S) (g : mm_G) (r : mm_R) (L : wo_P) (d : mm_D) (res : Nat ⊕ (Nat × wo_W)) (v : Option Value) (μ : mm_M) : Prop := v = none ∧ ∃ d2, μ = (sh, d2, g, r) ∧ gfm d d2 ∧ (match res with
  | .inl e => badT L d2 e
  | .inr x => d2 250 4 = -1 ∧ d2 250 3 = nI x.1 ∧ x.1 ≤ L.1 ∧ rpTM d2 x.2)
theorem badT_up {L : wo_P} {d : mm_D} {e k : Nat} {v : Int32} (h : badT L d e) (h3 : 3 ≠ k) (h4 : 4 ≠ k) : badT L (mm_up d 250 k v) e := by
  unfold badT
  rw [mm_up_at, mm_up_at, if_neg h3, if_neg h4]
  exact h
theorem rpTM_x {d d2 : mm_D} {W : wo_W} (h : rpTM d W) (hr : ∀ c, 261 ≤ c → c ≤ 263 → d2 c = d c) (hj : ∀ j, 20 ≤ j → j ≤ 22 → d2 250 j = d 250 j) : rpTM d2 W := by
  unfold rpTM
  rw [hj 20 (by decide) (by decide), hj 21 (by decide) (by decide), hj 22 (by decide) (by decide), hr 261 (by decide) (by decide), hr 262 (by decide) (by decide), hr 263 (by decide) (by decide)]
  exact h
theorem rpTM_addP {d d3 : mm_D} {W : wo_W} {w : Nat → Int32} (h : rpTM d W) (h6 : wnp W < 6) (hj : jf 261 (4 * wnp W) 4 d d3) (hw : ∀ j, j < 4 → d3 261 (4 * wnp W + j) = w j) : rpTM (mm_up d3 250 20 (nI (wnp W + 1))) (addP W w) := by
  obtain ⟨a1, a2, a3, a4, a5, a6, a7, a8⟩ := h
  have e2 : d3 262 = d 262 := hj.1 262 (by decide) (by decide)
  have e3 : d3 263 = d 263 := hj.1 263 (by decide) (by decide)
  have e0 : ∀ j, j ≠ 3 → j ≠ 4 → j ≠ 20 → mm_up d3 250 20 (nI (wnp W + 1)) 250 j = d 250 j := fun j a b c => ((mm_up_at j).trans (if_neg c)).trans (hj.2.1 j a b)
  refine ⟨(mm_up_at 20).trans (if_pos rfl), h6, (e0 21 (by decide) (by decide) (by decide)).trans a3, a4, fun p hp j hj4 => ?_, fun b hb j hj3 => ?_, (e0 22 (by decide) (by decide) (by decide)).trans a7, fun hf j hj4 => ?_⟩
  · have hp : p < wnp W + 1 := hp
    show d3 261 (4 * p + j) = (if p = wnp W then w j else wper W p j)
    by_cases q : p = wnp W
    · rw [if_pos q, q]; exact hw j hj4
    · rw [if_neg q, hj.2.2 (4 * p + j) (by omega)]
      exact a5 p (by omega) j hj4
  · show d3 263 (3 * b + j) = _
    rw [e3]; exact a6 b hb j hj3
  · show d3 262 j = _
    rw [e2]; exact a8 hf j hj4
theorem rpTM_addB {d d3 : mm_D} {W : wo_W} {w : Nat → Int32} (h : rpTM d W) (h2 : wnb W < 2) (hj : jf 263 (3 * wnb W) 3 d d3) (hw : ∀ j, j < 3 → d3 263 (3 * wnb W + j) = w j) : rpTM (mm_up d3 250 21 (nI (wnb W + 1))) (addB W w) := by
  obtain ⟨a1, a2, a3, a4, a5, a6, a7, a8⟩ := h
  have e2 : d3 262 = d 262 := hj.1 262 (by decide) (by decide)
  have e3 : d3 261 = d 261 := hj.1 261 (by decide) (by decide)
  have e0 : ∀ j, j ≠ 3 → j ≠ 4 → j ≠ 21 → mm_up d3 250 21 (nI (wnb W + 1)) 250 j = d 250 j := fun j a b c => ((mm_up_at j).trans (if_neg c)).trans (hj.2.1 j a b)
  refine ⟨(e0 20 (by decide) (by decide) (by decide)).trans a1, a2, (mm_up_at 21).trans (if_pos rfl), h2, fun p hp j hj4 => ?_, fun b hb j hj3 => ?_, (e0 22 (by decide) (by decide) (by decide)).trans a7, fun hf j hj4 => ?_⟩
  · show d3 261 (4 * p + j) = _
    rw [e3]; exact a5 p hp j hj4
  · have hb : b < wnb W + 1 := hb
    show d3 263 (3 * b + j) = (if b = wnb W then w j else wbel W b j)
    by_cases q : b = wnb W
    · rw [if_pos q, q]; exact hw j hj3
    · rw [if_neg q, hj.2.2 (3 * b + j) (by omega)]
      exact a6 b (by omega) j hj3
  · show d3 262 j = _
    rw [e2]; exact a8 hf j hj4
theorem rpTM_addF {d d3 : mm_D} {W : wo_W} {w : Nat → Int32} (h : rpTM d W) (hj : jf 262 0 4 (mm_up d 250 22 1) d3) (hw : ∀ j, j < 4 → d3 262 (0 + j) = w j) : rpTM d3 (addF W w) := by
  obtain ⟨a1, a2, a3, a4, a5, a6, a7, a8⟩ := h
  have e2 : d3 261 = d 261 := hj.1 261 (by decide) (by decide)
  have e3 : d3 263 = d 263 := hj.1 263 (by decide) (by decide)
  refine ⟨(hj.2.1 20 (by decide) (by decide)).trans a1, a2, (hj.2.1 21 (by decide) (by decide)).trans a3, a4, fun p hp j hj4 => ?_, fun b hb j hj3 => ?_, (hj.2.1 22 (by decide) (by decide)), fun hf j hj4 => ?_⟩
  · rw [e2]; exact a5 p hp j hj4
  · rw [e3]; exact a6 b hb j hj3
  · have := hw j hj4
    rw [Nat.zero_add] at this
    exact this
theorem r_ctext {xs : List Int32} {ext : mm_X} {n : Nat} {sh : mm_S} {d : mm_D} {g : mm_G} {r : mm_R} {L : wo_P} (hsh : shp sh) (hr : rfx r) {p : Nat} {W : wo_W} (hL : tapM d L) (ha : d 250 3 = nI p) (hp : p ≤ L.1) (hw : d 250 4 = -1) (hT : rpTM d W) : wp xs ext (n + 4) 172 0 [some (.ref 250), none] [] (sh, d, g, r) (ctM sh g r L d (townC L p W)) := by
  have h160 := hL.2.1
  have hwl := wsp_le L hp
  have hL1 := tapM_250 (v := nI (wsp L p)) hL (show 2 ≠ 3 by decide)
  have ha1 : mm_up d 250 3 (nI (wsp L p)) 250 3 = nI (wsp L p) := (mm_up_at 3).trans (if_pos rfl)
  have hw1 : mm_up d 250 3 (nI (wsp L p)) 250 4 = -1 := ((mm_up_at 4).trans (if_neg (by decide))).trans hw
  have hT1 : rpTM (mm_up d 250 3 (nI (wsp L p))) W := rpTM_x hT (fun c a b => mm_up_ne (by omega)) (fun j a b => (mm_up_at j).trans (if_neg (by omega)))
  have hn6 := hT.2.1
  have hn2 := hT.2.2.2.1
  refine wp_aload_n (j := 0) rfl q172_ok d172_0 ?_
  refine wp_cV q172_ok d172_1 ml_11_132 rfl q141_ok (u := 11) rfl (by first | assumption | exact so0 hsh rfl) rfl (Nat.le_of_ble_eq_true rfl) (Nat.le_of_ble_eq_true rfl) (m_look hsh hr hL ha hp) (fun v1 μ1 hc => ?_)
  obtain ⟨rfl, rfl⟩ := hc
  refine ⟨mm_le_same rfl, ?_⟩
  refine wp_istore_n (j := 1) (Nat.le_of_ble_eq_true rfl) (rfl : _ = [_, _]) q172_ok d172_4 ?_
  refine wp_iload_n (j := 1) rfl q172_ok d172_5 ?_
  refine wp_bipush (v := 112) (by decide) q172_ok d172_6 ?_
  refine wp_icmp_ne q172_ok d172_8 (t := 59) rfl (fun h8 => ?_) (fun h8 => ?_)
  · refine wp_iload_n (j := 1) rfl q172_ok d172_59 ?_
    refine wp_bipush (v := 103) (by decide) q172_ok d172_60 ?_
    refine wp_icmp_ne q172_ok d172_62 (t := 101) rfl (fun h62 => ?_) (fun h62 => ?_)
    · refine wp_iload_n (j := 1) rfl q172_ok d172_101 ?_
      refine wp_bipush (v := 98) (by decide) q172_ok d172_102 ?_
      refine wp_icmp_ne q172_ok d172_104 (t := 154) rfl (fun h104 => ?_) (fun h104 => ?_)
      · refine wp_aload_n (j := 0) rfl q172_ok d172_154 ?_
        refine wp_cV q172_ok d172_155 ml_11_129 rfl q142_ok (u := 11) rfl (by first | assumption | exact so0 hsh rfl) rfl (Nat.le_of_ble_eq_true rfl) (Nat.le_of_ble_eq_true rfl) (m_bad0 hsh hr hw1 ha1) (fun v155 μ155 hc => ?_)
        obtain ⟨rfl, rfl⟩ := hc
        refine ⟨mm_le_same rfl, ?_⟩
        refine wp_vret q172_ok d172_158 rfl ?_
        have er : townC L p W = .inl (wsp L p) := by
          unfold townC
          rw [if_neg h8, if_neg h62, if_neg h104]
        rw [er]
        exact ⟨rfl, _, rfl, gfm_trans (gfm_af af_3) (gfm_af af_4), hwl, Or.inl ((mm_up_at 4).trans (if_pos rfl))⟩
      · have h104 := Classical.not_not.mp h104
        refine wp_aload_n (j := 0) rfl q172_ok d172_107 ?_
        refine wp_getI q172_ok d172_108 fl_11_253 rfl (by first | assumption | exact so0 hsh rfl) hT1.2.2.1 ?_
        refine wp_iconst (v := 2) (by decide) q172_ok d172_111 ?_
        refine wp_icmp_ge q172_ok d172_112 (t := 154) rfl (fun h112 => ?_) (fun h112 => ?_)
        · refine wp_aload_n (j := 0) rfl q172_ok d172_154 ?_
          refine wp_cV q172_ok d172_155 ml_11_129 rfl q142_ok (u := 11) rfl (by first | assumption | exact so0 hsh rfl) rfl (Nat.le_of_ble_eq_true rfl) (Nat.le_of_ble_eq_true rfl) (m_bad0 hsh hr hw1 ha1) (fun v155 μ155 hc => ?_)
          obtain ⟨rfl, rfl⟩ := hc
          refine ⟨mm_le_same rfl, ?_⟩
          refine wp_vret q172_ok d172_158 rfl ?_
          have er : townC L p W = .inl (wsp L p) := by
            unfold townC
            rw [if_neg h8, if_neg h62, if_pos h104, if_neg (show ¬ wnb W < 2 from fun q => absurd ((nI_ltI (by omega) (by decide)).mpr q) (Int32.not_lt.mpr (show nI 2 ≤ nI (wnb W) from h112)))]
          rw [er]
          exact ⟨rfl, _, rfl, gfm_trans (gfm_af af_3) (gfm_af af_4), hwl, Or.inl ((mm_up_at 4).trans (if_pos rfl))⟩
        · have hc : bAt L (wsp L p) = 98 := h104
          have hlt : wnb W < 2 := (nI_ltI (by omega) (by decide)).mp (show nI (wnb W) < nI 2 from Int32.not_le.mp h112)
          have h8' := h8
          have h62' := h62
          rw [hc]
          have hql := bAt_lt hc (by decide)
          have hL2 := tapM_250 (v := nI (wsp L p + 1)) hL1 (show 2 ≠ 3 by decide)
          have ha2 : mm_up (mm_up d 250 3 (nI (wsp L p))) 250 3 (nI (wsp L p + 1)) 250 3 = nI (wsp L p + 1) := (mm_up_at 3).trans (if_pos rfl)
          have hw2 : mm_up (mm_up d 250 3 (nI (wsp L p))) 250 3 (nI (wsp L p + 1)) 250 4 = -1 := ((mm_up_at 4).trans (if_neg (by decide))).trans hw1
          have hT2 : rpTM (mm_up (mm_up d 250 3 (nI (wsp L p))) 250 3 (nI (wsp L p + 1))) W := rpTM_x hT1 (fun c a b => mm_up_ne (by omega)) (fun j a b => (mm_up_at j).trans (if_neg (by omega)))
          refine wp_aload_n (j := 0) rfl q172_ok d172_115 ?_
          refine wp_dup rfl q172_ok d172_116 ?_
          refine wp_getI q172_ok d172_117 fl_11_113 rfl (by first | assumption | exact so0 hsh rfl) ha1 ?_
          refine wp_iconst (v := 1) (by decide) q172_ok d172_120 ?_
          refine wp_iadd (nI_1 _) q172_ok d172_121 ?_
          refine wp_putI q172_ok d172_122 fl_11_113 rfl (by first | assumption | exact so0 hsh rfl) (Or.inl rfl) ?_
          refine wp_aload_n (j := 0) rfl q172_ok d172_125 ?_
          refine wp_iload_n (j := 1) rfl q172_ok d172_126 ?_
          refine wp_aload_n (j := 0) rfl q172_ok d172_127 ?_
          refine wp_getR q172_ok d172_128 fl_11_46 rfl (by first | assumption | exact so0 hsh rfl) (by first | assumption | exact hr _ _ _ rfl) ?_
          refine wp_iconst (v := 3) (by decide) q172_ok d172_131 ?_
          refine wp_aload_n (j := 0) rfl q172_ok d172_132 ?_
          refine wp_getI q172_ok d172_133 fl_11_253 rfl (by first | assumption | exact so0 hsh rfl) hT2.2.2.1 ?_
          refine wp_imul (nI_x 3 (wnb W)) q172_ok d172_136 ?_
          refine wp_iconst (v := 3) (by decide) q172_ok d172_137 ?_
          refine wp_cV q172_ok d172_138 ml_11_245 rfl q171_ok (u := 11) rfl (by first | assumption | exact so0 hsh rfl) rfl (Nat.le_of_ble_eq_true rfl) (Nat.le_of_ble_eq_true rfl) (r_items (n := n) (c := 263) (f := 3 * wnb W) (k := 2) (m := 6) hsh hr (so0 hsh rfl) (shl hsh (Nat.le_of_ble_eq_true rfl) rfl) (by decide) (show 3 * wnb W + 3 ≤ 6 by omega) (by decide) (by decide) hL2 ha2 hql (by omega) hw2) (fun v138 μ138 hc => ?_)
          obtain ⟨rfl, d3, rfl, j3, m3⟩ := hc
          refine ⟨mm_le_same rfl, ?_⟩
          refine wp_aload_n (j := 0) rfl q172_ok d172_141 ?_
          refine wp_dup rfl q172_ok d172_142 ?_
          refine wp_getI q172_ok d172_143 fl_11_253 rfl (by first | assumption | exact so0 hsh rfl) ((j3.2.1 21 (by decide) (by decide)).trans hT2.2.2.1) ?_
          refine wp_iconst (v := 1) (by decide) q172_ok d172_146 ?_
          refine wp_iadd (nI_1 _) q172_ok d172_147 ?_
          refine wp_putI q172_ok d172_148 fl_11_253 rfl (by first | assumption | exact so0 hsh rfl) (Or.inl rfl) ?_
          refine wp_goto (t := 158) rfl q172_ok d172_151 ?_
          refine wp_vret q172_ok d172_158 rfl ?_
          have er : townC L p W = itm2 L 2 (wsp L p + 1) (addB W) := by
            unfold townC
            rw [if_neg h8', if_neg h62', if_pos hc, if_pos hlt]
          rw [er]
          have Z : gfm d (mm_up d3 250 21 (nI (wnb W + 1))) := gfm_trans (gfm_trans (gfm_trans (gfm_af af_3) (gfm_af af_3)) (gfm_jf (by decide) j3)) (gfm_up (Or.inr (Or.inl rfl)))
          unfold itm2
          cases e3 : itmL L 2 160 (wsp L p + 1) 0 (defI 2) with
          | inl e =>
            rw [e3] at m3
            exact ⟨rfl, _, rfl, Z, badT_up m3 (by decide) (by decide)⟩
          | inr x =>
            rw [e3] at m3
            obtain ⟨x1, x2, x3, x4⟩ := m3
            exact ⟨rfl, _, rfl, Z, x1, x2, x3, rpTM_addB hT2 hlt j3 x4⟩
    · have h62 := Classical.not_not.mp h62
      refine wp_aload_n (j := 0) rfl q172_ok d172_65 ?_
      refine wp_getZ q172_ok d172_66 fl_11_249 rfl (by first | assumption | exact so0 hsh rfl) hT1.2.2.2.2.2.2.1 ?_
      refine wp_if_ne q172_ok d172_69 (t := 101) rfl (fun h69 => ?_) (fun h69 => ?_)
      · have hfg : wfg W = true := by
          by_cases q : wfg W = true
          · exact q
          · rw [if_neg q] at h69
            exact absurd rfl h69
        refine wp_iload_n (j := 1) rfl q172_ok d172_101 ?_
        refine wp_bipush (v := 98) (by decide) q172_ok d172_102 ?_
        refine wp_icmp_ne q172_ok d172_104 (t := 154) rfl (fun h104 => ?_) (fun h104 => ?_)
        · refine wp_aload_n (j := 0) rfl q172_ok d172_154 ?_
          refine wp_cV q172_ok d172_155 ml_11_129 rfl q142_ok (u := 11) rfl (by first | assumption | exact so0 hsh rfl) rfl (Nat.le_of_ble_eq_true rfl) (Nat.le_of_ble_eq_true rfl) (m_bad0 hsh hr hw1 ha1) (fun v155 μ155 hc => ?_)
          obtain ⟨rfl, rfl⟩ := hc
          refine ⟨mm_le_same rfl, ?_⟩
          refine wp_vret q172_ok d172_158 rfl ?_
          have er : townC L p W = .inl (wsp L p) := by
            unfold townC
            rw [if_neg h8, if_pos h62, if_pos hfg]
          rw [er]
          exact ⟨rfl, _, rfl, gfm_trans (gfm_af af_3) (gfm_af af_4), hwl, Or.inl ((mm_up_at 4).trans (if_pos rfl))⟩
        · have h104 := Classical.not_not.mp h104
          exact absurd h104 (fun e => by rw [show bAt L (wsp L p) = 103 from h62] at e; exact absurd e (by decide))
      · have h69 := Classical.not_not.mp h69
        have hc : bAt L (wsp L p) = 103 := h62
        have hfg : ¬ wfg W = true := fun q => by
          have h69' := h69
          rw [if_pos q] at h69'
          exact absurd h69' (by decide)
        rw [hc]
        have hql := bAt_lt hc (by decide)
        have hL2 := tapM_250 (v := nI (wsp L p + 1)) hL1 (show 2 ≠ 3 by decide)
        have ha2 : mm_up (mm_up d 250 3 (nI (wsp L p))) 250 3 (nI (wsp L p + 1)) 250 3 = nI (wsp L p + 1) := (mm_up_at 3).trans (if_pos rfl)
        have hw2 : mm_up (mm_up d 250 3 (nI (wsp L p))) 250 3 (nI (wsp L p + 1)) 250 4 = -1 := ((mm_up_at 4).trans (if_neg (by decide))).trans hw1
        have hT2 : rpTM (mm_up (mm_up d 250 3 (nI (wsp L p))) 250 3 (nI (wsp L p + 1))) W := rpTM_x hT1 (fun c a b => mm_up_ne (by omega)) (fun j a b => (mm_up_at j).trans (if_neg (by omega)))
        have hL3 := tapM_250 (k := 22) (v := 1) hL2 (show 2 ≠ 22 by decide)
        refine wp_aload_n (j := 0) rfl q172_ok d172_72 ?_
        refine wp_dup rfl q172_ok d172_73 ?_
        refine wp_getI q172_ok d172_74 fl_11_113 rfl (by first | assumption | exact so0 hsh rfl) ha1 ?_
        refine wp_iconst (v := 1) (by decide) q172_ok d172_77 ?_
        refine wp_iadd (nI_1 _) q172_ok d172_78 ?_
        refine wp_putI q172_ok d172_79 fl_11_113 rfl (by first | assumption | exact so0 hsh rfl) (Or.inl rfl) ?_
        refine wp_aload_n (j := 0) rfl q172_ok d172_82 ?_
        refine wp_iconst (v := 1) (by decide) q172_ok d172_83 ?_
        refine wp_putZ q172_ok d172_84 fl_11_249 rfl (by first | assumption | exact so0 hsh rfl) (Or.inl rfl) (by first | assumption | exact Or.inl rfl | exact Or.inr rfl) ?_
        refine wp_aload_n (j := 0) rfl q172_ok d172_87 ?_
        refine wp_iload_n (j := 1) rfl q172_ok d172_88 ?_
        refine wp_aload_n (j := 0) rfl q172_ok d172_89 ?_
        refine wp_getR q172_ok d172_90 fl_11_43 rfl (by first | assumption | exact so0 hsh rfl) (by first | assumption | exact hr _ _ _ rfl) ?_
        refine wp_iconst (v := 0) (by decide) q172_ok d172_93 ?_
        refine wp_iconst (v := 4) (by decide) q172_ok d172_94 ?_
        refine wp_cV q172_ok d172_95 ml_11_245 rfl q171_ok (u := 11) rfl (by first | assumption | exact so0 hsh rfl) rfl (Nat.le_of_ble_eq_true rfl) (Nat.le_of_ble_eq_true rfl) (r_items (n := n) (c := 262) (f := 0) (k := 1) (m := 4) hsh hr (so0 hsh rfl) (shl hsh (Nat.le_of_ble_eq_true rfl) rfl) (by decide) (by decide) (by decide) (by decide) hL3 ha2 hql (by omega) hw2) (fun v95 μ95 hc => ?_)
        obtain ⟨rfl, d3, rfl, j3, m3⟩ := hc
        refine ⟨mm_le_same rfl, ?_⟩
        refine wp_goto (t := 158) rfl q172_ok d172_98 ?_
        refine wp_vret q172_ok d172_158 rfl ?_
        have er : townC L p W = itm2 L 1 (wsp L p + 1) (addF W) := by
          unfold townC
          rw [if_neg h8, if_pos hc, if_neg hfg]
        rw [er]
        have Z : gfm d d3 := gfm_trans (gfm_trans (gfm_trans (gfm_af af_3) (gfm_af af_3)) (gfm_up (Or.inr (Or.inr rfl)))) (gfm_jf (by decide) j3)
        unfold itm2
        cases e3 : itmL L 1 160 (wsp L p + 1) 0 (defI 1) with
        | inl e =>
          rw [e3] at m3
          exact ⟨rfl, _, rfl, Z, m3⟩
        | inr x =>
          rw [e3] at m3
          obtain ⟨x1, x2, x3, x4⟩ := m3
          exact ⟨rfl, _, rfl, Z, x1, x2, x3, rpTM_addF hT2 j3 x4⟩
  · have h8 := Classical.not_not.mp h8
    refine wp_aload_n (j := 0) rfl q172_ok d172_11 ?_
    refine wp_getI q172_ok d172_12 fl_11_242 rfl (by first | assumption | exact so0 hsh rfl) hT1.1 ?_
    refine wp_bipush (v := 6) (by decide) q172_ok d172_15 ?_
    refine wp_icmp_ge q172_ok d172_17 (t := 59) rfl (fun h17 => ?_) (fun h17 => ?_)
    · have hge : ¬ wnp W < 6 := fun q => absurd ((nI_ltI (by omega) (by decide)).mpr q) (Int32.not_lt.mpr (show nI 6 ≤ nI (wnp W) from h17))
      refine wp_iload_n (j := 1) rfl q172_ok d172_59 ?_
      refine wp_bipush (v := 103) (by decide) q172_ok d172_60 ?_
      refine wp_icmp_ne q172_ok d172_62 (t := 101) rfl (fun h62 => ?_) (fun h62 => ?_)
      · refine wp_iload_n (j := 1) rfl q172_ok d172_101 ?_
        refine wp_bipush (v := 98) (by decide) q172_ok d172_102 ?_
        refine wp_icmp_ne q172_ok d172_104 (t := 154) rfl (fun h104 => ?_) (fun h104 => ?_)
        · refine wp_aload_n (j := 0) rfl q172_ok d172_154 ?_
          refine wp_cV q172_ok d172_155 ml_11_129 rfl q142_ok (u := 11) rfl (by first | assumption | exact so0 hsh rfl) rfl (Nat.le_of_ble_eq_true rfl) (Nat.le_of_ble_eq_true rfl) (m_bad0 hsh hr hw1 ha1) (fun v155 μ155 hc => ?_)
          obtain ⟨rfl, rfl⟩ := hc
          refine ⟨mm_le_same rfl, ?_⟩
          refine wp_vret q172_ok d172_158 rfl ?_
          have er : townC L p W = .inl (wsp L p) := by
            unfold townC
            rw [if_pos h8, if_neg hge]
          rw [er]
          exact ⟨rfl, _, rfl, gfm_trans (gfm_af af_3) (gfm_af af_4), hwl, Or.inl ((mm_up_at 4).trans (if_pos rfl))⟩
        · have h104 := Classical.not_not.mp h104
          exact absurd h104 (fun e => by rw [show bAt L (wsp L p) = 112 from h8] at e; exact absurd e (by decide))
      · have h62 := Classical.not_not.mp h62
        exact absurd h62 (fun e => by rw [show bAt L (wsp L p) = 112 from h8] at e; exact absurd e (by decide))
    · have hc : bAt L (wsp L p) = 112 := h8
      have hlt : wnp W < 6 := (nI_ltI (by omega) (by decide)).mp (show nI (wnp W) < nI 6 from Int32.not_le.mp h17)
      rw [hc]
      have hql := bAt_lt hc (by decide)
      have hL2 := tapM_250 (v := nI (wsp L p + 1)) hL1 (show 2 ≠ 3 by decide)
      have ha2 : mm_up (mm_up d 250 3 (nI (wsp L p))) 250 3 (nI (wsp L p + 1)) 250 3 = nI (wsp L p + 1) := (mm_up_at 3).trans (if_pos rfl)
      have hw2 : mm_up (mm_up d 250 3 (nI (wsp L p))) 250 3 (nI (wsp L p + 1)) 250 4 = -1 := ((mm_up_at 4).trans (if_neg (by decide))).trans hw1
      have hT2 : rpTM (mm_up (mm_up d 250 3 (nI (wsp L p))) 250 3 (nI (wsp L p + 1))) W := rpTM_x hT1 (fun c a b => mm_up_ne (by omega)) (fun j a b => (mm_up_at j).trans (if_neg (by omega)))
      refine wp_aload_n (j := 0) rfl q172_ok d172_20 ?_
      refine wp_dup rfl q172_ok d172_21 ?_
      refine wp_getI q172_ok d172_22 fl_11_113 rfl (by first | assumption | exact so0 hsh rfl) ha1 ?_
      refine wp_iconst (v := 1) (by decide) q172_ok d172_25 ?_
      refine wp_iadd (nI_1 _) q172_ok d172_26 ?_
      refine wp_putI q172_ok d172_27 fl_11_113 rfl (by first | assumption | exact so0 hsh rfl) (Or.inl rfl) ?_
      refine wp_aload_n (j := 0) rfl q172_ok d172_30 ?_
      refine wp_iload_n (j := 1) rfl q172_ok d172_31 ?_
      refine wp_aload_n (j := 0) rfl q172_ok d172_32 ?_
      refine wp_getR q172_ok d172_33 fl_11_40 rfl (by first | assumption | exact so0 hsh rfl) (by first | assumption | exact hr _ _ _ rfl) ?_
      refine wp_iconst (v := 4) (by decide) q172_ok d172_36 ?_
      refine wp_aload_n (j := 0) rfl q172_ok d172_37 ?_
      refine wp_getI q172_ok d172_38 fl_11_242 rfl (by first | assumption | exact so0 hsh rfl) hT2.1 ?_
      refine wp_imul (nI_x 4 (wnp W)) q172_ok d172_41 ?_
      refine wp_iconst (v := 4) (by decide) q172_ok d172_42 ?_
      refine wp_cV q172_ok d172_43 ml_11_245 rfl q171_ok (u := 11) rfl (by first | assumption | exact so0 hsh rfl) rfl (Nat.le_of_ble_eq_true rfl) (Nat.le_of_ble_eq_true rfl) (r_items (n := n) (c := 261) (f := 4 * wnp W) (k := 0) (m := 24) hsh hr (so0 hsh rfl) (shl hsh (Nat.le_of_ble_eq_true rfl) rfl) (by decide) (show 4 * wnp W + 4 ≤ 24 by omega) (by decide) (by decide) hL2 ha2 hql (by omega) hw2) (fun v43 μ43 hc => ?_)
      obtain ⟨rfl, d3, rfl, j3, m3⟩ := hc
      refine ⟨mm_le_same rfl, ?_⟩
      refine wp_aload_n (j := 0) rfl q172_ok d172_46 ?_
      refine wp_dup rfl q172_ok d172_47 ?_
      refine wp_getI q172_ok d172_48 fl_11_242 rfl (by first | assumption | exact so0 hsh rfl) ((j3.2.1 20 (by decide) (by decide)).trans hT2.1) ?_
      refine wp_iconst (v := 1) (by decide) q172_ok d172_51 ?_
      refine wp_iadd (nI_1 _) q172_ok d172_52 ?_
      refine wp_putI q172_ok d172_53 fl_11_242 rfl (by first | assumption | exact so0 hsh rfl) (Or.inl rfl) ?_
      refine wp_goto (t := 158) rfl q172_ok d172_56 ?_
      refine wp_vret q172_ok d172_158 rfl ?_
      have er : townC L p W = itm2 L 0 (wsp L p + 1) (addP W) := by
        unfold townC
        rw [if_pos hc, if_pos hlt]
      rw [er]
      have Z : gfm d (mm_up d3 250 20 (nI (wnp W + 1))) := gfm_trans (gfm_trans (gfm_trans (gfm_af af_3) (gfm_af af_3)) (gfm_jf (by decide) j3)) (gfm_up (Or.inl rfl))
      unfold itm2
      cases e3 : itmL L 0 160 (wsp L p + 1) 0 (defI 0) with
      | inl e =>
        rw [e3] at m3
        exact ⟨rfl, _, rfl, Z, badT_up m3 (by decide) (by decide)⟩
      | inr x =>
        rw [e3] at m3
        obtain ⟨x1, x2, x3, x4⟩ := m3
        exact ⟨rfl, _, rfl, Z, x1, x2, x3, rpTM_addP hT2 hlt j3 x4⟩
