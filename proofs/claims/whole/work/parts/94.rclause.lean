/-! ===== the model reads a clause ===== -/
theorem thn_assoc {a : wo_R} {f k : Nat → wo_R} : thn (thn a f) k = thn a (fun q => thn (f q) k) := by
  cases a with
  | inl w => rfl
  | inr x =>
    show thn (match f x.1 with | .inl w => (.inl w : wo_R) | .inr z => .inr (z.1, x.2 ++ z.2)) k = (match thn (f x.1) k with | .inl w => (.inl w : wo_R) | .inr z => .inr (z.1, x.2 ++ z.2))
    cases f x.1 with
    | inl w => rfl
    | inr y =>
      show (match k y.1 with | .inl w => (.inl w : wo_R) | .inr z => .inr (z.1, (x.2 ++ y.2) ++ z.2)) = (match (match k y.1 with | .inl w => (.inl w : wo_R) | .inr z => .inr (z.1, y.2 ++ z.2)) with | .inl w => (.inl w : wo_R) | .inr z => .inr (z.1, x.2 ++ z.2))
      cases k y.1 with
      | inl w => rfl
      | inr z => show (Sum.inr _ : wo_R) = Sum.inr _; rw [List.append_assoc]
/-- only the reading's rows, from clause i of row t on -/
def zf (t i : Nat) (d d2 : mm_D) : Prop := (∀ c, c ≠ 250 → ¬ (252 ≤ c ∧ c < 259) → d2 c = d c) ∧ (∀ j, j ≠ 3 → j ≠ 4 → j ≠ 5 → d2 250 j = d 250 j) ∧ (∀ j, j < 340 * t → d2 252 j = d 252 j ∧ d2 253 j = d 253 j) ∧ (∀ j, j < 90 * t + i → d2 256 j = d 256 j ∧ d2 257 j = d 257 j ∧ d2 258 j = d 258 j) ∧ (∀ j, j ≠ t → d2 254 j = d 254 j ∧ d2 255 j = d 255 j)
theorem zf_refl (t i : Nat) (d : mm_D) : zf t i d d := ⟨fun _ _ _ => rfl, fun _ _ _ _ => rfl, fun _ _ => ⟨rfl, rfl⟩, fun _ _ => ⟨rfl, rfl, rfl⟩, fun _ _ => ⟨rfl, rfl⟩⟩
theorem zf_trans {t i : Nat} {d d1 d2 : mm_D} (h : zf t i d d1) (h' : zf t i d1 d2) : zf t i d d2 := ⟨fun c a b => (h'.1 c a b).trans (h.1 c a b), fun j a b e => (h'.2.1 j a b e).trans (h.2.1 j a b e), fun j a => ⟨(h'.2.2.1 j a).1.trans (h.2.2.1 j a).1, (h'.2.2.1 j a).2.trans (h.2.2.1 j a).2⟩, fun j a => ⟨(h'.2.2.2.1 j a).1.trans (h.2.2.2.1 j a).1, (h'.2.2.2.1 j a).2.1.trans (h.2.2.2.1 j a).2.1, (h'.2.2.2.1 j a).2.2.trans (h.2.2.2.1 j a).2.2⟩, fun j a => ⟨(h'.2.2.2.2 j a).1.trans (h.2.2.2.2 j a).1, (h'.2.2.2.2 j a).2.trans (h.2.2.2.2 j a).2⟩⟩
theorem zf_xf {t i : Nat} {d d2 : mm_D} (h : xf t d d2) : zf t i d d2 := ⟨fun c a b => h.1 c a (by omega), h.2.1, h.2.2.1, fun j _ => ⟨congrFun (h.1 256 (by decide) (by decide)) j, congrFun (h.1 257 (by decide) (by decide)) j, congrFun (h.1 258 (by decide) (by decide)) j⟩, fun j hj => ⟨h.2.2.2 j hj, congrFun (h.1 255 (by decide) (by decide)) j⟩⟩
theorem zf_tab {t i c : Nat} {d : mm_D} {v : Int32} (hc : c = 256 ∨ c = 257 ∨ c = 258) : zf t i d (mm_up d c (90 * t + i) v) := by
  have e : ∀ a j, (a ≠ c ∨ j ≠ 90 * t + i) → mm_up d c (90 * t + i) v a j = d a j := fun a j h => by
    by_cases q : a = c
    · subst q
      rw [mm_up_at, if_neg (by omega)]
    · rw [mm_up_ne q]
  exact ⟨fun a h1 h2 => mm_up_ne (by omega), fun j _ _ _ => e _ _ (Or.inl (by omega)), fun j _ => ⟨e _ _ (Or.inl (by omega)), e _ _ (Or.inl (by omega))⟩, fun j hj => ⟨e _ _ (Or.inr (by omega)), e _ _ (Or.inr (by omega)), e _ _ (Or.inr (by omega))⟩, fun j _ => ⟨e _ _ (Or.inl (by omega)), e _ _ (Or.inl (by omega))⟩⟩
theorem zf_255 {t i : Nat} {d : mm_D} {v : Int32} : zf t i d (mm_up d 255 t v) := ⟨fun a h1 h2 => mm_up_ne (by omega), fun j _ _ _ => rfl, fun j _ => ⟨rfl, rfl⟩, fun j hj => ⟨rfl, rfl, rfl⟩, fun j hj => ⟨rfl, (mm_up_at j).trans (if_neg hj)⟩⟩
theorem MS_x {d d2 : mm_D} {L : wo_P} {t k p s : Nat} {cs : List Int32} (h : MS d L t k p s cs) (h0 : d2 250 = d 250) (h1 : d2 251 = d 251) (h2 : d2 252 = d 252) (h3 : d2 253 = d 253) (h4 : d2 254 = d 254) : MS d2 L t k p s cs := by
  obtain ⟨a1, a2, a3, a4, a5, a6, a7, a8⟩ := h
  exact ⟨tapM_x a1 h1 (congrFun h0 2), by rw [h0]; exact a2, by rw [h0]; exact a3, by rw [h0]; exact a4, by rw [h0]; exact a5, by rw [h4]; exact a6, a7, seg_eq (d := d) (fun i _ _ => ⟨by rw [h2], by rw [h3]⟩) a8⟩
theorem MS_tab {d : mm_D} {L : wo_P} {t k p s : Nat} {cs : List Int32} (h : MS d L t k p s cs) {c j : Nat} {v : Int32} (hc : 255 ≤ c) : MS (mm_up d c j v) L t k p s cs := MS_x h (mm_up_ne (by omega)) (mm_up_ne (by omega)) (mm_up_ne (by omega)) (mm_up_ne (by omega)) (mm_up_ne (by omega))
def clpost (sh : mm_S) (g : mm_G) (r : mm_R) (L : wo_P) (t i : Nat) (d : mm_D) (cs : List Int32) (res : Nat ⊕ (Nat × wo_C)) (v : Option Value) (μ : mm_M) : Prop := v = none ∧ ∃ d2, μ = (sh, d2, g, r) ∧ zf t i d d2 ∧ (match res with
  | .inl w => d2 250 4 = nI w ∧ w ≤ L.1
  | .inr x => MS d2 L t 6 x.1 0 (cs ++ (x.2.1 ++ x.2.2)) ∧ d2 255 t = nI (i + 1) ∧ d2 256 (90 * t + i) = nI cs.length ∧ d2 257 (90 * t + i) = nI (cs.length + x.2.1.length) ∧ d2 258 (90 * t + i) = nI (cs.length + x.2.1.length + x.2.2.length))
theorem cl_trans {sh : mm_S} {g : mm_G} {r : mm_R} {L : wo_P} {t i : Nat} {d d1 : mm_D} {cs : List Int32} {res : Nat ⊕ (Nat × wo_C)} {v : Option Value} {μ : mm_M} (hz : zf t i d d1) (h : clpost sh g r L t i d1 cs res v μ) : clpost sh g r L t i d cs res v μ := by
  obtain ⟨h1, d2, h2, h3, h4⟩ := h
  exact ⟨h1, d2, h2, zf_trans hz h3, h4⟩
theorem cl_fail {sh : mm_S} {g : mm_G} {r : mm_R} {L : wo_P} {t i w : Nat} {d d1 : mm_D} {cs : List Int32} {res : Nat ⊕ (Nat × wo_C)} (hz : zf t i d d1) (e : res = .inl w) (h : d1 250 4 = nI w) (hw : w ≤ L.1) : clpost sh g r L t i d cs res none (sh, d1, g, r) := by
  rw [e]
  exact ⟨rfl, d1, rfl, hz, h, hw⟩
theorem r_fin {xs : List Int32} {ext : mm_X} {sh : mm_S} {g : mm_G} {r : mm_R} {t : Nat} (hsh : shp sh) (hr : rfx r) {n i c : Nat} {d : mm_D} {u : Option Value} (h14 : d 250 14 = nI t) (ht : t ≤ 4) (hc : d 254 t = nI c) (hi : d 255 t = nI i) (h90 : i < 90) : wp xs ext (n + 0) 158 250 [some (.ref 250), some (.int (nI (90 * t + i))), u] [] (sh, d, g, r) (fun v μ => v = none ∧ μ = (sh, mm_up (mm_up d 258 (90 * t + i) (nI c)) 255 t (nI (i + 1)), g, r)) := by
  refine wp_aload_n (j := 0) rfl q158_ok d158_250 ?_
  refine wp_getR q158_ok d158_251 fl_11_31 rfl (by first | assumption | exact so0 hsh rfl) (by first | assumption | exact hr _ _ _ rfl) ?_
  refine wp_iload_n (j := 1) rfl q158_ok d158_254 ?_
  refine wp_aload_n (j := 0) rfl q158_ok d158_255 ?_
  refine wp_getR q158_ok d158_256 fl_11_19 rfl (by first | assumption | exact so0 hsh rfl) (by first | assumption | exact hr _ _ _ rfl) ?_
  refine wp_aload_n (j := 0) rfl q158_ok d158_259 ?_
  refine wp_getI q158_ok d158_260 fl_11_123 rfl (by first | assumption | exact so0 hsh rfl) h14 ?_
  refine wp_iald (m := 5) q158_ok d158_263 (by first | assumption | exact so0 hsh rfl) (shl hsh (m := 5) (Nat.le_of_ble_eq_true rfl) rfl) (ixn_nI (show t < 5 by omega)) hc ?_ (shK hsh)
  refine wp_iast (m := 450) q158_ok d158_264 (by first | assumption | exact so0 hsh rfl) (shl hsh (m := 450) (Nat.le_of_ble_eq_true rfl) rfl) (ixn_nI (show 90 * t + i < 450 by omega)) ?_
  refine wp_aload_n (j := 0) rfl q158_ok d158_265 ?_
  refine wp_getR q158_ok d158_266 fl_11_22 rfl (by first | assumption | exact so0 hsh rfl) (by first | assumption | exact hr _ _ _ rfl) ?_
  refine wp_aload_n (j := 0) rfl q158_ok d158_269 ?_
  refine wp_getI q158_ok d158_270 fl_11_123 rfl (by first | assumption | exact so0 hsh rfl) h14 ?_
  refine wp_dup2 rfl rfl q158_ok d158_273 ?_
  refine wp_iald (m := 5) q158_ok d158_274 (by first | assumption | exact so0 hsh rfl) (shl hsh (m := 5) (Nat.le_of_ble_eq_true rfl) rfl) (ixn_nI (show t < 5 by omega)) hi ?_ (shK hsh)
  refine wp_iconst (v := 1) (by decide) q158_ok d158_275 ?_
  refine wp_iadd (nI_1 i) q158_ok d158_276 ?_
  refine wp_iast (m := 5) q158_ok d158_277 (by first | assumption | exact so0 hsh rfl) (shl hsh (m := 5) (Nat.le_of_ble_eq_true rfl) rfl) (ixn_nI (show t < 5 by omega)) ?_
  refine wp_vret q158_ok d158_278 rfl ?_
  exact ⟨rfl, rfl⟩
def tlS (L : wo_P) (res : wo_R) : Nat ⊕ (Nat × wo_C) := match res with
  | .inl w => .inl w
  | .inr x => tailS L x.1 x.2
theorem r_tail {xs : List Int32} {ext : mm_X} {sh : mm_S} {g : mm_G} {r : mm_R} {L : wo_P} {t : Nat} (hsh : shp sh) (hr : rfx r) {n i : Nat} {d : mm_D} {cs : List Int32} {res : wo_R} (hs : RMsum xs ext sh g r L t (n + 3) 6) (h : mst L t 6 0 d cs res) (h14 : d 250 14 = nI t) (ht : t ≤ 4) (hi : d 255 t = nI i) (h90 : i < 90) (h256 : d 256 (90 * t + i) = nI cs.length) : wp xs ext (n + 4) 158 183 [some (.ref 250), some (.int (nI (90 * t + i))), some (.int 1)] [] (sh, d, g, r) (clpost sh g r L t i d cs (tlS L res)) := by
  have hwp := h
  cases res with
  | inl w =>
    have h : WS d L t w 0 (L.1 + 6) := h
    have hw := WS_ne h
    obtain ⟨h1, _, a, c, h3, _, _⟩ := h
    refine wp_aload_n (j := 0) rfl q158_ok d158_183 ?_
    refine wp_getR q158_ok d158_184 fl_11_28 rfl (by first | assumption | exact so0 hsh rfl) (by first | assumption | exact hr _ _ _ rfl) ?_
    refine wp_iload_n (j := 1) rfl q158_ok d158_187 ?_
    refine wp_aload_n (j := 0) rfl q158_ok d158_188 ?_
    refine wp_getR q158_ok d158_189 fl_11_25 rfl (by first | assumption | exact so0 hsh rfl) (by first | assumption | exact hr _ _ _ rfl) ?_
    refine wp_iload_n (j := 1) rfl q158_ok d158_192 ?_
    refine wp_iald (m := 450) q158_ok d158_193 (by first | assumption | exact so0 hsh rfl) (shl hsh (m := 450) (Nat.le_of_ble_eq_true rfl) rfl) (ixn_nI (show 90 * t + i < 450 by omega)) h256 ?_ (shK hsh)
    refine wp_iast (m := 450) q158_ok d158_194 (by first | assumption | exact so0 hsh rfl) (shl hsh (m := 450) (Nat.le_of_ble_eq_true rfl) rfl) (ixn_nI (show 90 * t + i < 450 by omega)) ?_
    refine wp_iload_n (j := 2) rfl q158_ok d158_195 ?_
    refine wp_if_eq q158_ok d158_196 (t := 250) rfl (fun h196 => ?_) (fun h196 => ?_)
    · exact absurd h196 (by decide)
    · refine wp_aload_n (j := 0) rfl q158_ok d158_199 ?_
      refine wp_getI q158_ok d158_200 fl_11_120 rfl (by first | assumption | exact so0 hsh rfl) (by first | assumption | rfl) ?_
      refine wp_iconst (v := -1) (by decide) q158_ok d158_203 ?_
      refine wp_icmp_ne q158_ok d158_204 (t := 250) rfl (fun h204 => ?_) (fun h204 => ?_)
      · refine wp_post (r_fin hsh hr (c := c) h14 ht h3.2 hi h90) (fun v μ hc => ?_)
        obtain ⟨rfl, rfl⟩ := hc
        exact cl_fail (zf_trans (zf_tab (Or.inr (Or.inl rfl))) (zf_trans (zf_tab (Or.inr (Or.inr rfl))) zf_255)) rfl h1.1 h1.2.1
      · have h204 := Classical.not_not.mp h204
        exact absurd h204 hw
  | inr x =>
    have h : MS d L t 6 x.1 0 (cs ++ x.2) := h
    have hpl := h.2.1.2
    have hwl := wsp_le L hpl
    have hwg := wsp_ge L x.1
    have hl := h.2.2.2.2.2.2.1
    have S0 : MS (mm_up d 257 (90 * t + i) (nI cs.length)) L t 6 x.1 0 (cs ++ x.2) := MS_tab h (by decide)
    have S1 := MS_at (s2 := 0) S0 hwl (by omega)
    refine wp_aload_n (j := 0) rfl q158_ok d158_183 ?_
    refine wp_getR q158_ok d158_184 fl_11_28 rfl (by first | assumption | exact so0 hsh rfl) (by first | assumption | exact hr _ _ _ rfl) ?_
    refine wp_iload_n (j := 1) rfl q158_ok d158_187 ?_
    refine wp_aload_n (j := 0) rfl q158_ok d158_188 ?_
    refine wp_getR q158_ok d158_189 fl_11_25 rfl (by first | assumption | exact so0 hsh rfl) (by first | assumption | exact hr _ _ _ rfl) ?_
    refine wp_iload_n (j := 1) rfl q158_ok d158_192 ?_
    refine wp_iald (m := 450) q158_ok d158_193 (by first | assumption | exact so0 hsh rfl) (shl hsh (m := 450) (Nat.le_of_ble_eq_true rfl) rfl) (ixn_nI (show 90 * t + i < 450 by omega)) h256 ?_ (shK hsh)
    refine wp_iast (m := 450) q158_ok d158_194 (by first | assumption | exact so0 hsh rfl) (shl hsh (m := 450) (Nat.le_of_ble_eq_true rfl) rfl) (ixn_nI (show 90 * t + i < 450 by omega)) ?_
    refine wp_iload_n (j := 2) rfl q158_ok d158_195 ?_
    refine wp_if_eq q158_ok d158_196 (t := 250) rfl (fun h196 => ?_) (fun h196 => ?_)
    · exact absurd h196 (by decide)
    · refine wp_aload_n (j := 0) rfl q158_ok d158_199 ?_
      refine wp_getI q158_ok d158_200 fl_11_120 rfl (by first | assumption | exact so0 hsh rfl) h.2.2.1 ?_
      refine wp_iconst (v := -1) (by decide) q158_ok d158_203 ?_
      refine wp_icmp_ne q158_ok d158_204 (t := 250) rfl (fun h204 => ?_) (fun h204 => ?_)
      · exact absurd rfl h204
      · have h204 := Classical.not_not.mp h204
        refine wp_aload_n (j := 0) rfl q158_ok d158_207 ?_
        refine wp_cV q158_ok d158_208 ml_11_132 rfl q141_ok (u := 11) rfl (by first | assumption | exact so0 hsh rfl) rfl (Nat.le_of_ble_eq_true rfl) (Nat.le_of_ble_eq_true rfl) (m_look hsh hr S0.1 S0.2.1.1 S0.2.1.2) (fun v208 μ208 hc => ?_)
        obtain ⟨rfl, rfl⟩ := hc
        refine ⟨mm_le_same rfl, ?_⟩
        refine wp_bipush (v := 63) (by decide) q158_ok d158_211 ?_
        refine wp_icmp_eq q158_ok d158_213 (t := 221) rfl (fun h213 => ?_) (fun h213 => ?_)
        · have hq : bAt L (wsp L x.1) = 63 := h213
          have hql := bAt_lt hq (by decide)
          have S2 := MS_at (s2 := 0) S1 hql (by omega)
          have S3 : MS (mm_up (mm_up (mm_up (mm_up d 257 (90 * t + i) (nI cs.length)) 250 3 (nI (wsp L x.1))) 250 3 (nI (wsp L x.1 + 1))) 257 (90 * t + i) (nI (cs ++ x.2).length)) L t 6 (wsp L x.1 + 1) 0 (cs ++ x.2) := MS_tab S2 (by decide)
          have er : tlS L (.inr x) = (match sumK L 6 (wsp L x.1 + 1) with | .inl w => .inl w | .inr y => .inr (y.1, (x.2, y.2))) := by
            show tailS L x.1 x.2 = _
            unfold tailS
            rw [if_pos hq]
            cases sumK L 6 (wsp L x.1 + 1) with
            | inl w => rfl
            | inr y => rfl
          rw [er]
          refine wp_aload_n (j := 0) rfl q158_ok d158_221 ?_
          refine wp_dup rfl q158_ok d158_222 ?_
          refine wp_getI q158_ok d158_223 fl_11_113 rfl (by first | assumption | exact so0 hsh rfl) S1.2.1.1 ?_
          refine wp_iconst (v := 1) (by decide) q158_ok d158_226 ?_
          refine wp_iadd (nI_1 _) q158_ok d158_227 ?_
          refine wp_putI q158_ok d158_228 fl_11_113 rfl (by first | assumption | exact so0 hsh rfl) (Or.inl rfl) ?_
          refine wp_aload_n (j := 0) rfl q158_ok d158_231 ?_
          refine wp_getR q158_ok d158_232 fl_11_28 rfl (by first | assumption | exact so0 hsh rfl) (by first | assumption | exact hr _ _ _ rfl) ?_
          refine wp_iload_n (j := 1) rfl q158_ok d158_235 ?_
          refine wp_aload_n (j := 0) rfl q158_ok d158_236 ?_
          refine wp_getR q158_ok d158_237 fl_11_19 rfl (by first | assumption | exact so0 hsh rfl) (by first | assumption | exact hr _ _ _ rfl) ?_
          refine wp_aload_n (j := 0) rfl q158_ok d158_240 ?_
          refine wp_getI q158_ok d158_241 fl_11_123 rfl (by first | assumption | exact so0 hsh rfl) h14 ?_
          refine wp_iald (m := 5) q158_ok d158_244 (by first | assumption | exact so0 hsh rfl) (shl hsh (m := 5) (Nat.le_of_ble_eq_true rfl) rfl) (ixn_nI (show t < 5 by omega)) S2.2.2.2.2.2.1 ?_ (shK hsh)
          refine wp_iast (m := 450) q158_ok d158_245 (by first | assumption | exact so0 hsh rfl) (shl hsh (m := 450) (Nat.le_of_ble_eq_true rfl) rfl) (ixn_nI (show 90 * t + i < 450 by omega)) ?_
          refine wp_aload_n (j := 0) rfl q158_ok d158_246 ?_
          refine wp_cV q158_ok d158_247 ml_11_153 rfl q151_ok (u := 11) rfl (by first | assumption | exact so0 hsh rfl) rfl (Nat.le_of_ble_eq_true rfl) (Nat.le_of_ble_eq_true rfl) (hs _ _ _ _ S3) (fun v247 μ247 hc => ?_)
          obtain ⟨rfl, d4, rfl, x4, m4⟩ := hc
          refine ⟨mm_le_same rfl, ?_⟩
          have h4 : d4 250 14 = nI t := (x4.2.1 14 (by decide) (by decide) (by decide)).trans h14
          have e255 := x4.1 255 (by decide) (by decide)
          have i4 : d4 255 t = nI i := (congrFun e255 t).trans hi
          have t6 : d4 256 (90 * t + i) = nI cs.length := (congrFun (x4.1 256 (by decide) (by decide)) _).trans h256
          have t7 : d4 257 (90 * t + i) = nI (cs ++ x.2).length := (congrFun (x4.1 257 (by decide) (by decide)) _).trans ((mm_up_at _).trans (if_pos rfl))
          have hz : zf t i d d4 := zf_trans (zf_trans (zf_trans (zf_trans (zf_tab (Or.inr (Or.inl rfl))) (zf_xf xf_3)) (zf_xf xf_3)) (zf_tab (Or.inr (Or.inl rfl)))) (zf_xf x4)
          cases e3 : sumK L 6 (wsp L x.1 + 1) with
          | inl w =>
            rw [e3] at m4
            have m4 : WS d4 L t w 0 (L.1 + 6) := m4
            obtain ⟨h1, _, a, c, h3, _, _⟩ := m4
            refine wp_post (r_fin hsh hr (c := c) h4 ht h3.2 i4 h90) (fun v μ hc => ?_)
            obtain ⟨rfl, rfl⟩ := hc
            exact cl_fail (zf_trans hz (zf_trans (zf_tab (Or.inr (Or.inr rfl))) zf_255)) rfl h1.1 h1.2.1
          | inr y =>
            rw [e3] at m4
            have m4 : MS d4 L t 6 y.1 0 ((cs ++ x.2) ++ y.2) := m4
            refine wp_post (r_fin hsh hr (c := ((cs ++ x.2) ++ y.2).length) h4 ht m4.2.2.2.2.2.1 i4 h90) (fun v μ hc => ?_)
            obtain ⟨rfl, rfl⟩ := hc
            refine ⟨rfl, _, rfl, zf_trans hz (zf_trans (zf_tab (Or.inr (Or.inr rfl))) zf_255), ?_, (mm_up_at t).trans (if_pos rfl), t6, ?_, ?_⟩
            · rw [List.append_assoc] at m4
              exact MS_tab (MS_tab m4 (by decide)) (by decide)
            · rw [List.length_append] at t7
              exact t7
            · refine (congrFun (mm_up_ne (show 258 ≠ 255 by decide)) _).trans (((mm_up_at _).trans (if_pos rfl)).trans ?_)
              rw [List.length_append, List.length_append]
        · refine wp_aload_n (j := 0) rfl q158_ok d158_216 ?_
          refine wp_cV q158_ok d158_217 ml_11_129 rfl q142_ok (u := 11) rfl (by first | assumption | exact so0 hsh rfl) rfl (Nat.le_of_ble_eq_true rfl) (Nat.le_of_ble_eq_true rfl) (m_bad0 hsh hr S1.2.2.1 S1.2.1.1) (fun v217 μ217 hc => ?_)
          obtain ⟨rfl, rfl⟩ := hc
          refine ⟨mm_le_same rfl, ?_⟩
          refine wp_vret q158_ok d158_220 rfl ?_
          refine cl_fail (zf_trans (zf_trans (zf_tab (Or.inr (Or.inl rfl))) (zf_xf xf_3)) (zf_xf xf_4)) (w := wsp L x.1) ?_ rfl hwl
          show tailS L x.1 x.2 = _
          unfold tailS
          rw [if_neg h213]
theorem r_clause {xs : List Int32} {ext : mm_X} {sh : mm_S} {g : mm_G} {r : mm_R} {L : wo_P} {t : Nat} (hsh : shp sh) (hr : rfx r) {n i p : Nat} {d : mm_D} {cs : List Int32} (hs : RMsum xs ext sh g r L t (n + 3) 6) (hcm : RMcmp xs ext sh g r L t (n + 3) 6) (ha : RMand xs ext sh g r L t (n + 3) 6) (ho : RMor xs ext sh g r L t (n + 3) 6) (hcn : RMcon xs ext sh g r L t (n + 3) 6) (h : MS d L t 6 p 0 cs) (hi : d 255 t = nI i) (h90 : i < 90) : wp xs ext (n + 4) 158 0 [some (.ref 250), none, none] [] (sh, d, g, r) (clpost sh g r L t i d cs (clauS L p)) := by
  have hpl := h.2.1.2
  have hwl := wsp_le L hpl
  have hwg := wsp_ge L p
  have hl := h.2.2.2.2.2.2.1
  have h14 := h.2.2.2.2.1.1
  have ht := h.2.2.2.2.1.2
  have S1 := MS_at (s2 := 0) h hwl (by omega)
  refine wp_bipush (v := 90) (by decide) q158_ok d158_0 ?_
  refine wp_aload_n (j := 0) rfl q158_ok d158_2 ?_
  refine wp_getI q158_ok d158_3 fl_11_123 rfl (by first | assumption | exact so0 hsh rfl) h14 ?_
  refine wp_imul rfl q158_ok d158_6 ?_
  refine wp_aload_n (j := 0) rfl q158_ok d158_7 ?_
  refine wp_getR q158_ok d158_8 fl_11_22 rfl (by first | assumption | exact so0 hsh rfl) (by first | assumption | exact hr _ _ _ rfl) ?_
  refine wp_aload_n (j := 0) rfl q158_ok d158_11 ?_
  refine wp_getI q158_ok d158_12 fl_11_123 rfl (by first | assumption | exact so0 hsh rfl) h14 ?_
  refine wp_iald (m := 5) q158_ok d158_15 (by first | assumption | exact so0 hsh rfl) (shl hsh (m := 5) (Nat.le_of_ble_eq_true rfl) rfl) (ixn_nI (show t < 5 by omega)) hi ?_ (shK hsh)
  refine wp_iadd (nI_90 t i) q158_ok d158_16 ?_
  refine wp_istore_n (j := 1) (Nat.le_of_ble_eq_true rfl) (rfl : _ = [_, _, _]) q158_ok d158_17 ?_
  refine wp_aload_n (j := 0) rfl q158_ok d158_18 ?_
  refine wp_getI q158_ok d158_19 fl_11_120 rfl (by first | assumption | exact so0 hsh rfl) h.2.2.1 ?_
  refine wp_iconst (v := -1) (by decide) q158_ok d158_22 ?_
  refine wp_icmp_ne q158_ok d158_23 (t := 39) rfl (fun h23 => ?_) (fun h23 => ?_)
  · exact absurd rfl h23
  · have h23 := Classical.not_not.mp h23
    refine wp_aload_n (j := 0) rfl q158_ok d158_26 ?_
    refine wp_cV q158_ok d158_27 ml_11_132 rfl q141_ok (u := 11) rfl (by first | assumption | exact so0 hsh rfl) rfl (Nat.le_of_ble_eq_true rfl) (Nat.le_of_ble_eq_true rfl) (m_look hsh hr h.1 h.2.1.1 h.2.1.2) (fun v27 μ27 hc => ?_)
    obtain ⟨rfl, rfl⟩ := hc
    refine ⟨mm_le_same rfl, ?_⟩
    refine wp_bipush (v := 121) (by decide) q158_ok d158_30 ?_
    refine wp_icmp_eq q158_ok d158_32 (t := 39) rfl (fun h32 => ?_) (fun h32 => ?_)
    · have hy : bAt L (wsp L p) = 121 := h32
      have hql := bAt_lt hy (by decide)
      have S2 := MS_at (s2 := 0) S1 hql (by omega)
      have hw2 := wsp_le L (show wsp L p + 1 ≤ L.1 from hql)
      have hwg1 := wsp_ge L (wsp L p + 1)
      have S3 := MS_at (s2 := 0) S2 hw2 (by omega)
      refine wp_aload_n (j := 0) rfl q158_ok d158_39 ?_
      refine wp_dup rfl q158_ok d158_40 ?_
      refine wp_getI q158_ok d158_41 fl_11_113 rfl (by first | assumption | exact so0 hsh rfl) S1.2.1.1 ?_
      refine wp_iconst (v := 1) (by decide) q158_ok d158_44 ?_
      refine wp_iadd (nI_1 _) q158_ok d158_45 ?_
      refine wp_putI q158_ok d158_46 fl_11_113 rfl (by first | assumption | exact so0 hsh rfl) (Or.inl rfl) ?_
      refine wp_aload_n (j := 0) rfl q158_ok d158_49 ?_
      refine wp_getI q158_ok d158_50 fl_11_120 rfl (by first | assumption | exact so0 hsh rfl) S2.2.2.1 ?_
      refine wp_iconst (v := -1) (by decide) q158_ok d158_53 ?_
      refine wp_icmp_ne q158_ok d158_54 (t := 70) rfl (fun h54 => ?_) (fun h54 => ?_)
      · exact absurd rfl h54
      · have h54 := Classical.not_not.mp h54
        refine wp_aload_n (j := 0) rfl q158_ok d158_57 ?_
        refine wp_cV q158_ok d158_58 ml_11_132 rfl q141_ok (u := 11) rfl (by first | assumption | exact so0 hsh rfl) rfl (Nat.le_of_ble_eq_true rfl) (Nat.le_of_ble_eq_true rfl) (m_look hsh hr S2.1 S2.2.1.1 S2.2.1.2) (fun v58 μ58 hc => ?_)
        obtain ⟨rfl, rfl⟩ := hc
        refine ⟨mm_le_same rfl, ?_⟩
        refine wp_bipush (v := 58) (by decide) q158_ok d158_61 ?_
        refine wp_icmp_eq q158_ok d158_63 (t := 70) rfl (fun h63 => ?_) (fun h63 => ?_)
        · have hcol : bAt L (wsp L (wsp L p + 1)) = 58 := h63
          have hq2 := bAt_lt hcol (by decide)
          have hwg2 := wsp_ge L (wsp L p + 1)
          have S4 := MS_at (s2 := 0) S3 hq2 (by omega)
          have hw3 := wsp_le L (show wsp L (wsp L p + 1) + 1 ≤ L.1 from hq2)
          have hwg3 := wsp_ge L (wsp L (wsp L p + 1) + 1)
          have hid := wsp_id (show wsp L (wsp L p + 1) + 1 ≤ L.1 from hq2)
          have ec : clauS L p = bodyS L (wsp L (wsp L (wsp L p + 1) + 1)) := by
            unfold clauS
            rw [if_pos hy, if_pos hcol]
          refine wp_aload_n (j := 0) rfl q158_ok d158_70 ?_
          refine wp_dup rfl q158_ok d158_71 ?_
          refine wp_getI q158_ok d158_72 fl_11_113 rfl (by first | assumption | exact so0 hsh rfl) S3.2.1.1 ?_
          refine wp_iconst (v := 1) (by decide) q158_ok d158_75 ?_
          refine wp_iadd (nI_1 _) q158_ok d158_76 ?_
          refine wp_putI q158_ok d158_77 fl_11_113 rfl (by first | assumption | exact so0 hsh rfl) (Or.inl rfl) ?_
          refine wp_aload_n (j := 0) rfl q158_ok d158_80 ?_
          refine wp_getI q158_ok d158_81 fl_11_120 rfl (by first | assumption | exact so0 hsh rfl) S4.2.2.1 ?_
          refine wp_iconst (v := -1) (by decide) q158_ok d158_84 ?_
          refine wp_icmp_eq q158_ok d158_85 (t := 89) rfl (fun h85 => ?_) (fun h85 => ?_)
          · refine wp_aload_n (j := 0) rfl q158_ok d158_89 ?_
            refine wp_getR q158_ok d158_90 fl_11_25 rfl (by first | assumption | exact so0 hsh rfl) (by first | assumption | exact hr _ _ _ rfl) ?_
            refine wp_iload_n (j := 1) rfl q158_ok d158_93 ?_
            refine wp_aload_n (j := 0) rfl q158_ok d158_94 ?_
            refine wp_getR q158_ok d158_95 fl_11_19 rfl (by first | assumption | exact so0 hsh rfl) (by first | assumption | exact hr _ _ _ rfl) ?_
            refine wp_aload_n (j := 0) rfl q158_ok d158_98 ?_
            refine wp_getI q158_ok d158_99 fl_11_123 rfl (by first | assumption | exact so0 hsh rfl) h14 ?_
            refine wp_iald (m := 5) q158_ok d158_102 (by first | assumption | exact so0 hsh rfl) (shl hsh (m := 5) (Nat.le_of_ble_eq_true rfl) rfl) (ixn_nI (show t < 5 by omega)) S4.2.2.2.2.2.1 ?_ (shK hsh)
            refine wp_iast (m := 450) q158_ok d158_103 (by first | assumption | exact so0 hsh rfl) (shl hsh (m := 450) (Nat.le_of_ble_eq_true rfl) rfl) (ixn_nI (show 90 * t + i < 450 by omega)) ?_
            have S5 := MS_tab (c := 256) (j := 90 * t + i) (v := nI cs.length) S4 (by decide)
            have S6 := MS_at (s2 := 0) S5 hw3 (by omega)
            have S7 := MS_at (s2 := 0) (q := wsp L (wsp L (wsp L (wsp L p + 1) + 1))) S6 (by rw [hid]; exact hw3) (by rw [hid]; omega)
            rw [hid] at S7
            refine wp_aload_n (j := 0) rfl q158_ok d158_104 ?_
            refine wp_cV q158_ok d158_105 ml_11_132 rfl q141_ok (u := 11) rfl (by first | assumption | exact so0 hsh rfl) rfl (Nat.le_of_ble_eq_true rfl) (Nat.le_of_ble_eq_true rfl) (m_look hsh hr S5.1 S5.2.1.1 S5.2.1.2) (fun v105 μ105 hc => ?_)
            obtain ⟨rfl, rfl⟩ := hc
            refine ⟨mm_le_same rfl, ?_⟩
            generalize hq3 : wsp L (wsp L (wsp L p + 1) + 1) = q3 at *
            refine wp_bipush (v := 33) (by decide) q158_ok d158_108 ?_
            refine wp_icmp_eq q158_ok d158_110 (t := 122) rfl (fun h110 => ?_) (fun h110 => ?_)
            · refine wp_iconst (v := 1) (by decide) q158_ok d158_122 ?_
              refine wp_goto (t := 127) rfl q158_ok d158_123 ?_
              refine wp_istore_n (j := 2) (Nat.le_of_ble_eq_true rfl) (rfl : _ = [_, _, _]) q158_ok d158_127 ?_
              refine wp_iload_n (j := 2) rfl q158_ok d158_128 ?_
              refine wp_if_eq q158_ok d158_129 (t := 139) rfl (fun h129 => ?_) (fun h129 => ?_)
              · exact absurd h129 (by decide)
              · have eb : clauS L p = tlS L (conS L (unitK L 6) q3) := by
                  rw [ec]
                  unfold bodyS
                  rw [if_pos (Or.inl h110)]
                  rfl
                rw [eb]
                refine wp_aload_n (j := 0) rfl q158_ok d158_132 ?_
                refine wp_cV q158_ok d158_133 ml_11_172 rfl q157_ok (u := 11) rfl (by first | assumption | exact so0 hsh rfl) rfl (Nat.le_of_ble_eq_true rfl) (Nat.le_of_ble_eq_true rfl) (hcn _ _ _ _ S6) (fun v133 μ133 hc => ?_)
                obtain ⟨rfl, d4, rfl, x4, m4⟩ := hc
                refine ⟨mm_le_same rfl, ?_⟩
                refine wp_goto (t := 183) rfl q158_ok d158_136 ?_
                have e255 := x4.1 255 (by decide) (by decide)
                refine wp_post (r_tail hsh hr hs m4 ((x4.2.1 14 (by decide) (by decide) (by decide)).trans h14) ht ((congrFun e255 t).trans hi) h90 ((congrFun (x4.1 256 (by decide) (by decide)) _).trans ((congrFun (mm_up_ne (by decide)) _).trans ((mm_up_at _).trans (if_pos rfl))))) (fun v μ hc => ?_)
                exact cl_trans (zf_trans (zf_trans (zf_trans (zf_trans (zf_trans (zf_trans (zf_xf xf_3) (zf_xf xf_3)) (zf_xf xf_3)) (zf_xf xf_3)) (zf_tab (Or.inl rfl))) (zf_xf xf_3)) (zf_xf x4)) hc
            · refine wp_aload_n (j := 0) rfl q158_ok d158_113 ?_
              refine wp_cV q158_ok d158_114 ml_11_132 rfl q141_ok (u := 11) rfl (by first | assumption | exact so0 hsh rfl) rfl (Nat.le_of_ble_eq_true rfl) (Nat.le_of_ble_eq_true rfl) (m_look hsh hr S6.1 S6.2.1.1 S6.2.1.2) (fun v114 μ114 hc => ?_)
              obtain ⟨rfl, rfl⟩ := hc
              refine ⟨mm_le_same rfl, ?_⟩
              rw [hid]
              refine wp_bipush (v := 40) (by decide) q158_ok d158_117 ?_
              refine wp_icmp_ne q158_ok d158_119 (t := 126) rfl (fun h119 => ?_) (fun h119 => ?_)
              · refine wp_iconst (v := 0) (by decide) q158_ok d158_126 ?_
                refine wp_istore_n (j := 2) (Nat.le_of_ble_eq_true rfl) (rfl : _ = [_, _, _]) q158_ok d158_127 ?_
                refine wp_iload_n (j := 2) rfl q158_ok d158_128 ?_
                refine wp_if_eq q158_ok d158_129 (t := 139) rfl (fun h129 => ?_) (fun h129 => ?_)
                · have hno : ¬ (bAt L q3 = 33 ∨ bAt L q3 = 40) := fun q => by
                    rcases q with q | q
                    · exact h110 q
                    · exact h119 q
                  refine wp_aload_n (j := 0) rfl q158_ok d158_139 ?_
                  refine wp_cV q158_ok d158_140 ml_11_153 rfl q151_ok (u := 11) rfl (by first | assumption | exact so0 hsh rfl) rfl (Nat.le_of_ble_eq_true rfl) (Nat.le_of_ble_eq_true rfl) (hs _ _ _ _ S7) (fun v140 μ140 hc => ?_)
                  obtain ⟨rfl, d4, rfl, x4, m4⟩ := hc
                  refine ⟨mm_le_same rfl, ?_⟩
                  have h4 : d4 250 14 = nI t := (x4.2.1 14 (by decide) (by decide) (by decide)).trans h14
                  have e255 := x4.1 255 (by decide) (by decide)
                  have i4 : d4 255 t = nI i := (congrFun e255 t).trans hi
                  have t6 : d4 256 (90 * t + i) = nI cs.length := (congrFun (x4.1 256 (by decide) (by decide)) _).trans ((congrFun (mm_up_ne (by decide)) _).trans ((congrFun (mm_up_ne (by decide)) _).trans ((mm_up_at _).trans (if_pos rfl))))
                  have hz : zf t i d d4 := zf_trans (zf_trans (zf_trans (zf_trans (zf_trans (zf_trans (zf_trans (zf_xf xf_3) (zf_xf xf_3)) (zf_xf xf_3)) (zf_xf xf_3)) (zf_tab (Or.inl rfl))) (zf_xf xf_3)) (zf_xf xf_3)) (zf_xf x4)
                  cases e3 : sumK L 6 q3 with
                  | inl w =>
                    rw [e3] at m4
                    have m4 : WS d4 L t w 0 (L.1 + 6) := m4
                    have hw4 := WS_ne m4
                    obtain ⟨h1, _, a, c, h3, _, _⟩ := m4
                    refine wp_aload_n (j := 0) rfl q158_ok d158_143 ?_
                    refine wp_getI q158_ok d158_144 fl_11_120 rfl (by first | assumption | exact so0 hsh rfl) (by first | assumption | rfl) ?_
                    refine wp_iconst (v := -1) (by decide) q158_ok d158_147 ?_
                    refine wp_icmp_ne q158_ok d158_148 (t := 165) rfl (fun h148 => ?_) (fun h148 => ?_)
                    · refine wp_iconst (v := 0) (by decide) q158_ok d158_165 ?_
                      refine wp_istore_n (j := 2) (Nat.le_of_ble_eq_true rfl) (rfl : _ = [_, _, _]) q158_ok d158_166 ?_
                      refine wp_iload_n (j := 2) rfl q158_ok d158_167 ?_
                      refine wp_if_eq q158_ok d158_168 (t := 183) rfl (fun h168 => ?_) (fun h168 => ?_)
                      · refine wp_aload_n (j := 0) rfl q158_ok d158_183 ?_
                        refine wp_getR q158_ok d158_184 fl_11_28 rfl (by first | assumption | exact so0 hsh rfl) (by first | assumption | exact hr _ _ _ rfl) ?_
                        refine wp_iload_n (j := 1) rfl q158_ok d158_187 ?_
                        refine wp_aload_n (j := 0) rfl q158_ok d158_188 ?_
                        refine wp_getR q158_ok d158_189 fl_11_25 rfl (by first | assumption | exact so0 hsh rfl) (by first | assumption | exact hr _ _ _ rfl) ?_
                        refine wp_iload_n (j := 1) rfl q158_ok d158_192 ?_
                        refine wp_iald (m := 450) q158_ok d158_193 (by first | assumption | exact so0 hsh rfl) (shl hsh (m := 450) (Nat.le_of_ble_eq_true rfl) rfl) (ixn_nI (show 90 * t + i < 450 by omega)) t6 ?_ (shK hsh)
                        refine wp_iast (m := 450) q158_ok d158_194 (by first | assumption | exact so0 hsh rfl) (shl hsh (m := 450) (Nat.le_of_ble_eq_true rfl) rfl) (ixn_nI (show 90 * t + i < 450 by omega)) ?_
                        refine wp_iload_n (j := 2) rfl q158_ok d158_195 ?_
                        refine wp_if_eq q158_ok d158_196 (t := 250) rfl (fun h196 => ?_) (fun h196 => ?_)
                        · refine wp_post (r_fin hsh hr (c := c) h4 ht h3.2 i4 h90) (fun v μ hc => ?_)
                          obtain ⟨rfl, rfl⟩ := hc
                          refine cl_fail (zf_trans hz (zf_trans (zf_tab (Or.inr (Or.inl rfl))) (zf_trans (zf_tab (Or.inr (Or.inr rfl))) zf_255))) ?_ h1.1 h1.2.1
                          rw [ec]
                          unfold bodyS
                          rw [if_neg hno, e3]
                        · exact absurd rfl h196
                      · exact absurd rfl h168
                    · have h148 := Classical.not_not.mp h148
                      exact absurd h148 hw4
                  | inr x =>
                    rw [e3] at m4
                    have m4 : MS d4 L t 6 x.1 0 (cs ++ x.2) := m4
                    have hx1 := m4.2.1.2
                    have hxw := wsp_le L hx1
                    have hxg := wsp_ge L x.1
                    have hxl := m4.2.2.2.2.2.2.1
                    have S8 := MS_at (s2 := 0) m4 hxw (by omega)
                    refine wp_aload_n (j := 0) rfl q158_ok d158_143 ?_
                    refine wp_getI q158_ok d158_144 fl_11_120 rfl (by first | assumption | exact so0 hsh rfl) m4.2.2.1 ?_
                    refine wp_iconst (v := -1) (by decide) q158_ok d158_147 ?_
                    refine wp_icmp_ne q158_ok d158_148 (t := 165) rfl (fun h148 => ?_) (fun h148 => ?_)
                    · exact absurd rfl h148
                    · have h148 := Classical.not_not.mp h148
                      refine wp_aload_n (j := 0) rfl q158_ok d158_151 ?_
                      refine wp_cV q158_ok d158_152 ml_11_132 rfl q141_ok (u := 11) rfl (by first | assumption | exact so0 hsh rfl) rfl (Nat.le_of_ble_eq_true rfl) (Nat.le_of_ble_eq_true rfl) (m_look hsh hr m4.1 m4.2.1.1 m4.2.1.2) (fun v152 μ152 hc => ?_)
                      obtain ⟨rfl, rfl⟩ := hc
                      refine ⟨mm_le_same rfl, ?_⟩
                      refine wp_cS q158_ok d158_155 ml_11_166 rfl q152_ok rfl rfl rfl (Nat.le_of_ble_eq_true rfl) (Nat.le_of_ble_eq_true rfl) (m_isSign _) (fun v155 μ155 hc => ?_)
                      obtain ⟨rfl, rfl⟩ := hc
                      refine ⟨mm_le_same rfl, ?_⟩
                      by_cases hc : cmp (bAt L (wsp L x.1)) = -1
                      · rw [if_pos hc]
                        refine wp_if_eq q158_ok d158_158 (t := 165) rfl (fun h158 => ?_) (fun h158 => ?_)
                        · refine wp_iconst (v := 0) (by decide) q158_ok d158_165 ?_
                          refine wp_istore_n (j := 2) (Nat.le_of_ble_eq_true rfl) (rfl : _ = [_, _, _]) q158_ok d158_166 ?_
                          refine wp_iload_n (j := 2) rfl q158_ok d158_167 ?_
                          refine wp_if_eq q158_ok d158_168 (t := 183) rfl (fun h168 => ?_) (fun h168 => ?_)
                          · refine wp_aload_n (j := 0) rfl q158_ok d158_183 ?_
                            refine wp_getR q158_ok d158_184 fl_11_28 rfl (by first | assumption | exact so0 hsh rfl) (by first | assumption | exact hr _ _ _ rfl) ?_
                            refine wp_iload_n (j := 1) rfl q158_ok d158_187 ?_
                            refine wp_aload_n (j := 0) rfl q158_ok d158_188 ?_
                            refine wp_getR q158_ok d158_189 fl_11_25 rfl (by first | assumption | exact so0 hsh rfl) (by first | assumption | exact hr _ _ _ rfl) ?_
                            refine wp_iload_n (j := 1) rfl q158_ok d158_192 ?_
                            refine wp_iald (m := 450) q158_ok d158_193 (by first | assumption | exact so0 hsh rfl) (shl hsh (m := 450) (Nat.le_of_ble_eq_true rfl) rfl) (ixn_nI (show 90 * t + i < 450 by omega)) t6 ?_ (shK hsh)
                            refine wp_iast (m := 450) q158_ok d158_194 (by first | assumption | exact so0 hsh rfl) (shl hsh (m := 450) (Nat.le_of_ble_eq_true rfl) rfl) (ixn_nI (show 90 * t + i < 450 by omega)) ?_
                            refine wp_iload_n (j := 2) rfl q158_ok d158_195 ?_
                            refine wp_if_eq q158_ok d158_196 (t := 250) rfl (fun h196 => ?_) (fun h196 => ?_)
                            · refine wp_post (r_fin hsh hr (c := (cs ++ x.2).length) h4 ht m4.2.2.2.2.2.1 i4 h90) (fun v μ hc2 => ?_)
                              obtain ⟨rfl, rfl⟩ := hc2
                              have eb : clauS L p = .inr (wsp L x.1, ([], x.2)) := by
                                rw [ec]
                                unfold bodyS
                                rw [if_neg hno, e3]
                                show (if cmp (bAt L (wsp L x.1)) = -1 then _ else _) = _
                                rw [if_pos hc]
                              rw [eb]
                              refine ⟨rfl, _, rfl, zf_trans hz (zf_trans (zf_xf xf_3) (zf_trans (zf_tab (Or.inr (Or.inl rfl))) (zf_trans (zf_tab (Or.inr (Or.inr rfl))) zf_255))), ?_, (mm_up_at t).trans (if_pos rfl), t6, ?_, ?_⟩
                              · exact MS_tab (MS_tab (MS_tab S8 (by decide)) (by decide)) (by decide)
                              · exact (congrFun (mm_up_ne (show 257 ≠ 255 by decide)) _).trans ((congrFun (mm_up_ne (show 257 ≠ 258 by decide)) _).trans ((mm_up_at _).trans (if_pos rfl)))
                              · refine (congrFun (mm_up_ne (show 258 ≠ 255 by decide)) _).trans (((mm_up_at _).trans (if_pos rfl)).trans ?_)
                                rw [List.length_append]
                                rfl
                            · exact absurd rfl h196
                          · exact absurd rfl h168
                        · exact absurd rfl h158
                      · rw [if_neg hc]
                        refine wp_if_eq q158_ok d158_158 (t := 165) rfl (fun h158 => ?_) (fun h158 => ?_)
                        · exact absurd h158 (by decide)
                        · refine wp_iconst (v := 1) (by decide) q158_ok d158_161 ?_
                          refine wp_goto (t := 166) rfl q158_ok d158_162 ?_
                          refine wp_istore_n (j := 2) (Nat.le_of_ble_eq_true rfl) (rfl : _ = [_, _, _]) q158_ok d158_166 ?_
                          refine wp_iload_n (j := 2) rfl q158_ok d158_167 ?_
                          refine wp_if_eq q158_ok d158_168 (t := 183) rfl (fun h168 => ?_) (fun h168 => ?_)
                          · exact absurd h168 (by decide)
                          · refine wp_aload_n (j := 0) rfl q158_ok d158_171 ?_
                            refine wp_cV q158_ok d158_172 ml_11_175 rfl q153_ok (u := 11) rfl (by first | assumption | exact so0 hsh rfl) rfl (Nat.le_of_ble_eq_true rfl) (Nat.le_of_ble_eq_true rfl) (hcm _ _ _ _ S8) (fun v172 μ172 hc => ?_)
                            obtain ⟨rfl, d5, rfl, x5, m5⟩ := hc
                            refine ⟨mm_le_same rfl, ?_⟩
                            refine wp_aload_n (j := 0) rfl q158_ok d158_175 ?_
                            refine wp_cV q158_ok d158_176 ml_11_178 rfl q155_ok (u := 11) rfl (by first | assumption | exact so0 hsh rfl) rfl (Nat.le_of_ble_eq_true rfl) (Nat.le_of_ble_eq_true rfl) (ha _ _ _ _ m5 (bd_1 (cmpS_bd L 6 _ hxw))) (fun v176 μ176 hc => ?_)
                            obtain ⟨rfl, d6, rfl, x6, m6⟩ := hc
                            refine ⟨mm_le_same rfl, ?_⟩
                            refine wp_aload_n (j := 0) rfl q158_ok d158_179 ?_
                            refine wp_cV q158_ok d158_180 ml_11_181 rfl q156_ok (u := 11) rfl (by first | assumption | exact so0 hsh rfl) rfl (Nat.le_of_ble_eq_true rfl) (Nat.le_of_ble_eq_true rfl) (ho _ _ _ _ m6 (bd_1 (bd_thn (cmpS_bd L 6 _ hxw) (mul_bd (by decide) (unitK_bd L 6) 160)))) (fun v180 μ180 hc => ?_)
                            obtain ⟨rfl, d7, rfl, x7, m7⟩ := hc
                            refine ⟨mm_le_same rfl, ?_⟩
                            rw [thn_assoc] at m7
                            have m7 : mst L t 6 0 d7 (cs ++ x.2) (restS L (wsp L x.1)) := m7
                            have x47 := xf_trans (xf_trans (xf_trans xf_3 x5) x6) x7
                            have e255' := x47.1 255 (by decide) (by decide)
                            have eb : clauS L p = tlS L (thn (.inr (wsp L x.1, x.2)) (restS L)) := by
                              rw [ec]
                              unfold bodyS
                              rw [if_neg hno, e3]
                              show (if cmp (bAt L (wsp L x.1)) = -1 then _ else _) = _
                              rw [if_neg hc]
                              show _ = tlS L (match restS L (wsp L x.1) with | .inl w => (.inl w : wo_R) | .inr z => .inr (z.1, x.2 ++ z.2))
                              cases restS L (wsp L x.1) with
                              | inl w => rfl
                              | inr y => rfl
                            have m8 : mst L t 6 0 d7 cs (thn (.inr (wsp L x.1, x.2)) (restS L)) := by
                              show mst L t 6 0 d7 cs (match restS L (wsp L x.1) with | .inl w => (.inl w : wo_R) | .inr z => .inr (z.1, x.2 ++ z.2))
                              cases e4 : restS L (wsp L x.1) with
                              | inl w => rw [e4] at m7; exact m7
                              | inr y =>
                                rw [e4] at m7
                                have m7 : MS d7 L t 6 y.1 0 ((cs ++ x.2) ++ y.2) := m7
                                rw [List.append_assoc] at m7
                                exact m7
                            rw [eb]
                            refine wp_post (r_tail hsh hr hs m8 ((x47.2.1 14 (by decide) (by decide) (by decide)).trans h4) ht ((congrFun e255' t).trans i4) h90 ((congrFun (x47.1 256 (by decide) (by decide)) _).trans t6)) (fun v μ hc => ?_)
                            exact cl_trans (zf_trans hz (zf_xf x47)) hc
                · exact absurd rfl h129
              · have h119 := Classical.not_not.mp h119
                refine wp_iconst (v := 1) (by decide) q158_ok d158_122 ?_
                refine wp_goto (t := 127) rfl q158_ok d158_123 ?_
                refine wp_istore_n (j := 2) (Nat.le_of_ble_eq_true rfl) (rfl : _ = [_, _, _]) q158_ok d158_127 ?_
                refine wp_iload_n (j := 2) rfl q158_ok d158_128 ?_
                refine wp_if_eq q158_ok d158_129 (t := 139) rfl (fun h129 => ?_) (fun h129 => ?_)
                · exact absurd h129 (by decide)
                · have eb : clauS L p = tlS L (conS L (unitK L 6) q3) := by
                    rw [ec]
                    unfold bodyS
                    rw [if_pos (Or.inr h119)]
                    rfl
                  rw [eb]
                  refine wp_aload_n (j := 0) rfl q158_ok d158_132 ?_
                  refine wp_cV q158_ok d158_133 ml_11_172 rfl q157_ok (u := 11) rfl (by first | assumption | exact so0 hsh rfl) rfl (Nat.le_of_ble_eq_true rfl) (Nat.le_of_ble_eq_true rfl) (hcn _ _ _ _ S7) (fun v133 μ133 hc => ?_)
                  obtain ⟨rfl, d4, rfl, x4, m4⟩ := hc
                  refine ⟨mm_le_same rfl, ?_⟩
                  refine wp_goto (t := 183) rfl q158_ok d158_136 ?_
                  have e255 := x4.1 255 (by decide) (by decide)
                  refine wp_post (r_tail hsh hr hs m4 ((x4.2.1 14 (by decide) (by decide) (by decide)).trans h14) ht ((congrFun e255 t).trans hi) h90 ((congrFun (x4.1 256 (by decide) (by decide)) _).trans ((congrFun (mm_up_ne (by decide)) _).trans ((congrFun (mm_up_ne (by decide)) _).trans ((mm_up_at _).trans (if_pos rfl)))))) (fun v μ hc => ?_)
                  exact cl_trans (zf_trans (zf_trans (zf_trans (zf_trans (zf_trans (zf_trans (zf_trans (zf_xf xf_3) (zf_xf xf_3)) (zf_xf xf_3)) (zf_xf xf_3)) (zf_tab (Or.inl rfl))) (zf_xf xf_3)) (zf_xf xf_3)) (zf_xf x4)) hc
          · exact absurd rfl h85
        · refine wp_aload_n (j := 0) rfl q158_ok d158_66 ?_
          refine wp_cV q158_ok d158_67 ml_11_129 rfl q142_ok (u := 11) rfl (by first | assumption | exact so0 hsh rfl) rfl (Nat.le_of_ble_eq_true rfl) (Nat.le_of_ble_eq_true rfl) (m_bad0 hsh hr S3.2.2.1 S3.2.1.1) (fun v67 μ67 hc => ?_)
          obtain ⟨rfl, rfl⟩ := hc
          refine ⟨mm_le_same rfl, ?_⟩
          refine wp_aload_n (j := 0) rfl q158_ok d158_70 ?_
          refine wp_dup rfl q158_ok d158_71 ?_
          refine wp_getI q158_ok d158_72 fl_11_113 rfl (by first | assumption | exact so0 hsh rfl) S3.2.1.1 ?_
          refine wp_iconst (v := 1) (by decide) q158_ok d158_75 ?_
          refine wp_iadd rfl q158_ok d158_76 ?_
          refine wp_putI q158_ok d158_77 fl_11_113 rfl (by first | assumption | exact so0 hsh rfl) (Or.inl rfl) ?_
          refine wp_aload_n (j := 0) rfl q158_ok d158_80 ?_
          refine wp_getI q158_ok d158_81 fl_11_120 rfl (by first | assumption | exact so0 hsh rfl) (by first | assumption | rfl) ?_
          refine wp_iconst (v := -1) (by decide) q158_ok d158_84 ?_
          refine wp_icmp_eq q158_ok d158_85 (t := 89) rfl (fun h85 => ?_) (fun h85 => ?_)
          · exact absurd h85 (show ¬ nI (wsp L (wsp L p + 1)) = -1 from nI_nm1 (by have := h.1.2.1; omega))
          · refine wp_vret q158_ok d158_88 rfl ?_
            refine cl_fail (zf_trans (zf_trans (zf_trans (zf_trans (zf_xf xf_3) (zf_xf xf_3)) (zf_xf xf_3)) (zf_xf xf_4)) (zf_xf xf_3)) (w := wsp L (wsp L p + 1)) ?_ rfl hw2
            unfold clauS
            rw [if_pos hy, if_neg h63]
    · refine wp_aload_n (j := 0) rfl q158_ok d158_35 ?_
      refine wp_cV q158_ok d158_36 ml_11_129 rfl q142_ok (u := 11) rfl (by first | assumption | exact so0 hsh rfl) rfl (Nat.le_of_ble_eq_true rfl) (Nat.le_of_ble_eq_true rfl) (m_bad0 hsh hr S1.2.2.1 S1.2.1.1) (fun v36 μ36 hc => ?_)
      obtain ⟨rfl, rfl⟩ := hc
      refine ⟨mm_le_same rfl, ?_⟩
      refine wp_aload_n (j := 0) rfl q158_ok d158_39 ?_
      refine wp_dup rfl q158_ok d158_40 ?_
      refine wp_getI q158_ok d158_41 fl_11_113 rfl (by first | assumption | exact so0 hsh rfl) S1.2.1.1 ?_
      refine wp_iconst (v := 1) (by decide) q158_ok d158_44 ?_
      refine wp_iadd (nI_1 _) q158_ok d158_45 ?_
      refine wp_putI q158_ok d158_46 fl_11_113 rfl (by first | assumption | exact so0 hsh rfl) (Or.inl rfl) ?_
      refine wp_aload_n (j := 0) rfl q158_ok d158_49 ?_
      refine wp_getI q158_ok d158_50 fl_11_120 rfl (by first | assumption | exact so0 hsh rfl) (by first | assumption | rfl) ?_
      refine wp_iconst (v := -1) (by decide) q158_ok d158_53 ?_
      refine wp_icmp_ne q158_ok d158_54 (t := 70) rfl (fun h54 => ?_) (fun h54 => ?_)
      · refine wp_aload_n (j := 0) rfl q158_ok d158_70 ?_
        refine wp_dup rfl q158_ok d158_71 ?_
        refine wp_getI q158_ok d158_72 fl_11_113 rfl (by first | assumption | exact so0 hsh rfl) rfl ?_
        refine wp_iconst (v := 1) (by decide) q158_ok d158_75 ?_
        refine wp_iadd rfl q158_ok d158_76 ?_
        refine wp_putI q158_ok d158_77 fl_11_113 rfl (by first | assumption | exact so0 hsh rfl) (Or.inl rfl) ?_
        refine wp_aload_n (j := 0) rfl q158_ok d158_80 ?_
        refine wp_getI q158_ok d158_81 fl_11_120 rfl (by first | assumption | exact so0 hsh rfl) (by first | assumption | rfl) ?_
        refine wp_iconst (v := -1) (by decide) q158_ok d158_84 ?_
        refine wp_icmp_eq q158_ok d158_85 (t := 89) rfl (fun h85 => ?_) (fun h85 => ?_)
        · exact absurd h85 (show ¬ nI (wsp L p) = -1 from nI_nm1 (by have := h.1.2.1; omega))
        · refine wp_vret q158_ok d158_88 rfl ?_
          refine cl_fail (zf_trans (zf_trans (zf_trans (zf_xf xf_3) (zf_xf xf_4)) (zf_xf xf_3)) (zf_xf xf_3)) (w := wsp L p) ?_ rfl hwl
          unfold clauS
          rw [if_neg h32]
      · have h54 := Classical.not_not.mp h54
        exact absurd h54 (show ¬ nI (wsp L p) = -1 from nI_nm1 (by have := h.1.2.1; omega))
