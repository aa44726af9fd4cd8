/-! ===== odds of the model ===== -/
theorem sgM1 (T : wo_T) (o : wo_O) (B : wo_A) : sgM T o B 1 = 1 := by
  unfold sgM
  rw [if_neg (show ¬ (1 : Int32) = 0 from by decide)]
  split <;> rfl
def ofr (k : Nat) (d d2 : mm_D) : Prop := (∀ c, c ≠ 250 → c ≠ 259 → c ≠ 260 → c ≠ 268 → c ≠ 269 → c ≠ 270 → c ≠ 279 → d2 c = d c) ∧ (∀ j, j ≠ 32 → j ≠ 38 → d2 250 j = d 250 j) ∧ ∀ j, j < 2 * k → d2 279 j = d 279 j
theorem ofr_refl (k : Nat) (d : mm_D) : ofr k d d := ⟨fun _ _ _ _ _ _ _ _ => rfl, fun _ _ _ => rfl, fun _ _ => rfl⟩
theorem ofr_trans {k k2 : Nat} {d d1 d2 : mm_D} (h : ofr k d d1) (h' : ofr k2 d1 d2) (hk : k ≤ k2) : ofr k d d2 := ⟨fun c a1 a2 a3 a4 a5 a6 a7 => (h'.1 c a1 a2 a3 a4 a5 a6 a7).trans (h.1 c a1 a2 a3 a4 a5 a6 a7), fun j a1 a2 => (h'.2.1 j a1 a2).trans (h.2.1 j a1 a2), fun j a1 => (h'.2.2 j (by omega)).trans (h.2.2 j a1)⟩
theorem ofr_pf {k : Nat} {d d2 : mm_D} (h : pf d d2) : ofr k d d2 := ⟨fun c a1 a2 a3 a4 a5 a6 _ => h.1 c a1 a2 a3 a4 a5 a6, fun j a1 a2 => h.2 j a1 a2, fun j _ => by rw [h.1 279 (by decide) (by decide) (by decide) (by decide) (by decide) (by decide)]⟩
theorem MR_ofr {k : Nat} {d d2 : mm_D} {T : wo_T} {o : wo_O} (hR : MR d T o) (h : ofr k d d2) : MR d2 T o := MR_eq hR (fun c h1 h2 h3 h4 => h.1 c (by omega) h3 h4 (by omega) (by omega) (by omega) (by omega)) (fun j hj => h.2.1 j (by omega) (by omega))
theorem hS_ofr {k : Nat} {d d2 : mm_D} {B : wo_A} (hB : hS d B) (h : ofr k d d2) : hS d2 B := by
  unfold hS
  rw [h.2.1 45 (by decide) (by decide), h.1 274 (by decide) (by decide) (by decide) (by decide) (by decide) (by decide) (by decide), h.1 275 (by decide) (by decide) (by decide) (by decide) (by decide) (by decide) (by decide)]
  exact hB
theorem uf_ofr {k : Nat} {d d2 : mm_D} (h : ofr k d d2) : uf d d2 := ⟨fun c a1 a2 a3 a4 a5 a6 _ _ _ a0 => h.1 c a1 a2 a3 a4 a5 a6 a0, fun j a1 a2 _ => h.2.1 j a1 a2⟩
def oM (d : mm_D) (m : Int32) (ow : Nat → Int32) : Prop := d 250 32 = m ∧ ∀ b, b < 2 → d 268 b = ow b
theorem nI_2 (n f : Nat) : (2 : Int32) * nI n + nI f = nI (2 * n + f) := by
  show Int32.ofNat 2 * Int32.ofNat n + Int32.ofNat f = Int32.ofNat _
  rw [Int32.ofNat_add, Int32.ofNat_mul]
theorem m_odd_0 {xs : List Int32} {ext : mm_X} {n : Nat} {sh : mm_S} {g : mm_G} {r : mm_R} {T : wo_T} {o : wo_O} (hsh : shp sh) (hr : rfx r) {m0 risk m : Int32} {ow : Nat → Int32} {N k z : Nat} {ps st s : Int64} (hN : N ≤ 10) (hk : k < N) (h0 : 0 < tnb T) (hm : m = m0 + nI k) (ih : ∀ (m1 : Int32) (ow1 : Nat → Int32) (p1 : Int64) (d1 : mm_D), MR d1 T o → d1 250 33 = risk → m1 = m0 + nI (k + 1) → oM d1 m1 ow1 → wp xs ext (n + z + 9) 220 0 [some (.ref 250), some (.int (nI (k + 1))), some (.int (nI N)), some (.long p1), none, none, none, none, none, none, none] [] (sh, d1, g, r) (fun v μ => v = some (.long (oddA T o m0 risk z (k + 1) (ow1 0) p1)) ∧ ∃ d2, μ = (sh, d2, g, r) ∧ ofr (k + 1) d1 d2 ∧ oM d2 m1 ow1)) (Q : Option Value → mm_M → Prop) {d : mm_D} (hR : MR d T o) (hrk : d 250 33 = risk) (ho : oM d m ow) (e0 : d 279 (2 * k) = ow 0) (e1 : d 279 (2 * k + 1) = ow 1) (u10 : Option Value) (K : ∀ (d2 : mm_D) (u10 : Option Value), ofr k d d2 → d2 279 (2 * k) = ow 0 → d2 279 (2 * k + 1) = ow 1 → oM d2 m ow → wp xs ext (n + (z + 1) + 9) 220 80 [some (.ref 250), some (.int (nI k)), some (.int (nI N)), some (.long ps), none, some (.long st), none, some (.long (s + oddA T o m0 risk z (k + 1) (leftC (tkd T 0) (ow 0 + dueC (thr T 0) m) (1 : Int32)) st)), none, some (.int (nI 1)), u10] [] (sh, d2, g, r) Q) : wp xs ext (n + (z + 1) + 9) 220 80 [some (.ref 250), some (.int (nI k)), some (.int (nI N)), some (.long ps), none, some (.long st), none, some (.long (s)), none, some (.int (nI 0)), u10] [] (sh, d, g, r) Q := by
  have hB : hM d (m, ow, d 269) := ⟨ho.1, fun b hb => ⟨ho.2 b hb, rfl⟩⟩
  have hb2 := hR.2.1
  refine wp_iload (j := 9) rfl q220_ok d220_80 ?_
  refine wp_iconst (v := 2) (by decide) q220_ok d220_82 ?_
  refine wp_icmp_ge q220_ok d220_83 (t := 176) rfl (fun h83 => ?_) (fun h83 => ?_)
  · exact absurd (show (2 : Int32) ≤ nI 0 from h83) (by decide)
  · refine wp_aload_n (j := 0) rfl q220_ok d220_86 ?_
    refine wp_iload (j := 9) rfl q220_ok d220_87 ?_
    refine wp_if_ne q220_ok d220_89 (t := 96) rfl (fun h89 => ?_) (fun h89 => ?_)
    · exact absurd rfl h89
    · have h89 := Classical.not_not.mp h89
      refine wp_iconst (v := 1) (by decide) q220_ok d220_92 ?_
      refine wp_goto (t := 97) rfl q220_ok d220_93 ?_
      refine wp_cV q220_ok d220_97 ml_11_349 rfl q184_ok (u := 11) rfl (by first | assumption | exact so0 hsh rfl) rfl (Nat.le_of_ble_eq_true rfl) (Nat.le_of_ble_eq_true rfl) (m_pass (n := n + z + 1) hsh hr hR hB 1) (fun v97 μ97 hc => ?_)
      obtain ⟨rfl, da, rfl, f2, hM2, rg2, sn2⟩ := hc
      refine ⟨mm_le_same rfl, ?_⟩
      rw [sgM1] at hM2 rg2 sn2
      have hRa := MR_pf hR f2
      have ow0 : (stA T (m, ow, d 269) (1 : Int32)).2.1 0 = leftC (tkd T 0) (ow 0 + dueC (thr T 0) m) (1 : Int32) := if_pos h0
      refine wp_lload (j := 7) rfl q220_ok d220_100 ?_
      refine wp_aload_n (j := 0) rfl q220_ok d220_102 ?_
      refine wp_iload_n (j := 1) rfl q220_ok d220_103 ?_
      refine wp_iconst (v := 1) (by decide) q220_ok d220_104 ?_
      refine wp_iadd (nI_1 k) q220_ok d220_105 ?_
      refine wp_iload_n (j := 2) rfl q220_ok d220_106 ?_
      refine wp_iload (j := 9) rfl q220_ok d220_107 ?_
      refine wp_if_ne q220_ok d220_109 (t := 117) rfl (fun h109 => ?_) (fun h109 => ?_)
      · exact absurd rfl h109
      · have h109 := Classical.not_not.mp h109
        refine wp_lload (j := 5) rfl q220_ok d220_112 ?_
        refine wp_goto (t := 121) rfl q220_ok d220_114 ?_
        refine wp_cV q220_ok d220_121 ml_11_382 rfl q220_ok (u := 11) rfl (by first | assumption | exact so0 hsh rfl) rfl (Nat.le_of_ble_eq_true rfl) (Nat.le_of_ble_eq_true rfl) (wp_up (show n + z + 9 = n + (z + 1) + 8 by omega) (ih _ (stA T (m, ow, d 269) (1 : Int32)).2.1 st da hRa ((f2.2 33 (by decide) (by decide)).trans hrk) (show m + 1 = m0 + nI (k + 1) from by rw [hm, Int32.add_assoc]; exact congrArg _ (nI_1 k)) ⟨hM2.1, fun b hb => (hM2.2 b hb).1⟩)) (fun v121 μ121 hc => ?_)
        obtain ⟨rfl, db, rfl, f3, o3⟩ := hc
        refine ⟨mm_le_same rfl, ?_⟩
        rw [ow0]
        have f4 : ofr k d db := ofr_trans (ofr_pf f2) f3 (by omega)
        have g0 : db 279 (2 * k) = ow 0 := by rw [f3.2.2 _ (by omega), f2.1 279 (by decide) (by decide) (by decide) (by decide) (by decide) (by decide)]; exact e0
        have g1 : db 279 (2 * k + 1) = ow 1 := by rw [f3.2.2 _ (by omega), f2.1 279 (by decide) (by decide) (by decide) (by decide) (by decide) (by decide)]; exact e1
        refine wp_ladd rfl q220_ok d220_124 ?_
        refine wp_lstore (j := 7) (Nat.le_of_ble_eq_true rfl) (rfl : _ = [_, _, _, _, _, _, _, _, _, _, _]) q220_ok d220_125 ?_
        refine wp_iconst (v := 0) (by decide) q220_ok d220_127 ?_
        refine wp_istore (j := 10) (Nat.le_of_ble_eq_true rfl) (rfl : _ = [_, _, _, _, _, _, _, _, _, _, _]) q220_ok d220_128 ?_
        refine wp_iload (j := 10) rfl q220_ok d220_130 ?_
        refine wp_iconst (v := 2) (by decide) q220_ok d220_132 ?_
        refine wp_icmp_ge q220_ok d220_133 (t := 160) rfl (fun h133 => ?_) (fun h133 => ?_)
        · exact absurd (show (2 : Int32) ≤ nI 0 from h133) (by decide)
        · refine wp_aload_n (j := 0) rfl q220_ok d220_136 ?_
          refine wp_getR q220_ok d220_137 fl_11_61 rfl (by first | assumption | exact so0 hsh rfl) (by first | assumption | exact hr _ _ _ rfl) ?_
          refine wp_iload (j := 10) rfl q220_ok d220_140 ?_
          refine wp_aload_n (j := 0) rfl q220_ok d220_142 ?_
          refine wp_getR q220_ok d220_143 fl_11_96 rfl (by first | assumption | exact so0 hsh rfl) (by first | assumption | exact hr _ _ _ rfl) ?_
          refine wp_iconst (v := 2) (by decide) q220_ok d220_146 ?_
          refine wp_iload_n (j := 1) rfl q220_ok d220_147 ?_
          refine wp_imul rfl q220_ok d220_148 ?_
          refine wp_iload (j := 10) rfl q220_ok d220_149 ?_
          refine wp_iadd rfl q220_ok d220_151 ?_
          refine wp_iald (m := 22) q220_ok d220_152 (by first | assumption | exact so0 hsh rfl) (shl hsh (m := 22) (Nat.le_of_ble_eq_true rfl) rfl) (show ixn (2 * nI k + nI 0) (2 * k + 0) 22 from by rw [show (2 : Int32) * nI k + nI 0 = nI (2 * k + 0) from nI_2 k 0]; exact ixn_nI (by omega)) g0 ?_ (shK hsh)
          refine wp_iast (m := 2) q220_ok d220_153 (by first | assumption | exact so0 hsh rfl) (shl hsh (m := 2) (Nat.le_of_ble_eq_true rfl) rfl) (ixn_nI (j := 0) (by decide)) ?_
          refine wp_iinc (j := 10) rfl (by first | exact inc1 | rfl) (rfl : _ = [_, _, _, _, _, _, _, _, _, _, _]) q220_ok d220_154 ?_
          refine wp_goto (t := 130) rfl q220_ok d220_157 ?_
          refine wp_iload (j := 10) rfl q220_ok d220_130 ?_
          refine wp_iconst (v := 2) (by decide) q220_ok d220_132 ?_
          refine wp_icmp_ge q220_ok d220_133 (t := 160) rfl (fun h133 => ?_) (fun h133 => ?_)
          · exact absurd (show (2 : Int32) ≤ nI 1 from h133) (by decide)
          · refine wp_aload_n (j := 0) rfl q220_ok d220_136 ?_
            refine wp_getR q220_ok d220_137 fl_11_61 rfl (by first | assumption | exact so0 hsh rfl) (by first | assumption | exact hr _ _ _ rfl) ?_
            refine wp_iload (j := 10) rfl q220_ok d220_140 ?_
            refine wp_aload_n (j := 0) rfl q220_ok d220_142 ?_
            refine wp_getR q220_ok d220_143 fl_11_96 rfl (by first | assumption | exact so0 hsh rfl) (by first | assumption | exact hr _ _ _ rfl) ?_
            refine wp_iconst (v := 2) (by decide) q220_ok d220_146 ?_
            refine wp_iload_n (j := 1) rfl q220_ok d220_147 ?_
            refine wp_imul rfl q220_ok d220_148 ?_
            refine wp_iload (j := 10) rfl q220_ok d220_149 ?_
            refine wp_iadd rfl q220_ok d220_151 ?_
            refine wp_iald (m := 22) q220_ok d220_152 (by first | assumption | exact so0 hsh rfl) (shl hsh (m := 22) (Nat.le_of_ble_eq_true rfl) rfl) (show ixn (2 * nI k + nI 1) (2 * k + 1) 22 from by rw [show (2 : Int32) * nI k + nI 1 = nI (2 * k + 1) from nI_2 k 1]; exact ixn_nI (by omega)) ((congrFun (mm_up_ne (by decide)) _).trans g1) ?_ (shK hsh)
            refine wp_iast (m := 2) q220_ok d220_153 (by first | assumption | exact so0 hsh rfl) (shl hsh (m := 2) (Nat.le_of_ble_eq_true rfl) rfl) (ixn_nI (j := 1) (by decide)) ?_
            refine wp_iinc (j := 10) rfl (by first | exact inc1 | rfl) (rfl : _ = [_, _, _, _, _, _, _, _, _, _, _]) q220_ok d220_154 ?_
            refine wp_goto (t := 130) rfl q220_ok d220_157 ?_
            refine wp_iload (j := 10) rfl q220_ok d220_130 ?_
            refine wp_iconst (v := 2) (by decide) q220_ok d220_132 ?_
            refine wp_icmp_ge q220_ok d220_133 (t := 160) rfl (fun h133 => ?_) (fun h133 => ?_)
            · refine wp_aload_n (j := 0) rfl q220_ok d220_160 ?_
              refine wp_dup rfl q220_ok d220_161 ?_
              refine wp_getI q220_ok d220_162 fl_11_274 rfl (by first | assumption | exact so0 hsh rfl) ((congrFun (mm_up_ne (by decide)) 32).trans ((congrFun (mm_up_ne (by decide)) 32).trans o3.1)) ?_
              refine wp_iconst (v := 1) (by decide) q220_ok d220_165 ?_
              refine wp_isub (show m + 1 - 1 = m from by grind) q220_ok d220_166 ?_
              refine wp_putI q220_ok d220_167 fl_11_274 rfl (by first | assumption | exact so0 hsh rfl) (Or.inl rfl) ?_
              refine wp_iinc (j := 9) rfl (by first | exact inc1 | rfl) (rfl : _ = [_, _, _, _, _, _, _, _, _, _, _]) q220_ok d220_170 ?_
              refine wp_goto (t := 80) rfl q220_ok d220_173 ?_
              refine K _ _ ⟨fun c a1 a2 a3 a4 a5 a6 a7 => ?_, fun j a1 a2 => ?_, fun j a1 => ?_⟩ ?_ ?_ ⟨?_, fun b hb => ?_⟩
              · rw [mm_up_ne a1, mm_up_ne a4, mm_up_ne a4]; exact f4.1 c a1 a2 a3 a4 a5 a6 a7
              · rw [mm_up_at, if_neg a1, mm_up_ne (by decide), mm_up_ne (by decide)]; exact f4.2.1 j a1 a2
              · rw [mm_up_ne (by decide), mm_up_ne (by decide), mm_up_ne (by decide)]; exact f4.2.2 j a1
              · rw [mm_up_ne (by decide), mm_up_ne (by decide), mm_up_ne (by decide)]; exact g0
              · rw [mm_up_ne (by decide), mm_up_ne (by decide), mm_up_ne (by decide)]; exact g1
              · exact (mm_up_at 32).trans (if_pos rfl)
              · rw [mm_up_ne (by decide), mm_up_at, mm_up_at]
                by_cases q : b = 1
                · rw [if_pos q, q]
                · rw [if_neg q, if_pos (show b = 0 by omega), show b = 0 by omega]
            · exact absurd (show (2 : Int32) ≤ nI 2 from by decide) h133
theorem m_odd_1 {xs : List Int32} {ext : mm_X} {n : Nat} {sh : mm_S} {g : mm_G} {r : mm_R} {T : wo_T} {o : wo_O} (hsh : shp sh) (hr : rfx r) {m0 risk m : Int32} {ow : Nat → Int32} {N k z : Nat} {ps st s : Int64} (hN : N ≤ 10) (hk : k < N) (h0 : 0 < tnb T) (hm : m = m0 + nI k) (ih : ∀ (m1 : Int32) (ow1 : Nat → Int32) (p1 : Int64) (d1 : mm_D), MR d1 T o → d1 250 33 = risk → m1 = m0 + nI (k + 1) → oM d1 m1 ow1 → wp xs ext (n + z + 9) 220 0 [some (.ref 250), some (.int (nI (k + 1))), some (.int (nI N)), some (.long p1), none, none, none, none, none, none, none] [] (sh, d1, g, r) (fun v μ => v = some (.long (oddA T o m0 risk z (k + 1) (ow1 0) p1)) ∧ ∃ d2, μ = (sh, d2, g, r) ∧ ofr (k + 1) d1 d2 ∧ oM d2 m1 ow1)) (Q : Option Value → mm_M → Prop) {d : mm_D} (hR : MR d T o) (hrk : d 250 33 = risk) (ho : oM d m ow) (e0 : d 279 (2 * k) = ow 0) (e1 : d 279 (2 * k + 1) = ow 1) (u10 : Option Value) (K : ∀ (d2 : mm_D) (u10 : Option Value), ofr k d d2 → d2 279 (2 * k) = ow 0 → d2 279 (2 * k + 1) = ow 1 → oM d2 m ow → wp xs ext (n + (z + 1) + 9) 220 80 [some (.ref 250), some (.int (nI k)), some (.int (nI N)), some (.long ps), none, some (.long st), none, some (.long (s + oddA T o m0 risk z (k + 1) (leftC (tkd T 0) (ow 0 + dueC (thr T 0) m) (b01 (seB T o m (ow 0)))) (ps - st))), none, some (.int (nI 2)), u10] [] (sh, d2, g, r) Q) : wp xs ext (n + (z + 1) + 9) 220 80 [some (.ref 250), some (.int (nI k)), some (.int (nI N)), some (.long ps), none, some (.long st), none, some (.long (s)), none, some (.int (nI 1)), u10] [] (sh, d, g, r) Q := by
  have hB : hM d (m, ow, d 269) := ⟨ho.1, fun b hb => ⟨ho.2 b hb, rfl⟩⟩
  have hb2 := hR.2.1
  refine wp_iload (j := 9) rfl q220_ok d220_80 ?_
  refine wp_iconst (v := 2) (by decide) q220_ok d220_82 ?_
  refine wp_icmp_ge q220_ok d220_83 (t := 176) rfl (fun h83 => ?_) (fun h83 => ?_)
  · exact absurd (show (2 : Int32) ≤ nI 1 from h83) (by decide)
  · refine wp_aload_n (j := 0) rfl q220_ok d220_86 ?_
    refine wp_iload (j := 9) rfl q220_ok d220_87 ?_
    refine wp_if_ne q220_ok d220_89 (t := 96) rfl (fun h89 => ?_) (fun h89 => ?_)
    · refine wp_iconst (v := 0) (by decide) q220_ok d220_96 ?_
      refine wp_cV q220_ok d220_97 ml_11_349 rfl q184_ok (u := 11) rfl (by first | assumption | exact so0 hsh rfl) rfl (Nat.le_of_ble_eq_true rfl) (Nat.le_of_ble_eq_true rfl) (m_pass (n := n + z + 1) hsh hr hR hB 0) (fun v97 μ97 hc => ?_)
      obtain ⟨rfl, da, rfl, f2, hM2, rg2, sn2⟩ := hc
      refine ⟨mm_le_same rfl, ?_⟩
      rw [sgM0] at hM2 rg2 sn2
      have hRa := MR_pf hR f2
      have ow0 : (stA T (m, ow, d 269) (snA T o (m, ow, d 269))).2.1 0 = leftC (tkd T 0) (ow 0 + dueC (thr T 0) m) (b01 (seB T o m (ow 0))) := if_pos h0
      refine wp_lload (j := 7) rfl q220_ok d220_100 ?_
      refine wp_aload_n (j := 0) rfl q220_ok d220_102 ?_
      refine wp_iload_n (j := 1) rfl q220_ok d220_103 ?_
      refine wp_iconst (v := 1) (by decide) q220_ok d220_104 ?_
      refine wp_iadd (nI_1 k) q220_ok d220_105 ?_
      refine wp_iload_n (j := 2) rfl q220_ok d220_106 ?_
      refine wp_iload (j := 9) rfl q220_ok d220_107 ?_
      refine wp_if_ne q220_ok d220_109 (t := 117) rfl (fun h109 => ?_) (fun h109 => ?_)
      · refine wp_lload_n (j := 3) rfl q220_ok d220_117 ?_
        refine wp_lload (j := 5) rfl q220_ok d220_118 ?_
        refine wp_lsub rfl q220_ok d220_120 ?_
        refine wp_cV q220_ok d220_121 ml_11_382 rfl q220_ok (u := 11) rfl (by first | assumption | exact so0 hsh rfl) rfl (Nat.le_of_ble_eq_true rfl) (Nat.le_of_ble_eq_true rfl) (wp_up (show n + z + 9 = n + (z + 1) + 8 by omega) (ih _ (stA T (m, ow, d 269) (snA T o (m, ow, d 269))).2.1 (ps - st) da hRa ((f2.2 33 (by decide) (by decide)).trans hrk) (show m + 1 = m0 + nI (k + 1) from by rw [hm, Int32.add_assoc]; exact congrArg _ (nI_1 k)) ⟨hM2.1, fun b hb => (hM2.2 b hb).1⟩)) (fun v121 μ121 hc => ?_)
        obtain ⟨rfl, db, rfl, f3, o3⟩ := hc
        refine ⟨mm_le_same rfl, ?_⟩
        rw [ow0]
        have f4 : ofr k d db := ofr_trans (ofr_pf f2) f3 (by omega)
        have g0 : db 279 (2 * k) = ow 0 := by rw [f3.2.2 _ (by omega), f2.1 279 (by decide) (by decide) (by decide) (by decide) (by decide) (by decide)]; exact e0
        have g1 : db 279 (2 * k + 1) = ow 1 := by rw [f3.2.2 _ (by omega), f2.1 279 (by decide) (by decide) (by decide) (by decide) (by decide) (by decide)]; exact e1
        refine wp_ladd rfl q220_ok d220_124 ?_
        refine wp_lstore (j := 7) (Nat.le_of_ble_eq_true rfl) (rfl : _ = [_, _, _, _, _, _, _, _, _, _, _]) q220_ok d220_125 ?_
        refine wp_iconst (v := 0) (by decide) q220_ok d220_127 ?_
        refine wp_istore (j := 10) (Nat.le_of_ble_eq_true rfl) (rfl : _ = [_, _, _, _, _, _, _, _, _, _, _]) q220_ok d220_128 ?_
        refine wp_iload (j := 10) rfl q220_ok d220_130 ?_
        refine wp_iconst (v := 2) (by decide) q220_ok d220_132 ?_
        refine wp_icmp_ge q220_ok d220_133 (t := 160) rfl (fun h133 => ?_) (fun h133 => ?_)
        · exact absurd (show (2 : Int32) ≤ nI 0 from h133) (by decide)
        · refine wp_aload_n (j := 0) rfl q220_ok d220_136 ?_
          refine wp_getR q220_ok d220_137 fl_11_61 rfl (by first | assumption | exact so0 hsh rfl) (by first | assumption | exact hr _ _ _ rfl) ?_
          refine wp_iload (j := 10) rfl q220_ok d220_140 ?_
          refine wp_aload_n (j := 0) rfl q220_ok d220_142 ?_
          refine wp_getR q220_ok d220_143 fl_11_96 rfl (by first | assumption | exact so0 hsh rfl) (by first | assumption | exact hr _ _ _ rfl) ?_
          refine wp_iconst (v := 2) (by decide) q220_ok d220_146 ?_
          refine wp_iload_n (j := 1) rfl q220_ok d220_147 ?_
          refine wp_imul rfl q220_ok d220_148 ?_
          refine wp_iload (j := 10) rfl q220_ok d220_149 ?_
          refine wp_iadd rfl q220_ok d220_151 ?_
          refine wp_iald (m := 22) q220_ok d220_152 (by first | assumption | exact so0 hsh rfl) (shl hsh (m := 22) (Nat.le_of_ble_eq_true rfl) rfl) (show ixn (2 * nI k + nI 0) (2 * k + 0) 22 from by rw [show (2 : Int32) * nI k + nI 0 = nI (2 * k + 0) from nI_2 k 0]; exact ixn_nI (by omega)) g0 ?_ (shK hsh)
          refine wp_iast (m := 2) q220_ok d220_153 (by first | assumption | exact so0 hsh rfl) (shl hsh (m := 2) (Nat.le_of_ble_eq_true rfl) rfl) (ixn_nI (j := 0) (by decide)) ?_
          refine wp_iinc (j := 10) rfl (by first | exact inc1 | rfl) (rfl : _ = [_, _, _, _, _, _, _, _, _, _, _]) q220_ok d220_154 ?_
          refine wp_goto (t := 130) rfl q220_ok d220_157 ?_
          refine wp_iload (j := 10) rfl q220_ok d220_130 ?_
          refine wp_iconst (v := 2) (by decide) q220_ok d220_132 ?_
          refine wp_icmp_ge q220_ok d220_133 (t := 160) rfl (fun h133 => ?_) (fun h133 => ?_)
          · exact absurd (show (2 : Int32) ≤ nI 1 from h133) (by decide)
          · refine wp_aload_n (j := 0) rfl q220_ok d220_136 ?_
            refine wp_getR q220_ok d220_137 fl_11_61 rfl (by first | assumption | exact so0 hsh rfl) (by first | assumption | exact hr _ _ _ rfl) ?_
            refine wp_iload (j := 10) rfl q220_ok d220_140 ?_
            refine wp_aload_n (j := 0) rfl q220_ok d220_142 ?_
            refine wp_getR q220_ok d220_143 fl_11_96 rfl (by first | assumption | exact so0 hsh rfl) (by first | assumption | exact hr _ _ _ rfl) ?_
            refine wp_iconst (v := 2) (by decide) q220_ok d220_146 ?_
            refine wp_iload_n (j := 1) rfl q220_ok d220_147 ?_
            refine wp_imul rfl q220_ok d220_148 ?_
            refine wp_iload (j := 10) rfl q220_ok d220_149 ?_
            refine wp_iadd rfl q220_ok d220_151 ?_
            refine wp_iald (m := 22) q220_ok d220_152 (by first | assumption | exact so0 hsh rfl) (shl hsh (m := 22) (Nat.le_of_ble_eq_true rfl) rfl) (show ixn (2 * nI k + nI 1) (2 * k + 1) 22 from by rw [show (2 : Int32) * nI k + nI 1 = nI (2 * k + 1) from nI_2 k 1]; exact ixn_nI (by omega)) ((congrFun (mm_up_ne (by decide)) _).trans g1) ?_ (shK hsh)
            refine wp_iast (m := 2) q220_ok d220_153 (by first | assumption | exact so0 hsh rfl) (shl hsh (m := 2) (Nat.le_of_ble_eq_true rfl) rfl) (ixn_nI (j := 1) (by decide)) ?_
            refine wp_iinc (j := 10) rfl (by first | exact inc1 | rfl) (rfl : _ = [_, _, _, _, _, _, _, _, _, _, _]) q220_ok d220_154 ?_
            refine wp_goto (t := 130) rfl q220_ok d220_157 ?_
            refine wp_iload (j := 10) rfl q220_ok d220_130 ?_
            refine wp_iconst (v := 2) (by decide) q220_ok d220_132 ?_
            refine wp_icmp_ge q220_ok d220_133 (t := 160) rfl (fun h133 => ?_) (fun h133 => ?_)
            · refine wp_aload_n (j := 0) rfl q220_ok d220_160 ?_
              refine wp_dup rfl q220_ok d220_161 ?_
              refine wp_getI q220_ok d220_162 fl_11_274 rfl (by first | assumption | exact so0 hsh rfl) ((congrFun (mm_up_ne (by decide)) 32).trans ((congrFun (mm_up_ne (by decide)) 32).trans o3.1)) ?_
              refine wp_iconst (v := 1) (by decide) q220_ok d220_165 ?_
              refine wp_isub (show m + 1 - 1 = m from by grind) q220_ok d220_166 ?_
              refine wp_putI q220_ok d220_167 fl_11_274 rfl (by first | assumption | exact so0 hsh rfl) (Or.inl rfl) ?_
              refine wp_iinc (j := 9) rfl (by first | exact inc1 | rfl) (rfl : _ = [_, _, _, _, _, _, _, _, _, _, _]) q220_ok d220_170 ?_
              refine wp_goto (t := 80) rfl q220_ok d220_173 ?_
              refine K _ _ ⟨fun c a1 a2 a3 a4 a5 a6 a7 => ?_, fun j a1 a2 => ?_, fun j a1 => ?_⟩ ?_ ?_ ⟨?_, fun b hb => ?_⟩
              · rw [mm_up_ne a1, mm_up_ne a4, mm_up_ne a4]; exact f4.1 c a1 a2 a3 a4 a5 a6 a7
              · rw [mm_up_at, if_neg a1, mm_up_ne (by decide), mm_up_ne (by decide)]; exact f4.2.1 j a1 a2
              · rw [mm_up_ne (by decide), mm_up_ne (by decide), mm_up_ne (by decide)]; exact f4.2.2 j a1
              · rw [mm_up_ne (by decide), mm_up_ne (by decide), mm_up_ne (by decide)]; exact g0
              · rw [mm_up_ne (by decide), mm_up_ne (by decide), mm_up_ne (by decide)]; exact g1
              · exact (mm_up_at 32).trans (if_pos rfl)
              · rw [mm_up_ne (by decide), mm_up_at, mm_up_at]
                by_cases q : b = 1
                · rw [if_pos q, q]
                · rw [if_neg q, if_pos (show b = 0 by omega), show b = 0 by omega]
            · exact absurd (show (2 : Int32) ≤ nI 2 from by decide) h133
      · have h109 := Classical.not_not.mp h109
        exact absurd (show nI 1 = 0 from h109) (by decide)
    · have h89 := Classical.not_not.mp h89
      exact absurd (show nI 1 = 0 from h89) (by decide)
theorem lcmp0 {x : Int64} (h : lg_cmp x 0 = 0) : x = 0 := by
  unfold lg_cmp at h
  split at h
  · exact absurd h (by decide)
  · split at h
    · assumption
    · exact absurd h (by decide)
theorem m_odds_f {xs : List Int32} {ext : mm_X} {n : Nat} {sh : mm_S} {g : mm_G} {r : mm_R} {T : wo_T} {o : wo_O} (hsh : shp sh) (hr : rfx r) {m0 risk : Int32} {N : Nat} (hN : N ≤ 10) (h0 : 0 < tnb T) : ∀ (z k : Nat) (m : Int32) (ow : Nat → Int32) (ps : Int64) (d1 : mm_D), z + k = N → MR d1 T o → d1 250 33 = risk → m = m0 + nI k → oM d1 m ow → wp xs ext (n + z + 9) 220 0 [some (.ref 250), some (.int (nI k)), some (.int (nI N)), some (.long ps), none, none, none, none, none, none, none] [] (sh, d1, g, r) (fun v μ => v = some (.long (oddA T o m0 risk z k (ow 0) ps)) ∧ ∃ d2, μ = (sh, d2, g, r) ∧ ofr k d1 d2 ∧ oM d2 m ow) := by
  intro z
  induction z with
  | zero =>
    intro k m ow ps d1 hz hR hrk hm ho
    have hvb : k = N := by omega
    subst hvb
    refine wp_lload_n (j := 3) rfl q220_ok d220_0 ?_
    refine wp_lconst (v := 0) (by decide) q220_ok d220_1 ?_
    refine wp_lcmp rfl q220_ok d220_2 ?_
    refine wp_if_ne q220_ok d220_3 (t := 8) rfl (fun h3 => ?_) (fun h3 => ?_)
    · refine wp_iload_n (j := 1) rfl q220_ok d220_8 ?_
      refine wp_iload_n (j := 2) rfl q220_ok d220_9 ?_
      refine wp_icmp_ne q220_ok d220_10 (t := 28) rfl (fun h10 => ?_) (fun h10 => ?_)
      · exact absurd rfl h10
      · have h10 := Classical.not_not.mp h10
        refine wp_aload_n (j := 0) rfl q220_ok d220_13 ?_
        refine wp_getR q220_ok d220_14 fl_11_61 rfl (by first | assumption | exact so0 hsh rfl) (by first | assumption | exact hr _ _ _ rfl) ?_
        refine wp_iconst (v := 0) (by decide) q220_ok d220_17 ?_
        refine wp_iald (m := 2) q220_ok d220_18 (by first | assumption | exact so0 hsh rfl) (shl hsh (m := 2) (Nat.le_of_ble_eq_true rfl) rfl) (ixn_nI (j := 0) (by decide)) (ho.2 0 (by decide)) ?_ (shK hsh)
        refine wp_if_ne q220_ok d220_19 (t := 26) rfl (fun h19 => ?_) (fun h19 => ?_)
        · refine wp_lconst (v := 0) (by decide) q220_ok d220_26 ?_
          refine wp_lret q220_ok d220_27 rfl ?_
          exact ⟨by rw [oddA, if_neg h19], d1, rfl, ofr_refl _ _, ho⟩
        · have h19 := Classical.not_not.mp h19
          refine wp_lload_n (j := 3) rfl q220_ok d220_22 ?_
          refine wp_goto (t := 27) rfl q220_ok d220_23 ?_
          refine wp_lret q220_ok d220_27 rfl ?_
          exact ⟨by rw [oddA, if_pos h19], d1, rfl, ofr_refl _ _, ho⟩
    · have h3 := Classical.not_not.mp h3
      refine wp_lconst (v := 0) (by decide) q220_ok d220_6 ?_
      refine wp_lret q220_ok d220_7 rfl ?_
      have hp0 : ps = 0 := lcmp0 h3
      exact ⟨by rw [oddA, hp0]; split <;> rfl, d1, rfl, ofr_refl _ _, ho⟩
  | succ z ih =>
    intro k m ow ps d1 hz hR hrk hm ho
    have hlt : k < N := by omega
    have hne : ¬ nI k = nI N := fun e => by
      have h2 := (nI_leI (show N < 2 ^ 31 by omega) (show k < 2 ^ 31 by omega)).mp (by rw [e]; exact Int32.le_refl _)
      omega
    refine wp_lload_n (j := 3) rfl q220_ok d220_0 ?_
    refine wp_lconst (v := 0) (by decide) q220_ok d220_1 ?_
    refine wp_lcmp rfl q220_ok d220_2 ?_
    refine wp_if_ne q220_ok d220_3 (t := 8) rfl (fun h3 => ?_) (fun h3 => ?_)
    · refine wp_iload_n (j := 1) rfl q220_ok d220_8 ?_
      refine wp_iload_n (j := 2) rfl q220_ok d220_9 ?_
      refine wp_icmp_ne q220_ok d220_10 (t := 28) rfl (fun h10 => ?_) (fun h10 => ?_)
      · refine wp_iconst (v := 0) (by decide) q220_ok d220_28 ?_
        refine wp_istore (j := 5) (Nat.le_of_ble_eq_true rfl) (rfl : _ = [_, _, _, _, _, _, _, _, _, _, _]) q220_ok d220_29 ?_
        refine wp_iload (j := 5) rfl q220_ok d220_31 ?_
        refine wp_iconst (v := 2) (by decide) q220_ok d220_33 ?_
        refine wp_icmp_ge q220_ok d220_34 (t := 61) rfl (fun h34 => ?_) (fun h34 => ?_)
        · exact absurd (show (2 : Int32) ≤ nI 0 from h34) (by decide)
        · refine wp_aload_n (j := 0) rfl q220_ok d220_37 ?_
          refine wp_getR q220_ok d220_38 fl_11_96 rfl (by first | assumption | exact so0 hsh rfl) (by first | assumption | exact hr _ _ _ rfl) ?_
          refine wp_iconst (v := 2) (by decide) q220_ok d220_41 ?_
          refine wp_iload_n (j := 1) rfl q220_ok d220_42 ?_
          refine wp_imul rfl q220_ok d220_43 ?_
          refine wp_iload (j := 5) rfl q220_ok d220_44 ?_
          refine wp_iadd rfl q220_ok d220_46 ?_
          refine wp_aload_n (j := 0) rfl q220_ok d220_47 ?_
          refine wp_getR q220_ok d220_48 fl_11_61 rfl (by first | assumption | exact so0 hsh rfl) (by first | assumption | exact hr _ _ _ rfl) ?_
          refine wp_iload (j := 5) rfl q220_ok d220_51 ?_
          refine wp_iald (m := 2) q220_ok d220_53 (by first | assumption | exact so0 hsh rfl) (shl hsh (m := 2) (Nat.le_of_ble_eq_true rfl) rfl) (ixn_nI (j := 0) (by decide)) (ho.2 0 (by decide)) ?_ (shK hsh)
          refine wp_iast (m := 22) q220_ok d220_54 (by first | assumption | exact so0 hsh rfl) (shl hsh (m := 22) (Nat.le_of_ble_eq_true rfl) rfl) (show ixn (2 * nI k + nI 0) (2 * k + 0) 22 from by rw [show (2 : Int32) * nI k + nI 0 = nI (2 * k + 0) from nI_2 k 0]; exact ixn_nI (by omega)) ?_
          refine wp_iinc (j := 5) rfl (by first | exact inc1 | rfl) (rfl : _ = [_, _, _, _, _, _, _, _, _, _, _]) q220_ok d220_55 ?_
          refine wp_goto (t := 31) rfl q220_ok d220_58 ?_
          refine wp_iload (j := 5) rfl q220_ok d220_31 ?_
          refine wp_iconst (v := 2) (by decide) q220_ok d220_33 ?_
          refine wp_icmp_ge q220_ok d220_34 (t := 61) rfl (fun h34 => ?_) (fun h34 => ?_)
          · exact absurd (show (2 : Int32) ≤ nI 1 from h34) (by decide)
          · refine wp_aload_n (j := 0) rfl q220_ok d220_37 ?_
            refine wp_getR q220_ok d220_38 fl_11_96 rfl (by first | assumption | exact so0 hsh rfl) (by first | assumption | exact hr _ _ _ rfl) ?_
            refine wp_iconst (v := 2) (by decide) q220_ok d220_41 ?_
            refine wp_iload_n (j := 1) rfl q220_ok d220_42 ?_
            refine wp_imul rfl q220_ok d220_43 ?_
            refine wp_iload (j := 5) rfl q220_ok d220_44 ?_
            refine wp_iadd rfl q220_ok d220_46 ?_
            refine wp_aload_n (j := 0) rfl q220_ok d220_47 ?_
            refine wp_getR q220_ok d220_48 fl_11_61 rfl (by first | assumption | exact so0 hsh rfl) (by first | assumption | exact hr _ _ _ rfl) ?_
            refine wp_iload (j := 5) rfl q220_ok d220_51 ?_
            refine wp_iald (m := 2) q220_ok d220_53 (by first | assumption | exact so0 hsh rfl) (shl hsh (m := 2) (Nat.le_of_ble_eq_true rfl) rfl) (ixn_nI (j := 1) (by decide)) ((congrFun (mm_up_ne (by decide)) _).trans (ho.2 1 (by decide))) ?_ (shK hsh)
            refine wp_iast (m := 22) q220_ok d220_54 (by first | assumption | exact so0 hsh rfl) (shl hsh (m := 22) (Nat.le_of_ble_eq_true rfl) rfl) (show ixn (2 * nI k + nI 1) (2 * k + 1) 22 from by rw [show (2 : Int32) * nI k + nI 1 = nI (2 * k + 1) from nI_2 k 1]; exact ixn_nI (by omega)) ?_
            refine wp_iinc (j := 5) rfl (by first | exact inc1 | rfl) (rfl : _ = [_, _, _, _, _, _, _, _, _, _, _]) q220_ok d220_55 ?_
            refine wp_goto (t := 31) rfl q220_ok d220_58 ?_
            refine wp_iload (j := 5) rfl q220_ok d220_31 ?_
            refine wp_iconst (v := 2) (by decide) q220_ok d220_33 ?_
            refine wp_icmp_ge q220_ok d220_34 (t := 61) rfl (fun h34 => ?_) (fun h34 => ?_)
            · refine wp_lload_n (j := 3) rfl q220_ok d220_61 ?_
              refine wp_aload_n (j := 0) rfl q220_ok d220_62 ?_
              refine wp_getI q220_ok d220_63 fl_11_330 rfl (by first | assumption | exact so0 hsh rfl) ((congrFun (mm_up_ne (by decide)) _).trans ((congrFun (mm_up_ne (by decide)) _).trans hrk)) ?_
              refine wp_i2l rfl q220_ok d220_66 ?_
              refine wp_lmul rfl q220_ok d220_67 ?_
              refine wp_ldc2 kl_11_347 q220_ok d220_68 ?_
              refine wp_ldiv (by decide) rfl q220_ok d220_71 ?_
              refine wp_lstore (j := 5) (Nat.le_of_ble_eq_true rfl) (rfl : _ = [_, _, _, _, _, _, _, _, _, _, _]) q220_ok d220_72 ?_
              refine wp_lconst (v := 0) (by decide) q220_ok d220_74 ?_
              refine wp_lstore (j := 7) (Nat.le_of_ble_eq_true rfl) (rfl : _ = [_, _, _, _, _, _, _, _, _, _, _]) q220_ok d220_75 ?_
              refine wp_iconst (v := 0) (by decide) q220_ok d220_77 ?_
              refine wp_istore (j := 9) (Nat.le_of_ble_eq_true rfl) (rfl : _ = [_, _, _, _, _, _, _, _, _, _, _]) q220_ok d220_78 ?_
              generalize hD : mm_up (mm_up d1 279 (2 * k + 0) (ow 0)) 279 (2 * k + 1) (ow 1) = D
              have e9 : ∀ c, c ≠ 279 → D c = d1 c := fun c hc => by rw [← hD, mm_up_ne hc, mm_up_ne hc]
              have fD : ofr k d1 D := ⟨fun c _ _ _ _ _ _ a7 => e9 c a7, fun j _ _ => by rw [e9 250 (by decide)], fun j hj => by rw [← hD, mm_up_at, if_neg (by omega), mm_up_at, if_neg (by omega)]⟩
              have g0 : D 279 (2 * k) = ow 0 := by rw [← hD, mm_up_at, if_neg (by omega)]; exact (mm_up_at _).trans (if_pos rfl)
              have g1 : D 279 (2 * k + 1) = ow 1 := by rw [← hD]; exact (mm_up_at _).trans (if_pos rfl)
              have hoD : oM D m ow := ⟨by rw [e9 250 (by decide)]; exact ho.1, fun b hb => by rw [e9 268 (by decide)]; exact ho.2 b hb⟩
              have hRD := MR_ofr hR fD
              have hrD : D 250 33 = risk := by rw [e9 250 (by decide)]; exact hrk
              refine m_odd_0 hsh hr hN hlt h0 hm (fun m1 ow1 p1 d1 a b c e => ih (k + 1) m1 ow1 p1 d1 (by omega) a b c e) _ hRD hrD hoD g0 g1 _ ?_
              intro d2 u10 f2 g02 g12 o2
              refine m_odd_1 hsh hr hN hlt h0 hm (fun m1 ow1 p1 d1 a b c e => ih (k + 1) m1 ow1 p1 d1 (by omega) a b c e) _ (MR_ofr hRD f2) ((f2.2.1 33 (by decide) (by decide)).trans hrD) o2 g02 g12 _ ?_
              intro d3 u11 f3 g03 g13 o3
              refine wp_iload (j := 9) rfl q220_ok d220_80 ?_
              refine wp_iconst (v := 2) (by decide) q220_ok d220_82 ?_
              refine wp_icmp_ge q220_ok d220_83 (t := 176) rfl (fun h83 => ?_) (fun h83 => ?_)
              · refine wp_lload (j := 7) rfl q220_ok d220_176 ?_
                refine wp_lret q220_ok d220_178 rfl ?_
                refine ⟨?_, d3, rfl, ofr_trans fD (ofr_trans f2 f3 (Nat.le_refl _)) (Nat.le_refl _), o3⟩
                rw [oddA, if_neg h3, Int64.zero_add, hm]
              · exact absurd (show (2 : Int32) ≤ nI 2 from by decide) h83
            · exact absurd (show (2 : Int32) ≤ nI 2 from by decide) h34
      · have h10 := Classical.not_not.mp h10
        exact absurd h10 hne
    · have h3 := Classical.not_not.mp h3
      refine wp_lconst (v := 0) (by decide) q220_ok d220_6 ?_
      refine wp_lret q220_ok d220_7 rfl ?_
      exact ⟨by rw [oddA, if_pos h3], d1, rfl, ofr_refl _ _, ho⟩
theorem m_odds {xs : List Int32} {ext : mm_X} {n : Nat} {sh : mm_S} {d : mm_D} {g : mm_G} {r : mm_R} {T : wo_T} {B : wo_A} (hsh : shp sh) (hr : rfx r) (hR : MR d T (o0 T)) (hB : hM d B) (hbn : tnb T ≠ 0 → tnp T ≠ 0) {risk : Int32} (hrk : d 250 33 = risk) (n1 : Int32) : wp xs ext (n + 22) 221 0 [some (.ref 250), some (.int n1), none, none] [] (sh, d, g, r) (fun v μ => v = some (.int (oddsQ T B risk n1)) ∧ ∃ d2, μ = (sh, d2, g, r) ∧ uf d d2 ∧ hM d2 B) := by
  refine wp_aload_n (j := 0) rfl q221_ok d221_0 ?_
  refine wp_getI q221_ok d221_1 fl_11_265 rfl (by first | assumption | exact so0 hsh rfl) hR.2.2.2.1 ?_
  refine wp_if_eq q221_ok d221_4 (t := 17) rfl (fun h4 => ?_) (fun h4 => ?_)
  · refine wp_iconst (v := -1) (by decide) q221_ok d221_17 ?_
    refine wp_iret q221_ok d221_18 rfl ?_
    exact ⟨by unfold oddsQ; rw [if_neg (fun q => q (nI0 hR.1 h4))], d, rfl, uf_refl d, hB⟩
  · have c0 : hasT T := fun q => h4 (by rw [q]; rfl)
    refine wp_iload_n (j := 1) rfl q221_ok d221_7 ?_
    refine wp_iconst (v := 1) (by decide) q221_ok d221_8 ?_
    refine wp_bipush (v := 10) (by decide) q221_ok d221_9 ?_
    refine wp_cS q221_ok d221_11 ml_11_218 rfl q133_ok rfl rfl rfl (Nat.le_of_ble_eq_true rfl) (Nat.le_of_ble_eq_true rfl) (m_in _ _ _) (fun v11 μ11 hc => ?_)
    obtain ⟨rfl, rfl⟩ := hc
    refine ⟨mm_le_same rfl, ?_⟩
    by_cases c1 : 1 ≤ n1 ∧ n1 ≤ 10
    · rw [if_pos c1]
      refine wp_if_ne q221_ok d221_14 (t := 19) rfl (fun h14 => ?_) (fun h14 => ?_)
      · have h0 : 0 < tnb T := hR.2.2.1 c0
        obtain ⟨N, hN1, hN, hNe⟩ : ∃ N, 1 ≤ N ∧ N ≤ 10 ∧ n1 = nI N := by
          have e := nI_ofn (Int32.le_trans (show (0 : Int32) ≤ 1 from by decide) c1.1)
          have hl : n1.toNatClampNeg < 2 ^ 31 := by
            have := Int32.toInt_lt n1
            unfold Int32.toNatClampNeg
            omega
          have c11 := c1.1
          have c12 := c1.2
          generalize n1.toNatClampNeg = N at e hl
          subst e
          exact ⟨N, (nI_leI (by decide) hl).mp (show nI 1 ≤ nI N from c11), (nI_leI hl (by decide)).mp (show nI N ≤ nI 10 from c12), rfl⟩
        have hNc : n1.toNatClampNeg = N := by rw [hNe]; exact nI_clamp (by omega)
        subst hNe
        refine wp_aload_n (j := 0) rfl q221_ok d221_19 ?_
        refine wp_cV q221_ok d221_20 ml_11_356 rfl q195_ok (u := 11) rfl (by first | assumption | exact so0 hsh rfl) rfl (Nat.le_of_ble_eq_true rfl) (Nat.le_of_ble_eq_true rfl) (m_put hsh hr hB) (fun v20 μ20 hc => ?_)
        obtain ⟨rfl, d1, rfl, q1, hM1, hS1⟩ := hc
        refine ⟨mm_le_same rfl, ?_⟩
        refine wp_aload_n (j := 0) rfl q221_ok d221_23 ?_
        refine wp_iconst (v := 0) (by decide) q221_ok d221_24 ?_
        refine wp_iload_n (j := 1) rfl q221_ok d221_25 ?_
        refine wp_ldc2 kl_11_386 q221_ok d221_26 ?_
        refine wp_cV q221_ok d221_29 ml_11_382 rfl q220_ok (u := 11) rfl (by first | assumption | exact so0 hsh rfl) rfl (Nat.le_of_ble_eq_true rfl) (Nat.le_of_ble_eq_true rfl) (wp_up (show n + (12 - N) + N + 9 = n + 21 by omega) (m_odds_f (o := o0 T) (m0 := B.1) hsh hr hN h0 N 0 B.1 B.2.1 1000000000 d1 (by omega) (MR_qf hR q1) ((q1.2 33 (by decide) (by decide) (by decide)).trans hrk) (Int32.add_zero _).symm ⟨hM1.1, fun b hb => (hM1.2 b hb).1⟩)) (fun v29 μ29 hc => ?_)
        obtain ⟨rfl, d2, rfl, f2, o2⟩ := hc
        refine ⟨mm_le_same rfl, ?_⟩
        refine wp_lstore_n (j := 2) (Nat.le_of_ble_eq_true rfl) (rfl : _ = [_, _, _, _]) q221_ok d221_32 ?_
        refine wp_aload_n (j := 0) rfl q221_ok d221_33 ?_
        refine wp_cV q221_ok d221_34 ml_11_362 rfl q196_ok (u := 11) rfl (by first | assumption | exact so0 hsh rfl) rfl (Nat.le_of_ble_eq_true rfl) (Nat.le_of_ble_eq_true rfl) (m_back hsh hr (hS_ofr hS1 f2)) (fun v34 μ34 hc => ?_)
        obtain ⟨rfl, d9, rfl, q9, hM9⟩ := hc
        refine ⟨mm_le_same rfl, ?_⟩
        refine wp_lload_n (j := 2) rfl q221_ok d221_37 ?_
        refine wp_l2i rfl q221_ok d221_38 ?_
        refine wp_iret q221_ok d221_39 rfl ?_
        exact ⟨by unfold oddsQ; rw [if_pos c0, if_pos c1, hNc], d9, rfl, uf_trans (uf_qf q1) (uf_trans (uf_ofr f2) (uf_qf q9)), hM9⟩
      · have h14 := Classical.not_not.mp h14
        exact absurd h14 (by decide)
    · rw [if_neg c1]
      refine wp_if_ne q221_ok d221_14 (t := 19) rfl (fun h14 => ?_) (fun h14 => ?_)
      · exact absurd rfl h14
      · have h14 := Classical.not_not.mp h14
        refine wp_iconst (v := -1) (by decide) q221_ok d221_17 ?_
        refine wp_iret q221_ok d221_18 rfl ?_
        exact ⟨by unfold oddsQ; rw [if_pos c0, if_neg c1], d, rfl, uf_refl d, hB⟩
