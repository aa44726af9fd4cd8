/-! ===== odds ===== -/
theorem wp_up {xs : List Int32} {ext : mm_X} {n m k pc : Nat} {L : mm_L} {S : List Value} {μ : mm_M} {Q : Option Value → mm_M → Prop} (e : n = m) (h : wp xs ext n k pc L S μ Q) : wp xs ext m k pc L S μ Q := e ▸ h
def oddA (T : wo_T) (o : wo_O) (m0 risk : Int32) : Nat → Nat → Int32 → Int64 → Int64
  | 0, _, ow, ps => if ow = 0 then ps else 0
  | z + 1, k, ow, ps => if lg_cmp ps 0 = 0 then 0 else
    oddA T o m0 risk z (k + 1) (leftC (tkd T 0) (ow + dueC (thr T 0) (m0 + nI k)) 1) (ps * risk.toInt64 / 100) +
    oddA T o m0 risk z (k + 1) (leftC (tkd T 0) (ow + dueC (thr T 0) (m0 + nI k)) (b01 (seB T o (m0 + nI k) ow))) (ps - ps * risk.toInt64 / 100)
theorem c_both {xs : List Int32} {ext : mm_X} {n : Nat} {sh : mm_S} {g : mm_G} {r : mm_R} (hsh : shp sh) (hr : rfx r) {T : wo_T} {X : mm_D} {N : Nat} (hX : rdy X r T (o0 T) 38 N) (hs : r 232 2 = some 38) (hN : N ≤ 10) (h0 : 0 < tnb T) {z k : Nat} (hk : k + 1 + z = N) (ih : ∀ (ow : Int32) (ps : Int64) (d1 : mm_D), ag X d1 → wp xs ext (n + 2 * z + 8) 118 0 [some (.ref 0), some (.int (nI N)), some (.int (nI (k + 1))), some (.int ow), some (.long ps), none] [] (sh, d1, g, r) (fun v μ => v = some (.long (oddA T (o0 T) (X 38 0) (X 0 16) z (k + 1) ow ps)) ∧ ∃ d2, μ = (sh, d2, g, r) ∧ ag X d2)) (ow : Int32) (ps : Int64) (hps : ¬ lg_cmp ps 0 = 0) (d1 : mm_D) (ha : ag X d1) : wp xs ext (n + 2 * z + 9) 119 0 [some (.ref 0), some (.int (nI N)), some (.int (nI (k))), some (.int ow), some (.long ps), none, none, none, none, none, none] [] (sh, d1, g, r) (fun v μ => v = some (.long (oddA T (o0 T) (X 38 0) (X 0 16) (z + 1) k ow ps)) ∧ ∃ d2, μ = (sh, d2, g, r) ∧ ag X d2) := by
  have h6 : tnp T ≤ 6 := hX.1.1.2.1
  have hb2 : tnb T ≤ 2 := hX.1.1.2.2.2.1
  have hTC := TC_rdy hX hs (so0 hsh rfl) ntw38.1
  obtain ⟨a1, a2, a3, a4, a5, a6, a7, a8, a9⟩ := hTC
  have hbb := hX.1.2.2.2.2.1 0 h0
  refine wp_aload_n (j := 0) rfl q119_ok d119_0 ?_
  refine wp_getR q119_ok d119_1 fl_10_69 rfl (by first | assumption | exact so0 hsh rfl) (by first | assumption | exact hr _ _ _ rfl) ?_
  refine wp_getI q119_ok d119_4 fl_10_217 rfl (by first | assumption | exact so0 hsh rfl) (by first | assumption | exact congrFun (ha _ (by unfold scr; omega)) _ | rfl) ?_
  refine wp_iload_n (j := 2) rfl q119_ok d119_7 ?_
  refine wp_iadd rfl q119_ok d119_8 ?_
  refine wp_istore (j := 6) (Nat.le_of_ble_eq_true rfl) (rfl : _ = [_, _, _, _, _, _, _, _, _, _, _]) q119_ok d119_9 ?_
  refine wp_aload_n (j := 0) rfl q119_ok d119_11 ?_
  refine wp_getR q119_ok d119_12 fl_10_28 rfl (by first | assumption | exact so0 hsh rfl) (by first | assumption | exact hr _ _ _ rfl) ?_
  refine wp_aload_n (j := 0) rfl q119_ok d119_15 ?_
  refine wp_getR q119_ok d119_16 fl_10_98 rfl (by first | assumption | exact so0 hsh rfl) (by first | assumption | exact hr _ _ _ rfl) ?_
  refine wp_iload_n (j := 2) rfl q119_ok d119_19 ?_
  refine wp_iload_n (j := 3) rfl q119_ok d119_20 ?_
  refine wp_cV q119_ok d119_21 ml_10_318 rfl q81_ok (u := 9) rfl (by first | assumption | exact so0 hsh rfl) rfl (Nat.le_of_ble_eq_true rfl) (Nat.le_of_ble_eq_true rfl) (c_tlk (d := X) hsh hr hs a2 a3 a4 a5 a8 a9 (nI k) ow d1 ha) (fun v21 μ21 hc => ?_)
  obtain ⟨rfl, d2, rfl, ha2⟩ := hc
  refine ⟨mm_le_same rfl, ?_⟩
  rw [tlk_abs hX (show k < N by omega)]
  refine wp_iload (j := 6) rfl q119_ok d119_24 ?_
  refine wp_aload_n (j := 0) rfl q119_ok d119_26 ?_
  refine wp_getR q119_ok d119_27 fl_10_28 rfl (by first | assumption | exact so0 hsh rfl) (by first | assumption | exact hr _ _ _ rfl) ?_
  refine wp_aload_n (j := 0) rfl q119_ok d119_30 ?_
  refine wp_getR q119_ok d119_31 fl_10_28 rfl (by first | assumption | exact so0 hsh rfl) (by first | assumption | exact hr _ _ _ rfl) ?_
  refine wp_cV q119_ok d119_34 ml_10_224 rfl q58_ok (u := 7) rfl (by first | assumption | exact so0 hsh rfl) rfl (Nat.le_of_ble_eq_true rfl) (Nat.le_of_ble_eq_true rfl) (c_view (d := d2) hsh hr) (fun v34 μ34 hc => ?_)
  obtain ⟨rfl, rfl⟩ := hc
  refine ⟨mm_le_same rfl, ?_⟩
  refine wp_cV q119_ok d119_37 ml_10_227 rfl q67_ok (u := 7) rfl (by first | assumption | exact so0 hsh rfl) rfl (Nat.le_of_ble_eq_true rfl) (Nat.le_of_ble_eq_true rfl) (c_near (d := d2) hsh hr (by rw [ha2 4 (by unfold scr; omega)]; exact a4) h6 _) (fun v37 μ37 hc => ?_)
  obtain ⟨rfl, rfl⟩ := hc
  refine ⟨mm_le_same rfl, ?_⟩
  refine wp_cV q119_ok d119_40 ml_10_230 rfl q66_ok (u := 7) rfl (by first | assumption | exact so0 hsh rfl) rfl (Nat.le_of_ble_eq_true rfl) (Nat.le_of_ble_eq_true rfl) (c_seers (d := d2) hsh hr _ _ _) (fun v40 μ40 hc => ?_)
  obtain ⟨rfl, rfl⟩ := hc
  refine ⟨mm_le_same rfl, ?_⟩
  rw [show nearC d2 (viewC d2) (tnp T) = nearC X (o0 T).2.2.2 (tnp T) from by rw [nearC_ag ha2 _ _ h6, viewC_ag ha2, hX.1.2.2.2.2.2.2]; rfl, seersC_ag ha2, see_abs hX.1]
  refine wp_if_eq q119_ok d119_43 (t := 50) rfl (fun h43 => ?_) (fun h43 => ?_)
  · refine wp_iconst (v := 0) (by decide) q119_ok d119_50 ?_
    refine wp_istore (j := 7) (Nat.le_of_ble_eq_true rfl) (rfl : _ = [_, _, _, _, _, _, _, _, _, _, _]) q119_ok d119_51 ?_
    refine wp_iload_n (j := 3) rfl q119_ok d119_53 ?_
    refine wp_aload_n (j := 0) rfl q119_ok d119_54 ?_
    refine wp_getR q119_ok d119_55 fl_10_28 rfl (by first | assumption | exact so0 hsh rfl) (by first | assumption | exact hr _ _ _ rfl) ?_
    refine wp_iconst (v := 0) (by decide) q119_ok d119_58 ?_
    refine wp_iload (j := 6) rfl q119_ok d119_59 ?_
    refine wp_cV q119_ok d119_61 ml_10_320 rfl q70_ok (u := 7) rfl (by first | assumption | exact so0 hsh rfl) rfl (Nat.le_of_ble_eq_true rfl) (Nat.le_of_ble_eq_true rfl) (c_due (d := d2) (nb := tnb T) (k := 0) hsh hr (by rw [ha2 4 (by unfold scr; omega)]; exact a6) hb2 h0 _) (fun v61 μ61 hc => ?_)
    obtain ⟨rfl, rfl⟩ := hc
    refine ⟨mm_le_same rfl, ?_⟩
    rw [congrFun (ha2 (14 + 0) (by unfold scr; omega)) 0, hbb.1]
    refine wp_iadd rfl q119_ok d119_64 ?_
    refine wp_istore (j := 8) (Nat.le_of_ble_eq_true rfl) (rfl : _ = [_, _, _, _, _, _, _, _, _, _, _]) q119_ok d119_65 ?_
    refine wp_lload (j := 4) rfl q119_ok d119_67 ?_
    refine wp_aload_n (j := 0) rfl q119_ok d119_69 ?_
    refine wp_getI q119_ok d119_70 fl_10_203 rfl (by first | assumption | exact so0 hsh rfl) (congrFun (ha2 _ (by unfold scr; omega)) _) ?_
    refine wp_i2l rfl q119_ok d119_73 ?_
    refine wp_lmul rfl q119_ok d119_74 ?_
    refine wp_ldc2 kl_10_323 q119_ok d119_75 ?_
    refine wp_ldiv (by decide) rfl q119_ok d119_78 ?_
    refine wp_lstore (j := 9) (Nat.le_of_ble_eq_true rfl) (rfl : _ = [_, _, _, _, _, _, _, _, _, _, _]) q119_ok d119_79 ?_
    refine wp_aload_n (j := 0) rfl q119_ok d119_81 ?_
    refine wp_iload_n (j := 1) rfl q119_ok d119_82 ?_
    refine wp_iload_n (j := 2) rfl q119_ok d119_83 ?_
    refine wp_iconst (v := 1) (by decide) q119_ok d119_84 ?_
    refine wp_iadd (nI_1 k) q119_ok d119_85 ?_
    refine wp_aload_n (j := 0) rfl q119_ok d119_86 ?_
    refine wp_getR q119_ok d119_87 fl_10_28 rfl (by first | assumption | exact so0 hsh rfl) (by first | assumption | exact hr _ _ _ rfl) ?_
    refine wp_iconst (v := 0) (by decide) q119_ok d119_90 ?_
    refine wp_iload (j := 8) rfl q119_ok d119_91 ?_
    refine wp_iconst (v := 1) (by decide) q119_ok d119_93 ?_
    refine wp_cV q119_ok d119_94 ml_10_325 rfl q71_ok (u := 7) rfl (by first | assumption | exact so0 hsh rfl) rfl (Nat.le_of_ble_eq_true rfl) (Nat.le_of_ble_eq_true rfl) (c_left (d := d2) (nb := tnb T) (k := 0) hsh hr (by rw [ha2 4 (by unfold scr; omega)]; exact a6) hb2 h0 _ _) (fun v94 μ94 hc => ?_)
    obtain ⟨rfl, rfl⟩ := hc
    refine ⟨mm_le_same rfl, ?_⟩
    rw [congrFun (ha2 (14 + 0) (by unfold scr; omega)) 1, hbb.2.1]
    refine wp_lload (j := 9) rfl q119_ok d119_97 ?_
    refine wp_cV q119_ok d119_99 ml_10_311 rfl q118_ok (u := 10) rfl (by first | assumption | exact so0 hsh rfl) rfl (Nat.le_of_ble_eq_true rfl) (Nat.le_of_ble_eq_true rfl) (ih _ _ d2 ha2) (fun v99 μ99 hc => ?_)
    obtain ⟨rfl, d3, rfl, ha3⟩ := hc
    refine ⟨mm_le_same rfl, ?_⟩
    refine wp_aload_n (j := 0) rfl q119_ok d119_102 ?_
    refine wp_iload_n (j := 1) rfl q119_ok d119_103 ?_
    refine wp_iload_n (j := 2) rfl q119_ok d119_104 ?_
    refine wp_iconst (v := 1) (by decide) q119_ok d119_105 ?_
    refine wp_iadd (nI_1 k) q119_ok d119_106 ?_
    refine wp_aload_n (j := 0) rfl q119_ok d119_107 ?_
    refine wp_getR q119_ok d119_108 fl_10_28 rfl (by first | assumption | exact so0 hsh rfl) (by first | assumption | exact hr _ _ _ rfl) ?_
    refine wp_iconst (v := 0) (by decide) q119_ok d119_111 ?_
    refine wp_iload (j := 8) rfl q119_ok d119_112 ?_
    refine wp_iload (j := 7) rfl q119_ok d119_114 ?_
    refine wp_cV q119_ok d119_116 ml_10_325 rfl q71_ok (u := 7) rfl (by first | assumption | exact so0 hsh rfl) rfl (Nat.le_of_ble_eq_true rfl) (Nat.le_of_ble_eq_true rfl) (c_left (d := d3) (nb := tnb T) (k := 0) hsh hr (by rw [ha3 4 (by unfold scr; omega)]; exact a6) hb2 h0 _ _) (fun v116 μ116 hc => ?_)
    obtain ⟨rfl, rfl⟩ := hc
    refine ⟨mm_le_same rfl, ?_⟩
    rw [congrFun (ha3 (14 + 0) (by unfold scr; omega)) 1, hbb.2.1]
    refine wp_lload (j := 4) rfl q119_ok d119_119 ?_
    refine wp_lload (j := 9) rfl q119_ok d119_121 ?_
    refine wp_lsub rfl q119_ok d119_123 ?_
    refine wp_cV q119_ok d119_124 ml_10_311 rfl q118_ok (u := 10) rfl (by first | assumption | exact so0 hsh rfl) rfl (Nat.le_of_ble_eq_true rfl) (Nat.le_of_ble_eq_true rfl) (ih _ _ d3 ha3) (fun v124 μ124 hc => ?_)
    obtain ⟨rfl, d4, rfl, ha4⟩ := hc
    refine ⟨mm_le_same rfl, ?_⟩
    refine wp_ladd rfl q119_ok d119_127 ?_
    refine wp_lret q119_ok d119_128 rfl ?_
    refine ⟨?_, _, rfl, ha4⟩
    rw [oddA, if_neg hps, show b01 (seB T (o0 T) (X 38 0 + nI k) ow) = 0 from by unfold b01; rw [if_pos h43]]
  · refine wp_iconst (v := 1) (by decide) q119_ok d119_46 ?_
    refine wp_goto (t := 51) rfl q119_ok d119_47 ?_
    refine wp_istore (j := 7) (Nat.le_of_ble_eq_true rfl) (rfl : _ = [_, _, _, _, _, _, _, _, _, _, _]) q119_ok d119_51 ?_
    refine wp_iload_n (j := 3) rfl q119_ok d119_53 ?_
    refine wp_aload_n (j := 0) rfl q119_ok d119_54 ?_
    refine wp_getR q119_ok d119_55 fl_10_28 rfl (by first | assumption | exact so0 hsh rfl) (by first | assumption | exact hr _ _ _ rfl) ?_
    refine wp_iconst (v := 0) (by decide) q119_ok d119_58 ?_
    refine wp_iload (j := 6) rfl q119_ok d119_59 ?_
    refine wp_cV q119_ok d119_61 ml_10_320 rfl q70_ok (u := 7) rfl (by first | assumption | exact so0 hsh rfl) rfl (Nat.le_of_ble_eq_true rfl) (Nat.le_of_ble_eq_true rfl) (c_due (d := d2) (nb := tnb T) (k := 0) hsh hr (by rw [ha2 4 (by unfold scr; omega)]; exact a6) hb2 h0 _) (fun v61 μ61 hc => ?_)
    obtain ⟨rfl, rfl⟩ := hc
    refine ⟨mm_le_same rfl, ?_⟩
    rw [congrFun (ha2 (14 + 0) (by unfold scr; omega)) 0, hbb.1]
    refine wp_iadd rfl q119_ok d119_64 ?_
    refine wp_istore (j := 8) (Nat.le_of_ble_eq_true rfl) (rfl : _ = [_, _, _, _, _, _, _, _, _, _, _]) q119_ok d119_65 ?_
    refine wp_lload (j := 4) rfl q119_ok d119_67 ?_
    refine wp_aload_n (j := 0) rfl q119_ok d119_69 ?_
    refine wp_getI q119_ok d119_70 fl_10_203 rfl (by first | assumption | exact so0 hsh rfl) (congrFun (ha2 _ (by unfold scr; omega)) _) ?_
    refine wp_i2l rfl q119_ok d119_73 ?_
    refine wp_lmul rfl q119_ok d119_74 ?_
    refine wp_ldc2 kl_10_323 q119_ok d119_75 ?_
    refine wp_ldiv (by decide) rfl q119_ok d119_78 ?_
    refine wp_lstore (j := 9) (Nat.le_of_ble_eq_true rfl) (rfl : _ = [_, _, _, _, _, _, _, _, _, _, _]) q119_ok d119_79 ?_
    refine wp_aload_n (j := 0) rfl q119_ok d119_81 ?_
    refine wp_iload_n (j := 1) rfl q119_ok d119_82 ?_
    refine wp_iload_n (j := 2) rfl q119_ok d119_83 ?_
    refine wp_iconst (v := 1) (by decide) q119_ok d119_84 ?_
    refine wp_iadd (nI_1 k) q119_ok d119_85 ?_
    refine wp_aload_n (j := 0) rfl q119_ok d119_86 ?_
    refine wp_getR q119_ok d119_87 fl_10_28 rfl (by first | assumption | exact so0 hsh rfl) (by first | assumption | exact hr _ _ _ rfl) ?_
    refine wp_iconst (v := 0) (by decide) q119_ok d119_90 ?_
    refine wp_iload (j := 8) rfl q119_ok d119_91 ?_
    refine wp_iconst (v := 1) (by decide) q119_ok d119_93 ?_
    refine wp_cV q119_ok d119_94 ml_10_325 rfl q71_ok (u := 7) rfl (by first | assumption | exact so0 hsh rfl) rfl (Nat.le_of_ble_eq_true rfl) (Nat.le_of_ble_eq_true rfl) (c_left (d := d2) (nb := tnb T) (k := 0) hsh hr (by rw [ha2 4 (by unfold scr; omega)]; exact a6) hb2 h0 _ _) (fun v94 μ94 hc => ?_)
    obtain ⟨rfl, rfl⟩ := hc
    refine ⟨mm_le_same rfl, ?_⟩
    rw [congrFun (ha2 (14 + 0) (by unfold scr; omega)) 1, hbb.2.1]
    refine wp_lload (j := 9) rfl q119_ok d119_97 ?_
    refine wp_cV q119_ok d119_99 ml_10_311 rfl q118_ok (u := 10) rfl (by first | assumption | exact so0 hsh rfl) rfl (Nat.le_of_ble_eq_true rfl) (Nat.le_of_ble_eq_true rfl) (ih _ _ d2 ha2) (fun v99 μ99 hc => ?_)
    obtain ⟨rfl, d3, rfl, ha3⟩ := hc
    refine ⟨mm_le_same rfl, ?_⟩
    refine wp_aload_n (j := 0) rfl q119_ok d119_102 ?_
    refine wp_iload_n (j := 1) rfl q119_ok d119_103 ?_
    refine wp_iload_n (j := 2) rfl q119_ok d119_104 ?_
    refine wp_iconst (v := 1) (by decide) q119_ok d119_105 ?_
    refine wp_iadd (nI_1 k) q119_ok d119_106 ?_
    refine wp_aload_n (j := 0) rfl q119_ok d119_107 ?_
    refine wp_getR q119_ok d119_108 fl_10_28 rfl (by first | assumption | exact so0 hsh rfl) (by first | assumption | exact hr _ _ _ rfl) ?_
    refine wp_iconst (v := 0) (by decide) q119_ok d119_111 ?_
    refine wp_iload (j := 8) rfl q119_ok d119_112 ?_
    refine wp_iload (j := 7) rfl q119_ok d119_114 ?_
    refine wp_cV q119_ok d119_116 ml_10_325 rfl q71_ok (u := 7) rfl (by first | assumption | exact so0 hsh rfl) rfl (Nat.le_of_ble_eq_true rfl) (Nat.le_of_ble_eq_true rfl) (c_left (d := d3) (nb := tnb T) (k := 0) hsh hr (by rw [ha3 4 (by unfold scr; omega)]; exact a6) hb2 h0 _ _) (fun v116 μ116 hc => ?_)
    obtain ⟨rfl, rfl⟩ := hc
    refine ⟨mm_le_same rfl, ?_⟩
    rw [congrFun (ha3 (14 + 0) (by unfold scr; omega)) 1, hbb.2.1]
    refine wp_lload (j := 4) rfl q119_ok d119_119 ?_
    refine wp_lload (j := 9) rfl q119_ok d119_121 ?_
    refine wp_lsub rfl q119_ok d119_123 ?_
    refine wp_cV q119_ok d119_124 ml_10_311 rfl q118_ok (u := 10) rfl (by first | assumption | exact so0 hsh rfl) rfl (Nat.le_of_ble_eq_true rfl) (Nat.le_of_ble_eq_true rfl) (ih _ _ d3 ha3) (fun v124 μ124 hc => ?_)
    obtain ⟨rfl, d4, rfl, ha4⟩ := hc
    refine ⟨mm_le_same rfl, ?_⟩
    refine wp_ladd rfl q119_ok d119_127 ?_
    refine wp_lret q119_ok d119_128 rfl ?_
    refine ⟨?_, _, rfl, ha4⟩
    rw [oddA, if_neg hps, show b01 (seB T (o0 T) (X 38 0 + nI k) ow) = 1 from by unfold b01; rw [if_neg h43]]
theorem c_parts {xs : List Int32} {ext : mm_X} {n : Nat} {sh : mm_S} {g : mm_G} {r : mm_R} (hsh : shp sh) (hr : rfx r) {T : wo_T} {X : mm_D} {N : Nat} (hX : rdy X r T (o0 T) 38 N) (hs : r 232 2 = some 38) (hN : N ≤ 10) (h0 : 0 < tnb T) : ∀ (z k : Nat) (ow : Int32) (ps : Int64) (d1 : mm_D), z + k = N → ag X d1 → wp xs ext (n + 2 * z + 8) 118 0 [some (.ref 0), some (.int (nI N)), some (.int (nI (k))), some (.int ow), some (.long ps), none] [] (sh, d1, g, r) (fun v μ => v = some (.long (oddA T (o0 T) (X 38 0) (X 0 16) z k ow ps)) ∧ ∃ d2, μ = (sh, d2, g, r) ∧ ag X d2) := by
  intro z
  induction z with
  | zero =>
    intro k ow ps d1 hm ha
    have hvb : N = k := by omega
    subst hvb
    refine wp_iload_n (j := 2) rfl q118_ok d118_0 ?_
    refine wp_iload_n (j := 1) rfl q118_ok d118_1 ?_
    refine wp_icmp_ge q118_ok d118_2 (t := 11) rfl (fun h2 => ?_) (fun h2 => ?_)
    · refine wp_iload_n (j := 3) rfl q118_ok d118_11 ?_
      refine wp_if_ne q118_ok d118_12 (t := 20) rfl (fun h12 => ?_) (fun h12 => ?_)
      · refine wp_lconst (v := 0) (by decide) q118_ok d118_20 ?_
        refine wp_lret q118_ok d118_21 rfl ?_
        exact ⟨by rw [oddA, if_neg h12], d1, rfl, ha⟩
      · have h12 := Classical.not_not.mp h12
        refine wp_lload (j := 4) rfl q118_ok d118_15 ?_
        refine wp_goto (t := 21) rfl q118_ok d118_17 ?_
        refine wp_lret q118_ok d118_21 rfl ?_
        exact ⟨by rw [oddA, if_pos h12], d1, rfl, ha⟩
    · exact absurd (nI_le (Nat.le_refl _) (by omega)) h2
  | succ z ih =>
    intro k ow ps d1 hm ha
    have hlt : k < N := by omega
    have ih1 : ∀ (ow : Int32) (ps : Int64) (d1 : mm_D), ag X d1 → wp xs ext (n + 2 * z + 8) 118 0 [some (.ref 0), some (.int (nI N)), some (.int (nI (k + 1))), some (.int ow), some (.long ps), none] [] (sh, d1, g, r) (fun v μ => v = some (.long (oddA T (o0 T) (X 38 0) (X 0 16) z (k + 1) ow ps)) ∧ ∃ d2, μ = (sh, d2, g, r) ∧ ag X d2) := fun ow ps d1 ha => ih (k + 1) ow ps d1 (by omega) ha
    show wp xs ext (n + 2 * z + 10) 118 0 [some (.ref 0), some (.int (nI N)), some (.int (nI (k))), some (.int ow), some (.long ps), none] [] (sh, d1, g, r) (fun v μ => v = some (.long (oddA T (o0 T) (X 38 0) (X 0 16) (z + 1) k ow ps)) ∧ ∃ d2, μ = (sh, d2, g, r) ∧ ag X d2)
    refine wp_iload_n (j := 2) rfl q118_ok d118_0 ?_
    refine wp_iload_n (j := 1) rfl q118_ok d118_1 ?_
    refine wp_icmp_ge q118_ok d118_2 (t := 11) rfl (fun h2 => ?_) (fun h2 => ?_)
    · exact absurd h2 (nI_ge hlt (by omega))
    · refine wp_iload_n (j := 2) rfl q118_ok d118_5 ?_
      refine wp_bipush (v := 10) (by decide) q118_ok d118_6 ?_
      refine wp_icmp_lt q118_ok d118_8 (t := 22) rfl (fun h8 => ?_) (fun h8 => ?_)
      · refine wp_lload (j := 4) rfl q118_ok d118_22 ?_
        refine wp_lconst (v := 0) (by decide) q118_ok d118_24 ?_
        refine wp_lcmp rfl q118_ok d118_25 ?_
        refine wp_if_ne q118_ok d118_26 (t := 33) rfl (fun h26 => ?_) (fun h26 => ?_)
        · refine wp_aload_n (j := 0) rfl q118_ok d118_33 ?_
          refine wp_iload_n (j := 1) rfl q118_ok d118_34 ?_
          refine wp_iload_n (j := 2) rfl q118_ok d118_35 ?_
          refine wp_iload_n (j := 3) rfl q118_ok d118_36 ?_
          refine wp_lload (j := 4) rfl q118_ok d118_37 ?_
          refine wp_cV q118_ok d118_39 ml_10_315 rfl q119_ok (u := 10) rfl (by first | assumption | exact so0 hsh rfl) rfl (Nat.le_of_ble_eq_true rfl) (Nat.le_of_ble_eq_true rfl) (c_both hsh hr hX hs hN h0 (show k + 1 + z = N by omega) ih1 ow ps h26 d1 ha) (fun v39 μ39 hc => ?_)
          obtain ⟨rfl, d2, rfl, ha2⟩ := hc
          refine ⟨mm_le_same rfl, ?_⟩
          refine wp_lret q118_ok d118_42 rfl ?_
          exact ⟨rfl, d2, rfl, ha2⟩
        · have h26 := Classical.not_not.mp h26
          refine wp_lconst (v := 0) (by decide) q118_ok d118_29 ?_
          refine wp_goto (t := 42) rfl q118_ok d118_30 ?_
          refine wp_lret q118_ok d118_42 rfl ?_
          exact ⟨by rw [oddA, if_pos h26], d1, rfl, ha⟩
      · exact absurd ((nI_ltI (show k < 2 ^ 31 by omega) (by decide)).mpr (show k < 10 by omega)) h8
def oddsQ (T : wo_T) (A : wo_A) (risk n1 : Int32) : Int32 := if hasT T then if 1 ≤ n1 ∧ n1 ≤ 10 then (oddA T (o0 T) A.1 risk n1.toNatClampNeg 0 (A.2.1 0) 1000000000).toInt32 else -1 else -1
theorem ten_of {n : Int32} (h : ¬ n < 1) (h2 : n ≤ 10) : ∃ N, 1 ≤ N ∧ N ≤ 10 ∧ n = nI N := by
  have a := Int32.le_iff_toInt_le.mp (Int32.not_lt.mp h)
  have b := Int32.le_iff_toInt_le.mp h2
  have e1 : (1 : Int32).toInt = 1 := by decide
  have e2 : (10 : Int32).toInt = 10 := by decide
  have c : n.toNatClampNeg = n.toInt.toNat := rfl
  exact ⟨n.toNatClampNeg, by omega, by omega, nI_ofn (Int32.le_iff_toInt_le.mpr (by rw [show (0 : Int32).toInt = 0 from by decide]; omega))⟩
theorem c_oddsT {xs : List Int32} {ext : mm_X} {n : Nat} {sh : mm_S} {d : mm_D} {g : mm_G} {r : mm_R} (hsh : shp sh) (hr : rfx r) {T : wo_T} {A : wo_A} (hT : rpC d r T) (hA0 : hA d 38 A) (h0 : hasT T → 0 < tnb T) (n1 : Int32) : wp xs ext (n + 30) 117 0 [some (.ref 0), some (.int n1)] [] (sh, d, g, r) (fun v μ => v = some (.int (oddsQ T A (d 0 16) n1)) ∧ ∃ d2 g2 r2, μ = (sh, d2, g2, r2) ∧ fr d g r d2 g2 r2) := by
  have hr' : rfx (mm_up r 232 2 (some 38)) := rfx_up hr rfl _
  have hT' := rpC_38 (t := 38) hT
  have hs' : mm_up r 232 2 (some 38) 232 2 = some 38 := (mm_up_at 2).trans (if_pos rfl)
  refine wp_aload_n (j := 0) rfl q117_ok d117_0 ?_
  refine wp_cV q117_ok d117_1 ml_10_189 rfl q128_ok (u := 10) rfl (by first | assumption | exact so0 hsh rfl) rfl (Nat.le_of_ble_eq_true rfl) (Nat.le_of_ble_eq_true rfl) (c_hasTown hsh hr) (fun v1 μ1 hc => ?_)
  obtain ⟨rfl, rfl⟩ := hc
  refine ⟨mm_le_same rfl, ?_⟩
  refine wp_if_eq q117_ok d117_4 (t := 18) rfl (fun h4 => ?_) (fun h4 => ?_)
  · refine wp_iconst (v := -1) (by decide) q117_ok d117_18 ?_
    refine wp_iret q117_ok d117_19 rfl ?_
    exact ⟨by unfold oddsQ; rw [if_neg ((has_T hT).mp h4)], d, g, r, rfl, fr_refl⟩
  · refine wp_iload_n (j := 1) rfl q117_ok d117_7 ?_
    refine wp_iconst (v := 1) (by decide) q117_ok d117_8 ?_
    refine wp_icmp_lt q117_ok d117_9 (t := 18) rfl (fun h9 => ?_) (fun h9 => ?_)
    · refine wp_iconst (v := -1) (by decide) q117_ok d117_18 ?_
      refine wp_iret q117_ok d117_19 rfl ?_
      exact ⟨by unfold oddsQ; rw [if_pos (iff_nn (has_T hT) h4), if_neg (fun q => absurd q.1 (Int32.not_le.mpr h9))], d, g, r, rfl, fr_refl⟩
    · refine wp_iload_n (j := 1) rfl q117_ok d117_12 ?_
      refine wp_bipush (v := 10) (by decide) q117_ok d117_13 ?_
      refine wp_icmp_le q117_ok d117_15 (t := 20) rfl (fun h15 => ?_) (fun h15 => ?_)
      · obtain ⟨N, hN1, hN, hNe⟩ := ten_of h9 h15
        have hq : 1 ≤ n1 ∧ n1 ≤ 10 := ⟨Int32.not_lt.mp h9, h15⟩
        have hNc : n1.toNatClampNeg = N := by rw [hNe]; exact nI_clamp (by omega)
        subst hNe
        have hrd := rdy_prep hT' (show N ≤ 540 by omega) (show 38 + 2 < 232 by decide)
        have hps := hrd.2.2.2
        refine wp_aload_n (j := 0) rfl q117_ok d117_20 ?_
        refine wp_getR q117_ok d117_21 fl_10_98 rfl (by first | assumption | exact so0 hsh rfl) (by first | assumption | exact hr _ _ _ rfl) ?_
        refine wp_aload_n (j := 0) rfl q117_ok d117_24 ?_
        refine wp_getR q117_ok d117_25 fl_10_69 rfl (by first | assumption | exact so0 hsh rfl) (by first | assumption | exact hr _ _ _ rfl) ?_
        refine wp_iload_n (j := 1) rfl q117_ok d117_28 ?_
        refine wp_cV q117_ok d117_29 ml_10_163 rfl q78_ok (u := 9) rfl (by first | assumption | exact so0 hsh rfl) rfl (Nat.le_of_ble_eq_true rfl) (Nat.le_of_ble_eq_true rfl) (c_prepare (d := d) hsh hr (tw38 hsh hr) (by decide) ntw38 hT.1.1 hT.1.2.1 hT.1.2.2.2.2 (show N ≤ 540 by omega) d (ag_refl d)) (fun v29 μ29 hc => ?_)
        obtain ⟨rfl, d3, rfl, ha3⟩ := hc
        refine ⟨mm_le_same rfl, ?_⟩
        refine wp_aload_n (j := 0) rfl q117_ok d117_32 ?_
        refine wp_iload_n (j := 1) rfl q117_ok d117_33 ?_
        refine wp_iconst (v := 0) (by decide) q117_ok d117_34 ?_
        refine wp_aload_n (j := 0) rfl q117_ok d117_35 ?_
        refine wp_getR q117_ok d117_36 fl_10_69 rfl (by first | assumption | exact so0 hsh rfl) (by first | assumption | exact hr _ _ _ rfl) ?_
        refine wp_getR q117_ok d117_39 fl_10_182 rfl (by first | assumption | exact so0 hsh rfl) (by first | assumption | exact hr _ _ _ rfl) ?_
        refine wp_iconst (v := 0) (by decide) q117_ok d117_42 ?_
        refine wp_iald (m := 2) q117_ok d117_43 (by first | assumption | exact so0 hsh rfl) (by first | assumption | exact shl hsh (Nat.le_of_ble_eq_true rfl) rfl) (ixn_nI (j := 0) (Nat.le_of_ble_eq_true rfl)) (congrFun (ha3 _ (by unfold scr; omega)) _) ?_ (shK hsh)
        refine wp_ldc2 kl_10_309 q117_ok d117_44 ?_
        refine wp_cV q117_ok d117_47 ml_10_311 rfl q118_ok (u := 10) rfl (by first | assumption | exact so0 hsh rfl) rfl (Nat.le_of_ble_eq_true rfl) (Nat.le_of_ble_eq_true rfl) (wp_up (show n + 21 - 2 * N + 2 * N + 8 = n + 29 by omega) (c_parts (n := n + 21 - 2 * N) hsh hr' hrd.1 hs' (by omega) (h0 (iff_nn (has_T hT) h4)) N 0 _ _ d3 (by omega) ha3)) (fun v47 μ47 hc => ?_)
        obtain ⟨rfl, d4, rfl, ha4⟩ := hc
        refine ⟨mm_le_same rfl, ?_⟩
        refine wp_l2i rfl q117_ok d117_50 ?_
        refine wp_iret q117_ok d117_51 rfl ?_
        refine ⟨?_, _, _, _, rfl, fr_prp (fun c hc => mm_up_ne hc) ha4 hps⟩
        unfold oddsQ
        rw [if_pos (iff_nn (has_T hT) h4), if_pos hq, hNc]
        have e1 : prepD d (mm_up r 232 2 (some 38)) 38 (tnp T) N 38 0 = d 38 0 := congrFun (hps.1 38 (by omega)) 0
        have e2 : prepD d (mm_up r 232 2 (some 38)) 38 (tnp T) N 0 16 = d 0 16 := congrFun (hps.1 0 (by omega)) 16
        have e3 : prepD d (mm_up r 232 2 (some 38)) 38 (tnp T) N 39 0 = d 39 0 := congrFun (hps.1 39 (by omega)) 0
        refine congrArg (fun (x : Int64) => some (Value.int x.toInt32)) ?_
        show oddA T (o0 T) (prepD d (mm_up r 232 2 (some 38)) 38 (tnp T) N 38 0) (prepD d (mm_up r 232 2 (some 38)) 38 (tnp T) N 0 16) N 0 (prepD d (mm_up r 232 2 (some 38)) 38 (tnp T) N 39 0) 1000000000 = _
        rw [e1, e2, e3, hA0.1, (hA0.2 0 (by decide)).1]
      · refine wp_iconst (v := -1) (by decide) q117_ok d117_18 ?_
        refine wp_iret q117_ok d117_19 rfl ?_
        exact ⟨by unfold oddsQ; rw [if_pos (iff_nn (has_T hT) h4), if_neg (fun q => h15 q.2)], d, g, r, rfl, fr_refl⟩
