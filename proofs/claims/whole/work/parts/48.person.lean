/-! ===== person, where it answers; feed, end ===== -/
def personQ (S : wo_S) (i w : Int32) : Int32 := if w ≤ 3 then wper (sW S) i.toNatClampNeg w.toNatClampNeg else if w = 4 then whb (sW S) i.toNatClampNeg else if w = 5 then lkO (sT S) (o0 (sT S)) i.toNatClampNeg (sX S).1.1 ((sX S).1.2.1 0) else seO (sT S) (o0 (sT S)) i.toNatClampNeg (sX S).1.1 ((sX S).1.2.1 0)
theorem bit_val (x : Int32) {k : Nat} (hk : k < 6) : (x >>> (nI k &&& 31)) &&& 1 = if gb x k = true then 1 else 0 := by
  refine gb_ext (fun i hi => ?_)
  rw [gb_and, gb_1]
  by_cases e : i = 0
  · subst e
    rw [gb_shr x hk]
    cases gb x k <;> decide
  · rw [decide_eq_false e, Bool.and_false]
    cases gb x k
    · exact (gb_0 i).symm
    · exact ((gb_1 i).trans (decide_eq_false e)).symm
theorem tlk01 (S : wo_S) (p : Nat) (m ow : Int32) : tlk (sT S) p m ow = 0 ∨ tlk (sT S) p m ow = 1 := by
  show (if whb (sW S) p = -1 then _ else if _ then (0 : Int32) else 1) = 0 ∨ (if whb (sW S) p = -1 then _ else if _ then (0 : Int32) else 1) = 1
  by_cases e : whb (sW S) p = -1
  · rw [if_pos e]
    exact onC01 _ _ _ _
  · rw [if_neg e]
    split
    · exact Or.inl rfl
    · exact Or.inr rfl
theorem lkO_0 (T : wo_T) (p : Nat) (m ow : Int32) : lkO T (o0 T) p m ow = tlk T p m ow := by
  unfold lkO
  rw [if_neg (by rw [show (o0 T).2.1 = 0 from rfl, gb_0]; decide), if_neg (by rw [show (o0 T).1 = 0 from rfl, gb_0]; decide)]
  rfl
theorem seO01 (T : wo_T) (o : wo_O) (p : Nat) (m ow : Int32) : seO T o p m ow = 0 ∨ seO T o p m ow = 1 := by
  unfold seO
  split
  · exact Or.inl rfl
  · split
    · exact Or.inr rfl
    · split
      · exact Or.inr rfl
      · exact Or.inl rfl
theorem bit01 {x y : Int32} {k : Nat} (hk : k < 6) (h : gb x k = !decide (y = 0)) (h01 : y = 0 ∨ y = 1) : (x >>> (nI k &&& 31)) &&& 1 = y := by
  rw [bit_val x hk, h]
  rcases h01 with rfl | rfl <;> decide
theorem k_person {xs : List Int32} {ext : mm_X} {n : Nat} {sh : mm_S} {d : mm_D} {g : mm_G} {r : mm_R} {S : wo_S} (hsh : shp sh) (hr : rfx r) (ok : okW (sW S) (sH S).1) (h : repC d g r S) (i w : Int32) (hB : perT (sT S) i) (hW : 0 ≤ w ∧ w ≤ 6) : wp xs ext (n + 7) 94 0 [some (.ref 0), some (.int i), some (.int w), none] [] (sh, d, g, r) (kpost sh d g r S (some (.int (personQ S i w)))) := by
  have hT : rpC d r (sT S) := rpC_of ok h.1 h.2.1
  have hA0 := h.2.2.1.1
  have hnp : tnp (sT S) ≤ 6 := ok.1
  have hnb : tnb (sT S) ≤ 2 := ok.2.1
  have hp := per_lt hB hnp
  have hpe := nI_ofn hB.1
  generalize hic : i.toNatClampNeg = p at hp hpe
  subst hpe
  have hp6 : p < 6 := by omega
  have hpw : p < wnp (sW S) := hp
  have hr' : rfx (mm_up r 232 2 (some 38)) := rfx_up hr rfl _
  have hT' := rpC_38 (t := 38) hT
  have hsm := sm_prep (n := 1) hT' hA0 (by decide) (show 38 + 2 < 232 by decide)
  refine wp_aload_n (j := 0) rfl q94_ok d94_0 ?_
  refine wp_iload_n (j := 1) rfl q94_ok d94_1 ?_
  refine wp_cV q94_ok d94_2 ml_10_148 rfl q129_ok (u := 10) rfl (by first | assumption | exact so0 hsh rfl) rfl (Nat.le_of_ble_eq_true rfl) (Nat.le_of_ble_eq_true rfl) (c_isPerson hsh hr _) (fun v2 μ2 hc => ?_)
  obtain ⟨rfl, rfl⟩ := hc
  refine ⟨mm_le_same rfl, ?_⟩
  refine wp_if_eq q94_ok d94_5 (t := 18) rfl (fun h5 => ?_) (fun h5 => ?_)
  · exact absurd hB ((perC_T hT (nI p)).mp h5)
  · refine wp_iload_n (j := 2) rfl q94_ok d94_8 ?_
    refine wp_if_lt q94_ok d94_9 (t := 18) rfl (fun h9 => ?_) (fun h9 => ?_)
    · exact absurd hW.1 (Int32.not_le.mpr h9)
    · refine wp_iload_n (j := 2) rfl q94_ok d94_12 ?_
      refine wp_bipush (v := 6) (by decide) q94_ok d94_13 ?_
      refine wp_icmp_le q94_ok d94_15 (t := 26) rfl (fun h15 => ?_) (fun h15 => ?_)
      · refine wp_iload_n (j := 2) rfl q94_ok d94_26 ?_
        refine wp_iconst (v := 3) (by decide) q94_ok d94_27 ?_
        refine wp_icmp_gt q94_ok d94_28 (t := 43) rfl (fun h28 => ?_) (fun h28 => ?_)
        · refine wp_iload_n (j := 2) rfl q94_ok d94_43 ?_
          refine wp_iconst (v := 4) (by decide) q94_ok d94_44 ?_
          refine wp_icmp_ne q94_ok d94_45 (t := 71) rfl (fun h45 => ?_) (fun h45 => ?_)
          · refine wp_aload_n (j := 0) rfl q94_ok d94_71 ?_
            refine wp_getR q94_ok d94_72 fl_10_98 rfl (by first | assumption | exact so0 hsh rfl) (by first | assumption | exact hr _ _ _ rfl) ?_
            refine wp_aload_n (j := 0) rfl q94_ok d94_75 ?_
            refine wp_getR q94_ok d94_76 fl_10_69 rfl (by first | assumption | exact so0 hsh rfl) (by first | assumption | exact hr _ _ _ rfl) ?_
            refine wp_iconst (v := 1) (by decide) q94_ok d94_79 ?_
            refine wp_cV q94_ok d94_80 ml_10_163 rfl q78_ok (u := 9) rfl (by first | assumption | exact so0 hsh rfl) rfl (Nat.le_of_ble_eq_true rfl) (Nat.le_of_ble_eq_true rfl) (c_prepare (d := d) (N := 1) hsh hr (tw38 hsh hr) (by decide) ntw38 hT.1.1 hT.1.2.1 hT.1.2.2.2.2 (by decide) d (ag_refl d)) (fun v80 μ80 hc => ?_)
            obtain ⟨rfl, d3, rfl, ha3⟩ := hc
            refine ⟨mm_le_same rfl, ?_⟩
            refine wp_aload_n (j := 0) rfl q94_ok d94_83 ?_
            refine wp_getR q94_ok d94_84 fl_10_98 rfl (by first | assumption | exact so0 hsh rfl) (by first | assumption | exact hr _ _ _ rfl) ?_
            refine wp_cV q94_ok d94_87 ml_10_167 rfl q82_ok (u := 9) rfl (by first | assumption | exact so0 hsh rfl) rfl (Nat.le_of_ble_eq_true rfl) (Nat.le_of_ble_eq_true rfl) (c_stepT hsh hr' (TC_prep (N := 1) hT.1 (so0 hsh rfl) ntw38.1) d3 ha3) (fun v87 μ87 hc => ?_)
            obtain ⟨rfl, d4, rfl, ha4⟩ := hc
            refine ⟨mm_le_same rfl, ?_⟩
            refine wp_iload_n (j := 2) rfl q94_ok d94_90 ?_
            refine wp_iconst (v := 5) (by decide) q94_ok d94_91 ?_
            refine wp_icmp_ne q94_ok d94_92 (t := 105) rfl (fun h92 => ?_) (fun h92 => ?_)
            · refine wp_aload_n (j := 0) rfl q94_ok d94_105 ?_
              refine wp_getR q94_ok d94_106 fl_10_98 rfl (by first | assumption | exact so0 hsh rfl) (by first | assumption | exact hr _ _ _ rfl) ?_
              refine wp_getI q94_ok d94_109 fl_10_173 rfl (by first | assumption | exact so0 hsh rfl) (congrFun (ha4 _ (by unfold scr; omega)) _) ?_
              refine wp_iload_n (j := 1) rfl q94_ok d94_112 ?_
              refine wp_ishr rfl q94_ok d94_113 ?_
              refine wp_iconst (v := 1) (by decide) q94_ok d94_114 ?_
              refine wp_iand rfl q94_ok d94_115 ?_
              refine wp_iret q94_ok d94_116 rfl ?_
              refine kp_fr hr ok h ⟨congrArg (fun x => some (Value.int x)) ?_, _, _, _, rfl, fr_run (k := 1) ha4⟩
              unfold personQ
              rw [if_neg (show ¬ w ≤ 3 from Int32.not_le.mpr h28), if_neg (show ¬ w = 4 from h45), if_neg (show ¬ w = 5 from h92), hic]
              refine bit01 hp6 ?_ (seO01 _ _ _ _ _)
              rw [show stpD (prepD d (mm_up r 232 2 (some 38)) 38 (tnp (sT S)) 1) (mm_up r 232 2 (some 38)) 38 (tnp (sT S)) (tnb (sT S)) 232 13 = _ from (sm_12 hsm (Nat.lt_succ_self 0)).2.1, gb_seB _ _ _ _ hnp p, decide_eq_true hp]
              rfl
            · have h92 := Classical.not_not.mp h92
              refine wp_aload_n (j := 0) rfl q94_ok d94_95 ?_
              refine wp_getR q94_ok d94_96 fl_10_98 rfl (by first | assumption | exact so0 hsh rfl) (by first | assumption | exact hr _ _ _ rfl) ?_
              refine wp_getI q94_ok d94_99 fl_10_170 rfl (by first | assumption | exact so0 hsh rfl) (congrFun (ha4 _ (by unfold scr; omega)) _) ?_
              refine wp_goto (t := 112) rfl q94_ok d94_102 ?_
              refine wp_iload_n (j := 1) rfl q94_ok d94_112 ?_
              refine wp_ishr rfl q94_ok d94_113 ?_
              refine wp_iconst (v := 1) (by decide) q94_ok d94_114 ?_
              refine wp_iand rfl q94_ok d94_115 ?_
              refine wp_iret q94_ok d94_116 rfl ?_
              refine kp_fr hr ok h ⟨congrArg (fun x => some (Value.int x)) ?_, _, _, _, rfl, fr_run (k := 1) ha4⟩
              unfold personQ
              rw [if_neg (show ¬ w ≤ 3 from Int32.not_le.mpr h28), if_neg (show ¬ w = 4 from h45), if_pos (show w = 5 from h92), hic]
              refine bit01 hp6 ?_ (by rw [lkO_0]; exact tlk01 S _ _ _)
              rw [show stpD (prepD d (mm_up r 232 2 (some 38)) 38 (tnp (sT S)) 1) (mm_up r 232 2 (some 38)) 38 (tnp (sT S)) (tnb (sT S)) 232 12 = _ from (sm_12 hsm (Nat.lt_succ_self 0)).1, gb_loB _ _ _ _ hnp p, decide_eq_true hp]
              rfl
          · have h45 := Classical.not_not.mp h45
            rcases (ok.2.2.2.1 p hpw).2.2.2.2 with e | ⟨k, hk, e⟩
            · have e2 := (h.1.2.2.2.2.2.2 p hp6).1 hpw e
              refine wp_aload_n (j := 0) rfl q94_ok d94_48 ?_
              refine wp_getR q94_ok d94_49 fl_10_28 rfl (by first | assumption | exact so0 hsh rfl) (by first | assumption | exact hr _ _ _ rfl) ?_
              refine wp_getR q94_ok d94_52 fl_10_159 rfl (by first | assumption | exact so0 hsh rfl) (by first | assumption | exact hr _ _ _ rfl) ?_
              refine wp_iload_n (j := 1) rfl q94_ok d94_55 ?_
              refine wp_aaldN (m := 6) q94_ok d94_56 (t := 23) (by decide) (by first | assumption | exact so0 hsh rfl) (shl hsh (m := 6) (Nat.le_of_ble_eq_true rfl) rfl) (ixn_nI hp6) e2 ?_
              refine wp_astore_nN (j := 3) (Nat.le_of_ble_eq_true rfl) (rfl : _ = [_, _, _, _]) q94_ok d94_57 ?_
              refine wp_aload_nN (j := 3) rfl q94_ok d94_58 ?_
              refine wp_ifnonnullN q94_ok d94_59 ?_
              refine wp_iconst (v := -1) (by decide) q94_ok d94_62 ?_
              refine wp_goto (t := 70) rfl q94_ok d94_63 ?_
              refine wp_iret q94_ok d94_70 rfl ?_
              exact kp_same hr h (by unfold personQ; rw [if_neg (show ¬ w ≤ 3 from Int32.not_le.mpr h28), if_pos (show w = 4 from h45), hic, e])
            · have e2 := (h.1.2.2.2.2.2.2 p hp6).2.1 hpw k hk e
              have hk4 : k < 4 := by have := h.2.1.2.1; omega
              refine wp_aload_n (j := 0) rfl q94_ok d94_48 ?_
              refine wp_getR q94_ok d94_49 fl_10_28 rfl (by first | assumption | exact so0 hsh rfl) (by first | assumption | exact hr _ _ _ rfl) ?_
              refine wp_getR q94_ok d94_52 fl_10_159 rfl (by first | assumption | exact so0 hsh rfl) (by first | assumption | exact hr _ _ _ rfl) ?_
              refine wp_iload_n (j := 1) rfl q94_ok d94_55 ?_
              refine wp_aald (m := 6) q94_ok d94_56 (t := 23) (by decide) (by first | assumption | exact so0 hsh rfl) (shl hsh (m := 6) (Nat.le_of_ble_eq_true rfl) rfl) (ixn_nI hp6) e2 ?_
              refine wp_astore_n (j := 3) (Nat.le_of_ble_eq_true rfl) (rfl : _ = [_, _, _, _]) q94_ok d94_57 ?_
              refine wp_aload_n (j := 3) rfl q94_ok d94_58 ?_
              refine wp_ifnonnull (t := 66) rfl q94_ok d94_59 ?_
              refine wp_aload_n (j := 3) rfl q94_ok d94_66 ?_
              refine wp_getI q94_ok d94_67 fl_10_160 rfl (so238 hsh hk4) (h.2.1.2.2.1 k hk4) ?_
              refine wp_iret q94_ok d94_70 rfl ?_
              exact kp_same hr h (by unfold personQ; rw [if_neg (show ¬ w ≤ 3 from Int32.not_le.mpr h28), if_pos (show w = 4 from h45), hic, e])
        · have hix : ixn w w.toNatClampNeg 4 := ix_of (by decide) hW.1 (Int32.lt_of_le_of_lt (Int32.not_lt.mp h28) (by decide))
          refine wp_aload_n (j := 0) rfl q94_ok d94_31 ?_
          refine wp_getR q94_ok d94_32 fl_10_28 rfl (by first | assumption | exact so0 hsh rfl) (by first | assumption | exact hr _ _ _ rfl) ?_
          refine wp_getR q94_ok d94_35 fl_10_155 rfl (by first | assumption | exact so0 hsh rfl) (by first | assumption | exact hr _ _ _ rfl) ?_
          refine wp_iload_n (j := 1) rfl q94_ok d94_38 ?_
          refine wp_aald (m := 6) q94_ok d94_39 (t := 25) (by decide) (by first | assumption | exact so0 hsh rfl) (by first | assumption | exact shl hsh (Nat.le_of_ble_eq_true rfl) rfl) (ixn_nI hp6) (r5 hr hp6) ?_
          refine wp_iload_n (j := 2) rfl q94_ok d94_40 ?_
          refine wp_iald (m := 4) q94_ok d94_41 (s6 hsh hp6).1 (s6 hsh hp6).2 (by first | assumption | exact ixn_nI (by omega)) (h.1.2.2.1 p hpw w.toNatClampNeg hix.2.2) ?_ (shK hsh)
          refine wp_iret q94_ok d94_42 rfl ?_
          exact kp_same hr h (by unfold personQ; rw [if_pos (show w ≤ 3 from Int32.not_lt.mp h28), hic])
      · exact absurd hW.2 h15
