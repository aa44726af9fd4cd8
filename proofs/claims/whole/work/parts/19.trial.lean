/-! ===== the trial ===== -/
theorem nI_nm1 {k : Nat} (h : k < 2 ^ 31) : ¬ nI k = -1 := fun e => by
  have h0 := nI_pos' h
  rw [e] at h0
  exact absurd h0 (by decide)
theorem ixn_of5 {i : Int32} (h1 : ¬ i < 0) (h2 : ¬ (540 : Int32) ≤ i) : ixn i i.toNatClampNeg 540 := by
  have h0 : 0 ≤ i := Int32.not_lt.mp h1
  refine ⟨rfl, h0, ?_⟩
  have a := Int32.le_iff_toInt_le.mp h0
  have b := Int32.lt_iff_toInt_lt.mp (Int32.not_le.mp h2)
  have c : i.toNatClampNeg = i.toInt.toNat := rfl
  rw [c]
  have e0 : (0 : Int32).toInt = 0 := by decide
  have e6 : (540 : Int32).toInt = 540 := by decide
  omega
theorem ag_up {d d' : mm_D} (ha : ag d d') (c k : Nat) (v : Int32) : ag (mm_up d c k v) (mm_up d' c k v) := by
  intro j hj
  unfold mm_up
  by_cases h : j = c
  · subst h
    simp only [if_pos, ha _ hj]
  · simp only [if_neg h, ha _ hj]
def tlC (d : mm_D) (r : mm_R) (asked m ow f : Int32) : Nat → Int32
  | 0 => f
  | k + 1 => tlC d r asked m ow f k ||| (if (asked >>> (nI k &&& 31)) &&& 1 = 0 then 0 else if lookC d r k m ow = 0 then 0 else bitC k)
theorem tlC_0 (d : mm_D) (r : mm_R) (m ow f : Int32) : ∀ k, tlC d r 0 m ow f k = f
  | 0 => rfl
  | k + 1 => by
    rw [tlC, tlC_0 d r m ow f k, if_pos (by simp), Int32.or_zero]
def tmvC (d : mm_D) (m f : Int32) : Int32 := if d 232 9 = -1 then f else if onC m (d 232 10) (d (6 + (d 232 9).toNatClampNeg) 1) (d (6 + (d 232 9).toNatClampNeg) 2) = 0 then f &&& (bitC (d 232 9).toNatClampNeg ^^^ -1) else f ||| bitC (d 232 9).toNatClampNeg
def tenC (d : mm_D) (m f : Int32) : Int32 := (tmvC d m f ||| d 232 8) &&& (d 232 7 ^^^ -1)
def tasC (d : mm_D) : Int32 := d 232 5 &&& (d 232 7 ^^^ -1) &&& (d 232 8 ^^^ -1)
def tstC (d : mm_D) (k : Int32) : Int32 := if k < 0 then 0 else if 540 ≤ k then 0 else d 236 k.toNatClampNeg
def tlkC (d : mm_D) (r : mm_R) (s np : Nat) (k ow : Int32) : Int32 := tenC d (d s 0 + k) (tlC d r (tasC d) (d s 0 + k) ow (tstC d k) np)
def movOK (d : mm_D) (np : Nat) : Prop := d 232 9 = -1 ∨ ∃ mv, mv < np ∧ d 232 9 = nI mv
theorem c_tend {xs : List Int32} {ext : mm_X} {n : Nat} {sh : mm_S} {d : mm_D} {g : mm_G} {r : mm_R} (hsh : shp sh) (hr : rfx r) {np : Nat} (hnp : d 4 5 = nI np) (h6 : np ≤ 6) (hmv : movOK d np) (k ow F m asked : Int32) (z : Option Value) : ∀ d1, ag d d1 → wp xs ext (n + 3) 81 117 [some (.ref 232), some (.int k), some (.int ow), some (.int F), some (.int m), some (.int asked), z] [] (sh, d1, g, r) (fun v μ => v = some (.int (tenC d m F)) ∧ ∃ d2, μ = (sh, d2, g, r) ∧ ag d d2) := by
  intro d1 ha
  have hnp1 : d1 4 5 = nI np := by rw [ha _ (by unfold scr; omega)]; exact hnp
  rcases hmv with hmv | ⟨mv, hlt, hmv⟩
  · have hmv1 : d1 232 9 = -1 := by rw [ha _ (by unfold scr; omega)]; exact hmv
    refine wp_aload_n (j := 0) rfl q81_ok d81_117 ?_
    refine wp_getI q81_ok d81_118 fl_9_68 rfl (by first | assumption | exact so0 hsh rfl) (by first | assumption | exact congrFun (ha _ (by unfold scr; omega)) _ | rfl) ?_
    refine wp_iconst (v := -1) (by decide) q81_ok d81_121 ?_
    refine wp_icmp_eq q81_ok d81_122 (t := 167) rfl (fun h122 => ?_) (fun h122 => ?_)
    · refine wp_iload_n (j := 3) rfl q81_ok d81_167 ?_
      refine wp_aload_n (j := 0) rfl q81_ok d81_168 ?_
      refine wp_getI q81_ok d81_169 fl_9_65 rfl (by first | assumption | exact so0 hsh rfl) (by first | assumption | exact congrFun (ha _ (by unfold scr; omega)) _ | rfl) ?_
      refine wp_ior rfl q81_ok d81_172 ?_
      refine wp_aload_n (j := 0) rfl q81_ok d81_173 ?_
      refine wp_getI q81_ok d81_174 fl_9_62 rfl (by first | assumption | exact so0 hsh rfl) (by first | assumption | exact congrFun (ha _ (by unfold scr; omega)) _ | rfl) ?_
      refine wp_iconst (v := -1) (by decide) q81_ok d81_177 ?_
      refine wp_ixor rfl q81_ok d81_178 ?_
      refine wp_iand rfl q81_ok d81_179 ?_
      refine wp_iret q81_ok d81_180 rfl ?_
      exact ⟨by unfold tenC tmvC; rw [if_pos hmv], d1, rfl, ha⟩
    · exact absurd rfl h122
  · have hmv1 : d1 232 9 = nI mv := by rw [ha _ (by unfold scr; omega)]; exact hmv
    have hcl : (d 232 9).toNatClampNeg = mv := by rw [hmv]; exact nI_clamp (by omega)
    have e6 : d1 (6 + mv) = d (6 + mv) := ha _ (by unfold scr; omega)
    have hn1 := nI_nm1 (show mv < 2 ^ 31 by omega)
    refine wp_aload_n (j := 0) rfl q81_ok d81_117 ?_
    refine wp_getI q81_ok d81_118 fl_9_68 rfl (by first | assumption | exact so0 hsh rfl) (by first | assumption | exact congrFun (ha _ (by unfold scr; omega)) _ | rfl) ?_
    refine wp_iconst (v := -1) (by decide) q81_ok d81_121 ?_
    refine wp_icmp_eq q81_ok d81_122 (t := 167) rfl (fun h122 => ?_) (fun h122 => ?_)
    · exact absurd h122 hn1
    · refine wp_iconst (v := 1) (by decide) q81_ok d81_125 ?_
      refine wp_aload_n (j := 0) rfl q81_ok d81_126 ?_
      refine wp_getI q81_ok d81_127 fl_9_68 rfl (by first | assumption | exact so0 hsh rfl) (by first | assumption | exact congrFun (ha _ (by unfold scr; omega)) _ | rfl) ?_
      refine wp_ishl rfl q81_ok d81_130 ?_
      refine wp_istore (j := 6) (Nat.le_of_ble_eq_true rfl) (rfl : _ = [_, _, _, _, _, _, _]) q81_ok d81_131 ?_
      refine wp_aload_n (j := 0) rfl q81_ok d81_133 ?_
      refine wp_getR q81_ok d81_134 fl_9_26 rfl (by first | assumption | exact so0 hsh rfl) (by first | assumption | exact hr _ _ _ rfl) ?_
      refine wp_aload_n (j := 0) rfl q81_ok d81_137 ?_
      refine wp_getI q81_ok d81_138 fl_9_68 rfl (by first | assumption | exact so0 hsh rfl) (by first | assumption | exact congrFun (ha _ (by unfold scr; omega)) _ | rfl) ?_
      refine wp_aload_n (j := 0) rfl q81_ok d81_141 ?_
      refine wp_getI q81_ok d81_142 fl_9_80 rfl (by first | assumption | exact so0 hsh rfl) (by first | assumption | exact congrFun (ha _ (by unfold scr; omega)) _ | rfl) ?_
      refine wp_iload (j := 4) rfl q81_ok d81_145 ?_
      refine wp_cV q81_ok d81_147 ml_9_90 rfl q63_ok (u := 7) rfl (by first | assumption | exact so0 hsh rfl) rfl (Nat.le_of_ble_eq_true rfl) (Nat.le_of_ble_eq_true rfl) (c_spanIsOn hsh hr hnp1 h6 hlt _ _) (fun v147 μ147 hc => ?_)
      obtain ⟨rfl, rfl⟩ := hc
      refine ⟨mm_le_same rfl, ?_⟩
      rw [e6]
      refine wp_if_eq q81_ok d81_150 (t := 160) rfl (fun h150 => ?_) (fun h150 => ?_)
      · refine wp_iload_n (j := 3) rfl q81_ok d81_160 ?_
        refine wp_iload (j := 6) rfl q81_ok d81_161 ?_
        refine wp_iconst (v := -1) (by decide) q81_ok d81_163 ?_
        refine wp_ixor rfl q81_ok d81_164 ?_
        refine wp_iand rfl q81_ok d81_165 ?_
        refine wp_istore_n (j := 3) (Nat.le_of_ble_eq_true rfl) (rfl : _ = [_, _, _, _, _, _, _]) q81_ok d81_166 ?_
        refine wp_iload_n (j := 3) rfl q81_ok d81_167 ?_
        refine wp_aload_n (j := 0) rfl q81_ok d81_168 ?_
        refine wp_getI q81_ok d81_169 fl_9_65 rfl (by first | assumption | exact so0 hsh rfl) (by first | assumption | exact congrFun (ha _ (by unfold scr; omega)) _ | rfl) ?_
        refine wp_ior rfl q81_ok d81_172 ?_
        refine wp_aload_n (j := 0) rfl q81_ok d81_173 ?_
        refine wp_getI q81_ok d81_174 fl_9_62 rfl (by first | assumption | exact so0 hsh rfl) (by first | assumption | exact congrFun (ha _ (by unfold scr; omega)) _ | rfl) ?_
        refine wp_iconst (v := -1) (by decide) q81_ok d81_177 ?_
        refine wp_ixor rfl q81_ok d81_178 ?_
        refine wp_iand rfl q81_ok d81_179 ?_
        refine wp_iret q81_ok d81_180 rfl ?_
        exact ⟨by unfold tenC tmvC; rw [hcl, hmv, if_neg hn1]; first | (rw [if_pos h150]; rfl) | (rw [if_neg h150]; rfl), d1, rfl, ha⟩
      · refine wp_iload_n (j := 3) rfl q81_ok d81_153 ?_
        refine wp_iload (j := 6) rfl q81_ok d81_154 ?_
        refine wp_ior rfl q81_ok d81_156 ?_
        refine wp_goto (t := 166) rfl q81_ok d81_157 ?_
        refine wp_istore_n (j := 3) (Nat.le_of_ble_eq_true rfl) (rfl : _ = [_, _, _, _, _, _, _]) q81_ok d81_166 ?_
        refine wp_iload_n (j := 3) rfl q81_ok d81_167 ?_
        refine wp_aload_n (j := 0) rfl q81_ok d81_168 ?_
        refine wp_getI q81_ok d81_169 fl_9_65 rfl (by first | assumption | exact so0 hsh rfl) (by first | assumption | exact congrFun (ha _ (by unfold scr; omega)) _ | rfl) ?_
        refine wp_ior rfl q81_ok d81_172 ?_
        refine wp_aload_n (j := 0) rfl q81_ok d81_173 ?_
        refine wp_getI q81_ok d81_174 fl_9_62 rfl (by first | assumption | exact so0 hsh rfl) (by first | assumption | exact congrFun (ha _ (by unfold scr; omega)) _ | rfl) ?_
        refine wp_iconst (v := -1) (by decide) q81_ok d81_177 ?_
        refine wp_ixor rfl q81_ok d81_178 ?_
        refine wp_iand rfl q81_ok d81_179 ?_
        refine wp_iret q81_ok d81_180 rfl ?_
        exact ⟨by unfold tenC tmvC; rw [hcl, hmv, if_neg hn1]; first | (rw [if_pos h150]; rfl) | (rw [if_neg h150]; rfl), d1, rfl, ha⟩
theorem c_tlk_l {xs : List Int32} {ext : mm_X} {n : Nat} {sh : mm_S} {d : mm_D} {g : mm_G} {r : mm_R} (hsh : shp sh) (hr : rfx r) {np : Nat} (hnp : d 4 5 = nI np) (h6 : np ≤ 6) (hmv : movOK d np) (hbs : habs d r) (k ow F m asked : Int32) (hask : ¬ asked = 0) : ∀ (z i : Nat) (d1 : mm_D), z + i = np → ag d d1 → wp xs ext (n + 4) 81 58 [some (.ref 232), some (.int k), some (.int ow), some (.int (tlC d r asked m ow F i)), some (.int m), some (.int asked), some (.int (nI i))] [] (sh, d1, g, r) (fun v μ => v = some (.int (tenC d m (tlC d r asked m ow F np))) ∧ ∃ d2, μ = (sh, d2, g, r) ∧ ag d d2) := by
  intro z
  induction z with
  | zero =>
    intro i d1 hm ha
    have hvb : np = i := by omega
    subst hvb
    have hnp1 : d1 4 5 = nI np := by rw [ha _ (by unfold scr; omega)]; exact hnp
    refine wp_iload (j := 5) rfl q81_ok d81_58 ?_
    refine wp_if_eq q81_ok d81_60 (t := 117) rfl (fun h60 => ?_) (fun h60 => ?_)
    · exact absurd h60 hask
    · refine wp_iload (j := 6) rfl q81_ok d81_63 ?_
      refine wp_aload_n (j := 0) rfl q81_ok d81_65 ?_
      refine wp_getR q81_ok d81_66 fl_9_26 rfl (by first | assumption | exact so0 hsh rfl) (by first | assumption | exact hr _ _ _ rfl) ?_
      refine wp_getI q81_ok d81_69 fl_9_83 rfl (by first | assumption | exact so0 hsh rfl) (by first | assumption | exact congrFun (ha _ (by unfold scr; omega)) _ | rfl) ?_
      refine wp_icmp_ge q81_ok d81_72 (t := 117) rfl (fun h72 => ?_) (fun h72 => ?_)
      · exact c_tend hsh hr hnp h6 hmv k ow _ m asked _ d1 ha
      · exact absurd (nI_le (Nat.le_refl _) (by omega)) h72
  | succ z ih =>
    intro i d1 hm ha
    have hlt : i < np := by omega
    have hnp1 : d1 4 5 = nI np := by rw [ha _ (by unfold scr; omega)]; exact hnp
    refine wp_iload (j := 5) rfl q81_ok d81_58 ?_
    refine wp_if_eq q81_ok d81_60 (t := 117) rfl (fun h60 => ?_) (fun h60 => ?_)
    · exact absurd h60 hask
    · refine wp_iload (j := 6) rfl q81_ok d81_63 ?_
      refine wp_aload_n (j := 0) rfl q81_ok d81_65 ?_
      refine wp_getR q81_ok d81_66 fl_9_26 rfl (by first | assumption | exact so0 hsh rfl) (by first | assumption | exact hr _ _ _ rfl) ?_
      refine wp_getI q81_ok d81_69 fl_9_83 rfl (by first | assumption | exact so0 hsh rfl) (by first | assumption | exact congrFun (ha _ (by unfold scr; omega)) _ | rfl) ?_
      refine wp_icmp_ge q81_ok d81_72 (t := 117) rfl (fun h72 => ?_) (fun h72 => ?_)
      · exact absurd h72 (nI_ge hlt (by omega))
      · refine wp_iload_n (j := 3) rfl q81_ok d81_75 ?_
        refine wp_iload (j := 5) rfl q81_ok d81_76 ?_
        refine wp_iload (j := 6) rfl q81_ok d81_78 ?_
        refine wp_ishr rfl q81_ok d81_80 ?_
        refine wp_iconst (v := 1) (by decide) q81_ok d81_81 ?_
        refine wp_iand rfl q81_ok d81_82 ?_
        refine wp_if_eq q81_ok d81_83 (t := 108) rfl (fun h83 => ?_) (fun h83 => ?_)
        · refine wp_iconst (v := 0) (by decide) q81_ok d81_108 ?_
          refine wp_ior rfl q81_ok d81_109 ?_
          refine wp_istore_n (j := 3) (Nat.le_of_ble_eq_true rfl) (rfl : _ = [_, _, _, _, _, _, _]) q81_ok d81_110 ?_
          refine wp_iinc (j := 6) rfl (by first | exact inc1 | rfl) (rfl : _ = [_, _, _, _, _, _, _]) q81_ok d81_111 ?_
          refine wp_goto (t := 58) rfl q81_ok d81_114 ?_
          have := ih (i + 1) d1 (by omega) ha
          rw [tlC, if_pos h83] at this
          exact this
        · refine wp_aload_n (j := 0) rfl q81_ok d81_86 ?_
          refine wp_getR q81_ok d81_87 fl_9_26 rfl (by first | assumption | exact so0 hsh rfl) (by first | assumption | exact hr _ _ _ rfl) ?_
          refine wp_iload (j := 6) rfl q81_ok d81_90 ?_
          refine wp_iload (j := 4) rfl q81_ok d81_92 ?_
          refine wp_iload_n (j := 2) rfl q81_ok d81_94 ?_
          refine wp_cV q81_ok d81_95 ml_9_86 rfl q64_ok (u := 7) rfl (by first | assumption | exact so0 hsh rfl) rfl (Nat.le_of_ble_eq_true rfl) (Nat.le_of_ble_eq_true rfl) (c_doesLook hsh hr hnp1 h6 hlt _ _ (habs_ag ha hbs)) (fun v95 μ95 hc => ?_)
          obtain ⟨rfl, d2, rfl, ha2⟩ := hc
          refine ⟨mm_le_same rfl, ?_⟩
          rw [lookC_ag ha hbs (show i < 6 by omega)]
          refine wp_if_eq q81_ok d81_98 (t := 108) rfl (fun h98 => ?_) (fun h98 => ?_)
          · refine wp_iconst (v := 0) (by decide) q81_ok d81_108 ?_
            refine wp_ior rfl q81_ok d81_109 ?_
            refine wp_istore_n (j := 3) (Nat.le_of_ble_eq_true rfl) (rfl : _ = [_, _, _, _, _, _, _]) q81_ok d81_110 ?_
            refine wp_iinc (j := 6) rfl (by first | exact inc1 | rfl) (rfl : _ = [_, _, _, _, _, _, _]) q81_ok d81_111 ?_
            refine wp_goto (t := 58) rfl q81_ok d81_114 ?_
            have := ih (i + 1) d2 (by omega) (ag_trans ha ha2)
            rw [tlC, if_neg h83, if_pos h98] at this
            exact this
          · refine wp_iconst (v := 1) (by decide) q81_ok d81_101 ?_
            refine wp_iload (j := 6) rfl q81_ok d81_102 ?_
            refine wp_ishl rfl q81_ok d81_104 ?_
            refine wp_goto (t := 109) rfl q81_ok d81_105 ?_
            refine wp_ior rfl q81_ok d81_109 ?_
            refine wp_istore_n (j := 3) (Nat.le_of_ble_eq_true rfl) (rfl : _ = [_, _, _, _, _, _, _]) q81_ok d81_110 ?_
            refine wp_iinc (j := 6) rfl (by first | exact inc1 | rfl) (rfl : _ = [_, _, _, _, _, _, _]) q81_ok d81_111 ?_
            refine wp_goto (t := 58) rfl q81_ok d81_114 ?_
            have := ih (i + 1) d2 (by omega) (ag_trans ha ha2)
            rw [tlC, if_neg h83, if_neg h98] at this
            exact this
theorem c_tlk {xs : List Int32} {ext : mm_X} {n : Nat} {sh : mm_S} {d : mm_D} {g : mm_G} {r : mm_R} (hsh : shp sh) (hr : rfx r) {np s : Nat} (hs : r 232 2 = some s) (hs6 : so sh s 6) (hss : ¬ scr s) (hnp : d 4 5 = nI np) (h6 : np ≤ 6) (hmv : movOK d np) (hbs : habs d r) (k ow : Int32) (d1 : mm_D) (ha : ag d d1) : wp xs ext (n + 4) 81 0 [some (.ref 232), some (.int k), some (.int ow), none, none, none, none] [] (sh, d1, g, r) (fun v μ => v = some (.int (tlkC d r s np k ow)) ∧ ∃ d2, μ = (sh, d2, g, r) ∧ ag d d2) := by
  have main : ∀ f, f = tstC d k → wp xs ext (n + 4) 81 58 [some (.ref 232), some (.int k), some (.int ow), some (.int f), some (.int (d s 0 + k)), some (.int (tasC d)), some (.int 0)] [] (sh, d1, g, r) (fun v μ => v = some (.int (tlkC d r s np k ow)) ∧ ∃ d2, μ = (sh, d2, g, r) ∧ ag d d2) := by
    intro f hf
    subst hf
    unfold tlkC
    by_cases hask : tasC d = 0
    · rw [hask, tlC_0]
      refine wp_iload (j := 5) rfl q81_ok d81_58 ?_
      refine wp_if_eq q81_ok d81_60 (t := 117) rfl (fun h60 => ?_) (fun h60 => ?_)
      · exact c_tend hsh hr hnp h6 hmv k ow _ _ _ _ d1 ha
      · exact absurd rfl h60
    · exact c_tlk_l hsh hr hnp h6 hmv hbs k ow _ _ _ hask np 0 d1 (by omega) ha
  refine wp_iload_n (j := 1) rfl q81_ok d81_0 ?_
  refine wp_if_lt q81_ok d81_1 (t := 22) rfl (fun h1 => ?_) (fun h1 => ?_)
  · refine wp_iconst (v := 0) (by decide) q81_ok d81_22 ?_
    refine wp_istore_n (j := 3) (Nat.le_of_ble_eq_true rfl) (rfl : _ = [_, _, _, _, _, _, _]) q81_ok d81_23 ?_
    skip
    refine wp_aload_n (j := 0) rfl q81_ok d81_24 ?_
    refine wp_getR q81_ok d81_25 fl_9_30 rfl (by first | assumption | exact so0 hsh rfl) hs ?_
    refine wp_getI q81_ok d81_28 fl_9_45 rfl hs6 (congrFun (ha _ hss) _) ?_
    refine wp_iload_n (j := 1) rfl q81_ok d81_31 ?_
    refine wp_iadd rfl q81_ok d81_32 ?_
    refine wp_istore (j := 4) (Nat.le_of_ble_eq_true rfl) (rfl : _ = [_, _, _, _, _, _, _]) q81_ok d81_33 ?_
    refine wp_aload_n (j := 0) rfl q81_ok d81_35 ?_
    refine wp_getI q81_ok d81_36 fl_9_43 rfl (by first | assumption | exact so0 hsh rfl) (by first | assumption | exact congrFun (ha _ (by unfold scr; omega)) _ | rfl) ?_
    refine wp_aload_n (j := 0) rfl q81_ok d81_39 ?_
    refine wp_getI q81_ok d81_40 fl_9_62 rfl (by first | assumption | exact so0 hsh rfl) (by first | assumption | exact congrFun (ha _ (by unfold scr; omega)) _ | rfl) ?_
    refine wp_iconst (v := -1) (by decide) q81_ok d81_43 ?_
    refine wp_ixor rfl q81_ok d81_44 ?_
    refine wp_iand rfl q81_ok d81_45 ?_
    refine wp_aload_n (j := 0) rfl q81_ok d81_46 ?_
    refine wp_getI q81_ok d81_47 fl_9_65 rfl (by first | assumption | exact so0 hsh rfl) (by first | assumption | exact congrFun (ha _ (by unfold scr; omega)) _ | rfl) ?_
    refine wp_iconst (v := -1) (by decide) q81_ok d81_50 ?_
    refine wp_ixor rfl q81_ok d81_51 ?_
    refine wp_iand (show _ = tasC d from rfl) q81_ok d81_52 ?_
    refine wp_istore (j := 5) (Nat.le_of_ble_eq_true rfl) (rfl : _ = [_, _, _, _, _, _, _]) q81_ok d81_53 ?_
    refine wp_iconst (v := 0) (by decide) q81_ok d81_55 ?_
    refine wp_istore (j := 6) (Nat.le_of_ble_eq_true rfl) (rfl : _ = [_, _, _, _, _, _, _]) q81_ok d81_56 ?_
    exact main _ (by unfold tstC; rw [if_pos h1])
  · refine wp_iload_n (j := 1) rfl q81_ok d81_4 ?_
    refine wp_aload_n (j := 0) rfl q81_ok d81_5 ?_
    refine wp_getR q81_ok d81_6 fl_9_18 rfl (by first | assumption | exact so0 hsh rfl) (by first | assumption | exact hr _ _ _ rfl) ?_
    refine wp_alen (m := 540) q81_ok d81_9 (shlt hsh (Nat.le_of_ble_eq_true rfl)) (sht hsh (Nat.le_of_ble_eq_true rfl) (Nat.le_of_ble_eq_true rfl)) (by first | assumption | exact shl hsh (Nat.le_of_ble_eq_true rfl) rfl) rfl ?_ (shK hsh)
    refine wp_icmp_ge q81_ok d81_10 (t := 22) rfl (fun h10 => ?_) (fun h10 => ?_)
    · refine wp_iconst (v := 0) (by decide) q81_ok d81_22 ?_
      refine wp_istore_n (j := 3) (Nat.le_of_ble_eq_true rfl) (rfl : _ = [_, _, _, _, _, _, _]) q81_ok d81_23 ?_
      skip
      refine wp_aload_n (j := 0) rfl q81_ok d81_24 ?_
      refine wp_getR q81_ok d81_25 fl_9_30 rfl (by first | assumption | exact so0 hsh rfl) hs ?_
      refine wp_getI q81_ok d81_28 fl_9_45 rfl hs6 (congrFun (ha _ hss) _) ?_
      refine wp_iload_n (j := 1) rfl q81_ok d81_31 ?_
      refine wp_iadd rfl q81_ok d81_32 ?_
      refine wp_istore (j := 4) (Nat.le_of_ble_eq_true rfl) (rfl : _ = [_, _, _, _, _, _, _]) q81_ok d81_33 ?_
      refine wp_aload_n (j := 0) rfl q81_ok d81_35 ?_
      refine wp_getI q81_ok d81_36 fl_9_43 rfl (by first | assumption | exact so0 hsh rfl) (by first | assumption | exact congrFun (ha _ (by unfold scr; omega)) _ | rfl) ?_
      refine wp_aload_n (j := 0) rfl q81_ok d81_39 ?_
      refine wp_getI q81_ok d81_40 fl_9_62 rfl (by first | assumption | exact so0 hsh rfl) (by first | assumption | exact congrFun (ha _ (by unfold scr; omega)) _ | rfl) ?_
      refine wp_iconst (v := -1) (by decide) q81_ok d81_43 ?_
      refine wp_ixor rfl q81_ok d81_44 ?_
      refine wp_iand rfl q81_ok d81_45 ?_
      refine wp_aload_n (j := 0) rfl q81_ok d81_46 ?_
      refine wp_getI q81_ok d81_47 fl_9_65 rfl (by first | assumption | exact so0 hsh rfl) (by first | assumption | exact congrFun (ha _ (by unfold scr; omega)) _ | rfl) ?_
      refine wp_iconst (v := -1) (by decide) q81_ok d81_50 ?_
      refine wp_ixor rfl q81_ok d81_51 ?_
      refine wp_iand (show _ = tasC d from rfl) q81_ok d81_52 ?_
      refine wp_istore (j := 5) (Nat.le_of_ble_eq_true rfl) (rfl : _ = [_, _, _, _, _, _, _]) q81_ok d81_53 ?_
      refine wp_iconst (v := 0) (by decide) q81_ok d81_55 ?_
      refine wp_istore (j := 6) (Nat.le_of_ble_eq_true rfl) (rfl : _ = [_, _, _, _, _, _, _]) q81_ok d81_56 ?_
      exact main _ (by unfold tstC; rw [if_neg h1, if_pos (show (540 : Int32) ≤ k from h10)])
    · have hix := ixn_of5 h1 h10
      refine wp_aload_n (j := 0) rfl q81_ok d81_13 ?_
      refine wp_getR q81_ok d81_14 fl_9_18 rfl (by first | assumption | exact so0 hsh rfl) (by first | assumption | exact hr _ _ _ rfl) ?_
      refine wp_iload_n (j := 1) rfl q81_ok d81_17 ?_
      refine wp_iald (m := 540) q81_ok d81_18 (by first | assumption | exact so0 hsh rfl) (by first | assumption | exact shl hsh (Nat.le_of_ble_eq_true rfl) rfl) hix (by first | assumption | exact congrFun (ha _ (by unfold scr; omega)) _ | rfl) ?_ (shK hsh)
      refine wp_goto (t := 23) rfl q81_ok d81_19 ?_
      refine wp_istore_n (j := 3) (Nat.le_of_ble_eq_true rfl) (rfl : _ = [_, _, _, _, _, _, _]) q81_ok d81_23 ?_
      skip
      refine wp_aload_n (j := 0) rfl q81_ok d81_24 ?_
      refine wp_getR q81_ok d81_25 fl_9_30 rfl (by first | assumption | exact so0 hsh rfl) hs ?_
      refine wp_getI q81_ok d81_28 fl_9_45 rfl hs6 (congrFun (ha _ hss) _) ?_
      refine wp_iload_n (j := 1) rfl q81_ok d81_31 ?_
      refine wp_iadd rfl q81_ok d81_32 ?_
      refine wp_istore (j := 4) (Nat.le_of_ble_eq_true rfl) (rfl : _ = [_, _, _, _, _, _, _]) q81_ok d81_33 ?_
      refine wp_aload_n (j := 0) rfl q81_ok d81_35 ?_
      refine wp_getI q81_ok d81_36 fl_9_43 rfl (by first | assumption | exact so0 hsh rfl) (by first | assumption | exact congrFun (ha _ (by unfold scr; omega)) _ | rfl) ?_
      refine wp_aload_n (j := 0) rfl q81_ok d81_39 ?_
      refine wp_getI q81_ok d81_40 fl_9_62 rfl (by first | assumption | exact so0 hsh rfl) (by first | assumption | exact congrFun (ha _ (by unfold scr; omega)) _ | rfl) ?_
      refine wp_iconst (v := -1) (by decide) q81_ok d81_43 ?_
      refine wp_ixor rfl q81_ok d81_44 ?_
      refine wp_iand rfl q81_ok d81_45 ?_
      refine wp_aload_n (j := 0) rfl q81_ok d81_46 ?_
      refine wp_getI q81_ok d81_47 fl_9_65 rfl (by first | assumption | exact so0 hsh rfl) (by first | assumption | exact congrFun (ha _ (by unfold scr; omega)) _ | rfl) ?_
      refine wp_iconst (v := -1) (by decide) q81_ok d81_50 ?_
      refine wp_ixor rfl q81_ok d81_51 ?_
      refine wp_iand (show _ = tasC d from rfl) q81_ok d81_52 ?_
      refine wp_istore (j := 5) (Nat.le_of_ble_eq_true rfl) (rfl : _ = [_, _, _, _, _, _, _]) q81_ok d81_53 ?_
      refine wp_iconst (v := 0) (by decide) q81_ok d81_55 ?_
      refine wp_istore (j := 6) (Nat.le_of_ble_eq_true rfl) (rfl : _ = [_, _, _, _, _, _, _]) q81_ok d81_56 ?_
      exact main _ (by unfold tstC; rw [if_neg h1, if_neg (show ¬ (540 : Int32) ≤ k from h10)])
