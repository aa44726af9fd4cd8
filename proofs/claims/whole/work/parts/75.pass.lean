/-! ===== the model's minute goes ===== -/
/-- a minute leaves these alone -/
def pf (d d2 : mm_D) : Prop := (∀ c, c ≠ 250 → c ≠ 259 → c ≠ 260 → c ≠ 268 → c ≠ 269 → c ≠ 270 → d2 c = d c) ∧ ∀ j, j ≠ 32 → j ≠ 38 → d2 250 j = d 250 j
theorem pf_refl (d : mm_D) : pf d d := ⟨fun _ _ _ _ _ _ _ => rfl, fun _ _ _ => rfl⟩
theorem pf_trans {d d1 d2 : mm_D} (h : pf d d1) (h' : pf d1 d2) : pf d d2 := ⟨fun c a1 a2 a3 a4 a5 a6 => (h'.1 c a1 a2 a3 a4 a5 a6).trans (h.1 c a1 a2 a3 a4 a5 a6), fun j a1 a2 => (h'.2 j a1 a2).trans (h.2 j a1 a2)⟩
theorem pf_lf {d d2 : mm_D} (h : lf d d2) : pf d d2 := ⟨fun c _ a2 a3 _ _ _ => h c a2 a3, fun j _ _ => by rw [h 250 (by decide) (by decide)]⟩
theorem MR_pf {d d2 : mm_D} {T : wo_T} {o : wo_O} (hR : MR d T o) (h : pf d d2) : MR d2 T o := MR_eq hR (fun c h1 h2 h3 h4 => h.1 c (by omega) h3 h4 (by omega) (by omega) (by omega)) (fun j hj => h.2 j (by omega) (by omega))
theorem rg_0 {T : wo_T} {B : wo_A} {s : Int32} {b : Nat} (h : owA T B b ≤ 0) : lfA T B s b = owA T B b ∧ rgA T B s b = 0 := by
  have h1 : ¬ 1 ≤ owA T B b := fun q => absurd (Int32.le_trans q h) (by decide)
  have e : lfA T B s b = owA T B b := by unfold lfA leftC; rw [if_neg h1]
  exact ⟨e, by unfold rgA; rw [e, if_pos (Int32.le_refl _)]⟩
theorem rg_1 {T : wo_T} {B : wo_A} {s : Int32} {b : Nat} (h : ¬ s = (if tkd T b = 1 then (1 : Int32) else 0)) : lfA T B s b = owA T B b ∧ rgA T B s b = 0 := by
  have e : lfA T B s b = owA T B b := by
    unfold lfA leftC
    split
    · rw [if_neg (fun q => h q.symm)]
    · rfl
  exact ⟨e, by unfold rgA; rw [e, if_pos (Int32.le_refl _)]⟩
theorem rg_2 {T : wo_T} {B : wo_A} {s : Int32} {b : Nat} (h0 : ¬ owA T B b ≤ 0) (h : s = (if tkd T b = 1 then (1 : Int32) else 0)) : lfA T B s b = owA T B b - 1 ∧ rgA T B s b = 1 := by
  have h0' := Int32.lt_iff_toInt_lt.mp (Int32.not_le.mp h0)
  have e0 : (0 : Int32).toInt = 0 := by decide
  have e1 : (1 : Int32).toInt = 1 := by decide
  have h1 : 1 ≤ owA T B b := Int32.le_iff_toInt_le.mpr (by omega)
  have e : lfA T B s b = owA T B b - 1 := by unfold lfA leftC; rw [if_pos h1, if_pos h.symm]
  refine ⟨e, ?_⟩
  unfold rgA
  rw [e, if_neg]
  intro q
  have q' := Int32.le_iff_toInt_le.mp q
  have l := Int32.toInt_lt (owA T B b)
  rw [Int32.toInt_sub, e1, Int.bmod_eq_of_le (by omega) (by omega)] at q'
  omega
/-- bells up to k have gone by -/
def bk (d d1 : mm_D) (T : wo_T) (B : wo_A) (s : Int32) (k : Nat) : Prop := pf d d1 ∧ d1 250 32 = B.1 ∧ d1 250 38 = s ∧ (∀ b, b < 2 → d1 268 b = (if b < k then lfA T B s b else B.2.1 b) ∧ d1 269 b = (if b < k then (if rgA T B s b = 0 then B.2.2 b else B.2.2 b + 1) else B.2.2 b)) ∧ ∀ b, b < k → d1 270 b = rgA T B s b
theorem rg_next {d d1 : mm_D} {T : wo_T} {B : wo_A} {s R : Int32} {k : Nat} (hk : k < tnb T) (h2 : tnb T ≤ 2) (hp : pf d d1) (m1 : d1 250 32 = B.1) (m2 : d1 250 38 = s) (hb : ∀ b, b < 2 → (¬ b = k → d1 268 b = (if b < k then lfA T B s b else B.2.1 b)) ∧ d1 269 b = (if b < k then (if rgA T B s b = 0 then B.2.2 b else B.2.2 b + 1) else B.2.2 b)) (hr : ∀ b, b < k → d1 270 b = rgA T B s b) (hR : rgA T B s k = R) {l x : Int32} (hl : l = lfA T B s k) (hx : x = (if R = 0 then B.2.2 k else B.2.2 k + 1)) : bk d (mm_up (mm_up (mm_up d1 270 k R) 268 k l) 269 k x) T B s (k + 1) := by
  have e : ∀ c, c ≠ 268 → c ≠ 269 → c ≠ 270 → mm_up (mm_up (mm_up d1 270 k R) 268 k l) 269 k x c = d1 c := fun c a1 a2 a3 => by rw [mm_up_ne a2, mm_up_ne a1, mm_up_ne a3]
  refine ⟨⟨fun c a1 a2 a3 a4 a5 a6 => by rw [e c a4 a5 a6]; exact hp.1 c a1 a2 a3 a4 a5 a6, fun j a1 a2 => by rw [e 250 (by decide) (by decide) (by decide)]; exact hp.2 j a1 a2⟩, by rw [e 250 (by decide) (by decide) (by decide)]; exact m1, by rw [e 250 (by decide) (by decide) (by decide)]; exact m2, fun b hb2 => ⟨?_, ?_⟩, fun b hbk => ?_⟩
  · rw [mm_up_ne (by decide), mm_up_at]
    by_cases q : b = k
    · rw [if_pos q, q, if_pos (Nat.lt_succ_self k)]; exact hl
    · rw [if_neg q, mm_up_ne (by decide), (hb b hb2).1 q]
      by_cases w : b < k
      · rw [if_pos w, if_pos (by omega)]
      · rw [if_neg w, if_neg (by omega)]
  · rw [mm_up_at]
    by_cases q : b = k
    · rw [if_pos q, q, if_pos (Nat.lt_succ_self k), hR]; exact hx
    · rw [if_neg q, mm_up_ne (by decide), mm_up_ne (by decide), (hb b hb2).2]
      by_cases w : b < k
      · rw [if_pos w, if_pos (show b < k + 1 by omega)]
      · rw [if_neg w, if_neg (show ¬ b < k + 1 by omega)]
  · rw [mm_up_ne (by decide), mm_up_ne (by decide), mm_up_at]
    by_cases q : b = k
    · rw [if_pos q, q]; exact hR.symm
    · rw [if_neg q]; exact hr b (by omega)
theorem nI_3 (n f : Nat) : (3 : Int32) * nI n + nI f = nI (3 * n + f) := by
  show Int32.ofNat 3 * Int32.ofNat n + Int32.ofNat f = Int32.ofNat _
  rw [Int32.ofNat_add, Int32.ofNat_mul]
theorem m_pass80 {xs : List Int32} {ext : mm_X} {n : Nat} {sh : mm_S} {d : mm_D} {g : mm_G} {r : mm_R} (hsh : shp sh) (hr : rfx r) {T : wo_T} {B : wo_A} {s str : Int32} {k : Nat} {d1 : mm_D} (hs : s = 0 ∨ s = 1) (u3 u4 : Option Value) (Q : Option Value → mm_M → Prop) (hk : k < tnb T) (h2 : tnb T ≤ 2) (hkd : d1 266 (3 * k + 1) = tkd T k) (hp : pf d d1) (m1 : d1 250 32 = B.1) (m2 : d1 250 38 = s) (ho : d1 268 k = owA T B k) (hb : ∀ b, b < 2 → (¬ b = k → d1 268 b = (if b < k then lfA T B s b else B.2.1 b)) ∧ d1 269 b = (if b < k then (if rgA T B s b = 0 then B.2.2 b else B.2.2 b + 1) else B.2.2 b)) (hrg : ∀ b, b < k → d1 270 b = rgA T B s b) (hnext : ∀ D, bk d D T B s (k + 1) → wp xs ext (n + 8) 184 22 [some (.ref 250), some (.int str), some (.int (nI (k + 1))), u3, u4] [] (sh, D, g, r) Q) : wp xs ext (n + 8) 184 80 [some (.ref 250), some (.int str), some (.int (nI k)), u3, u4] [] (sh, d1, g, r) Q := by
  have h69 : d1 269 k = B.2.2 k := by
    have := (hb k (by omega)).2
    rw [if_neg (Nat.lt_irrefl k)] at this
    exact this
  refine wp_aload_n (j := 0) rfl q184_ok d184_80 ?_
  refine wp_getR q184_ok d184_81 fl_11_67 rfl (by first | assumption | exact so0 hsh rfl) (by first | assumption | exact hr _ _ _ rfl) ?_
  refine wp_iload_n (j := 2) rfl q184_ok d184_84 ?_
  refine wp_aload_n (j := 0) rfl q184_ok d184_85 ?_
  refine wp_getR q184_ok d184_86 fl_11_61 rfl (by first | assumption | exact so0 hsh rfl) (by first | assumption | exact hr _ _ _ rfl) ?_
  refine wp_iload_n (j := 2) rfl q184_ok d184_89 ?_
  refine wp_iald (m := 2) q184_ok d184_90 (by first | assumption | exact so0 hsh rfl) (shl hsh (m := 2) (Nat.le_of_ble_eq_true rfl) rfl) (ixn_nI (show k < 2 by omega)) ho ?_ (shK hsh)
  refine wp_if_le q184_ok d184_91 (t := 124) rfl (fun h91 => ?_) (fun h91 => ?_)
  · refine wp_iconst (v := 0) (by decide) q184_ok d184_124 ?_
    refine wp_bast (m := 2) q184_ok d184_125 (by first | assumption | exact so0 hsh rfl) (shl hsh (m := 2) (Nat.le_of_ble_eq_true rfl) rfl) (ixn_nI (show k < 2 by omega)) (by first | assumption | exact Or.inl rfl | exact Or.inr rfl) ?_
    refine wp_aload_n (j := 0) rfl q184_ok d184_126 ?_
    refine wp_getR q184_ok d184_127 fl_11_61 rfl (by first | assumption | exact so0 hsh rfl) (by first | assumption | exact hr _ _ _ rfl) ?_
    refine wp_iload_n (j := 2) rfl q184_ok d184_130 ?_
    refine wp_dup2 rfl rfl q184_ok d184_131 ?_
    refine wp_iald (m := 2) q184_ok d184_132 (by first | assumption | exact so0 hsh rfl) (shl hsh (m := 2) (Nat.le_of_ble_eq_true rfl) rfl) (ixn_nI (show k < 2 by omega)) ((congrFun (mm_up_ne (show 268 ≠ 270 by decide)) k).trans ho) ?_ (shK hsh)
    refine wp_aload_n (j := 0) rfl q184_ok d184_133 ?_
    refine wp_getR q184_ok d184_134 fl_11_67 rfl (by first | assumption | exact so0 hsh rfl) (by first | assumption | exact hr _ _ _ rfl) ?_
    refine wp_iload_n (j := 2) rfl q184_ok d184_137 ?_
    refine wp_bald (m := 2) q184_ok d184_138 (by first | assumption | exact so0 hsh rfl) (shl hsh (m := 2) (Nat.le_of_ble_eq_true rfl) rfl) (ixn_nI (show k < 2 by omega)) ((mm_up_at k).trans (if_pos rfl)) ?_
    refine wp_if_eq q184_ok d184_139 (t := 146) rfl (fun h139 => ?_) (fun h139 => ?_)
    · refine wp_iconst (v := 0) (by decide) q184_ok d184_146 ?_
      refine wp_isub rfl q184_ok d184_147 ?_
      refine wp_iast (m := 2) q184_ok d184_148 (by first | assumption | exact so0 hsh rfl) (shl hsh (m := 2) (Nat.le_of_ble_eq_true rfl) rfl) (ixn_nI (show k < 2 by omega)) ?_
      refine wp_aload_n (j := 0) rfl q184_ok d184_149 ?_
      refine wp_getR q184_ok d184_150 fl_11_64 rfl (by first | assumption | exact so0 hsh rfl) (by first | assumption | exact hr _ _ _ rfl) ?_
      refine wp_iload_n (j := 2) rfl q184_ok d184_153 ?_
      refine wp_dup2 rfl rfl q184_ok d184_154 ?_
      refine wp_iald (m := 2) q184_ok d184_155 (by first | assumption | exact so0 hsh rfl) (shl hsh (m := 2) (Nat.le_of_ble_eq_true rfl) rfl) (ixn_nI (show k < 2 by omega)) ((congrFun ((mm_up_ne (show 269 ≠ 268 by decide)).trans (mm_up_ne (show 269 ≠ 270 by decide))) k).trans h69) ?_ (shK hsh)
      refine wp_aload_n (j := 0) rfl q184_ok d184_156 ?_
      refine wp_getR q184_ok d184_157 fl_11_67 rfl (by first | assumption | exact so0 hsh rfl) (by first | assumption | exact hr _ _ _ rfl) ?_
      refine wp_iload_n (j := 2) rfl q184_ok d184_160 ?_
      refine wp_bald (m := 2) q184_ok d184_161 (by first | assumption | exact so0 hsh rfl) (shl hsh (m := 2) (Nat.le_of_ble_eq_true rfl) rfl) (ixn_nI (show k < 2 by omega)) ((congrFun (mm_up_ne (show 270 ≠ 268 by decide)) k).trans ((mm_up_at k).trans (if_pos rfl))) ?_
      refine wp_if_eq q184_ok d184_162 (t := 169) rfl (fun h162 => ?_) (fun h162 => ?_)
      · refine wp_iconst (v := 0) (by decide) q184_ok d184_169 ?_
        refine wp_iadd rfl q184_ok d184_170 ?_
        refine wp_iast (m := 2) q184_ok d184_171 (by first | assumption | exact so0 hsh rfl) (shl hsh (m := 2) (Nat.le_of_ble_eq_true rfl) rfl) (ixn_nI (show k < 2 by omega)) ?_
        refine wp_iinc (j := 2) rfl (by first | exact inc1 | rfl) (rfl : _ = [_, _, _, _, _]) q184_ok d184_172 ?_
        refine wp_goto (t := 22) rfl q184_ok d184_175 ?_
        obtain ⟨q1, q2⟩ := rg_0 (s := s) h91
        exact hnext _ (rg_next hk h2 hp m1 m2 hb hrg q2 (show owA T B k - 0 = lfA T B s k from by rw [q1, Int32.sub_zero]) (show B.2.2 k + 0 = _ from by rw [if_pos rfl, Int32.add_zero]))
      · exact absurd rfl h162
    · exact absurd rfl h139
  · refine wp_aload_n (j := 0) rfl q184_ok d184_94 ?_
    refine wp_getZ q184_ok d184_95 fl_11_321 rfl (by first | assumption | exact so0 hsh rfl) m2 ?_
    refine wp_aload_n (j := 0) rfl q184_ok d184_98 ?_
    refine wp_getR q184_ok d184_99 fl_11_55 rfl (by first | assumption | exact so0 hsh rfl) (by first | assumption | exact hr _ _ _ rfl) ?_
    refine wp_iconst (v := 3) (by decide) q184_ok d184_102 ?_
    refine wp_iload_n (j := 2) rfl q184_ok d184_103 ?_
    refine wp_imul rfl q184_ok d184_104 ?_
    refine wp_iconst (v := 1) (by decide) q184_ok d184_105 ?_
    refine wp_iadd rfl q184_ok d184_106 ?_
    refine wp_iald (m := 6) q184_ok d184_107 (by first | assumption | exact so0 hsh rfl) (shl hsh (m := 6) (Nat.le_of_ble_eq_true rfl) rfl) (show ixn (3 * nI k + 1) (3 * k + 1) 6 from by rw [show (3 : Int32) * nI k + 1 = nI (3 * k + 1) from nI_3 k 1]; exact ixn_nI (by omega)) hkd ?_ (shK hsh)
    refine wp_iconst (v := 1) (by decide) q184_ok d184_108 ?_
    refine wp_icmp_ne q184_ok d184_109 (t := 116) rfl (fun h109 => ?_) (fun h109 => ?_)
    · refine wp_iconst (v := 0) (by decide) q184_ok d184_116 ?_
      refine wp_icmp_ne q184_ok d184_117 (t := 124) rfl (fun h117 => ?_) (fun h117 => ?_)
      · refine wp_iconst (v := 0) (by decide) q184_ok d184_124 ?_
        refine wp_bast (m := 2) q184_ok d184_125 (by first | assumption | exact so0 hsh rfl) (shl hsh (m := 2) (Nat.le_of_ble_eq_true rfl) rfl) (ixn_nI (show k < 2 by omega)) (by first | assumption | exact Or.inl rfl | exact Or.inr rfl) ?_
        refine wp_aload_n (j := 0) rfl q184_ok d184_126 ?_
        refine wp_getR q184_ok d184_127 fl_11_61 rfl (by first | assumption | exact so0 hsh rfl) (by first | assumption | exact hr _ _ _ rfl) ?_
        refine wp_iload_n (j := 2) rfl q184_ok d184_130 ?_
        refine wp_dup2 rfl rfl q184_ok d184_131 ?_
        refine wp_iald (m := 2) q184_ok d184_132 (by first | assumption | exact so0 hsh rfl) (shl hsh (m := 2) (Nat.le_of_ble_eq_true rfl) rfl) (ixn_nI (show k < 2 by omega)) ((congrFun (mm_up_ne (show 268 ≠ 270 by decide)) k).trans ho) ?_ (shK hsh)
        refine wp_aload_n (j := 0) rfl q184_ok d184_133 ?_
        refine wp_getR q184_ok d184_134 fl_11_67 rfl (by first | assumption | exact so0 hsh rfl) (by first | assumption | exact hr _ _ _ rfl) ?_
        refine wp_iload_n (j := 2) rfl q184_ok d184_137 ?_
        refine wp_bald (m := 2) q184_ok d184_138 (by first | assumption | exact so0 hsh rfl) (shl hsh (m := 2) (Nat.le_of_ble_eq_true rfl) rfl) (ixn_nI (show k < 2 by omega)) ((mm_up_at k).trans (if_pos rfl)) ?_
        refine wp_if_eq q184_ok d184_139 (t := 146) rfl (fun h139 => ?_) (fun h139 => ?_)
        · refine wp_iconst (v := 0) (by decide) q184_ok d184_146 ?_
          refine wp_isub rfl q184_ok d184_147 ?_
          refine wp_iast (m := 2) q184_ok d184_148 (by first | assumption | exact so0 hsh rfl) (shl hsh (m := 2) (Nat.le_of_ble_eq_true rfl) rfl) (ixn_nI (show k < 2 by omega)) ?_
          refine wp_aload_n (j := 0) rfl q184_ok d184_149 ?_
          refine wp_getR q184_ok d184_150 fl_11_64 rfl (by first | assumption | exact so0 hsh rfl) (by first | assumption | exact hr _ _ _ rfl) ?_
          refine wp_iload_n (j := 2) rfl q184_ok d184_153 ?_
          refine wp_dup2 rfl rfl q184_ok d184_154 ?_
          refine wp_iald (m := 2) q184_ok d184_155 (by first | assumption | exact so0 hsh rfl) (shl hsh (m := 2) (Nat.le_of_ble_eq_true rfl) rfl) (ixn_nI (show k < 2 by omega)) ((congrFun ((mm_up_ne (show 269 ≠ 268 by decide)).trans (mm_up_ne (show 269 ≠ 270 by decide))) k).trans h69) ?_ (shK hsh)
          refine wp_aload_n (j := 0) rfl q184_ok d184_156 ?_
          refine wp_getR q184_ok d184_157 fl_11_67 rfl (by first | assumption | exact so0 hsh rfl) (by first | assumption | exact hr _ _ _ rfl) ?_
          refine wp_iload_n (j := 2) rfl q184_ok d184_160 ?_
          refine wp_bald (m := 2) q184_ok d184_161 (by first | assumption | exact so0 hsh rfl) (shl hsh (m := 2) (Nat.le_of_ble_eq_true rfl) rfl) (ixn_nI (show k < 2 by omega)) ((congrFun (mm_up_ne (show 270 ≠ 268 by decide)) k).trans ((mm_up_at k).trans (if_pos rfl))) ?_
          refine wp_if_eq q184_ok d184_162 (t := 169) rfl (fun h162 => ?_) (fun h162 => ?_)
          · refine wp_iconst (v := 0) (by decide) q184_ok d184_169 ?_
            refine wp_iadd rfl q184_ok d184_170 ?_
            refine wp_iast (m := 2) q184_ok d184_171 (by first | assumption | exact so0 hsh rfl) (shl hsh (m := 2) (Nat.le_of_ble_eq_true rfl) rfl) (ixn_nI (show k < 2 by omega)) ?_
            refine wp_iinc (j := 2) rfl (by first | exact inc1 | rfl) (rfl : _ = [_, _, _, _, _]) q184_ok d184_172 ?_
            refine wp_goto (t := 22) rfl q184_ok d184_175 ?_
            obtain ⟨q1, q2⟩ := rg_1 (T := T) (B := B) (s := s) (b := k) (by rw [if_neg (show ¬ tkd T k = 1 from h109)]; exact h117)
            exact hnext _ (rg_next hk h2 hp m1 m2 hb hrg q2 (show owA T B k - 0 = lfA T B s k from by rw [q1, Int32.sub_zero]) (show B.2.2 k + 0 = _ from by rw [if_pos rfl, Int32.add_zero]))
          · exact absurd rfl h162
        · exact absurd rfl h139
      · have h117 := Classical.not_not.mp h117
        refine wp_iconst (v := 1) (by decide) q184_ok d184_120 ?_
        refine wp_goto (t := 125) rfl q184_ok d184_121 ?_
        refine wp_bast (m := 2) q184_ok d184_125 (by first | assumption | exact so0 hsh rfl) (shl hsh (m := 2) (Nat.le_of_ble_eq_true rfl) rfl) (ixn_nI (show k < 2 by omega)) (by first | assumption | exact Or.inl rfl | exact Or.inr rfl) ?_
        refine wp_aload_n (j := 0) rfl q184_ok d184_126 ?_
        refine wp_getR q184_ok d184_127 fl_11_61 rfl (by first | assumption | exact so0 hsh rfl) (by first | assumption | exact hr _ _ _ rfl) ?_
        refine wp_iload_n (j := 2) rfl q184_ok d184_130 ?_
        refine wp_dup2 rfl rfl q184_ok d184_131 ?_
        refine wp_iald (m := 2) q184_ok d184_132 (by first | assumption | exact so0 hsh rfl) (shl hsh (m := 2) (Nat.le_of_ble_eq_true rfl) rfl) (ixn_nI (show k < 2 by omega)) ((congrFun (mm_up_ne (show 268 ≠ 270 by decide)) k).trans ho) ?_ (shK hsh)
        refine wp_aload_n (j := 0) rfl q184_ok d184_133 ?_
        refine wp_getR q184_ok d184_134 fl_11_67 rfl (by first | assumption | exact so0 hsh rfl) (by first | assumption | exact hr _ _ _ rfl) ?_
        refine wp_iload_n (j := 2) rfl q184_ok d184_137 ?_
        refine wp_bald (m := 2) q184_ok d184_138 (by first | assumption | exact so0 hsh rfl) (shl hsh (m := 2) (Nat.le_of_ble_eq_true rfl) rfl) (ixn_nI (show k < 2 by omega)) ((mm_up_at k).trans (if_pos rfl)) ?_
        refine wp_if_eq q184_ok d184_139 (t := 146) rfl (fun h139 => ?_) (fun h139 => ?_)
        · exact absurd h139 (by decide)
        · refine wp_iconst (v := 1) (by decide) q184_ok d184_142 ?_
          refine wp_goto (t := 147) rfl q184_ok d184_143 ?_
          refine wp_isub rfl q184_ok d184_147 ?_
          refine wp_iast (m := 2) q184_ok d184_148 (by first | assumption | exact so0 hsh rfl) (shl hsh (m := 2) (Nat.le_of_ble_eq_true rfl) rfl) (ixn_nI (show k < 2 by omega)) ?_
          refine wp_aload_n (j := 0) rfl q184_ok d184_149 ?_
          refine wp_getR q184_ok d184_150 fl_11_64 rfl (by first | assumption | exact so0 hsh rfl) (by first | assumption | exact hr _ _ _ rfl) ?_
          refine wp_iload_n (j := 2) rfl q184_ok d184_153 ?_
          refine wp_dup2 rfl rfl q184_ok d184_154 ?_
          refine wp_iald (m := 2) q184_ok d184_155 (by first | assumption | exact so0 hsh rfl) (shl hsh (m := 2) (Nat.le_of_ble_eq_true rfl) rfl) (ixn_nI (show k < 2 by omega)) ((congrFun ((mm_up_ne (show 269 ≠ 268 by decide)).trans (mm_up_ne (show 269 ≠ 270 by decide))) k).trans h69) ?_ (shK hsh)
          refine wp_aload_n (j := 0) rfl q184_ok d184_156 ?_
          refine wp_getR q184_ok d184_157 fl_11_67 rfl (by first | assumption | exact so0 hsh rfl) (by first | assumption | exact hr _ _ _ rfl) ?_
          refine wp_iload_n (j := 2) rfl q184_ok d184_160 ?_
          refine wp_bald (m := 2) q184_ok d184_161 (by first | assumption | exact so0 hsh rfl) (shl hsh (m := 2) (Nat.le_of_ble_eq_true rfl) rfl) (ixn_nI (show k < 2 by omega)) ((congrFun (mm_up_ne (show 270 ≠ 268 by decide)) k).trans ((mm_up_at k).trans (if_pos rfl))) ?_
          refine wp_if_eq q184_ok d184_162 (t := 169) rfl (fun h162 => ?_) (fun h162 => ?_)
          · exact absurd h162 (by decide)
          · refine wp_iconst (v := 1) (by decide) q184_ok d184_165 ?_
            refine wp_goto (t := 170) rfl q184_ok d184_166 ?_
            refine wp_iadd rfl q184_ok d184_170 ?_
            refine wp_iast (m := 2) q184_ok d184_171 (by first | assumption | exact so0 hsh rfl) (shl hsh (m := 2) (Nat.le_of_ble_eq_true rfl) rfl) (ixn_nI (show k < 2 by omega)) ?_
            refine wp_iinc (j := 2) rfl (by first | exact inc1 | rfl) (rfl : _ = [_, _, _, _, _]) q184_ok d184_172 ?_
            refine wp_goto (t := 22) rfl q184_ok d184_175 ?_
            obtain ⟨q1, q2⟩ := rg_2 (T := T) (B := B) (s := s) (b := k) h91 (by rw [if_neg (show ¬ tkd T k = 1 from h109)]; exact h117)
            exact hnext _ (rg_next hk h2 hp m1 m2 hb hrg q2 (show owA T B k - 1 = lfA T B s k from q1.symm) (show B.2.2 k + 1 = _ from by rw [if_neg (by decide)]))
    · have h109 := Classical.not_not.mp h109
      refine wp_iconst (v := 1) (by decide) q184_ok d184_112 ?_
      refine wp_goto (t := 117) rfl q184_ok d184_113 ?_
      refine wp_icmp_ne q184_ok d184_117 (t := 124) rfl (fun h117 => ?_) (fun h117 => ?_)
      · refine wp_iconst (v := 0) (by decide) q184_ok d184_124 ?_
        refine wp_bast (m := 2) q184_ok d184_125 (by first | assumption | exact so0 hsh rfl) (shl hsh (m := 2) (Nat.le_of_ble_eq_true rfl) rfl) (ixn_nI (show k < 2 by omega)) (by first | assumption | exact Or.inl rfl | exact Or.inr rfl) ?_
        refine wp_aload_n (j := 0) rfl q184_ok d184_126 ?_
        refine wp_getR q184_ok d184_127 fl_11_61 rfl (by first | assumption | exact so0 hsh rfl) (by first | assumption | exact hr _ _ _ rfl) ?_
        refine wp_iload_n (j := 2) rfl q184_ok d184_130 ?_
        refine wp_dup2 rfl rfl q184_ok d184_131 ?_
        refine wp_iald (m := 2) q184_ok d184_132 (by first | assumption | exact so0 hsh rfl) (shl hsh (m := 2) (Nat.le_of_ble_eq_true rfl) rfl) (ixn_nI (show k < 2 by omega)) ((congrFun (mm_up_ne (show 268 ≠ 270 by decide)) k).trans ho) ?_ (shK hsh)
        refine wp_aload_n (j := 0) rfl q184_ok d184_133 ?_
        refine wp_getR q184_ok d184_134 fl_11_67 rfl (by first | assumption | exact so0 hsh rfl) (by first | assumption | exact hr _ _ _ rfl) ?_
        refine wp_iload_n (j := 2) rfl q184_ok d184_137 ?_
        refine wp_bald (m := 2) q184_ok d184_138 (by first | assumption | exact so0 hsh rfl) (shl hsh (m := 2) (Nat.le_of_ble_eq_true rfl) rfl) (ixn_nI (show k < 2 by omega)) ((mm_up_at k).trans (if_pos rfl)) ?_
        refine wp_if_eq q184_ok d184_139 (t := 146) rfl (fun h139 => ?_) (fun h139 => ?_)
        · refine wp_iconst (v := 0) (by decide) q184_ok d184_146 ?_
          refine wp_isub rfl q184_ok d184_147 ?_
          refine wp_iast (m := 2) q184_ok d184_148 (by first | assumption | exact so0 hsh rfl) (shl hsh (m := 2) (Nat.le_of_ble_eq_true rfl) rfl) (ixn_nI (show k < 2 by omega)) ?_
          refine wp_aload_n (j := 0) rfl q184_ok d184_149 ?_
          refine wp_getR q184_ok d184_150 fl_11_64 rfl (by first | assumption | exact so0 hsh rfl) (by first | assumption | exact hr _ _ _ rfl) ?_
          refine wp_iload_n (j := 2) rfl q184_ok d184_153 ?_
          refine wp_dup2 rfl rfl q184_ok d184_154 ?_
          refine wp_iald (m := 2) q184_ok d184_155 (by first | assumption | exact so0 hsh rfl) (shl hsh (m := 2) (Nat.le_of_ble_eq_true rfl) rfl) (ixn_nI (show k < 2 by omega)) ((congrFun ((mm_up_ne (show 269 ≠ 268 by decide)).trans (mm_up_ne (show 269 ≠ 270 by decide))) k).trans h69) ?_ (shK hsh)
          refine wp_aload_n (j := 0) rfl q184_ok d184_156 ?_
          refine wp_getR q184_ok d184_157 fl_11_67 rfl (by first | assumption | exact so0 hsh rfl) (by first | assumption | exact hr _ _ _ rfl) ?_
          refine wp_iload_n (j := 2) rfl q184_ok d184_160 ?_
          refine wp_bald (m := 2) q184_ok d184_161 (by first | assumption | exact so0 hsh rfl) (shl hsh (m := 2) (Nat.le_of_ble_eq_true rfl) rfl) (ixn_nI (show k < 2 by omega)) ((congrFun (mm_up_ne (show 270 ≠ 268 by decide)) k).trans ((mm_up_at k).trans (if_pos rfl))) ?_
          refine wp_if_eq q184_ok d184_162 (t := 169) rfl (fun h162 => ?_) (fun h162 => ?_)
          · refine wp_iconst (v := 0) (by decide) q184_ok d184_169 ?_
            refine wp_iadd rfl q184_ok d184_170 ?_
            refine wp_iast (m := 2) q184_ok d184_171 (by first | assumption | exact so0 hsh rfl) (shl hsh (m := 2) (Nat.le_of_ble_eq_true rfl) rfl) (ixn_nI (show k < 2 by omega)) ?_
            refine wp_iinc (j := 2) rfl (by first | exact inc1 | rfl) (rfl : _ = [_, _, _, _, _]) q184_ok d184_172 ?_
            refine wp_goto (t := 22) rfl q184_ok d184_175 ?_
            obtain ⟨q1, q2⟩ := rg_1 (T := T) (B := B) (s := s) (b := k) (by rw [if_pos (show tkd T k = 1 from h109)]; exact h117)
            exact hnext _ (rg_next hk h2 hp m1 m2 hb hrg q2 (show owA T B k - 0 = lfA T B s k from by rw [q1, Int32.sub_zero]) (show B.2.2 k + 0 = _ from by rw [if_pos rfl, Int32.add_zero]))
          · exact absurd rfl h162
        · exact absurd rfl h139
      · have h117 := Classical.not_not.mp h117
        refine wp_iconst (v := 1) (by decide) q184_ok d184_120 ?_
        refine wp_goto (t := 125) rfl q184_ok d184_121 ?_
        refine wp_bast (m := 2) q184_ok d184_125 (by first | assumption | exact so0 hsh rfl) (shl hsh (m := 2) (Nat.le_of_ble_eq_true rfl) rfl) (ixn_nI (show k < 2 by omega)) (by first | assumption | exact Or.inl rfl | exact Or.inr rfl) ?_
        refine wp_aload_n (j := 0) rfl q184_ok d184_126 ?_
        refine wp_getR q184_ok d184_127 fl_11_61 rfl (by first | assumption | exact so0 hsh rfl) (by first | assumption | exact hr _ _ _ rfl) ?_
        refine wp_iload_n (j := 2) rfl q184_ok d184_130 ?_
        refine wp_dup2 rfl rfl q184_ok d184_131 ?_
        refine wp_iald (m := 2) q184_ok d184_132 (by first | assumption | exact so0 hsh rfl) (shl hsh (m := 2) (Nat.le_of_ble_eq_true rfl) rfl) (ixn_nI (show k < 2 by omega)) ((congrFun (mm_up_ne (show 268 ≠ 270 by decide)) k).trans ho) ?_ (shK hsh)
        refine wp_aload_n (j := 0) rfl q184_ok d184_133 ?_
        refine wp_getR q184_ok d184_134 fl_11_67 rfl (by first | assumption | exact so0 hsh rfl) (by first | assumption | exact hr _ _ _ rfl) ?_
        refine wp_iload_n (j := 2) rfl q184_ok d184_137 ?_
        refine wp_bald (m := 2) q184_ok d184_138 (by first | assumption | exact so0 hsh rfl) (shl hsh (m := 2) (Nat.le_of_ble_eq_true rfl) rfl) (ixn_nI (show k < 2 by omega)) ((mm_up_at k).trans (if_pos rfl)) ?_
        refine wp_if_eq q184_ok d184_139 (t := 146) rfl (fun h139 => ?_) (fun h139 => ?_)
        · exact absurd h139 (by decide)
        · refine wp_iconst (v := 1) (by decide) q184_ok d184_142 ?_
          refine wp_goto (t := 147) rfl q184_ok d184_143 ?_
          refine wp_isub rfl q184_ok d184_147 ?_
          refine wp_iast (m := 2) q184_ok d184_148 (by first | assumption | exact so0 hsh rfl) (shl hsh (m := 2) (Nat.le_of_ble_eq_true rfl) rfl) (ixn_nI (show k < 2 by omega)) ?_
          refine wp_aload_n (j := 0) rfl q184_ok d184_149 ?_
          refine wp_getR q184_ok d184_150 fl_11_64 rfl (by first | assumption | exact so0 hsh rfl) (by first | assumption | exact hr _ _ _ rfl) ?_
          refine wp_iload_n (j := 2) rfl q184_ok d184_153 ?_
          refine wp_dup2 rfl rfl q184_ok d184_154 ?_
          refine wp_iald (m := 2) q184_ok d184_155 (by first | assumption | exact so0 hsh rfl) (shl hsh (m := 2) (Nat.le_of_ble_eq_true rfl) rfl) (ixn_nI (show k < 2 by omega)) ((congrFun ((mm_up_ne (show 269 ≠ 268 by decide)).trans (mm_up_ne (show 269 ≠ 270 by decide))) k).trans h69) ?_ (shK hsh)
          refine wp_aload_n (j := 0) rfl q184_ok d184_156 ?_
          refine wp_getR q184_ok d184_157 fl_11_67 rfl (by first | assumption | exact so0 hsh rfl) (by first | assumption | exact hr _ _ _ rfl) ?_
          refine wp_iload_n (j := 2) rfl q184_ok d184_160 ?_
          refine wp_bald (m := 2) q184_ok d184_161 (by first | assumption | exact so0 hsh rfl) (shl hsh (m := 2) (Nat.le_of_ble_eq_true rfl) rfl) (ixn_nI (show k < 2 by omega)) ((congrFun (mm_up_ne (show 270 ≠ 268 by decide)) k).trans ((mm_up_at k).trans (if_pos rfl))) ?_
          refine wp_if_eq q184_ok d184_162 (t := 169) rfl (fun h162 => ?_) (fun h162 => ?_)
          · exact absurd h162 (by decide)
          · refine wp_iconst (v := 1) (by decide) q184_ok d184_165 ?_
            refine wp_goto (t := 170) rfl q184_ok d184_166 ?_
            refine wp_iadd rfl q184_ok d184_170 ?_
            refine wp_iast (m := 2) q184_ok d184_171 (by first | assumption | exact so0 hsh rfl) (shl hsh (m := 2) (Nat.le_of_ble_eq_true rfl) rfl) (ixn_nI (show k < 2 by omega)) ?_
            refine wp_iinc (j := 2) rfl (by first | exact inc1 | rfl) (rfl : _ = [_, _, _, _, _]) q184_ok d184_172 ?_
            refine wp_goto (t := 22) rfl q184_ok d184_175 ?_
            obtain ⟨q1, q2⟩ := rg_2 (T := T) (B := B) (s := s) (b := k) h91 (by rw [if_pos (show tkd T k = 1 from h109)]; exact h117)
            exact hnext _ (rg_next hk h2 hp m1 m2 hb hrg q2 (show owA T B k - 1 = lfA T B s k from q1.symm) (show B.2.2 k + 1 = _ from by rw [if_neg (by decide)]))
theorem m_pass_l {xs : List Int32} {ext : mm_X} {n : Nat} {sh : mm_S} {d : mm_D} {g : mm_G} {r : mm_R} (hsh : shp sh) (hr : rfx r) {T : wo_T} {o : wo_O} {B : wo_A} {s str : Int32} (hR : MR d T o) (hs : s = 0 ∨ s = 1) : ∀ (z k : Nat) (u3 u4 : Option Value) (d1 : mm_D), z + k = tnb T → bk d d1 T B s k → wp xs ext (n + 8) 184 22 [some (.ref 250), some (.int str), some (.int (nI k)), u3, u4] [] (sh, d1, g, r) (fun v μ => v = none ∧ ∃ d2, μ = (sh, d2, g, r) ∧ pf d d2 ∧ hM d2 (stA T B s) ∧ (∀ b, b < tnb T → d2 270 b = rgA T B s b) ∧ d2 250 38 = s) := by
  have h2 := hR.2.1
  intro z
  induction z with
  | zero =>
    intro k u3 u4 d1 hz hb
    have hvb : k = tnb T := by omega
    subst hvb
    obtain ⟨p1, p2, p3, p4, p5⟩ := hb
    have hR1 := MR_pf hR p1
    refine wp_iload_n (j := 2) rfl q184_ok d184_22 ?_
    refine wp_aload_n (j := 0) rfl q184_ok d184_23 ?_
    refine wp_getI q184_ok d184_24 fl_11_268 rfl (by first | assumption | exact so0 hsh rfl) hR1.2.2.2.2.1 ?_
    refine wp_icmp_ge q184_ok d184_27 (t := 178) rfl (fun h27 => ?_) (fun h27 => ?_)
    · refine wp_aload_n (j := 0) rfl q184_ok d184_178 ?_
      refine wp_dup rfl q184_ok d184_179 ?_
      refine wp_getI q184_ok d184_180 fl_11_274 rfl (by first | assumption | exact so0 hsh rfl) p2 ?_
      refine wp_iconst (v := 1) (by decide) q184_ok d184_183 ?_
      refine wp_iadd rfl q184_ok d184_184 ?_
      refine wp_putI q184_ok d184_185 fl_11_274 rfl (by first | assumption | exact so0 hsh rfl) (Or.inl rfl) ?_
      refine wp_vret q184_ok d184_188 rfl ?_
      refine ⟨rfl, _, rfl, ⟨fun c a1 a2 a3 a4 a5 a6 => (mm_up_ne a1).trans (p1.1 c a1 a2 a3 a4 a5 a6), fun j a1 a2 => by rw [mm_up_at, if_neg a1]; exact p1.2 j a1 a2⟩, ⟨(mm_up_at 32).trans (if_pos rfl), fun b hb => ?_⟩, fun b hb => by rw [mm_up_ne (by decide)]; exact p5 b hb, by rw [mm_up_at, if_neg (by decide)]; exact p3⟩
      rw [mm_up_ne (by decide), mm_up_ne (by decide)]
      exact p4 b hb
    · exact absurd (nI_le (Nat.le_refl _) (by omega)) h27
  | succ z ih =>
    intro k u3 u4 d1 hz hb
    have hlt : k < tnb T := by omega
    obtain ⟨p1, p2, p3, p4, p5⟩ := hb
    have hR1 := MR_pf hR p1
    obtain ⟨g0, g1, g2, g3⟩ := hR1.2.2.2.2.2.2.2.2.2.2.1 k hlt
    have hne : ¬ thr T k = 0 := fun e => by rw [e] at g3; exact absurd g3 (by decide)
    have hn1 : ¬ thr T k < 1 := Int32.not_lt.mpr g3
    have h268 : d1 268 k = B.2.1 k := by
      have := (p4 k (by omega)).1
      rw [if_neg (Nat.lt_irrefl k)] at this
      exact this
    refine wp_iload_n (j := 2) rfl q184_ok d184_22 ?_
    refine wp_aload_n (j := 0) rfl q184_ok d184_23 ?_
    refine wp_getI q184_ok d184_24 fl_11_268 rfl (by first | assumption | exact so0 hsh rfl) hR1.2.2.2.2.1 ?_
    refine wp_icmp_ge q184_ok d184_27 (t := 178) rfl (fun h27 => ?_) (fun h27 => ?_)
    · exact absurd h27 (nI_ge hlt (by omega))
    · refine wp_aload_n (j := 0) rfl q184_ok d184_30 ?_
      refine wp_getR q184_ok d184_31 fl_11_55 rfl (by first | assumption | exact so0 hsh rfl) (by first | assumption | exact hr _ _ _ rfl) ?_
      refine wp_iconst (v := 3) (by decide) q184_ok d184_34 ?_
      refine wp_iload_n (j := 2) rfl q184_ok d184_35 ?_
      refine wp_imul (show (3 : Int32) * nI k = nI (3 * k) from (Int32.ofNat_mul 3 k).symm) q184_ok d184_36 ?_
      refine wp_iald (m := 6) q184_ok d184_37 (by first | assumption | exact so0 hsh rfl) (shl hsh (m := 6) (Nat.le_of_ble_eq_true rfl) rfl) (ixn_nI (show 3 * k < 6 by omega)) g0 ?_ (shK hsh)
      refine wp_istore_n (j := 3) (Nat.le_of_ble_eq_true rfl) (rfl : _ = [_, _, _, _, _]) q184_ok d184_38 ?_
      refine wp_aload_n (j := 0) rfl q184_ok d184_39 ?_
      refine wp_getI q184_ok d184_40 fl_11_274 rfl (by first | assumption | exact so0 hsh rfl) p2 ?_
      refine wp_iload_n (j := 3) rfl q184_ok d184_43 ?_
      refine wp_irem hne rfl q184_ok d184_44 ?_
      refine wp_if_ne q184_ok d184_45 (t := 80) rfl (fun h45 => ?_) (fun h45 => ?_)
      · refine m_pass80 (d := d) (B := B) (s := s) hsh hr hs _ _ _ hlt h2 g1 p1 p2 p3 (h268.trans (by unfold owA dueC; rw [if_neg hn1, if_pos h45]; exact (Int32.add_zero _).symm)) (fun b hb => ⟨fun hn => (p4 b hb).1, (p4 b hb).2⟩) (fun b hb => p5 b hb) (fun D hD => ih (k + 1) _ _ D (by omega) hD)
      · have h45 := Classical.not_not.mp h45
        refine wp_aload_n (j := 0) rfl q184_ok d184_48 ?_
        refine wp_getI q184_ok d184_49 fl_11_274 rfl (by first | assumption | exact so0 hsh rfl) p2 ?_
        refine wp_iload_n (j := 3) rfl q184_ok d184_52 ?_
        refine wp_idiv hne rfl q184_ok d184_53 ?_
        refine wp_bipush (v := 12) (by decide) q184_ok d184_54 ?_
        refine wp_irem (by decide) rfl q184_ok d184_56 ?_
        refine wp_istore (j := 4) (Nat.le_of_ble_eq_true rfl) (rfl : _ = [_, _, _, _, _]) q184_ok d184_57 ?_
        refine wp_aload_n (j := 0) rfl q184_ok d184_59 ?_
        refine wp_getR q184_ok d184_60 fl_11_61 rfl (by first | assumption | exact so0 hsh rfl) (by first | assumption | exact hr _ _ _ rfl) ?_
        refine wp_iload_n (j := 2) rfl q184_ok d184_63 ?_
        refine wp_dup2 rfl rfl q184_ok d184_64 ?_
        refine wp_iald (m := 2) q184_ok d184_65 (by first | assumption | exact so0 hsh rfl) (shl hsh (m := 2) (Nat.le_of_ble_eq_true rfl) rfl) (ixn_nI (show k < 2 by omega)) h268 ?_ (shK hsh)
        refine wp_iload (j := 4) rfl q184_ok d184_66 ?_
        refine wp_if_ne q184_ok d184_68 (t := 76) rfl (fun h68 => ?_) (fun h68 => ?_)
        · refine wp_iload (j := 4) rfl q184_ok d184_76 ?_
          refine wp_iadd rfl q184_ok d184_78 ?_
          refine wp_iast (m := 2) q184_ok d184_79 (by first | assumption | exact so0 hsh rfl) (shl hsh (m := 2) (Nat.le_of_ble_eq_true rfl) rfl) (ixn_nI (show k < 2 by omega)) ?_
          refine m_pass80 (d := d) (B := B) (s := s) hsh hr hs _ _ _ hlt h2 ((congrFun (mm_up_ne (by decide)) _).trans g1) ⟨fun c a1 a2 a3 a4 a5 a6 => (mm_up_ne a4).trans (p1.1 c a1 a2 a3 a4 a5 a6), fun j a1 a2 => (congrFun (mm_up_ne (by decide)) j).trans (p1.2 j a1 a2)⟩ ((congrFun (mm_up_ne (by decide)) _).trans p2) ((congrFun (mm_up_ne (by decide)) _).trans p3) (((mm_up_at k).trans (if_pos rfl)).trans (by unfold owA dueC; rw [if_neg hn1, if_neg (Classical.not_not.mpr h45), if_pos h68])) (fun b hb => ⟨fun hn => ((mm_up_at b).trans (if_neg hn)).trans (p4 b hb).1, (congrFun (mm_up_ne (by decide)) b).trans (p4 b hb).2⟩) (fun b hb => (congrFun (mm_up_ne (by decide)) b).trans (p5 b hb)) (fun D hD => ih (k + 1) _ _ D (by omega) hD)
        · have h68 := Classical.not_not.mp h68
          refine wp_bipush (v := 12) (by decide) q184_ok d184_71 ?_
          refine wp_goto (t := 78) rfl q184_ok d184_73 ?_
          refine wp_iadd rfl q184_ok d184_78 ?_
          refine wp_iast (m := 2) q184_ok d184_79 (by first | assumption | exact so0 hsh rfl) (shl hsh (m := 2) (Nat.le_of_ble_eq_true rfl) rfl) (ixn_nI (show k < 2 by omega)) ?_
          refine m_pass80 (d := d) (B := B) (s := s) hsh hr hs _ _ _ hlt h2 ((congrFun (mm_up_ne (by decide)) _).trans g1) ⟨fun c a1 a2 a3 a4 a5 a6 => (mm_up_ne a4).trans (p1.1 c a1 a2 a3 a4 a5 a6), fun j a1 a2 => (congrFun (mm_up_ne (by decide)) j).trans (p1.2 j a1 a2)⟩ ((congrFun (mm_up_ne (by decide)) _).trans p2) ((congrFun (mm_up_ne (by decide)) _).trans p3) (((mm_up_at k).trans (if_pos rfl)).trans (by unfold owA dueC; rw [if_neg hn1, if_neg (Classical.not_not.mpr h45), if_neg (Classical.not_not.mpr h68)])) (fun b hb => ⟨fun hn => ((mm_up_at b).trans (if_neg hn)).trans (p4 b hb).1, (congrFun (mm_up_ne (by decide)) b).trans (p4 b hb).2⟩) (fun b hb => (congrFun (mm_up_ne (by decide)) b).trans (p5 b hb)) (fun D hD => ih (k + 1) _ _ D (by omega) hD)
def sgM (T : wo_T) (o : wo_O) (B : wo_A) (str : Int32) : Int32 := if snA T o B = 0 then (if str = 0 then 0 else 1) else 1
theorem m_pass {xs : List Int32} {ext : mm_X} {n : Nat} {sh : mm_S} {d : mm_D} {g : mm_G} {r : mm_R} (hsh : shp sh) (hr : rfx r) {T : wo_T} {o : wo_O} {B : wo_A} (hR : MR d T o) (hB : hM d B) (str : Int32) : wp xs ext (n + 8) 184 0 [some (.ref 250), some (.int str), none, none, none] [] (sh, d, g, r) (fun v μ => v = none ∧ ∃ d2, μ = (sh, d2, g, r) ∧ pf d d2 ∧ hM d2 (stA T B (sgM T o B str)) ∧ (∀ b, b < tnb T → d2 270 b = rgA T B (sgM T o B str) b) ∧ d2 250 38 = sgM T o B str) := by
  refine wp_aload_n (j := 0) rfl q184_ok d184_0 ?_
  refine wp_aload_n (j := 0) rfl q184_ok d184_1 ?_
  refine wp_cV q184_ok d184_2 ml_11_317 rfl q183_ok (u := 11) rfl (by first | assumption | exact so0 hsh rfl) rfl (Nat.le_of_ble_eq_true rfl) (Nat.le_of_ble_eq_true rfl) (m_isSeen (n := n) hsh hr hR hB) (fun v2 μ2 hc => ?_)
  obtain ⟨rfl, d2, rfl, f2⟩ := hc
  refine ⟨mm_le_same rfl, ?_⟩
  refine wp_if_ne q184_ok d184_5 (t := 12) rfl (fun h5 => ?_) (fun h5 => ?_)
  · refine wp_iconst (v := 1) (by decide) q184_ok d184_12 ?_
    refine wp_goto (t := 17) rfl q184_ok d184_13 ?_
    refine wp_putZ q184_ok d184_17 fl_11_321 rfl (by first | assumption | exact so0 hsh rfl) (Or.inl rfl) (by first | assumption | exact Or.inl rfl | exact Or.inr rfl) ?_
    refine wp_iconst (v := 0) (by decide) q184_ok d184_20 ?_
    refine wp_istore_n (j := 2) (Nat.le_of_ble_eq_true rfl) (rfl : _ = [_, _, _, _, _]) q184_ok d184_21 ?_
    have hs : sgM T o B str = 1 := by unfold sgM; rw [if_neg h5]
    rw [hs]
    have hR2 := MR_lf hR f2
    have hB2 := hM_lf hB f2
    refine m_pass_l hsh hr hR (by first | exact Or.inl rfl | exact Or.inr rfl) (tnb T) 0 _ _ _ (by omega) ⟨pf_trans (pf_lf f2) ⟨fun c a1 _ _ _ _ _ => mm_up_ne a1, fun j _ a2 => (mm_up_at j).trans (if_neg a2)⟩, ((mm_up_at 32).trans (if_neg (by decide))).trans hB2.1, (mm_up_at 38).trans (if_pos rfl), fun b hb => ?_, fun b hb => absurd hb (Nat.not_lt_zero _)⟩
    rw [if_neg (Nat.not_lt_zero b), if_neg (Nat.not_lt_zero b), mm_up_ne (by decide), mm_up_ne (by decide)]
    exact hB2.2 b hb
  · have h5 := Classical.not_not.mp h5
    refine wp_iload_n (j := 1) rfl q184_ok d184_8 ?_
    refine wp_if_eq q184_ok d184_9 (t := 16) rfl (fun h9 => ?_) (fun h9 => ?_)
    · refine wp_iconst (v := 0) (by decide) q184_ok d184_16 ?_
      refine wp_putZ q184_ok d184_17 fl_11_321 rfl (by first | assumption | exact so0 hsh rfl) (Or.inl rfl) (by first | assumption | exact Or.inl rfl | exact Or.inr rfl) ?_
      refine wp_iconst (v := 0) (by decide) q184_ok d184_20 ?_
      refine wp_istore_n (j := 2) (Nat.le_of_ble_eq_true rfl) (rfl : _ = [_, _, _, _, _]) q184_ok d184_21 ?_
      have hs : sgM T o B str = 0 := by unfold sgM; rw [if_pos h5, if_pos h9]
      rw [hs]
      have hR2 := MR_lf hR f2
      have hB2 := hM_lf hB f2
      refine m_pass_l hsh hr hR (by first | exact Or.inl rfl | exact Or.inr rfl) (tnb T) 0 _ _ _ (by omega) ⟨pf_trans (pf_lf f2) ⟨fun c a1 _ _ _ _ _ => mm_up_ne a1, fun j _ a2 => (mm_up_at j).trans (if_neg a2)⟩, ((mm_up_at 32).trans (if_neg (by decide))).trans hB2.1, (mm_up_at 38).trans (if_pos rfl), fun b hb => ?_, fun b hb => absurd hb (Nat.not_lt_zero _)⟩
      rw [if_neg (Nat.not_lt_zero b), if_neg (Nat.not_lt_zero b), mm_up_ne (by decide), mm_up_ne (by decide)]
      exact hB2.2 b hb
    · refine wp_iconst (v := 1) (by decide) q184_ok d184_12 ?_
      refine wp_goto (t := 17) rfl q184_ok d184_13 ?_
      refine wp_putZ q184_ok d184_17 fl_11_321 rfl (by first | assumption | exact so0 hsh rfl) (Or.inl rfl) (by first | assumption | exact Or.inl rfl | exact Or.inr rfl) ?_
      refine wp_iconst (v := 0) (by decide) q184_ok d184_20 ?_
      refine wp_istore_n (j := 2) (Nat.le_of_ble_eq_true rfl) (rfl : _ = [_, _, _, _, _]) q184_ok d184_21 ?_
      have hs : sgM T o B str = 1 := by unfold sgM; rw [if_pos h5, if_neg h9]
      rw [hs]
      have hR2 := MR_lf hR f2
      have hB2 := hM_lf hB f2
      refine m_pass_l hsh hr hR (by first | exact Or.inl rfl | exact Or.inr rfl) (tnb T) 0 _ _ _ (by omega) ⟨pf_trans (pf_lf f2) ⟨fun c a1 _ _ _ _ _ => mm_up_ne a1, fun j _ a2 => (mm_up_at j).trans (if_neg a2)⟩, ((mm_up_at 32).trans (if_neg (by decide))).trans hB2.1, (mm_up_at 38).trans (if_pos rfl), fun b hb => ?_, fun b hb => absurd hb (Nat.not_lt_zero _)⟩
      rw [if_neg (Nat.not_lt_zero b), if_neg (Nat.not_lt_zero b), mm_up_ne (by decide), mm_up_ne (by decide)]
      exact hB2.2 b hb
