/-! ===== keep, go of the model ===== -/
def kpF (d : mm_D) (g : mm_G) (d2 : mm_D) (g2 : mm_G) : Prop := (∀ c, c ≠ 250 → c ≠ 271 → c ≠ 272 → d2 c = d c) ∧ (∀ j, j ≠ 42 → d2 250 j = d 250 j) ∧ ∀ c, c ≠ 273 → g2 c = g c
theorem kpF_trans {d d1 d2 : mm_D} {g g1 g2 : mm_G} (h : kpF d g d1 g1) (h' : kpF d1 g1 d2 g2) : kpF d g d2 g2 := ⟨fun c a b e => (h'.1 c a b e).trans (h.1 c a b e), fun j a => (h'.2.1 j a).trans (h.2.1 j a), fun c a => (h'.2.2 c a).trans (h.2.2 c a)⟩
/-- what stands in the kept rows, by number -/
def pstR (d : mm_D) (g : mm_G) (len : Nat) (f : Nat → wo_A × Int64) : Prop := ∀ i, i < len → (∀ b, b < 2 → d 271 (2 * i + b) = (f i).1.2.1 b ∧ d 272 (2 * i + b) = (f i).1.2.2 b) ∧ g 273 i = (f i).2
theorem m_kfill {xs : List Int32} {ext : mm_X} {n : Nat} {sh : mm_S} {d : mm_D} {g : mm_G} {r : mm_R} (hsh : shp sh) (hr : rfx r) {a : Nat} {B : wo_A} {dr : Int64} {f : Nat → wo_A × Int64} (ha : d 250 42 = nI a) (ha60 : a < 60) (hB : hM d B) (hd : g 250 34 = dr) (hf : pstR d g a f) : wp xs ext (n + 0) 191 91 [some (.ref 250), some (.int 0)] [] (sh, d, g, r) (fun v μ => v = none ∧ ∃ d2 g2, μ = (sh, d2, g2, r) ∧ kpF d g d2 g2 ∧ pstM d2 g2 (a + 1) (fun i => if i = a then (B, dr) else f i)) := by
  refine wp_iload_n (j := 1) rfl q191_ok d191_91 ?_
  refine wp_iconst (v := 2) (by decide) q191_ok d191_92 ?_
  refine wp_icmp_ge q191_ok d191_93 (t := 140) rfl (fun h93 => ?_) (fun h93 => ?_)
  · exact absurd (show (2 : Int32) ≤ nI 0 from h93) (by decide)
  · refine wp_aload_n (j := 0) rfl q191_ok d191_96 ?_
    refine wp_getR q191_ok d191_97 fl_11_71 rfl (by first | assumption | exact so0 hsh rfl) (by first | assumption | exact hr _ _ _ rfl) ?_
    refine wp_iconst (v := 2) (by decide) q191_ok d191_100 ?_
    refine wp_aload_n (j := 0) rfl q191_ok d191_101 ?_
    refine wp_getI q191_ok d191_102 fl_11_277 rfl (by first | assumption | exact so0 hsh rfl) ha ?_
    refine wp_imul rfl q191_ok d191_105 ?_
    refine wp_iload_n (j := 1) rfl q191_ok d191_106 ?_
    refine wp_iadd rfl q191_ok d191_107 ?_
    refine wp_aload_n (j := 0) rfl q191_ok d191_108 ?_
    refine wp_getR q191_ok d191_109 fl_11_61 rfl (by first | assumption | exact so0 hsh rfl) (by first | assumption | exact hr _ _ _ rfl) ?_
    refine wp_iload_n (j := 1) rfl q191_ok d191_112 ?_
    refine wp_iald (m := 2) q191_ok d191_113 (by first | assumption | exact so0 hsh rfl) (shl hsh (m := 2) (Nat.le_of_ble_eq_true rfl) rfl) (ixn_nI (j := 0) (by decide)) (hB.2 0 (by decide)).1 ?_ (shK hsh)
    refine wp_iast (m := 120) q191_ok d191_114 (by first | assumption | exact so0 hsh rfl) (shl hsh (m := 120) (Nat.le_of_ble_eq_true rfl) rfl) (show ixn (2 * nI a + nI 0) (2 * a + 0) 120 from by rw [nI_2 a 0]; exact ixn_nI (by omega)) ?_
    refine wp_aload_n (j := 0) rfl q191_ok d191_115 ?_
    refine wp_getR q191_ok d191_116 fl_11_74 rfl (by first | assumption | exact so0 hsh rfl) (by first | assumption | exact hr _ _ _ rfl) ?_
    refine wp_iconst (v := 2) (by decide) q191_ok d191_119 ?_
    refine wp_aload_n (j := 0) rfl q191_ok d191_120 ?_
    refine wp_getI q191_ok d191_121 fl_11_277 rfl (by first | assumption | exact so0 hsh rfl) ((congrFun (mm_up_ne (by decide)) 42).trans ha) ?_
    refine wp_imul rfl q191_ok d191_124 ?_
    refine wp_iload_n (j := 1) rfl q191_ok d191_125 ?_
    refine wp_iadd rfl q191_ok d191_126 ?_
    refine wp_aload_n (j := 0) rfl q191_ok d191_127 ?_
    refine wp_getR q191_ok d191_128 fl_11_64 rfl (by first | assumption | exact so0 hsh rfl) (by first | assumption | exact hr _ _ _ rfl) ?_
    refine wp_iload_n (j := 1) rfl q191_ok d191_131 ?_
    refine wp_iald (m := 2) q191_ok d191_132 (by first | assumption | exact so0 hsh rfl) (shl hsh (m := 2) (Nat.le_of_ble_eq_true rfl) rfl) (ixn_nI (j := 0) (by decide)) ((congrFun (mm_up_ne (by decide)) 0).trans (hB.2 0 (by decide)).2) ?_ (shK hsh)
    refine wp_iast (m := 120) q191_ok d191_133 (by first | assumption | exact so0 hsh rfl) (shl hsh (m := 120) (Nat.le_of_ble_eq_true rfl) rfl) (show ixn (2 * nI a + nI 0) (2 * a + 0) 120 from by rw [nI_2 a 0]; exact ixn_nI (by omega)) ?_
    refine wp_iinc (j := 1) rfl (by first | exact inc1 | rfl) (rfl : _ = [_, _]) q191_ok d191_134 ?_
    refine wp_goto (t := 91) rfl q191_ok d191_137 ?_
    refine wp_iload_n (j := 1) rfl q191_ok d191_91 ?_
    refine wp_iconst (v := 2) (by decide) q191_ok d191_92 ?_
    refine wp_icmp_ge q191_ok d191_93 (t := 140) rfl (fun h93 => ?_) (fun h93 => ?_)
    · exact absurd (show (2 : Int32) ≤ nI 1 from h93) (by decide)
    · refine wp_aload_n (j := 0) rfl q191_ok d191_96 ?_
      refine wp_getR q191_ok d191_97 fl_11_71 rfl (by first | assumption | exact so0 hsh rfl) (by first | assumption | exact hr _ _ _ rfl) ?_
      refine wp_iconst (v := 2) (by decide) q191_ok d191_100 ?_
      refine wp_aload_n (j := 0) rfl q191_ok d191_101 ?_
      refine wp_getI q191_ok d191_102 fl_11_277 rfl (by first | assumption | exact so0 hsh rfl) ((congrFun (mm_up_ne (by decide)) 42).trans ((congrFun (mm_up_ne (by decide)) 42).trans ha)) ?_
      refine wp_imul rfl q191_ok d191_105 ?_
      refine wp_iload_n (j := 1) rfl q191_ok d191_106 ?_
      refine wp_iadd rfl q191_ok d191_107 ?_
      refine wp_aload_n (j := 0) rfl q191_ok d191_108 ?_
      refine wp_getR q191_ok d191_109 fl_11_61 rfl (by first | assumption | exact so0 hsh rfl) (by first | assumption | exact hr _ _ _ rfl) ?_
      refine wp_iload_n (j := 1) rfl q191_ok d191_112 ?_
      refine wp_iald (m := 2) q191_ok d191_113 (by first | assumption | exact so0 hsh rfl) (shl hsh (m := 2) (Nat.le_of_ble_eq_true rfl) rfl) (ixn_nI (j := 1) (by decide)) ((congrFun (mm_up_ne (by decide)) 1).trans ((congrFun (mm_up_ne (by decide)) 1).trans (hB.2 1 (by decide)).1)) ?_ (shK hsh)
      refine wp_iast (m := 120) q191_ok d191_114 (by first | assumption | exact so0 hsh rfl) (shl hsh (m := 120) (Nat.le_of_ble_eq_true rfl) rfl) (show ixn (2 * nI a + nI 1) (2 * a + 1) 120 from by rw [nI_2 a 1]; exact ixn_nI (by omega)) ?_
      refine wp_aload_n (j := 0) rfl q191_ok d191_115 ?_
      refine wp_getR q191_ok d191_116 fl_11_74 rfl (by first | assumption | exact so0 hsh rfl) (by first | assumption | exact hr _ _ _ rfl) ?_
      refine wp_iconst (v := 2) (by decide) q191_ok d191_119 ?_
      refine wp_aload_n (j := 0) rfl q191_ok d191_120 ?_
      refine wp_getI q191_ok d191_121 fl_11_277 rfl (by first | assumption | exact so0 hsh rfl) ((congrFun (mm_up_ne (by decide)) 42).trans ((congrFun (mm_up_ne (by decide)) 42).trans ((congrFun (mm_up_ne (by decide)) 42).trans ha))) ?_
      refine wp_imul rfl q191_ok d191_124 ?_
      refine wp_iload_n (j := 1) rfl q191_ok d191_125 ?_
      refine wp_iadd rfl q191_ok d191_126 ?_
      refine wp_aload_n (j := 0) rfl q191_ok d191_127 ?_
      refine wp_getR q191_ok d191_128 fl_11_64 rfl (by first | assumption | exact so0 hsh rfl) (by first | assumption | exact hr _ _ _ rfl) ?_
      refine wp_iload_n (j := 1) rfl q191_ok d191_131 ?_
      refine wp_iald (m := 2) q191_ok d191_132 (by first | assumption | exact so0 hsh rfl) (shl hsh (m := 2) (Nat.le_of_ble_eq_true rfl) rfl) (ixn_nI (j := 1) (by decide)) ((congrFun (mm_up_ne (by decide)) 1).trans ((congrFun (mm_up_ne (by decide)) 1).trans ((congrFun (mm_up_ne (by decide)) 1).trans (hB.2 1 (by decide)).2))) ?_ (shK hsh)
      refine wp_iast (m := 120) q191_ok d191_133 (by first | assumption | exact so0 hsh rfl) (shl hsh (m := 120) (Nat.le_of_ble_eq_true rfl) rfl) (show ixn (2 * nI a + nI 1) (2 * a + 1) 120 from by rw [nI_2 a 1]; exact ixn_nI (by omega)) ?_
      refine wp_iinc (j := 1) rfl (by first | exact inc1 | rfl) (rfl : _ = [_, _]) q191_ok d191_134 ?_
      refine wp_goto (t := 91) rfl q191_ok d191_137 ?_
      refine wp_iload_n (j := 1) rfl q191_ok d191_91 ?_
      refine wp_iconst (v := 2) (by decide) q191_ok d191_92 ?_
      refine wp_icmp_ge q191_ok d191_93 (t := 140) rfl (fun h93 => ?_) (fun h93 => ?_)
      · generalize hD : mm_up (mm_up (mm_up (mm_up d 271 (2 * a + 0) (B.2.1 0)) 272 (2 * a + 0) (B.2.2 0)) 271 (2 * a + 1) (B.2.1 1)) 272 (2 * a + 1) (B.2.2 1) = D
        have e0 : ∀ c, c ≠ 271 → c ≠ 272 → D c = d c := fun c h1 h2 => by rw [← hD, mm_up_ne h2, mm_up_ne h1, mm_up_ne h2, mm_up_ne h1]
        have e1 : ∀ j, D 271 j = if j = 2 * a + 1 then B.2.1 1 else if j = 2 * a + 0 then B.2.1 0 else d 271 j := fun j => by rw [← hD, mm_up_ne (show 271 ≠ 272 by decide), mm_up_at, mm_up_ne (show 271 ≠ 272 by decide), mm_up_at]
        have e2 : ∀ j, D 272 j = if j = 2 * a + 1 then B.2.2 1 else if j = 2 * a + 0 then B.2.2 0 else d 272 j := fun j => by rw [← hD, mm_up_at, mm_up_ne (show 272 ≠ 271 by decide), mm_up_at, mm_up_ne (show 272 ≠ 271 by decide)]
        have e42 : D 250 42 = nI a := (congrFun (e0 250 (by decide) (by decide)) 42).trans ha
        refine wp_aload_n (j := 0) rfl q191_ok d191_140 ?_
        refine wp_getR q191_ok d191_141 fl_11_77 rfl (by first | assumption | exact so0 hsh rfl) (by first | assumption | exact hr _ _ _ rfl) ?_
        refine wp_aload_n (j := 0) rfl q191_ok d191_144 ?_
        refine wp_getI q191_ok d191_145 fl_11_277 rfl (by first | assumption | exact so0 hsh rfl) e42 ?_
        refine wp_aload_n (j := 0) rfl q191_ok d191_148 ?_
        refine wp_getJ q191_ok d191_149 fl_11_333 rfl (by first | assumption | exact so0 hsh rfl) hd ?_
        refine wp_last (m := 60) q191_ok d191_152 (by first | assumption | exact so0 hsh rfl) (shl hsh (m := 60) (Nat.le_of_ble_eq_true rfl) rfl) (ixn_nI (show a < 60 by omega)) ?_
        refine wp_aload_n (j := 0) rfl q191_ok d191_153 ?_
        refine wp_dup rfl q191_ok d191_154 ?_
        refine wp_getI q191_ok d191_155 fl_11_277 rfl (by first | assumption | exact so0 hsh rfl) e42 ?_
        refine wp_iconst (v := 1) (by decide) q191_ok d191_158 ?_
        refine wp_iadd (nI_1 a) q191_ok d191_159 ?_
        refine wp_putI q191_ok d191_160 fl_11_277 rfl (by first | assumption | exact so0 hsh rfl) (Or.inl rfl) ?_
        refine wp_vret q191_ok d191_163 rfl ?_
        refine ⟨rfl, _, _, rfl, ⟨fun c h1 h2 h3 => (mm_up_ne h1).trans (e0 c h2 h3), fun j hj => ((mm_up_at j).trans (if_neg hj)).trans (congrFun (e0 250 (by decide) (by decide)) j), fun c hc => mm_up_ne hc⟩, (mm_up_at 42).trans (if_pos rfl), by omega, fun i hi => ⟨fun b hb => ?_, ?_⟩⟩
        · rw [mm_up_ne (show 271 ≠ 250 by decide), mm_up_ne (show 272 ≠ 250 by decide), e1, e2]
          show _ = (if i = a then (B, dr) else f i).1.2.1 b ∧ _ = (if i = a then (B, dr) else f i).1.2.2 b
          by_cases q : i = a
          · rw [if_pos q, q]
            rcases (show b = 0 ∨ b = 1 by omega) with rfl | rfl
            · rw [if_neg (by omega), if_pos rfl, if_neg (by omega), if_pos rfl]; exact ⟨rfl, rfl⟩
            · rw [if_pos rfl, if_pos rfl]; exact ⟨rfl, rfl⟩
          · rw [if_neg q, if_neg (by omega), if_neg (by omega), if_neg (by omega), if_neg (by omega)]
            exact (hf i (by omega)).1 b hb
        · rw [mm_up_at]
          show _ = (if i = a then (B, dr) else f i).2
          by_cases q : i = a
          · rw [if_pos q, if_pos q]
          · rw [if_neg q, if_neg q]
            exact (hf i (by omega)).2
      · exact absurd (show (2 : Int32) ≤ nI 2 from by decide) h93
theorem nI_sh {i b : Nat} : nI (i + b) - nI b = nI i := by
  rw [show nI (i + b) = nI i + nI b from Int32.ofNat_add i b, Int32.add_sub_cancel]
theorem m_ksh1 {xs : List Int32} {ext : mm_X} {n : Nat} {sh : mm_S} {g : mm_G} {r : mm_R} (hsh : shp sh) (hr : rfx r) {Q : Option Value → mm_M → Prop} (D : mm_D) (hx : ∀ d2, ((∀ a, a ≠ 271 → a ≠ 272 → d2 a = D a) ∧ (∀ j, d2 271 j = if j < 118 then D 271 (j + 2) else D 271 j) ∧ ∀ j, d2 272 j = if j < 118 then D 272 (j + 2) else D 272 j) → wp xs ext n 191 51 [some (.ref 250), some (.int (nI 120))] [] (sh, d2, g, r) Q) : ∀ (z i : Nat) (d1 : mm_D), z + i = 118 → ((∀ a, a ≠ 271 → a ≠ 272 → d1 a = D a) ∧ (∀ j, d1 271 j = if j < i then D 271 (j + 2) else D 271 j) ∧ ∀ j, d1 272 j = if j < i then D 272 (j + 2) else D 272 j) → wp xs ext n 191 11 [some (.ref 250), some (.int (nI (i + 2)))] [] (sh, d1, g, r) Q := by
  intro z
  induction z with
  | zero =>
    intro i d1 hz h
    have hvb : i = 118 := by omega
    subst hvb
    refine wp_iload_n (j := 1) rfl q191_ok d191_11 ?_
    refine wp_bipush (v := 120) (by decide) q191_ok d191_12 ?_
    refine wp_icmp_ge q191_ok d191_14 (t := 51) rfl (fun h14 => ?_) (fun h14 => ?_)
    · exact hx d1 h
    · exact absurd (nI_le (Nat.le_refl _) (by decide)) h14
  | succ z ih =>
    intro i d1 hz h
    have hlt : i + 2 < 120 := by omega
    refine wp_iload_n (j := 1) rfl q191_ok d191_11 ?_
    refine wp_bipush (v := 120) (by decide) q191_ok d191_12 ?_
    refine wp_icmp_ge q191_ok d191_14 (t := 51) rfl (fun h14 => ?_) (fun h14 => ?_)
    · exact absurd h14 (nI_ge hlt (by decide))
    · refine wp_aload_n (j := 0) rfl q191_ok d191_17 ?_
      refine wp_getR q191_ok d191_18 fl_11_71 rfl (by first | assumption | exact so0 hsh rfl) (by first | assumption | exact hr _ _ _ rfl) ?_
      refine wp_iload_n (j := 1) rfl q191_ok d191_21 ?_
      refine wp_iconst (v := 2) (by decide) q191_ok d191_22 ?_
      refine wp_isub (nI_sh (b := 2)) q191_ok d191_23 ?_
      refine wp_aload_n (j := 0) rfl q191_ok d191_24 ?_
      refine wp_getR q191_ok d191_25 fl_11_71 rfl (by first | assumption | exact so0 hsh rfl) (by first | assumption | exact hr _ _ _ rfl) ?_
      refine wp_iload_n (j := 1) rfl q191_ok d191_28 ?_
      refine wp_iald (m := 120) q191_ok d191_29 (by first | assumption | exact so0 hsh rfl) (shl hsh (m := 120) (Nat.le_of_ble_eq_true rfl) rfl) (ixn_nI (show i + 2 < 120 by omega)) (by first | assumption | rfl) ?_ (shK hsh)
      refine wp_iast (m := 120) q191_ok d191_30 (by first | assumption | exact so0 hsh rfl) (shl hsh (m := 120) (Nat.le_of_ble_eq_true rfl) rfl) (ixn_nI (show i < 120 by omega)) ?_
      refine wp_aload_n (j := 0) rfl q191_ok d191_31 ?_
      refine wp_getR q191_ok d191_32 fl_11_74 rfl (by first | assumption | exact so0 hsh rfl) (by first | assumption | exact hr _ _ _ rfl) ?_
      refine wp_iload_n (j := 1) rfl q191_ok d191_35 ?_
      refine wp_iconst (v := 2) (by decide) q191_ok d191_36 ?_
      refine wp_isub (nI_sh (b := 2)) q191_ok d191_37 ?_
      refine wp_aload_n (j := 0) rfl q191_ok d191_38 ?_
      refine wp_getR q191_ok d191_39 fl_11_74 rfl (by first | assumption | exact so0 hsh rfl) (by first | assumption | exact hr _ _ _ rfl) ?_
      refine wp_iload_n (j := 1) rfl q191_ok d191_42 ?_
      refine wp_iald (m := 120) q191_ok d191_43 (by first | assumption | exact so0 hsh rfl) (shl hsh (m := 120) (Nat.le_of_ble_eq_true rfl) rfl) (ixn_nI (show i + 2 < 120 by omega)) (by first | assumption | rfl) ?_ (shK hsh)
      refine wp_iast (m := 120) q191_ok d191_44 (by first | assumption | exact so0 hsh rfl) (shl hsh (m := 120) (Nat.le_of_ble_eq_true rfl) rfl) (ixn_nI (show i < 120 by omega)) ?_
      refine wp_iinc (j := 1) rfl (by first | exact inc1 | rfl) (rfl : _ = [_, _]) q191_ok d191_45 ?_
      refine wp_goto (t := 11) rfl q191_ok d191_48 ?_
      refine ih (i + 1) _ (by omega) ⟨fun a h1 h2 => by rw [mm_up_ne h2, mm_up_ne h1]; exact h.1 a h1 h2, fun j => ?_, fun j => ?_⟩
      · rw [mm_up_ne (show 271 ≠ 272 by decide), mm_up_at, h.2.1, h.2.1]
        by_cases q : j = i
        · rw [if_pos q, if_neg (by omega), if_pos (by omega), q]
        · by_cases q2 : j < i
          · rw [if_neg q, if_pos q2, if_pos (by omega)]
          · rw [if_neg q, if_neg q2, if_neg (by omega)]
      · rw [mm_up_at, mm_up_ne (show 272 ≠ 271 by decide), h.2.2, h.2.2]
        by_cases q : j = i
        · rw [if_pos q, if_neg (by omega), if_pos (by omega), q]
        · by_cases q2 : j < i
          · rw [if_neg q, if_pos q2, if_pos (by omega)]
          · rw [if_neg q, if_neg q2, if_neg (by omega)]
theorem m_ksh2 {xs : List Int32} {ext : mm_X} {n : Nat} {sh : mm_S} {d : mm_D} {r : mm_R} (hsh : shp sh) (hr : rfx r) {Q : Option Value → mm_M → Prop} (G : mm_G) (hx : ∀ g2, ((∀ a, a ≠ 273 → g2 a = G a) ∧ ∀ j, g2 273 j = if j < 59 then G 273 (j + 1) else G 273 j) → wp xs ext n 191 79 [some (.ref 250), some (.int (nI 60))] [] (sh, d, g2, r) Q) : ∀ (z i : Nat) (g1 : mm_G), z + i = 59 → ((∀ a, a ≠ 273 → g1 a = G a) ∧ ∀ j, g1 273 j = if j < i then G 273 (j + 1) else G 273 j) → wp xs ext n 191 53 [some (.ref 250), some (.int (nI (i + 1)))] [] (sh, d, g1, r) Q := by
  intro z
  induction z with
  | zero =>
    intro i g1 hz h
    have hvb : i = 59 := by omega
    subst hvb
    refine wp_iload_n (j := 1) rfl q191_ok d191_53 ?_
    refine wp_bipush (v := 60) (by decide) q191_ok d191_54 ?_
    refine wp_icmp_ge q191_ok d191_56 (t := 79) rfl (fun h56 => ?_) (fun h56 => ?_)
    · exact hx g1 h
    · exact absurd (nI_le (Nat.le_refl _) (by decide)) h56
  | succ z ih =>
    intro i g1 hz h
    have hlt : i + 1 < 60 := by omega
    refine wp_iload_n (j := 1) rfl q191_ok d191_53 ?_
    refine wp_bipush (v := 60) (by decide) q191_ok d191_54 ?_
    refine wp_icmp_ge q191_ok d191_56 (t := 79) rfl (fun h56 => ?_) (fun h56 => ?_)
    · exact absurd h56 (nI_ge hlt (by decide))
    · refine wp_aload_n (j := 0) rfl q191_ok d191_59 ?_
      refine wp_getR q191_ok d191_60 fl_11_77 rfl (by first | assumption | exact so0 hsh rfl) (by first | assumption | exact hr _ _ _ rfl) ?_
      refine wp_iload_n (j := 1) rfl q191_ok d191_63 ?_
      refine wp_iconst (v := 1) (by decide) q191_ok d191_64 ?_
      refine wp_isub (nI_sh (b := 1)) q191_ok d191_65 ?_
      refine wp_aload_n (j := 0) rfl q191_ok d191_66 ?_
      refine wp_getR q191_ok d191_67 fl_11_77 rfl (by first | assumption | exact so0 hsh rfl) (by first | assumption | exact hr _ _ _ rfl) ?_
      refine wp_iload_n (j := 1) rfl q191_ok d191_70 ?_
      refine wp_lald (m := 60) q191_ok d191_71 (by first | assumption | exact so0 hsh rfl) (shl hsh (m := 60) (Nat.le_of_ble_eq_true rfl) rfl) (ixn_nI (show i + 1 < 60 by omega)) (by first | assumption | rfl) ?_
      refine wp_last (m := 60) q191_ok d191_72 (by first | assumption | exact so0 hsh rfl) (shl hsh (m := 60) (Nat.le_of_ble_eq_true rfl) rfl) (ixn_nI (show i < 60 by omega)) ?_
      refine wp_iinc (j := 1) rfl (by first | exact inc1 | rfl) (rfl : _ = [_, _]) q191_ok d191_73 ?_
      refine wp_goto (t := 53) rfl q191_ok d191_76 ?_
      refine ih (i + 1) _ (by omega) ⟨fun a h1 => by rw [mm_up_ne h1]; exact h.1 a h1, fun j => ?_⟩
      rw [mm_up_at, h.2, h.2]
      by_cases q : j = i
      · rw [if_pos q, if_neg (by omega), if_pos (by omega), q]
      · by_cases q2 : j < i
        · rw [if_neg q, if_pos q2, if_pos (by omega)]
        · rw [if_neg q, if_neg q2, if_neg (by omega)]
theorem pshM_lt {len : Nat} {f : Nat → wo_A × Int64} {x : wo_A × Int64} {d : mm_D} {g : mm_G} (h : len < 60) (hp : pstM d g (len + 1) (fun i => if i = len then x else f i)) : pstM d g (pshN len) (pshF len f x) := by
  have e : pshF len f x = fun i => if i = len then x else f i := funext (fun i => if_pos h)
  rw [show pshN len = len + 1 from if_pos h, e]
  exact hp
theorem pshM_60 {f : Nat → wo_A × Int64} {x : wo_A × Int64} {d : mm_D} {g : mm_G} (hp : pstM d g (59 + 1) (fun i => if i = 59 then x else f (i + 1))) : pstM d g (pshN 60) (pshF 60 f x) := by
  have e : pshF 60 f x = fun i => if i = 59 then x else f (i + 1) := funext (fun i => if_neg (by decide))
  rw [show pshN 60 = 60 from if_neg (by decide), e]
  exact hp
theorem m_keep {xs : List Int32} {ext : mm_X} {n : Nat} {sh : mm_S} {d : mm_D} {g : mm_G} {r : mm_R} (hsh : shp sh) (hr : rfx r) {len : Nat} {B : wo_A} {dr : Int64} {f : Nat → wo_A × Int64} (hB : hM d B) (hd : g 250 34 = dr) (hf : pstM d g len f) : wp xs ext (n + 0) 191 0 [some (.ref 250), none] [] (sh, d, g, r) (fun v μ => v = none ∧ ∃ d2 g2, μ = (sh, d2, g2, r) ∧ kpF d g d2 g2 ∧ pstM d2 g2 (pshN len) (pshF len f (B, dr))) := by
  refine wp_aload_n (j := 0) rfl q191_ok d191_0 ?_
  refine wp_getI q191_ok d191_1 fl_11_277 rfl (by first | assumption | exact so0 hsh rfl) hf.1 ?_
  refine wp_bipush (v := 60) (by decide) q191_ok d191_4 ?_
  refine wp_icmp_ne q191_ok d191_6 (t := 89) rfl (fun h6 => ?_) (fun h6 => ?_)
  · have hl : len < 60 := by
      have := hf.2.1
      have : len ≠ 60 := fun e => h6 (by rw [e]; rfl)
      omega
    refine wp_iconst (v := 0) (by decide) q191_ok d191_89 ?_
    refine wp_istore_n (j := 1) (Nat.le_of_ble_eq_true rfl) (rfl : _ = [_, _]) q191_ok d191_90 ?_
    refine wp_post (m_kfill hsh hr hf.1 hl hB hd hf.2.2) (fun v μ hc => ?_)
    obtain ⟨rfl, d3, g3, rfl, k3, p3⟩ := hc
    exact ⟨rfl, d3, g3, rfl, k3, pshM_lt hl p3⟩
  · have h6 := Classical.not_not.mp h6
    refine wp_iconst (v := 2) (by decide) q191_ok d191_9 ?_
    refine wp_istore_n (j := 1) (Nat.le_of_ble_eq_true rfl) (rfl : _ = [_, _]) q191_ok d191_10 ?_
    have hl60 : len = 60 := by
      have := hf.2.1
      exact nI_inj (by omega) (by decide) (show nI len = nI 60 from h6)
    subst hl60
    refine m_ksh1 hsh hr d (fun d2 k2 => ?_) 118 0 d rfl ⟨fun _ _ _ => rfl, fun j => (if_neg (Nat.not_lt_zero j)).symm, fun j => (if_neg (Nat.not_lt_zero j)).symm⟩
    refine wp_iconst (v := 1) (by decide) q191_ok d191_51 ?_
    refine wp_istore_n (j := 1) (Nat.le_of_ble_eq_true rfl) (rfl : _ = [_, _]) q191_ok d191_52 ?_
    refine m_ksh2 hsh hr g (fun g2 q2 => ?_) 59 0 g rfl ⟨fun _ _ => rfl, fun j => (if_neg (Nat.not_lt_zero j)).symm⟩
    have e42 : d2 250 42 = nI 60 := (congrFun (k2.1 250 (by decide) (by decide)) 42).trans hf.1
    refine wp_aload_n (j := 0) rfl q191_ok d191_79 ?_
    refine wp_dup rfl q191_ok d191_80 ?_
    refine wp_getI q191_ok d191_81 fl_11_277 rfl (by first | assumption | exact so0 hsh rfl) e42 ?_
    refine wp_iconst (v := 1) (by decide) q191_ok d191_84 ?_
    refine wp_isub (show nI 60 - 1 = nI 59 from by decide) q191_ok d191_85 ?_
    refine wp_putI q191_ok d191_86 fl_11_277 rfl (by first | assumption | exact so0 hsh rfl) (Or.inl rfl) ?_
    refine wp_iconst (v := 0) (by decide) q191_ok d191_89 ?_
    refine wp_istore_n (j := 1) (Nat.le_of_ble_eq_true rfl) (rfl : _ = [_, _]) q191_ok d191_90 ?_
    have e250 : ∀ j, j ≠ 42 → mm_up d2 250 42 (nI 59) 250 j = d 250 j := fun j hj => ((mm_up_at j).trans (if_neg hj)).trans (congrFun (k2.1 250 (by decide) (by decide)) j)
    have eA : ∀ c, c ≠ 250 → c ≠ 271 → c ≠ 272 → mm_up d2 250 42 (nI 59) c = d c := fun c h1 h2 h3 => (mm_up_ne h1).trans (k2.1 c h2 h3)
    refine wp_post (m_kfill (f := fun i => f (i + 1)) hsh hr (a := 59) ((mm_up_at 42).trans (if_pos rfl)) (by decide) ⟨(e250 32 (by decide)).trans hB.1, fun b hb => by rw [eA 268 (by decide) (by decide) (by decide), eA 269 (by decide) (by decide) (by decide)]; exact hB.2 b hb⟩ ((congrFun (q2.1 250 (by decide)) 34).trans hd) (fun i hi => ⟨fun b hb => ?_, ?_⟩)) (fun v μ hc => ?_)
    · rw [mm_up_ne (show 271 ≠ 250 by decide), mm_up_ne (show 272 ≠ 250 by decide), k2.2.1, k2.2.2, if_pos (by omega), if_pos (by omega), show 2 * i + b + 2 = 2 * (i + 1) + b by omega]
      exact (hf.2.2 (i + 1) (by omega)).1 b hb
    · rw [q2.2, if_pos (by omega)]
      exact (hf.2.2 (i + 1) (by omega)).2
    · obtain ⟨rfl, d3, g3, rfl, k3, p3⟩ := hc
      exact ⟨rfl, d3, g3, rfl, kpF_trans ⟨eA, e250, q2.1⟩ k3, pshM_60 p3⟩
theorem shr33 (x : UInt64) : (x >>> ((33 : Int32).toInt64.toUInt64 &&& Int64.toUInt64 63)).toNat < 2 ^ 31 := by
  rw [show ((33 : Int32).toInt64.toUInt64 &&& Int64.toUInt64 63) = 33 from by decide, UInt64.toNat_shiftRight, show (33 : UInt64).toNat % 64 = 33 from by decide, Nat.shiftRight_eq_div_pow]
  have := UInt64.toNat_lt x
  omega
theorem rem_100 {y : Int64} {k : Nat} (hk : k < 2 ^ 31) (hy : y.toInt = k) : (y - y / 100 * 100).toInt = ((k % 100 : Nat) : Int) := by
  have h100 : (100 : Int64).toInt = 100 := by decide
  have e1 : (y / 100).toInt = ((k / 100 : Nat) : Int) := by
    rw [Int64.toInt_div, hy, h100]
    have : ((k : Int).tdiv 100) = ((k / 100 : Nat) : Int) := by
      rw [Int.tdiv_eq_ediv_of_nonneg (by omega)]
      omega
    rw [this, Int.bmod_eq_of_le (by omega) (by omega)]
  have e2 : (y / 100 * 100).toInt = ((k / 100 * 100 : Nat) : Int) := by
    rw [Int64.toInt_mul, e1, h100, Int.bmod_eq_of_le (by omega) (by omega)]
    omega
  rw [Int64.toInt_sub, hy, e2, Int.bmod_eq_of_le (by omega) (by omega)]
  omega
theorem drw_cmp (X : Int64) (rk : Int32) : 0 ≤ lg_cmp ((X.toUInt64 >>> ((33 : Int32).toInt64.toUInt64 &&& Int64.toUInt64 63)).toInt64 - (X.toUInt64 >>> ((33 : Int32).toInt64.toUInt64 &&& Int64.toUInt64 63)).toInt64 / 100 * 100) rk.toInt64 ↔ rk ≤ ((X.toUInt64 >>> ((33 : Int32).toInt64.toUInt64 &&& Int64.toUInt64 63)).toInt64 - (X.toUInt64 >>> ((33 : Int32).toInt64.toUInt64 &&& Int64.toUInt64 63)).toInt64 / 100 * 100).toInt32 := by
  have hu := shr33 X.toUInt64
  generalize X.toUInt64 >>> ((33 : Int32).toInt64.toUInt64 &&& Int64.toUInt64 63) = u at hu
  have hy : u.toInt64.toInt = (u.toNat : Int) := by
    show u.toBitVec.toInt = _
    rw [BitVec.toInt_eq_toNat_of_lt (by show 2 * u.toNat < 2 ^ 64; omega)]
    rfl
  have hr := rem_100 hu hy
  generalize u.toInt64 - u.toInt64 / 100 * 100 = m at hr
  have hk : u.toNat % 100 < 100 := Nat.mod_lt _ (by decide)
  generalize u.toNat % 100 = k at hr hk
  have e1 : rk ≤ m.toInt32 ↔ rk.toInt ≤ k := by
    rw [Int32.le_iff_toInt_le, Int64.toInt_toInt32, hr, Int.bmod_eq_of_le (by omega) (by omega)]
  have e2 : m < rk.toInt64 ↔ (k : Int) < rk.toInt := by
    rw [Int64.lt_iff_toInt_lt, hr, Int32.toInt_toInt64]
  rw [e1]
  unfold lg_cmp
  by_cases q : m > rk.toInt64
  · rw [if_pos q]
    have := Int64.lt_iff_toInt_lt.mp q
    rw [hr, Int32.toInt_toInt64] at this
    exact ⟨fun _ => by omega, fun _ => by decide⟩
  · rw [if_neg q]
    have q' : ¬ rk.toInt < k := fun w => q (Int64.lt_iff_toInt_lt.mpr (by rw [hr, Int32.toInt_toInt64]; exact w))
    by_cases q2 : m = rk.toInt64
    · rw [if_pos q2]
      have : rk.toInt = k := by rw [← hr, q2, Int32.toInt_toInt64]
      exact ⟨fun _ => by omega, fun _ => by decide⟩
    · rw [if_neg q2]
      have : rk.toInt ≠ k := fun w => q2 (Int64.toInt_inj.mp (by rw [hr, Int32.toInt_toInt64]; exact w.symm))
      exact ⟨fun w => absurd w (by decide), fun w => by omega⟩
