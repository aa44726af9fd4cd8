/-! ===== the model works habits out ===== -/
def opM (c : Int32) : Int32 := if c = -18 then 2 else if c = -19 then 3 else if c = -20 then 4 else if c = -21 then 5 else if c = -15 then 6 else if c = -16 then 7 else if c = -17 then 8 else if c = -14 then 9 else if c = -13 then 10 else 11
theorem m_work_18 {xs : List Int32} {ext : mm_X} {n : Nat} {sh : mm_S} {d : mm_D} {g : mm_G} {r : mm_R} (a b : Int64) : wp xs ext (n + 2) 163 0 [some (.int 2), some (.long a), none, some (.long b), none] [] (sh, d, g, r) (fun v μ => v = some (.int (joinC (-18) a b)) ∧ μ = (sh, d, g, r)) := by
  refine wp_iload_n (j := 0) rfl q163_ok d163_0 ?_
  refine wp_swI q163_ok d163_1 (by decide) rfl (t := 52) rfl ?_
  refine wp_lload_n (j := 1) rfl q163_ok d163_52 ?_
  refine wp_lload_n (j := 3) rfl q163_ok d163_53 ?_
  refine wp_ladd rfl q163_ok d163_54 ?_
  refine wp_cS q163_ok d163_55 ml_11_206 rfl q162_ok rfl rfl rfl (Nat.le_of_ble_eq_true rfl) (Nat.le_of_ble_eq_true rfl) (m_bounded _) (fun v55 μ55 hc => ?_)
  obtain ⟨rfl, rfl⟩ := hc
  refine ⟨mm_le_same rfl, ?_⟩
  refine wp_iret q163_ok d163_58 rfl ?_
  exact ⟨congrArg (fun x => some (Value.int x)) (by unfold joinC joinV; rw [if_neg (by decide), if_neg (by decide), if_neg (by decide), if_neg (by decide), if_neg (by decide), if_pos rfl]; try rfl), rfl⟩
theorem m_work_19 {xs : List Int32} {ext : mm_X} {n : Nat} {sh : mm_S} {d : mm_D} {g : mm_G} {r : mm_R} (a b : Int64) : wp xs ext (n + 2) 163 0 [some (.int 3), some (.long a), none, some (.long b), none] [] (sh, d, g, r) (fun v μ => v = some (.int (joinC (-19) a b)) ∧ μ = (sh, d, g, r)) := by
  refine wp_iload_n (j := 0) rfl q163_ok d163_0 ?_
  refine wp_swI q163_ok d163_1 (by decide) rfl (t := 59) rfl ?_
  refine wp_lload_n (j := 1) rfl q163_ok d163_59 ?_
  refine wp_lload_n (j := 3) rfl q163_ok d163_60 ?_
  refine wp_lsub rfl q163_ok d163_61 ?_
  refine wp_cS q163_ok d163_62 ml_11_206 rfl q162_ok rfl rfl rfl (Nat.le_of_ble_eq_true rfl) (Nat.le_of_ble_eq_true rfl) (m_bounded _) (fun v62 μ62 hc => ?_)
  obtain ⟨rfl, rfl⟩ := hc
  refine ⟨mm_le_same rfl, ?_⟩
  refine wp_iret q163_ok d163_65 rfl ?_
  exact ⟨congrArg (fun x => some (Value.int x)) (by unfold joinC joinV; rw [if_neg (by decide), if_neg (by decide), if_neg (by decide), if_neg (by decide), if_neg (by decide), if_neg (by decide), if_pos rfl]; try rfl), rfl⟩
theorem m_work_20 {xs : List Int32} {ext : mm_X} {n : Nat} {sh : mm_S} {d : mm_D} {g : mm_G} {r : mm_R} (a b : Int64) : wp xs ext (n + 2) 163 0 [some (.int 4), some (.long a), none, some (.long b), none] [] (sh, d, g, r) (fun v μ => v = some (.int (joinC (-20) a b)) ∧ μ = (sh, d, g, r)) := by
  refine wp_iload_n (j := 0) rfl q163_ok d163_0 ?_
  refine wp_swI q163_ok d163_1 (by decide) rfl (t := 66) rfl ?_
  refine wp_lload_n (j := 1) rfl q163_ok d163_66 ?_
  refine wp_lload_n (j := 3) rfl q163_ok d163_67 ?_
  refine wp_lmul rfl q163_ok d163_68 ?_
  refine wp_cS q163_ok d163_69 ml_11_206 rfl q162_ok rfl rfl rfl (Nat.le_of_ble_eq_true rfl) (Nat.le_of_ble_eq_true rfl) (m_bounded _) (fun v69 μ69 hc => ?_)
  obtain ⟨rfl, rfl⟩ := hc
  refine ⟨mm_le_same rfl, ?_⟩
  refine wp_iret q163_ok d163_72 rfl ?_
  exact ⟨congrArg (fun x => some (Value.int x)) (by unfold joinC joinV; rw [if_neg (by decide), if_neg (by decide), if_neg (by decide), if_neg (by decide), if_neg (by decide), if_neg (by decide), if_neg (by decide), if_pos rfl]; try rfl), rfl⟩
theorem m_work_21 {xs : List Int32} {ext : mm_X} {n : Nat} {sh : mm_S} {d : mm_D} {g : mm_G} {r : mm_R} (a b : Int64) : wp xs ext (n + 2) 163 0 [some (.int 5), some (.long a), none, some (.long b), none] [] (sh, d, g, r) (fun v μ => v = some (.int (joinC (-21) a b)) ∧ μ = (sh, d, g, r)) := by
  refine wp_iload_n (j := 0) rfl q163_ok d163_0 ?_
  refine wp_swI q163_ok d163_1 (by decide) rfl (t := 73) rfl ?_
  refine wp_lload_n (j := 3) rfl q163_ok d163_73 ?_
  refine wp_lconst (v := 0) (by decide) q163_ok d163_74 ?_
  refine wp_lcmp rfl q163_ok d163_75 ?_
  refine wp_if_ne q163_ok d163_76 (t := 83) rfl (fun h76 => ?_) (fun h76 => ?_)
  · refine wp_lload_n (j := 1) rfl q163_ok d163_83 ?_
    refine wp_lload_n (j := 3) rfl q163_ok d163_84 ?_
    refine wp_ldiv (fun e => by subst e; exact absurd rfl (by assumption)) rfl q163_ok d163_85 ?_
    refine wp_cS q163_ok d163_86 ml_11_206 rfl q162_ok rfl rfl rfl (Nat.le_of_ble_eq_true rfl) (Nat.le_of_ble_eq_true rfl) (m_bounded _) (fun v86 μ86 hc => ?_)
    obtain ⟨rfl, rfl⟩ := hc
    refine ⟨mm_le_same rfl, ?_⟩
    refine wp_iret q163_ok d163_89 rfl ?_
    exact ⟨congrArg (fun x => some (Value.int x)) (by unfold joinC joinV; rw [if_neg (by decide), if_neg (by decide), if_neg (by decide), if_neg (by decide), if_neg (by decide), if_neg (by decide), if_neg (by decide), if_neg (by decide), if_pos rfl, if_pos h76]; try rfl), rfl⟩
  · have h76 := Classical.not_not.mp h76
    refine wp_iconst (v := 0) (by decide) q163_ok d163_79 ?_
    refine wp_goto (t := 89) rfl q163_ok d163_80 ?_
    refine wp_iret q163_ok d163_89 rfl ?_
    exact ⟨congrArg (fun x => some (Value.int x)) (by unfold joinC joinV; rw [if_neg (by decide), if_neg (by decide), if_neg (by decide), if_neg (by decide), if_neg (by decide), if_neg (by decide), if_neg (by decide), if_neg (by decide), if_pos rfl, if_neg (Classical.not_not.mpr h76)]; try rfl), rfl⟩
theorem m_work_15 {xs : List Int32} {ext : mm_X} {n : Nat} {sh : mm_S} {d : mm_D} {g : mm_G} {r : mm_R} (a b : Int64) : wp xs ext (n + 2) 163 0 [some (.int 6), some (.long a), none, some (.long b), none] [] (sh, d, g, r) (fun v μ => v = some (.int (joinC (-15) a b)) ∧ μ = (sh, d, g, r)) := by
  refine wp_iload_n (j := 0) rfl q163_ok d163_0 ?_
  refine wp_swI q163_ok d163_1 (by decide) rfl (t := 90) rfl ?_
  refine wp_lload_n (j := 1) rfl q163_ok d163_90 ?_
  refine wp_lload_n (j := 3) rfl q163_ok d163_91 ?_
  refine wp_lcmp rfl q163_ok d163_92 ?_
  refine wp_if_ne q163_ok d163_93 (t := 100) rfl (fun h93 => ?_) (fun h93 => ?_)
  · refine wp_iconst (v := 0) (by decide) q163_ok d163_100 ?_
    refine wp_iret q163_ok d163_101 rfl ?_
    exact ⟨congrArg (fun x => some (Value.int x)) (by unfold joinC joinV; rw [if_neg (by decide), if_neg (by decide), if_pos rfl, if_pos h93]; try rfl), rfl⟩
  · have h93 := Classical.not_not.mp h93
    refine wp_iconst (v := 1) (by decide) q163_ok d163_96 ?_
    refine wp_goto (t := 101) rfl q163_ok d163_97 ?_
    refine wp_iret q163_ok d163_101 rfl ?_
    exact ⟨congrArg (fun x => some (Value.int x)) (by unfold joinC joinV; rw [if_neg (by decide), if_neg (by decide), if_pos rfl, if_neg (Classical.not_not.mpr h93)]; try rfl), rfl⟩
theorem m_work_16 {xs : List Int32} {ext : mm_X} {n : Nat} {sh : mm_S} {d : mm_D} {g : mm_G} {r : mm_R} (a b : Int64) : wp xs ext (n + 2) 163 0 [some (.int 7), some (.long a), none, some (.long b), none] [] (sh, d, g, r) (fun v μ => v = some (.int (joinC (-16) a b)) ∧ μ = (sh, d, g, r)) := by
  refine wp_iload_n (j := 0) rfl q163_ok d163_0 ?_
  refine wp_swI q163_ok d163_1 (by decide) rfl (t := 102) rfl ?_
  refine wp_lload_n (j := 1) rfl q163_ok d163_102 ?_
  refine wp_lload_n (j := 3) rfl q163_ok d163_103 ?_
  refine wp_lcmp rfl q163_ok d163_104 ?_
  refine wp_if_ge q163_ok d163_105 (t := 112) rfl (fun h105 => ?_) (fun h105 => ?_)
  · refine wp_iconst (v := 0) (by decide) q163_ok d163_112 ?_
    refine wp_iret q163_ok d163_113 rfl ?_
    exact ⟨congrArg (fun x => some (Value.int x)) (by unfold joinC joinV; rw [if_neg (by decide), if_neg (by decide), if_neg (by decide), if_pos rfl, if_pos h105]; try rfl), rfl⟩
  · refine wp_iconst (v := 1) (by decide) q163_ok d163_108 ?_
    refine wp_goto (t := 113) rfl q163_ok d163_109 ?_
    refine wp_iret q163_ok d163_113 rfl ?_
    exact ⟨congrArg (fun x => some (Value.int x)) (by unfold joinC joinV; rw [if_neg (by decide), if_neg (by decide), if_neg (by decide), if_pos rfl, if_neg h105]; try rfl), rfl⟩
theorem m_work_17 {xs : List Int32} {ext : mm_X} {n : Nat} {sh : mm_S} {d : mm_D} {g : mm_G} {r : mm_R} (a b : Int64) : wp xs ext (n + 2) 163 0 [some (.int 8), some (.long a), none, some (.long b), none] [] (sh, d, g, r) (fun v μ => v = some (.int (joinC (-17) a b)) ∧ μ = (sh, d, g, r)) := by
  refine wp_iload_n (j := 0) rfl q163_ok d163_0 ?_
  refine wp_swI q163_ok d163_1 (by decide) rfl (t := 114) rfl ?_
  refine wp_lload_n (j := 1) rfl q163_ok d163_114 ?_
  refine wp_lload_n (j := 3) rfl q163_ok d163_115 ?_
  refine wp_lcmp rfl q163_ok d163_116 ?_
  refine wp_if_le q163_ok d163_117 (t := 124) rfl (fun h117 => ?_) (fun h117 => ?_)
  · refine wp_iconst (v := 0) (by decide) q163_ok d163_124 ?_
    refine wp_iret q163_ok d163_125 rfl ?_
    exact ⟨congrArg (fun x => some (Value.int x)) (by unfold joinC joinV; rw [if_neg (by decide), if_neg (by decide), if_neg (by decide), if_neg (by decide), if_pos rfl, if_pos h117]; try rfl), rfl⟩
  · refine wp_iconst (v := 1) (by decide) q163_ok d163_120 ?_
    refine wp_goto (t := 125) rfl q163_ok d163_121 ?_
    refine wp_iret q163_ok d163_125 rfl ?_
    exact ⟨congrArg (fun x => some (Value.int x)) (by unfold joinC joinV; rw [if_neg (by decide), if_neg (by decide), if_neg (by decide), if_neg (by decide), if_pos rfl, if_neg h117]; try rfl), rfl⟩
theorem m_work_13 {xs : List Int32} {ext : mm_X} {n : Nat} {sh : mm_S} {d : mm_D} {g : mm_G} {r : mm_R} (a b : Int64) : wp xs ext (n + 2) 163 0 [some (.int 10), some (.long a), none, some (.long b), none] [] (sh, d, g, r) (fun v μ => v = some (.int (joinC (-13) a b)) ∧ μ = (sh, d, g, r)) := by
  refine wp_iload_n (j := 0) rfl q163_ok d163_0 ?_
  refine wp_swI q163_ok d163_1 (by decide) rfl (t := 126) rfl ?_
  refine wp_lload_n (j := 1) rfl q163_ok d163_126 ?_
  refine wp_lconst (v := 0) (by decide) q163_ok d163_127 ?_
  refine wp_lcmp rfl q163_ok d163_128 ?_
  refine wp_if_eq q163_ok d163_129 (t := 142) rfl (fun h129 => ?_) (fun h129 => ?_)
  · refine wp_iconst (v := 0) (by decide) q163_ok d163_142 ?_
    refine wp_iret q163_ok d163_143 rfl ?_
    exact ⟨congrArg (fun x => some (Value.int x)) (by unfold joinC joinV; rw [if_neg (by decide), if_pos rfl, if_pos h129]; try rfl), rfl⟩
  · refine wp_lload_n (j := 3) rfl q163_ok d163_132 ?_
    refine wp_lconst (v := 0) (by decide) q163_ok d163_133 ?_
    refine wp_lcmp rfl q163_ok d163_134 ?_
    refine wp_if_eq q163_ok d163_135 (t := 142) rfl (fun h135 => ?_) (fun h135 => ?_)
    · refine wp_iconst (v := 0) (by decide) q163_ok d163_142 ?_
      refine wp_iret q163_ok d163_143 rfl ?_
      exact ⟨congrArg (fun x => some (Value.int x)) (by unfold joinC joinV; rw [if_neg (by decide), if_pos rfl, if_neg h129, if_pos h135]; try rfl), rfl⟩
    · refine wp_iconst (v := 1) (by decide) q163_ok d163_138 ?_
      refine wp_goto (t := 143) rfl q163_ok d163_139 ?_
      refine wp_iret q163_ok d163_143 rfl ?_
      exact ⟨congrArg (fun x => some (Value.int x)) (by unfold joinC joinV; rw [if_neg (by decide), if_pos rfl, if_neg h129, if_neg h135]; try rfl), rfl⟩
theorem m_work_12 {xs : List Int32} {ext : mm_X} {n : Nat} {sh : mm_S} {d : mm_D} {g : mm_G} {r : mm_R} (a b : Int64) : wp xs ext (n + 2) 163 0 [some (.int 11), some (.long a), none, some (.long b), none] [] (sh, d, g, r) (fun v μ => v = some (.int (joinC (-12) a b)) ∧ μ = (sh, d, g, r)) := by
  refine wp_iload_n (j := 0) rfl q163_ok d163_0 ?_
  refine wp_swO q163_ok d163_1 (by decide) (t := 144) rfl ?_
  refine wp_lload_n (j := 1) rfl q163_ok d163_144 ?_
  refine wp_lconst (v := 0) (by decide) q163_ok d163_145 ?_
  refine wp_lcmp rfl q163_ok d163_146 ?_
  refine wp_if_ne q163_ok d163_147 (t := 156) rfl (fun h147 => ?_) (fun h147 => ?_)
  · refine wp_iconst (v := 1) (by decide) q163_ok d163_156 ?_
    refine wp_goto (t := 161) rfl q163_ok d163_157 ?_
    refine wp_iret q163_ok d163_161 rfl ?_
    exact ⟨congrArg (fun x => some (Value.int x)) (by unfold joinC joinV; rw [if_pos rfl, if_pos h147]; try rfl), rfl⟩
  · have h147 := Classical.not_not.mp h147
    refine wp_lload_n (j := 3) rfl q163_ok d163_150 ?_
    refine wp_lconst (v := 0) (by decide) q163_ok d163_151 ?_
    refine wp_lcmp rfl q163_ok d163_152 ?_
    refine wp_if_eq q163_ok d163_153 (t := 160) rfl (fun h153 => ?_) (fun h153 => ?_)
    · refine wp_iconst (v := 0) (by decide) q163_ok d163_160 ?_
      refine wp_iret q163_ok d163_161 rfl ?_
      exact ⟨congrArg (fun x => some (Value.int x)) (by unfold joinC joinV; rw [if_pos rfl, if_neg (Classical.not_not.mpr h147), if_pos h153]; try rfl), rfl⟩
    · refine wp_iconst (v := 1) (by decide) q163_ok d163_156 ?_
      refine wp_goto (t := 161) rfl q163_ok d163_157 ?_
      refine wp_iret q163_ok d163_161 rfl ?_
      exact ⟨congrArg (fun x => some (Value.int x)) (by unfold joinC joinV; rw [if_pos rfl, if_neg (Classical.not_not.mpr h147), if_neg h153]; try rfl), rfl⟩
theorem m_worked {xs : List Int32} {ext : mm_X} {n : Nat} {sh : mm_S} {d : mm_D} {g : mm_G} {r : mm_R} {c : Int32} (hc : isTru c ∨ isNum c) (a b : Int64) : wp xs ext (n + 2) 163 0 [some (.int (opM c)), some (.long a), none, some (.long b), none] [] (sh, d, g, r) (fun v μ => v = some (.int (joinC c a b)) ∧ μ = (sh, d, g, r)) := by
  rcases hc with h | h
  · rcases h with rfl | rfl | rfl | rfl | rfl
    · exact m_work_12 a b
    · exact m_work_13 a b
    · exact m_work_15 a b
    · exact m_work_16 a b
    · exact m_work_17 a b
  · rcases h with rfl | rfl | rfl | rfl
    · exact m_work_18 a b
    · exact m_work_19 a b
    · exact m_work_20 a b
    · exact m_work_21 a b
/-- the codes stand in the model's rows from a on -/
def tokR (d : mm_D) (i : Nat) (c : Int32) : Prop := (0 ≤ c → d 252 i = 0 ∧ d 253 i = c) ∧ (¬ 0 ≤ c → isLet c → d 252 i = 1 ∧ d 253 i = -2 - c) ∧ (¬ 0 ≤ c → ¬ isLet c → d 252 i = opM c)
def segM (d : mm_D) (a : Nat) : List Int32 → Prop
  | [] => True
  | c :: r => tokR d a c ∧ segM d (a + 1) r
/-- truths are 0 or 1 -/
def tyV : List Int32 → List Bool → Prop
  | [], [] => True
  | x :: r, b :: t => (b = true → x = 0 ∨ x = 1) ∧ tyV r t
  | _, _ => False
theorem tyV_len : ∀ {st : List Int32} {t : List Bool}, tyV st t → st.length = t.length
  | [], [], _ => rfl
  | _ :: _, _ :: _, h => congrArg (· + 1) (tyV_len h.2)
  | [], _ :: _, h => h.elim
  | _ :: _, [], h => h.elim
theorem join01 {c : Int32} (h : isTru c) (a b : Int64) : joinC c a b = 0 ∨ joinC c a b = 1 := by
  have k0 : clampC 0 = 0 := by decide
  have k1 : clampC 1 = 1 := by decide
  rcases h with rfl | rfl | rfl | rfl | rfl
  · unfold joinC joinV; rw [if_pos rfl]; split; exact Or.inr k1; split; exact Or.inl k0; exact Or.inr k1
  · unfold joinC joinV; rw [if_neg (by decide), if_pos rfl]; split; exact Or.inl k0; split; exact Or.inl k0; exact Or.inr k1
  · unfold joinC joinV; rw [if_neg (by decide), if_neg (by decide), if_pos rfl]; split; exact Or.inl k0; exact Or.inr k1
  · unfold joinC joinV; rw [if_neg (by decide), if_neg (by decide), if_neg (by decide), if_pos rfl]; split; exact Or.inl k0; exact Or.inr k1
  · unfold joinC joinV; rw [if_neg (by decide), if_neg (by decide), if_neg (by decide), if_neg (by decide), if_pos rfl]; split; exact Or.inl k0; exact Or.inr k1
def binS (c : Int32) (st : List Int32) : List Int32 := match st with
  | y :: x :: r => joinC c x.toInt64 y.toInt64 :: r
  | s => s
theorem ev1_ty {L : Nat → Int32} {c : Int32} {t t1 : List Bool} {st : List Int32} (h : ty1 c t = some t1) (hv : tyV st t) : tyV (ev1 L c st) t1 := by
  unfold ty1 at h
  unfold ev1
  by_cases h0 : 0 ≤ c
  · rw [if_pos (Or.inl h0)] at h
    rw [if_pos h0]
    split at h
    · cases h; exact ⟨(fun q => (by cases q)), hv⟩
    · cases h
  · by_cases h1 : isLet c
    · rw [if_pos (Or.inr h1)] at h
      rw [if_neg h0, if_pos h1]
      split at h
      · cases h; exact ⟨(fun q => (by cases q)), hv⟩
      · cases h
    · rw [if_neg (fun q => q.elim h0 h1)] at h
      rw [if_neg h0, if_neg h1]
      by_cases h2 : c = -14
      · rw [if_pos h2] at h ⊢
        cases t with
        | nil => cases h
        | cons b t =>
          cases b with
          | false => cases h
          | true =>
            cases h
            cases st with
            | nil => exact hv.elim
            | cons x r =>
              refine ⟨fun _ => ?_, hv.2⟩
              show (if x = 0 then (1 : Int32) else 0) = 0 ∨ (if x = 0 then (1 : Int32) else 0) = 1
              split
              · exact Or.inr rfl
              · exact Or.inl rfl
      · rw [if_neg h2] at h ⊢
        have key : ∀ b : Bool, (b = true → isTru c) → two b t = some t1 → tyV (binS c st) t1 := fun b hbt hb => by
          cases t with
          | nil => cases hb
          | cons b1 t =>
            cases t with
            | nil => cases hb
            | cons b2 t =>
              cases hb
              cases st with
              | nil => exact hv.elim
              | cons y r =>
                cases r with
                | nil => exact hv.2.elim
                | cons x r => exact ⟨fun q => join01 (hbt q) _ _, hv.2.2⟩
        by_cases h3 : isTru c
        · rw [if_pos h3] at h; exact key true (fun _ => h3) h
        · rw [if_neg h3] at h
          by_cases h4 : isNum c
          · rw [if_pos h4] at h; exact key false (fun q => (by cases q)) h
          · rw [if_neg h4] at h; cases h
