/-! ===== habits: their worth ===== -/
def hb (sh : mm_S) (r : mm_R) (h : Nat) : Prop := so sh h 0 ∧ so sh (h + 1) 20 ∧ (sh.2.2.2 (h + 1)).2 = 160 ∧ so sh (h + 2) 20 ∧ (sh.2.2.2 (h + 2)).2 = 32 ∧ r h 1 = some (h + 1) ∧ r h 3 = some (h + 2)
def mn64 (x y : Int64) : Int64 := if 0 < lg_cmp x y then y else x
def mx64 (x y : Int64) : Int64 := if lg_cmp x y < 0 then y else x
def clampC (v : Int64) : Int32 := (mx64 (-1000000) (mn64 1000000 v)).toInt32
def joinV (code : Int32) (a b : Int64) : Int64 :=
  if code = -12 then (if ¬ lg_cmp a 0 = 0 then 1 else if lg_cmp b 0 = 0 then 0 else 1)
  else if code = -13 then (if lg_cmp a 0 = 0 then 0 else if lg_cmp b 0 = 0 then 0 else 1)
  else if code = -15 then (if ¬ lg_cmp a b = 0 then 0 else 1)
  else if code = -16 then (if 0 ≤ lg_cmp a b then 0 else 1)
  else if code = -17 then (if lg_cmp a b ≤ 0 then 0 else 1)
  else if code = -18 then a + b
  else if code = -19 then a - b
  else if code = -20 then a * b
  else if code = -21 then (if ¬ lg_cmp b 0 = 0 then a / b else 0)
  else 0
def joinC (code : Int32) (a b : Int64) : Int32 := clampC (joinV code a b)
def rup (y : Nat → Int32) (k : Nat) (v : Int32) : Nat → Int32 := fun j => if j = k then v else y j
theorem rs_up (d : mm_D) (c k : Nat) (y : Nat → Int32) (v : Int32) : mm_up (mm_rowset d c y) c k v = mm_rowset d c (rup y k v) := by
  funext a
  unfold mm_up mm_rowset rup
  by_cases h : a = c
  · rw [if_pos h, if_pos h, if_pos rfl]
  · rw [if_neg h, if_neg h, if_neg h]
theorem rs_self (d : mm_D) (c : Nat) : mm_rowset d c (d c) = d := by
  funext a
  unfold mm_rowset
  by_cases h : a = c
  · rw [if_pos h, h]
  · rw [if_neg h]
/-- the class's reckoning: m codes are left, a is the next; row y holds top numbers; p: passed over -/
def wrF (c : Nat → Int32) (l : Nat → Int32) : Nat → Nat → (Nat → Int32) → Nat → Int32 → Int32
  | 0, _, _, _, _ => 0
  | m + 1, a, y, top, p =>
    if ¬ p = 0 then wrF c l m (a + 1) y top (if c a = -10 then 0 else 1)
    else if 0 ≤ c a then (if 32 ≤ top then wrF c l m (a + 1) y top 0 else wrF c l m (a + 1) (rup y top (c a)) (top + 1) 0)
    else if -2 - c a < 0 ∨ 6 ≤ -2 - c a then
      (if top < 1 then 0
       else if c a = -10 then y (top - 1)
       else if c a = -14 then wrF c l m (a + 1) (rup y (top - 1) (if y (top - 1) = 0 then 1 else 0)) top 0
       else if c a = -11 then wrF c l m (a + 1) y (top - 1) (if y (top - 1) = 0 then 1 else 0)
       else if top ≤ 1 then wrF c l m (a + 1) y top 0
       else wrF c l m (a + 1) (rup y (top - 2) (joinC (c a) (y (top - 2)).toInt64 (y (top - 1)).toInt64)) (top - 1) 0)
    else (if 32 ≤ top then wrF c l m (a + 1) y top 0 else wrF c l m (a + 1) (rup y top (l (-2 - c a).toNatClampNeg)) (top + 1) 0)
theorem c_minL {xs : List Int32} {ext : mm_X} {n : Nat} {sh : mm_S} {d : mm_D} {g : mm_G} {r : mm_R}  (x y : Int64) : wp xs ext (n + 0) 230 0 [some (.long x), none, some (.long y), none] [] (sh, d, g, r) (fun v μ => v = some (.long (mn64 x y)) ∧ μ = (sh, d, g, r)) := by
  refine wp_lload_n (j := 0) rfl q230_ok d230_0 ?_
  refine wp_lload_n (j := 2) rfl q230_ok d230_1 ?_
  refine wp_lcmp rfl q230_ok d230_2 ?_
  refine wp_if_gt q230_ok d230_3 (t := 10) rfl (fun h3 => ?_) (fun h3 => ?_)
  · refine wp_lload_n (j := 2) rfl q230_ok d230_10 ?_
    refine wp_lret q230_ok d230_11 rfl ?_
    exact ⟨by simp [mn64, *], rfl⟩
  · refine wp_lload_n (j := 0) rfl q230_ok d230_6 ?_
    refine wp_goto (t := 11) rfl q230_ok d230_7 ?_
    refine wp_lret q230_ok d230_11 rfl ?_
    exact ⟨by simp [mn64, *], rfl⟩
theorem c_maxL {xs : List Int32} {ext : mm_X} {n : Nat} {sh : mm_S} {d : mm_D} {g : mm_G} {r : mm_R}  (x y : Int64) : wp xs ext (n + 0) 228 0 [some (.long x), none, some (.long y), none] [] (sh, d, g, r) (fun v μ => v = some (.long (mx64 x y)) ∧ μ = (sh, d, g, r)) := by
  refine wp_lload_n (j := 0) rfl q228_ok d228_0 ?_
  refine wp_lload_n (j := 2) rfl q228_ok d228_1 ?_
  refine wp_lcmp rfl q228_ok d228_2 ?_
  refine wp_if_lt q228_ok d228_3 (t := 10) rfl (fun h3 => ?_) (fun h3 => ?_)
  · refine wp_lload_n (j := 2) rfl q228_ok d228_10 ?_
    refine wp_lret q228_ok d228_11 rfl ?_
    exact ⟨by simp [mx64, *], rfl⟩
  · refine wp_lload_n (j := 0) rfl q228_ok d228_6 ?_
    refine wp_goto (t := 11) rfl q228_ok d228_7 ?_
    refine wp_lret q228_ok d228_11 rfl ?_
    exact ⟨by simp [mx64, *], rfl⟩
theorem c_joined {xs : List Int32} {ext : mm_X} {n : Nat} {sh : mm_S} {d : mm_D} {g : mm_G} {r : mm_R}  (code : Int32) (a b : Int64) : wp xs ext (n + 1) 9 0 [some (.int code), some (.long a), none, some (.long b), none, none, none] [] (sh, d, g, r) (fun v μ => v = some (.int (joinC code a b)) ∧ μ = (sh, d, g, r)) := by
  refine wp_lconst (v := 0) (by decide) q9_ok d9_0 ?_
  refine wp_lstore (j := 5) (Nat.le_of_ble_eq_true rfl) (rfl : _ = [_, _, _, _, _, _, _]) q9_ok d9_1 ?_
  refine wp_iload_n (j := 0) rfl q9_ok d9_3 ?_
  by_cases e12 : code = -12
  · subst e12
    refine wp_swI q9_ok d9_4 (by decide) rfl (t := 60) rfl ?_
    refine wp_lload_n (j := 1) rfl q9_ok d9_60 ?_
    refine wp_lconst (v := 0) (by decide) q9_ok d9_61 ?_
    refine wp_lcmp rfl q9_ok d9_62 ?_
    refine wp_if_ne q9_ok d9_63 (t := 72) rfl (fun h63 => ?_) (fun h63 => ?_)
    · refine wp_lconst (v := 1) (by decide) q9_ok d9_72 ?_
      refine wp_goto (t := 77) rfl q9_ok d9_73 ?_
      refine wp_lstore (j := 5) (Nat.le_of_ble_eq_true rfl) (rfl : _ = [_, _, _, _, _, _, _]) q9_ok d9_77 ?_
      refine wp_goto (t := 194) rfl q9_ok d9_79 ?_
      refine wp_ldc2 kl_0_36 q9_ok d9_194 ?_
      refine wp_ldc2 kl_0_38 q9_ok d9_197 ?_
      refine wp_lload (j := 5) rfl q9_ok d9_200 ?_
      refine wp_cS q9_ok d9_202 ml_0_40 rfl q230_ok rfl rfl rfl (Nat.le_of_ble_eq_true rfl) (Nat.le_of_ble_eq_true rfl) (c_minL _ _) (fun v202 μ202 hc => ?_)
      obtain ⟨rfl, rfl⟩ := hc
      refine ⟨mm_le_same rfl, ?_⟩
      refine wp_cS q9_ok d9_205 ml_0_46 rfl q228_ok rfl rfl rfl (Nat.le_of_ble_eq_true rfl) (Nat.le_of_ble_eq_true rfl) (c_maxL _ _) (fun v205 μ205 hc => ?_)
      obtain ⟨rfl, rfl⟩ := hc
      refine ⟨mm_le_same rfl, ?_⟩
      refine wp_l2i rfl q9_ok d9_208 ?_
      refine wp_iret q9_ok d9_209 rfl ?_
      exact ⟨by simp [joinC, joinV, clampC, *], rfl⟩
    · have h63 := Classical.not_not.mp h63
      refine wp_lload_n (j := 3) rfl q9_ok d9_66 ?_
      refine wp_lconst (v := 0) (by decide) q9_ok d9_67 ?_
      refine wp_lcmp rfl q9_ok d9_68 ?_
      refine wp_if_eq q9_ok d9_69 (t := 76) rfl (fun h69 => ?_) (fun h69 => ?_)
      · refine wp_lconst (v := 0) (by decide) q9_ok d9_76 ?_
        refine wp_lstore (j := 5) (Nat.le_of_ble_eq_true rfl) (rfl : _ = [_, _, _, _, _, _, _]) q9_ok d9_77 ?_
        refine wp_goto (t := 194) rfl q9_ok d9_79 ?_
        refine wp_ldc2 kl_0_36 q9_ok d9_194 ?_
        refine wp_ldc2 kl_0_38 q9_ok d9_197 ?_
        refine wp_lload (j := 5) rfl q9_ok d9_200 ?_
        refine wp_cS q9_ok d9_202 ml_0_40 rfl q230_ok rfl rfl rfl (Nat.le_of_ble_eq_true rfl) (Nat.le_of_ble_eq_true rfl) (c_minL _ _) (fun v202 μ202 hc => ?_)
        obtain ⟨rfl, rfl⟩ := hc
        refine ⟨mm_le_same rfl, ?_⟩
        refine wp_cS q9_ok d9_205 ml_0_46 rfl q228_ok rfl rfl rfl (Nat.le_of_ble_eq_true rfl) (Nat.le_of_ble_eq_true rfl) (c_maxL _ _) (fun v205 μ205 hc => ?_)
        obtain ⟨rfl, rfl⟩ := hc
        refine ⟨mm_le_same rfl, ?_⟩
        refine wp_l2i rfl q9_ok d9_208 ?_
        refine wp_iret q9_ok d9_209 rfl ?_
        exact ⟨by simp [joinC, joinV, clampC, *], rfl⟩
      · refine wp_lconst (v := 1) (by decide) q9_ok d9_72 ?_
        refine wp_goto (t := 77) rfl q9_ok d9_73 ?_
        refine wp_lstore (j := 5) (Nat.le_of_ble_eq_true rfl) (rfl : _ = [_, _, _, _, _, _, _]) q9_ok d9_77 ?_
        refine wp_goto (t := 194) rfl q9_ok d9_79 ?_
        refine wp_ldc2 kl_0_36 q9_ok d9_194 ?_
        refine wp_ldc2 kl_0_38 q9_ok d9_197 ?_
        refine wp_lload (j := 5) rfl q9_ok d9_200 ?_
        refine wp_cS q9_ok d9_202 ml_0_40 rfl q230_ok rfl rfl rfl (Nat.le_of_ble_eq_true rfl) (Nat.le_of_ble_eq_true rfl) (c_minL _ _) (fun v202 μ202 hc => ?_)
        obtain ⟨rfl, rfl⟩ := hc
        refine ⟨mm_le_same rfl, ?_⟩
        refine wp_cS q9_ok d9_205 ml_0_46 rfl q228_ok rfl rfl rfl (Nat.le_of_ble_eq_true rfl) (Nat.le_of_ble_eq_true rfl) (c_maxL _ _) (fun v205 μ205 hc => ?_)
        obtain ⟨rfl, rfl⟩ := hc
        refine ⟨mm_le_same rfl, ?_⟩
        refine wp_l2i rfl q9_ok d9_208 ?_
        refine wp_iret q9_ok d9_209 rfl ?_
        exact ⟨by simp [joinC, joinV, clampC, *], rfl⟩
  by_cases e13 : code = -13
  · subst e13
    refine wp_swI q9_ok d9_4 (by decide) rfl (t := 82) rfl ?_
    refine wp_lload_n (j := 1) rfl q9_ok d9_82 ?_
    refine wp_lconst (v := 0) (by decide) q9_ok d9_83 ?_
    refine wp_lcmp rfl q9_ok d9_84 ?_
    refine wp_if_eq q9_ok d9_85 (t := 98) rfl (fun h85 => ?_) (fun h85 => ?_)
    · refine wp_lconst (v := 0) (by decide) q9_ok d9_98 ?_
      refine wp_lstore (j := 5) (Nat.le_of_ble_eq_true rfl) (rfl : _ = [_, _, _, _, _, _, _]) q9_ok d9_99 ?_
      refine wp_goto (t := 194) rfl q9_ok d9_101 ?_
      refine wp_ldc2 kl_0_36 q9_ok d9_194 ?_
      refine wp_ldc2 kl_0_38 q9_ok d9_197 ?_
      refine wp_lload (j := 5) rfl q9_ok d9_200 ?_
      refine wp_cS q9_ok d9_202 ml_0_40 rfl q230_ok rfl rfl rfl (Nat.le_of_ble_eq_true rfl) (Nat.le_of_ble_eq_true rfl) (c_minL _ _) (fun v202 μ202 hc => ?_)
      obtain ⟨rfl, rfl⟩ := hc
      refine ⟨mm_le_same rfl, ?_⟩
      refine wp_cS q9_ok d9_205 ml_0_46 rfl q228_ok rfl rfl rfl (Nat.le_of_ble_eq_true rfl) (Nat.le_of_ble_eq_true rfl) (c_maxL _ _) (fun v205 μ205 hc => ?_)
      obtain ⟨rfl, rfl⟩ := hc
      refine ⟨mm_le_same rfl, ?_⟩
      refine wp_l2i rfl q9_ok d9_208 ?_
      refine wp_iret q9_ok d9_209 rfl ?_
      exact ⟨by simp [joinC, joinV, clampC, *], rfl⟩
    · refine wp_lload_n (j := 3) rfl q9_ok d9_88 ?_
      refine wp_lconst (v := 0) (by decide) q9_ok d9_89 ?_
      refine wp_lcmp rfl q9_ok d9_90 ?_
      refine wp_if_eq q9_ok d9_91 (t := 98) rfl (fun h91 => ?_) (fun h91 => ?_)
      · refine wp_lconst (v := 0) (by decide) q9_ok d9_98 ?_
        refine wp_lstore (j := 5) (Nat.le_of_ble_eq_true rfl) (rfl : _ = [_, _, _, _, _, _, _]) q9_ok d9_99 ?_
        refine wp_goto (t := 194) rfl q9_ok d9_101 ?_
        refine wp_ldc2 kl_0_36 q9_ok d9_194 ?_
        refine wp_ldc2 kl_0_38 q9_ok d9_197 ?_
        refine wp_lload (j := 5) rfl q9_ok d9_200 ?_
        refine wp_cS q9_ok d9_202 ml_0_40 rfl q230_ok rfl rfl rfl (Nat.le_of_ble_eq_true rfl) (Nat.le_of_ble_eq_true rfl) (c_minL _ _) (fun v202 μ202 hc => ?_)
        obtain ⟨rfl, rfl⟩ := hc
        refine ⟨mm_le_same rfl, ?_⟩
        refine wp_cS q9_ok d9_205 ml_0_46 rfl q228_ok rfl rfl rfl (Nat.le_of_ble_eq_true rfl) (Nat.le_of_ble_eq_true rfl) (c_maxL _ _) (fun v205 μ205 hc => ?_)
        obtain ⟨rfl, rfl⟩ := hc
        refine ⟨mm_le_same rfl, ?_⟩
        refine wp_l2i rfl q9_ok d9_208 ?_
        refine wp_iret q9_ok d9_209 rfl ?_
        exact ⟨by simp [joinC, joinV, clampC, *], rfl⟩
      · refine wp_lconst (v := 1) (by decide) q9_ok d9_94 ?_
        refine wp_goto (t := 99) rfl q9_ok d9_95 ?_
        refine wp_lstore (j := 5) (Nat.le_of_ble_eq_true rfl) (rfl : _ = [_, _, _, _, _, _, _]) q9_ok d9_99 ?_
        refine wp_goto (t := 194) rfl q9_ok d9_101 ?_
        refine wp_ldc2 kl_0_36 q9_ok d9_194 ?_
        refine wp_ldc2 kl_0_38 q9_ok d9_197 ?_
        refine wp_lload (j := 5) rfl q9_ok d9_200 ?_
        refine wp_cS q9_ok d9_202 ml_0_40 rfl q230_ok rfl rfl rfl (Nat.le_of_ble_eq_true rfl) (Nat.le_of_ble_eq_true rfl) (c_minL _ _) (fun v202 μ202 hc => ?_)
        obtain ⟨rfl, rfl⟩ := hc
        refine ⟨mm_le_same rfl, ?_⟩
        refine wp_cS q9_ok d9_205 ml_0_46 rfl q228_ok rfl rfl rfl (Nat.le_of_ble_eq_true rfl) (Nat.le_of_ble_eq_true rfl) (c_maxL _ _) (fun v205 μ205 hc => ?_)
        obtain ⟨rfl, rfl⟩ := hc
        refine ⟨mm_le_same rfl, ?_⟩
        refine wp_l2i rfl q9_ok d9_208 ?_
        refine wp_iret q9_ok d9_209 rfl ?_
        exact ⟨by simp [joinC, joinV, clampC, *], rfl⟩
  by_cases e15 : code = -15
  · subst e15
    refine wp_swI q9_ok d9_4 (by decide) rfl (t := 104) rfl ?_
    refine wp_lload_n (j := 1) rfl q9_ok d9_104 ?_
    refine wp_lload_n (j := 3) rfl q9_ok d9_105 ?_
    refine wp_lcmp rfl q9_ok d9_106 ?_
    refine wp_if_ne q9_ok d9_107 (t := 114) rfl (fun h107 => ?_) (fun h107 => ?_)
    · refine wp_lconst (v := 0) (by decide) q9_ok d9_114 ?_
      refine wp_lstore (j := 5) (Nat.le_of_ble_eq_true rfl) (rfl : _ = [_, _, _, _, _, _, _]) q9_ok d9_115 ?_
      refine wp_goto (t := 194) rfl q9_ok d9_117 ?_
      refine wp_ldc2 kl_0_36 q9_ok d9_194 ?_
      refine wp_ldc2 kl_0_38 q9_ok d9_197 ?_
      refine wp_lload (j := 5) rfl q9_ok d9_200 ?_
      refine wp_cS q9_ok d9_202 ml_0_40 rfl q230_ok rfl rfl rfl (Nat.le_of_ble_eq_true rfl) (Nat.le_of_ble_eq_true rfl) (c_minL _ _) (fun v202 μ202 hc => ?_)
      obtain ⟨rfl, rfl⟩ := hc
      refine ⟨mm_le_same rfl, ?_⟩
      refine wp_cS q9_ok d9_205 ml_0_46 rfl q228_ok rfl rfl rfl (Nat.le_of_ble_eq_true rfl) (Nat.le_of_ble_eq_true rfl) (c_maxL _ _) (fun v205 μ205 hc => ?_)
      obtain ⟨rfl, rfl⟩ := hc
      refine ⟨mm_le_same rfl, ?_⟩
      refine wp_l2i rfl q9_ok d9_208 ?_
      refine wp_iret q9_ok d9_209 rfl ?_
      exact ⟨by simp [joinC, joinV, clampC, *], rfl⟩
    · have h107 := Classical.not_not.mp h107
      refine wp_lconst (v := 1) (by decide) q9_ok d9_110 ?_
      refine wp_goto (t := 115) rfl q9_ok d9_111 ?_
      refine wp_lstore (j := 5) (Nat.le_of_ble_eq_true rfl) (rfl : _ = [_, _, _, _, _, _, _]) q9_ok d9_115 ?_
      refine wp_goto (t := 194) rfl q9_ok d9_117 ?_
      refine wp_ldc2 kl_0_36 q9_ok d9_194 ?_
      refine wp_ldc2 kl_0_38 q9_ok d9_197 ?_
      refine wp_lload (j := 5) rfl q9_ok d9_200 ?_
      refine wp_cS q9_ok d9_202 ml_0_40 rfl q230_ok rfl rfl rfl (Nat.le_of_ble_eq_true rfl) (Nat.le_of_ble_eq_true rfl) (c_minL _ _) (fun v202 μ202 hc => ?_)
      obtain ⟨rfl, rfl⟩ := hc
      refine ⟨mm_le_same rfl, ?_⟩
      refine wp_cS q9_ok d9_205 ml_0_46 rfl q228_ok rfl rfl rfl (Nat.le_of_ble_eq_true rfl) (Nat.le_of_ble_eq_true rfl) (c_maxL _ _) (fun v205 μ205 hc => ?_)
      obtain ⟨rfl, rfl⟩ := hc
      refine ⟨mm_le_same rfl, ?_⟩
      refine wp_l2i rfl q9_ok d9_208 ?_
      refine wp_iret q9_ok d9_209 rfl ?_
      exact ⟨by simp [joinC, joinV, clampC, *], rfl⟩
  by_cases e16 : code = -16
  · subst e16
    refine wp_swI q9_ok d9_4 (by decide) rfl (t := 120) rfl ?_
    refine wp_lload_n (j := 1) rfl q9_ok d9_120 ?_
    refine wp_lload_n (j := 3) rfl q9_ok d9_121 ?_
    refine wp_lcmp rfl q9_ok d9_122 ?_
    refine wp_if_ge q9_ok d9_123 (t := 130) rfl (fun h123 => ?_) (fun h123 => ?_)
    · refine wp_lconst (v := 0) (by decide) q9_ok d9_130 ?_
      refine wp_lstore (j := 5) (Nat.le_of_ble_eq_true rfl) (rfl : _ = [_, _, _, _, _, _, _]) q9_ok d9_131 ?_
      refine wp_goto (t := 194) rfl q9_ok d9_133 ?_
      refine wp_ldc2 kl_0_36 q9_ok d9_194 ?_
      refine wp_ldc2 kl_0_38 q9_ok d9_197 ?_
      refine wp_lload (j := 5) rfl q9_ok d9_200 ?_
      refine wp_cS q9_ok d9_202 ml_0_40 rfl q230_ok rfl rfl rfl (Nat.le_of_ble_eq_true rfl) (Nat.le_of_ble_eq_true rfl) (c_minL _ _) (fun v202 μ202 hc => ?_)
      obtain ⟨rfl, rfl⟩ := hc
      refine ⟨mm_le_same rfl, ?_⟩
      refine wp_cS q9_ok d9_205 ml_0_46 rfl q228_ok rfl rfl rfl (Nat.le_of_ble_eq_true rfl) (Nat.le_of_ble_eq_true rfl) (c_maxL _ _) (fun v205 μ205 hc => ?_)
      obtain ⟨rfl, rfl⟩ := hc
      refine ⟨mm_le_same rfl, ?_⟩
      refine wp_l2i rfl q9_ok d9_208 ?_
      refine wp_iret q9_ok d9_209 rfl ?_
      exact ⟨by simp [joinC, joinV, clampC, *], rfl⟩
    · refine wp_lconst (v := 1) (by decide) q9_ok d9_126 ?_
      refine wp_goto (t := 131) rfl q9_ok d9_127 ?_
      refine wp_lstore (j := 5) (Nat.le_of_ble_eq_true rfl) (rfl : _ = [_, _, _, _, _, _, _]) q9_ok d9_131 ?_
      refine wp_goto (t := 194) rfl q9_ok d9_133 ?_
      refine wp_ldc2 kl_0_36 q9_ok d9_194 ?_
      refine wp_ldc2 kl_0_38 q9_ok d9_197 ?_
      refine wp_lload (j := 5) rfl q9_ok d9_200 ?_
      refine wp_cS q9_ok d9_202 ml_0_40 rfl q230_ok rfl rfl rfl (Nat.le_of_ble_eq_true rfl) (Nat.le_of_ble_eq_true rfl) (c_minL _ _) (fun v202 μ202 hc => ?_)
      obtain ⟨rfl, rfl⟩ := hc
      refine ⟨mm_le_same rfl, ?_⟩
      refine wp_cS q9_ok d9_205 ml_0_46 rfl q228_ok rfl rfl rfl (Nat.le_of_ble_eq_true rfl) (Nat.le_of_ble_eq_true rfl) (c_maxL _ _) (fun v205 μ205 hc => ?_)
      obtain ⟨rfl, rfl⟩ := hc
      refine ⟨mm_le_same rfl, ?_⟩
      refine wp_l2i rfl q9_ok d9_208 ?_
      refine wp_iret q9_ok d9_209 rfl ?_
      exact ⟨by simp [joinC, joinV, clampC, *], rfl⟩
  by_cases e17 : code = -17
  · subst e17
    refine wp_swI q9_ok d9_4 (by decide) rfl (t := 136) rfl ?_
    refine wp_lload_n (j := 1) rfl q9_ok d9_136 ?_
    refine wp_lload_n (j := 3) rfl q9_ok d9_137 ?_
    refine wp_lcmp rfl q9_ok d9_138 ?_
    refine wp_if_le q9_ok d9_139 (t := 146) rfl (fun h139 => ?_) (fun h139 => ?_)
    · refine wp_lconst (v := 0) (by decide) q9_ok d9_146 ?_
      refine wp_lstore (j := 5) (Nat.le_of_ble_eq_true rfl) (rfl : _ = [_, _, _, _, _, _, _]) q9_ok d9_147 ?_
      refine wp_goto (t := 194) rfl q9_ok d9_149 ?_
      refine wp_ldc2 kl_0_36 q9_ok d9_194 ?_
      refine wp_ldc2 kl_0_38 q9_ok d9_197 ?_
      refine wp_lload (j := 5) rfl q9_ok d9_200 ?_
      refine wp_cS q9_ok d9_202 ml_0_40 rfl q230_ok rfl rfl rfl (Nat.le_of_ble_eq_true rfl) (Nat.le_of_ble_eq_true rfl) (c_minL _ _) (fun v202 μ202 hc => ?_)
      obtain ⟨rfl, rfl⟩ := hc
      refine ⟨mm_le_same rfl, ?_⟩
      refine wp_cS q9_ok d9_205 ml_0_46 rfl q228_ok rfl rfl rfl (Nat.le_of_ble_eq_true rfl) (Nat.le_of_ble_eq_true rfl) (c_maxL _ _) (fun v205 μ205 hc => ?_)
      obtain ⟨rfl, rfl⟩ := hc
      refine ⟨mm_le_same rfl, ?_⟩
      refine wp_l2i rfl q9_ok d9_208 ?_
      refine wp_iret q9_ok d9_209 rfl ?_
      exact ⟨by simp [joinC, joinV, clampC, *], rfl⟩
    · refine wp_lconst (v := 1) (by decide) q9_ok d9_142 ?_
      refine wp_goto (t := 147) rfl q9_ok d9_143 ?_
      refine wp_lstore (j := 5) (Nat.le_of_ble_eq_true rfl) (rfl : _ = [_, _, _, _, _, _, _]) q9_ok d9_147 ?_
      refine wp_goto (t := 194) rfl q9_ok d9_149 ?_
      refine wp_ldc2 kl_0_36 q9_ok d9_194 ?_
      refine wp_ldc2 kl_0_38 q9_ok d9_197 ?_
      refine wp_lload (j := 5) rfl q9_ok d9_200 ?_
      refine wp_cS q9_ok d9_202 ml_0_40 rfl q230_ok rfl rfl rfl (Nat.le_of_ble_eq_true rfl) (Nat.le_of_ble_eq_true rfl) (c_minL _ _) (fun v202 μ202 hc => ?_)
      obtain ⟨rfl, rfl⟩ := hc
      refine ⟨mm_le_same rfl, ?_⟩
      refine wp_cS q9_ok d9_205 ml_0_46 rfl q228_ok rfl rfl rfl (Nat.le_of_ble_eq_true rfl) (Nat.le_of_ble_eq_true rfl) (c_maxL _ _) (fun v205 μ205 hc => ?_)
      obtain ⟨rfl, rfl⟩ := hc
      refine ⟨mm_le_same rfl, ?_⟩
      refine wp_l2i rfl q9_ok d9_208 ?_
      refine wp_iret q9_ok d9_209 rfl ?_
      exact ⟨by simp [joinC, joinV, clampC, *], rfl⟩
  by_cases e18 : code = -18
  · subst e18
    refine wp_swI q9_ok d9_4 (by decide) rfl (t := 152) rfl ?_
    refine wp_lload_n (j := 1) rfl q9_ok d9_152 ?_
    refine wp_lload_n (j := 3) rfl q9_ok d9_153 ?_
    refine wp_ladd rfl q9_ok d9_154 ?_
    refine wp_lstore (j := 5) (Nat.le_of_ble_eq_true rfl) (rfl : _ = [_, _, _, _, _, _, _]) q9_ok d9_155 ?_
    refine wp_goto (t := 194) rfl q9_ok d9_157 ?_
    refine wp_ldc2 kl_0_36 q9_ok d9_194 ?_
    refine wp_ldc2 kl_0_38 q9_ok d9_197 ?_
    refine wp_lload (j := 5) rfl q9_ok d9_200 ?_
    refine wp_cS q9_ok d9_202 ml_0_40 rfl q230_ok rfl rfl rfl (Nat.le_of_ble_eq_true rfl) (Nat.le_of_ble_eq_true rfl) (c_minL _ _) (fun v202 μ202 hc => ?_)
    obtain ⟨rfl, rfl⟩ := hc
    refine ⟨mm_le_same rfl, ?_⟩
    refine wp_cS q9_ok d9_205 ml_0_46 rfl q228_ok rfl rfl rfl (Nat.le_of_ble_eq_true rfl) (Nat.le_of_ble_eq_true rfl) (c_maxL _ _) (fun v205 μ205 hc => ?_)
    obtain ⟨rfl, rfl⟩ := hc
    refine ⟨mm_le_same rfl, ?_⟩
    refine wp_l2i rfl q9_ok d9_208 ?_
    refine wp_iret q9_ok d9_209 rfl ?_
    exact ⟨by simp [joinC, joinV, clampC, *], rfl⟩
  by_cases e19 : code = -19
  · subst e19
    refine wp_swI q9_ok d9_4 (by decide) rfl (t := 160) rfl ?_
    refine wp_lload_n (j := 1) rfl q9_ok d9_160 ?_
    refine wp_lload_n (j := 3) rfl q9_ok d9_161 ?_
    refine wp_lsub rfl q9_ok d9_162 ?_
    refine wp_lstore (j := 5) (Nat.le_of_ble_eq_true rfl) (rfl : _ = [_, _, _, _, _, _, _]) q9_ok d9_163 ?_
    refine wp_goto (t := 194) rfl q9_ok d9_165 ?_
    refine wp_ldc2 kl_0_36 q9_ok d9_194 ?_
    refine wp_ldc2 kl_0_38 q9_ok d9_197 ?_
    refine wp_lload (j := 5) rfl q9_ok d9_200 ?_
    refine wp_cS q9_ok d9_202 ml_0_40 rfl q230_ok rfl rfl rfl (Nat.le_of_ble_eq_true rfl) (Nat.le_of_ble_eq_true rfl) (c_minL _ _) (fun v202 μ202 hc => ?_)
    obtain ⟨rfl, rfl⟩ := hc
    refine ⟨mm_le_same rfl, ?_⟩
    refine wp_cS q9_ok d9_205 ml_0_46 rfl q228_ok rfl rfl rfl (Nat.le_of_ble_eq_true rfl) (Nat.le_of_ble_eq_true rfl) (c_maxL _ _) (fun v205 μ205 hc => ?_)
    obtain ⟨rfl, rfl⟩ := hc
    refine ⟨mm_le_same rfl, ?_⟩
    refine wp_l2i rfl q9_ok d9_208 ?_
    refine wp_iret q9_ok d9_209 rfl ?_
    exact ⟨by simp [joinC, joinV, clampC, *], rfl⟩
  by_cases e20 : code = -20
  · subst e20
    refine wp_swI q9_ok d9_4 (by decide) rfl (t := 168) rfl ?_
    refine wp_lload_n (j := 1) rfl q9_ok d9_168 ?_
    refine wp_lload_n (j := 3) rfl q9_ok d9_169 ?_
    refine wp_lmul rfl q9_ok d9_170 ?_
    refine wp_lstore (j := 5) (Nat.le_of_ble_eq_true rfl) (rfl : _ = [_, _, _, _, _, _, _]) q9_ok d9_171 ?_
    refine wp_goto (t := 194) rfl q9_ok d9_173 ?_
    refine wp_ldc2 kl_0_36 q9_ok d9_194 ?_
    refine wp_ldc2 kl_0_38 q9_ok d9_197 ?_
    refine wp_lload (j := 5) rfl q9_ok d9_200 ?_
    refine wp_cS q9_ok d9_202 ml_0_40 rfl q230_ok rfl rfl rfl (Nat.le_of_ble_eq_true rfl) (Nat.le_of_ble_eq_true rfl) (c_minL _ _) (fun v202 μ202 hc => ?_)
    obtain ⟨rfl, rfl⟩ := hc
    refine ⟨mm_le_same rfl, ?_⟩
    refine wp_cS q9_ok d9_205 ml_0_46 rfl q228_ok rfl rfl rfl (Nat.le_of_ble_eq_true rfl) (Nat.le_of_ble_eq_true rfl) (c_maxL _ _) (fun v205 μ205 hc => ?_)
    obtain ⟨rfl, rfl⟩ := hc
    refine ⟨mm_le_same rfl, ?_⟩
    refine wp_l2i rfl q9_ok d9_208 ?_
    refine wp_iret q9_ok d9_209 rfl ?_
    exact ⟨by simp [joinC, joinV, clampC, *], rfl⟩
  by_cases e21 : code = -21
  · subst e21
    refine wp_swI q9_ok d9_4 (by decide) rfl (t := 176) rfl ?_
    refine wp_lload_n (j := 3) rfl q9_ok d9_176 ?_
    refine wp_lconst (v := 0) (by decide) q9_ok d9_177 ?_
    refine wp_lcmp rfl q9_ok d9_178 ?_
    refine wp_if_ne q9_ok d9_179 (t := 186) rfl (fun h179 => ?_) (fun h179 => ?_)
    · refine wp_lload_n (j := 1) rfl q9_ok d9_186 ?_
      refine wp_lload_n (j := 3) rfl q9_ok d9_187 ?_
      refine wp_ldiv (fun e => by subst e; exact absurd rfl (by assumption)) rfl q9_ok d9_188 ?_
      refine wp_lstore (j := 5) (Nat.le_of_ble_eq_true rfl) (rfl : _ = [_, _, _, _, _, _, _]) q9_ok d9_189 ?_
      refine wp_goto (t := 194) rfl q9_ok d9_191 ?_
      refine wp_ldc2 kl_0_36 q9_ok d9_194 ?_
      refine wp_ldc2 kl_0_38 q9_ok d9_197 ?_
      refine wp_lload (j := 5) rfl q9_ok d9_200 ?_
      refine wp_cS q9_ok d9_202 ml_0_40 rfl q230_ok rfl rfl rfl (Nat.le_of_ble_eq_true rfl) (Nat.le_of_ble_eq_true rfl) (c_minL _ _) (fun v202 μ202 hc => ?_)
      obtain ⟨rfl, rfl⟩ := hc
      refine ⟨mm_le_same rfl, ?_⟩
      refine wp_cS q9_ok d9_205 ml_0_46 rfl q228_ok rfl rfl rfl (Nat.le_of_ble_eq_true rfl) (Nat.le_of_ble_eq_true rfl) (c_maxL _ _) (fun v205 μ205 hc => ?_)
      obtain ⟨rfl, rfl⟩ := hc
      refine ⟨mm_le_same rfl, ?_⟩
      refine wp_l2i rfl q9_ok d9_208 ?_
      refine wp_iret q9_ok d9_209 rfl ?_
      exact ⟨by simp [joinC, joinV, clampC, *], rfl⟩
    · have h179 := Classical.not_not.mp h179
      refine wp_lconst (v := 0) (by decide) q9_ok d9_182 ?_
      refine wp_goto (t := 189) rfl q9_ok d9_183 ?_
      refine wp_lstore (j := 5) (Nat.le_of_ble_eq_true rfl) (rfl : _ = [_, _, _, _, _, _, _]) q9_ok d9_189 ?_
      refine wp_goto (t := 194) rfl q9_ok d9_191 ?_
      refine wp_ldc2 kl_0_36 q9_ok d9_194 ?_
      refine wp_ldc2 kl_0_38 q9_ok d9_197 ?_
      refine wp_lload (j := 5) rfl q9_ok d9_200 ?_
      refine wp_cS q9_ok d9_202 ml_0_40 rfl q230_ok rfl rfl rfl (Nat.le_of_ble_eq_true rfl) (Nat.le_of_ble_eq_true rfl) (c_minL _ _) (fun v202 μ202 hc => ?_)
      obtain ⟨rfl, rfl⟩ := hc
      refine ⟨mm_le_same rfl, ?_⟩
      refine wp_cS q9_ok d9_205 ml_0_46 rfl q228_ok rfl rfl rfl (Nat.le_of_ble_eq_true rfl) (Nat.le_of_ble_eq_true rfl) (c_maxL _ _) (fun v205 μ205 hc => ?_)
      obtain ⟨rfl, rfl⟩ := hc
      refine ⟨mm_le_same rfl, ?_⟩
      refine wp_l2i rfl q9_ok d9_208 ?_
      refine wp_iret q9_ok d9_209 rfl ?_
      exact ⟨by simp [joinC, joinV, clampC, *], rfl⟩
  · by_cases e14 : code = -14
    · subst e14
      refine wp_swI q9_ok d9_4 (by decide) rfl (t := 194) rfl ?_
      refine wp_ldc2 kl_0_36 q9_ok d9_194 ?_
      refine wp_ldc2 kl_0_38 q9_ok d9_197 ?_
      refine wp_lload (j := 5) rfl q9_ok d9_200 ?_
      refine wp_cS q9_ok d9_202 ml_0_40 rfl q230_ok rfl rfl rfl (Nat.le_of_ble_eq_true rfl) (Nat.le_of_ble_eq_true rfl) (c_minL _ _) (fun v202 μ202 hc => ?_)
      obtain ⟨rfl, rfl⟩ := hc
      refine ⟨mm_le_same rfl, ?_⟩
      refine wp_cS q9_ok d9_205 ml_0_46 rfl q228_ok rfl rfl rfl (Nat.le_of_ble_eq_true rfl) (Nat.le_of_ble_eq_true rfl) (c_maxL _ _) (fun v205 μ205 hc => ?_)
      obtain ⟨rfl, rfl⟩ := hc
      refine ⟨mm_le_same rfl, ?_⟩
      refine wp_l2i rfl q9_ok d9_208 ?_
      refine wp_iret q9_ok d9_209 rfl ?_
      exact ⟨by simp [joinC, joinV, clampC, *], rfl⟩
    · have hout : code.toInt < -21 ∨ -12 < code.toInt := by
        apply Classical.byContradiction
        intro hx
        have h1 : -21 ≤ code.toInt := by omega
        have h2 : code.toInt ≤ -12 := by omega
        have key : ∀ z : Int32, ¬ code = z → ¬ code.toInt = z.toInt := fun z hz e => hz (Int32.toInt_inj.mp e)
        have k21 := key (-21) e21
        have k20 := key (-20) e20
        have k19 := key (-19) e19
        have k18 := key (-18) e18
        have k17 := key (-17) e17
        have k16 := key (-16) e16
        have k15 := key (-15) e15
        have k14 := key (-14) e14
        have k13 := key (-13) e13
        have k12 := key (-12) e12
        simp only [show ((-12 : Int32)).toInt = -12 from by decide, show ((-13 : Int32)).toInt = -13 from by decide, show ((-14 : Int32)).toInt = -14 from by decide, show ((-15 : Int32)).toInt = -15 from by decide, show ((-16 : Int32)).toInt = -16 from by decide, show ((-17 : Int32)).toInt = -17 from by decide, show ((-18 : Int32)).toInt = -18 from by decide, show ((-19 : Int32)).toInt = -19 from by decide, show ((-20 : Int32)).toInt = -20 from by decide, show ((-21 : Int32)).toInt = -21 from by decide] at k12 k13 k14 k15 k16 k17 k18 k19 k20 k21
        omega
      refine wp_swO q9_ok d9_4 hout (t := 194) rfl ?_
      refine wp_ldc2 kl_0_36 q9_ok d9_194 ?_
      refine wp_ldc2 kl_0_38 q9_ok d9_197 ?_
      refine wp_lload (j := 5) rfl q9_ok d9_200 ?_
      refine wp_cS q9_ok d9_202 ml_0_40 rfl q230_ok rfl rfl rfl (Nat.le_of_ble_eq_true rfl) (Nat.le_of_ble_eq_true rfl) (c_minL _ _) (fun v202 μ202 hc => ?_)
      obtain ⟨rfl, rfl⟩ := hc
      refine ⟨mm_le_same rfl, ?_⟩
      refine wp_cS q9_ok d9_205 ml_0_46 rfl q228_ok rfl rfl rfl (Nat.le_of_ble_eq_true rfl) (Nat.le_of_ble_eq_true rfl) (c_maxL _ _) (fun v205 μ205 hc => ?_)
      obtain ⟨rfl, rfl⟩ := hc
      refine ⟨mm_le_same rfl, ?_⟩
      refine wp_l2i rfl q9_ok d9_208 ?_
      refine wp_iret q9_ok d9_209 rfl ?_
      exact ⟨by simp [joinC, joinV, clampC, *], rfl⟩
