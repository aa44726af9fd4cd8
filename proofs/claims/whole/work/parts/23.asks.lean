/-! ===== the class's small questions ===== -/
theorem nI_ofn {i : Int32} (h : 0 ≤ i) : i = nI i.toNatClampNeg := by
  apply Int32.toInt_inj.mp
  have a := Int32.le_iff_toInt_le.mp h
  have e0 : (0 : Int32).toInt = 0 := by decide
  rw [e0] at a
  have c : i.toNatClampNeg = i.toInt.toNat := rfl
  have b := Int32.toInt_lt i
  rw [c]
  show _ = (Int32.ofNat i.toInt.toNat).toInt
  rw [Int32.toInt_ofNat_of_lt (by omega)]
  omega
theorem nI_inj {a b : Nat} (ha : a < 2 ^ 31) (hb : b < 2 ^ 31) (h : nI a = nI b) : a = b := by
  have e := congrArg Int32.toNatClampNeg h
  rw [nI_clamp ha, nI_clamp hb] at e
  exact e
def perC (d : mm_D) (i : Int32) : Int32 := if i < 0 then 0 else if d 4 5 ≤ i then 0 else if 6 ≤ i then 0 else 1
def belC (d : mm_D) (i : Int32) : Int32 := if i < 0 then 0 else if d 4 6 ≤ i then 0 else if 2 ≤ i then 0 else 1
def ahdC (n : Int32) : Int32 := if n < 1 then 0 else if 240 < n then 0 else 1
theorem in_of {i b c : Int32} {n : Nat} (hb : b = nI n) (hn : n < 2 ^ 31) (h : ¬ (if i < 0 then (0 : Int32) else if b ≤ i then 0 else if c ≤ i then 0 else 1) = 0) : ∃ p, p < n ∧ i = nI p := by
  subst hb
  by_cases h0 : i < 0
  · rw [if_pos h0] at h
    exact absurd rfl h
  · rw [if_neg h0] at h
    by_cases h1 : nI n ≤ i
    · rw [if_pos h1] at h
      exact absurd rfl h
    · have e := nI_ofn (Int32.not_lt.mp h0)
      refine ⟨i.toNatClampNeg, Nat.lt_of_not_le (fun q => h1 ?_), e⟩
      rw [e]
      exact nI_le q (by
        have b := Int32.toInt_lt i
        have c : i.toNatClampNeg = i.toInt.toNat := rfl
        omega)
theorem c_isPerson {xs : List Int32} {ext : mm_X} {n : Nat} {sh : mm_S} {d : mm_D} {g : mm_G} {r : mm_R} (hsh : shp sh) (hr : rfx r) (i : Int32) : wp xs ext (n + 0) 129 0 [some (.ref 0), some (.int i)] [] (sh, d, g, r) (fun v μ => v = some (.int (perC d i)) ∧ μ = (sh, d, g, r)) := by
  refine wp_iload_n (j := 1) rfl q129_ok d129_0 ?_
  refine wp_if_lt q129_ok d129_1 (t := 25) rfl (fun h1 => ?_) (fun h1 => ?_)
  · refine wp_iconst (v := 0) (by decide) q129_ok d129_25 ?_
    refine wp_zret q129_ok d129_26 rfl (by first | assumption | exact Or.inl rfl | exact Or.inr rfl) ?_
    exact ⟨by first | (simp [perC, *]; done) | (subst_vars; simp [perC, *]; done), rfl⟩
  · refine wp_iload_n (j := 1) rfl q129_ok d129_4 ?_
    refine wp_aload_n (j := 0) rfl q129_ok d129_5 ?_
    refine wp_getR q129_ok d129_6 fl_10_28 rfl (by first | assumption | exact so0 hsh rfl) (by first | assumption | exact hr _ _ _ rfl) ?_
    refine wp_getI q129_ok d129_9 fl_10_139 rfl (by first | assumption | exact so0 hsh rfl) (by first | assumption | rfl) ?_
    refine wp_icmp_ge q129_ok d129_12 (t := 25) rfl (fun h12 => ?_) (fun h12 => ?_)
    · refine wp_iconst (v := 0) (by decide) q129_ok d129_25 ?_
      refine wp_zret q129_ok d129_26 rfl (by first | assumption | exact Or.inl rfl | exact Or.inr rfl) ?_
      exact ⟨by first | (simp [perC, *]; done) | (subst_vars; simp [perC, *]; done), rfl⟩
    · refine wp_iload_n (j := 1) rfl q129_ok d129_15 ?_
      refine wp_bipush (v := 6) (by decide) q129_ok d129_16 ?_
      refine wp_icmp_ge q129_ok d129_18 (t := 25) rfl (fun h18 => ?_) (fun h18 => ?_)
      · refine wp_iconst (v := 0) (by decide) q129_ok d129_25 ?_
        refine wp_zret q129_ok d129_26 rfl (by first | assumption | exact Or.inl rfl | exact Or.inr rfl) ?_
        exact ⟨by first | (simp [perC, *]; done) | (subst_vars; simp [perC, *]; done), rfl⟩
      · refine wp_iconst (v := 1) (by decide) q129_ok d129_21 ?_
        refine wp_goto (t := 26) rfl q129_ok d129_22 ?_
        refine wp_zret q129_ok d129_26 rfl (by first | assumption | exact Or.inl rfl | exact Or.inr rfl) ?_
        exact ⟨by first | (simp [perC, *]; done) | (subst_vars; simp [perC, *]; done), rfl⟩
theorem c_isBell {xs : List Int32} {ext : mm_X} {n : Nat} {sh : mm_S} {d : mm_D} {g : mm_G} {r : mm_R} (hsh : shp sh) (hr : rfx r) (i : Int32) : wp xs ext (n + 0) 131 0 [some (.ref 0), some (.int i)] [] (sh, d, g, r) (fun v μ => v = some (.int (belC d i)) ∧ μ = (sh, d, g, r)) := by
  refine wp_iload_n (j := 1) rfl q131_ok d131_0 ?_
  refine wp_if_lt q131_ok d131_1 (t := 24) rfl (fun h1 => ?_) (fun h1 => ?_)
  · refine wp_iconst (v := 0) (by decide) q131_ok d131_24 ?_
    refine wp_zret q131_ok d131_25 rfl (by first | assumption | exact Or.inl rfl | exact Or.inr rfl) ?_
    exact ⟨by first | (simp [belC, *]; done) | (subst_vars; simp [belC, *]; done), rfl⟩
  · refine wp_iload_n (j := 1) rfl q131_ok d131_4 ?_
    refine wp_aload_n (j := 0) rfl q131_ok d131_5 ?_
    refine wp_getR q131_ok d131_6 fl_10_28 rfl (by first | assumption | exact so0 hsh rfl) (by first | assumption | exact hr _ _ _ rfl) ?_
    refine wp_getI q131_ok d131_9 fl_10_336 rfl (by first | assumption | exact so0 hsh rfl) (by first | assumption | rfl) ?_
    refine wp_icmp_ge q131_ok d131_12 (t := 24) rfl (fun h12 => ?_) (fun h12 => ?_)
    · refine wp_iconst (v := 0) (by decide) q131_ok d131_24 ?_
      refine wp_zret q131_ok d131_25 rfl (by first | assumption | exact Or.inl rfl | exact Or.inr rfl) ?_
      exact ⟨by first | (simp [belC, *]; done) | (subst_vars; simp [belC, *]; done), rfl⟩
    · refine wp_iload_n (j := 1) rfl q131_ok d131_15 ?_
      refine wp_iconst (v := 2) (by decide) q131_ok d131_16 ?_
      refine wp_icmp_ge q131_ok d131_17 (t := 24) rfl (fun h17 => ?_) (fun h17 => ?_)
      · refine wp_iconst (v := 0) (by decide) q131_ok d131_24 ?_
        refine wp_zret q131_ok d131_25 rfl (by first | assumption | exact Or.inl rfl | exact Or.inr rfl) ?_
        exact ⟨by first | (simp [belC, *]; done) | (subst_vars; simp [belC, *]; done), rfl⟩
      · refine wp_iconst (v := 1) (by decide) q131_ok d131_20 ?_
        refine wp_goto (t := 25) rfl q131_ok d131_21 ?_
        refine wp_zret q131_ok d131_25 rfl (by first | assumption | exact Or.inl rfl | exact Or.inr rfl) ?_
        exact ⟨by first | (simp [belC, *]; done) | (subst_vars; simp [belC, *]; done), rfl⟩
theorem c_hasTown {xs : List Int32} {ext : mm_X} {n : Nat} {sh : mm_S} {d : mm_D} {g : mm_G} {r : mm_R} (hsh : shp sh) (hr : rfx r)  : wp xs ext (n + 0) 128 0 [some (.ref 0)] [] (sh, d, g, r) (fun v μ => v = some (.int (if d 4 5 ≤ 0 then 0 else 1)) ∧ μ = (sh, d, g, r)) := by
  refine wp_aload_n (j := 0) rfl q128_ok d128_0 ?_
  refine wp_getR q128_ok d128_1 fl_10_28 rfl (by first | assumption | exact so0 hsh rfl) (by first | assumption | exact hr _ _ _ rfl) ?_
  refine wp_getI q128_ok d128_4 fl_10_139 rfl (by first | assumption | exact so0 hsh rfl) (by first | assumption | rfl) ?_
  refine wp_if_le q128_ok d128_7 (t := 14) rfl (fun h7 => ?_) (fun h7 => ?_)
  · refine wp_iconst (v := 0) (by decide) q128_ok d128_14 ?_
    refine wp_zret q128_ok d128_15 rfl (by first | assumption | exact Or.inl rfl | exact Or.inr rfl) ?_
    exact ⟨by simp [*], rfl⟩
  · refine wp_iconst (v := 1) (by decide) q128_ok d128_10 ?_
    refine wp_goto (t := 15) rfl q128_ok d128_11 ?_
    refine wp_zret q128_ok d128_15 rfl (by first | assumption | exact Or.inl rfl | exact Or.inr rfl) ?_
    exact ⟨by simp [*], rfl⟩
theorem c_seed {xs : List Int32} {ext : mm_X} {n : Nat} {sh : mm_S} {d : mm_D} {g : mm_G} {r : mm_R} (hsh : shp sh) (hr : rfx r) (w : Int64) : wp xs ext (n + 0) 100 0 [some (.ref 0), some (.long w), none] [] (sh, d, g, r) (fun v μ => v = some (.int 1) ∧ μ = (sh, d, mm_up g 38 3 w, r)) := by
  refine wp_aload_n (j := 0) rfl q100_ok d100_0 ?_
  refine wp_getR q100_ok d100_1 fl_10_69 rfl (by first | assumption | exact so0 hsh rfl) (by first | assumption | exact hr _ _ _ rfl) ?_
  refine wp_lload_n (j := 1) rfl q100_ok d100_4 ?_
  refine wp_putJ q100_ok d100_5 fl_10_206 rfl (by first | assumption | exact so0 hsh rfl) (Or.inl rfl) ?_
  refine wp_iconst (v := 1) (by decide) q100_ok d100_8 ?_
  refine wp_zret q100_ok d100_9 rfl (by first | assumption | exact Or.inl rfl | exact Or.inr rfl) ?_
  exact ⟨rfl, rfl⟩
