/-! ===== the model's small methods ===== -/
theorem has_v (x : Int32) (k : Int32) : (if (x >>> (k &&& 31)) &&& 1 = 1 then (1 : Int32) else 0) = (if (x >>> (k &&& 31)) &&& 1 = 1 then 1 else 0) := rfl
theorem m_in {xs : List Int32} {ext : mm_X} {n : Nat} {sh : mm_S} {d : mm_D} {g : mm_G} {r : mm_R}  (y a b : Int32) : wp xs ext (n + 0) 133 0 [some (.int y), some (.int a), some (.int b)] [] (sh, d, g, r) (fun v μ => v = some (.int (if a ≤ y ∧ y ≤ b then 1 else 0)) ∧ μ = (sh, d, g, r)) := by
  refine wp_iload_n (j := 0) rfl q133_ok d133_0 ?_
  refine wp_iload_n (j := 1) rfl q133_ok d133_1 ?_
  refine wp_icmp_lt q133_ok d133_2 (t := 14) rfl (fun h2 => ?_) (fun h2 => ?_)
  · refine wp_iconst (v := 0) (by decide) q133_ok d133_14 ?_
    refine wp_zret q133_ok d133_15 rfl (by first | assumption | exact Or.inl rfl | exact Or.inr rfl) ?_
    exact ⟨by rw [if_neg (fun q => absurd q.1 (Int32.not_le.mpr h2))], rfl⟩
  · refine wp_iload_n (j := 0) rfl q133_ok d133_5 ?_
    refine wp_iload_n (j := 2) rfl q133_ok d133_6 ?_
    refine wp_icmp_gt q133_ok d133_7 (t := 14) rfl (fun h7 => ?_) (fun h7 => ?_)
    · refine wp_iconst (v := 0) (by decide) q133_ok d133_14 ?_
      refine wp_zret q133_ok d133_15 rfl (by first | assumption | exact Or.inl rfl | exact Or.inr rfl) ?_
      exact ⟨by rw [if_neg (fun q => absurd q.2 (Int32.not_le.mpr h7))], rfl⟩
    · refine wp_iconst (v := 1) (by decide) q133_ok d133_10 ?_
      refine wp_goto (t := 15) rfl q133_ok d133_11 ?_
      refine wp_zret q133_ok d133_15 rfl (by first | assumption | exact Or.inl rfl | exact Or.inr rfl) ?_
      exact ⟨by rw [if_pos ⟨Int32.not_lt.mp h2, Int32.not_lt.mp h7⟩], rfl⟩
theorem m_has {xs : List Int32} {ext : mm_X} {n : Nat} {sh : mm_S} {d : mm_D} {g : mm_G} {r : mm_R}  (x k : Int32) : wp xs ext (n + 0) 134 0 [some (.int x), some (.int k)] [] (sh, d, g, r) (fun v μ => v = some (.int (if (x >>> (k &&& 31)) &&& 1 = 1 then 1 else 0)) ∧ μ = (sh, d, g, r)) := by
  refine wp_iload_n (j := 0) rfl q134_ok d134_0 ?_
  refine wp_iload_n (j := 1) rfl q134_ok d134_1 ?_
  refine wp_ishr rfl q134_ok d134_2 ?_
  refine wp_iconst (v := 1) (by decide) q134_ok d134_3 ?_
  refine wp_iand rfl q134_ok d134_4 ?_
  refine wp_iconst (v := 1) (by decide) q134_ok d134_5 ?_
  refine wp_icmp_ne q134_ok d134_6 (t := 13) rfl (fun h6 => ?_) (fun h6 => ?_)
  · refine wp_iconst (v := 0) (by decide) q134_ok d134_13 ?_
    refine wp_zret q134_ok d134_14 rfl (by first | assumption | exact Or.inl rfl | exact Or.inr rfl) ?_
    exact ⟨by rw [if_neg h6], rfl⟩
  · have h6 := Classical.not_not.mp h6
    refine wp_iconst (v := 1) (by decide) q134_ok d134_9 ?_
    refine wp_goto (t := 14) rfl q134_ok d134_10 ?_
    refine wp_zret q134_ok d134_14 rfl (by first | assumption | exact Or.inl rfl | exact Or.inr rfl) ?_
    exact ⟨by rw [if_pos h6], rfl⟩
theorem m_isPerson {xs : List Int32} {ext : mm_X} {n : Nat} {sh : mm_S} {d : mm_D} {g : mm_G} {r : mm_R} (hsh : shp sh) (hr : rfx r) (i : Int32) : wp xs ext (n + 1) 177 0 [some (.ref 250), some (.int i)] [] (sh, d, g, r) (fun v μ => v = some (.int (if 0 ≤ i ∧ i ≤ d 250 26 - 1 then 1 else 0)) ∧ μ = (sh, d, g, r)) := by
  refine wp_iload_n (j := 1) rfl q177_ok d177_0 ?_
  refine wp_iconst (v := 0) (by decide) q177_ok d177_1 ?_
  refine wp_aload_n (j := 0) rfl q177_ok d177_2 ?_
  refine wp_getI q177_ok d177_3 fl_11_265 rfl (by first | assumption | exact so0 hsh rfl) (by first | assumption | rfl) ?_
  refine wp_iconst (v := 1) (by decide) q177_ok d177_6 ?_
  refine wp_isub rfl q177_ok d177_7 ?_
  refine wp_cS q177_ok d177_8 ml_11_218 rfl q133_ok rfl rfl rfl (Nat.le_of_ble_eq_true rfl) (Nat.le_of_ble_eq_true rfl) (m_in _ _ _) (fun v8 μ8 hc => ?_)
  obtain ⟨rfl, rfl⟩ := hc
  refine ⟨mm_le_same rfl, ?_⟩
  refine wp_zret q177_ok d177_11 rfl (by split; exact Or.inr rfl; exact Or.inl rfl) ?_
  exact ⟨rfl, rfl⟩
theorem m_isBell {xs : List Int32} {ext : mm_X} {n : Nat} {sh : mm_S} {d : mm_D} {g : mm_G} {r : mm_R} (hsh : shp sh) (hr : rfx r) (i : Int32) : wp xs ext (n + 1) 178 0 [some (.ref 250), some (.int i)] [] (sh, d, g, r) (fun v μ => v = some (.int (if 0 ≤ i ∧ i ≤ d 250 27 - 1 then 1 else 0)) ∧ μ = (sh, d, g, r)) := by
  refine wp_iload_n (j := 1) rfl q178_ok d178_0 ?_
  refine wp_iconst (v := 0) (by decide) q178_ok d178_1 ?_
  refine wp_aload_n (j := 0) rfl q178_ok d178_2 ?_
  refine wp_getI q178_ok d178_3 fl_11_268 rfl (by first | assumption | exact so0 hsh rfl) (by first | assumption | rfl) ?_
  refine wp_iconst (v := 1) (by decide) q178_ok d178_6 ?_
  refine wp_isub rfl q178_ok d178_7 ?_
  refine wp_cS q178_ok d178_8 ml_11_218 rfl q133_ok rfl rfl rfl (Nat.le_of_ble_eq_true rfl) (Nat.le_of_ble_eq_true rfl) (m_in _ _ _) (fun v8 μ8 hc => ?_)
  obtain ⟨rfl, rfl⟩ := hc
  refine ⟨mm_le_same rfl, ?_⟩
  refine wp_zret q178_ok d178_11 rfl (by split; exact Or.inr rfl; exact Or.inl rfl) ?_
  exact ⟨rfl, rfl⟩
theorem m_are {xs : List Int32} {ext : mm_X} {n : Nat} {sh : mm_S} {d : mm_D} {g : mm_G} {r : mm_R} (hsh : shp sh) (hr : rfx r) (i : Int32) : wp xs ext (n + 1) 192 0 [some (.ref 250), some (.int i)] [] (sh, d, g, r) (fun v μ => v = some (.int (if ¬ d 250 26 ≤ 0 ∧ (1 ≤ i ∧ i ≤ 240) then 1 else 0)) ∧ μ = (sh, d, g, r)) := by
  refine wp_aload_n (j := 0) rfl q192_ok d192_0 ?_
  refine wp_getI q192_ok d192_1 fl_11_265 rfl (by first | assumption | exact so0 hsh rfl) (by first | assumption | rfl) ?_
  refine wp_if_le q192_ok d192_4 (t := 22) rfl (fun h4 => ?_) (fun h4 => ?_)
  · refine wp_iconst (v := 0) (by decide) q192_ok d192_22 ?_
    refine wp_zret q192_ok d192_23 rfl (by first | assumption | exact Or.inl rfl | exact Or.inr rfl) ?_
    exact ⟨by rw [if_neg (fun w => w.1 h4)], rfl⟩
  · refine wp_iload_n (j := 1) rfl q192_ok d192_7 ?_
    refine wp_iconst (v := 1) (by decide) q192_ok d192_8 ?_
    refine wp_sipush (v := 240) (by decide) q192_ok d192_9 ?_
    refine wp_cS q192_ok d192_12 ml_11_218 rfl q133_ok rfl rfl rfl (Nat.le_of_ble_eq_true rfl) (Nat.le_of_ble_eq_true rfl) (m_in _ _ _) (fun v12 μ12 hc => ?_)
    obtain ⟨rfl, rfl⟩ := hc
    refine ⟨mm_le_same rfl, ?_⟩
    by_cases q : 1 ≤ i ∧ i ≤ 240
    · rw [if_pos q]
      refine wp_if_eq q192_ok d192_15 (t := 22) rfl (fun h15 => ?_) (fun h15 => ?_)
      · exact absurd h15 (by decide)
      · refine wp_iconst (v := 1) (by decide) q192_ok d192_18 ?_
        refine wp_goto (t := 23) rfl q192_ok d192_19 ?_
        refine wp_zret q192_ok d192_23 rfl (by first | assumption | exact Or.inl rfl | exact Or.inr rfl) ?_
        exact ⟨by rw [if_pos ⟨h4, q⟩], rfl⟩
    · rw [if_neg q]
      refine wp_if_eq q192_ok d192_15 (t := 22) rfl (fun h15 => ?_) (fun h15 => ?_)
      · refine wp_iconst (v := 0) (by decide) q192_ok d192_22 ?_
        refine wp_zret q192_ok d192_23 rfl (by first | assumption | exact Or.inl rfl | exact Or.inr rfl) ?_
        exact ⟨by rw [if_neg (fun w => q w.2)], rfl⟩
      · exact absurd rfl h15
theorem m_isOn {xs : List Int32} {ext : mm_X} {n : Nat} {sh : mm_S} {d : mm_D} {g : mm_G} {r : mm_R} (hsh : shp sh) (hr : rfx r) {c k : Nat} {t f a q : Int32} (hso : so sh c 20) (hl : k + 2 < (sh.2.2.2 c).2) (hl2 : (sh.2.2.2 c).2 < 2 ^ 31) (hf : d c k = f) (ha : d c (k + 1) = a) (hq : d c (k + 2) = q) (h1 : 1 ≤ q) : wp xs ext (n + 1) 179 0 [some (.ref c), some (.int (nI k)), some (.int t)] [] (sh, d, g, r) (fun v μ => v = some (.int (onC t f a q)) ∧ μ = (sh, d, g, r)) := by
  have hq0 : ¬ q = 0 := fun e => by rw [e] at h1; exact absurd h1 (by decide)
  have hqp : ¬ q ≤ 0 := fun e => absurd (Int32.le_trans h1 e) (by decide)
  refine wp_iload_n (j := 2) rfl q179_ok d179_0 ?_
  refine wp_aload_n (j := 0) rfl q179_ok d179_1 ?_
  refine wp_iload_n (j := 1) rfl q179_ok d179_2 ?_
  refine wp_iconst (v := 0) (by decide) q179_ok d179_3 ?_
  refine wp_iadd rfl q179_ok d179_4 ?_
  refine wp_iald q179_ok d179_5 hso rfl (show ixn (nI k + 0) (k + 0) _ from by rw [show nI k + 0 = nI (k + 0) from (Int32.ofNat_add k 0).symm]; exact ixn_nI (by omega) hl2) hf ?_ (shK hsh)
  refine wp_isub rfl q179_ok d179_6 ?_
  refine wp_aload_n (j := 0) rfl q179_ok d179_7 ?_
  refine wp_iload_n (j := 1) rfl q179_ok d179_8 ?_
  refine wp_iconst (v := 2) (by decide) q179_ok d179_9 ?_
  refine wp_iadd rfl q179_ok d179_10 ?_
  refine wp_iald q179_ok d179_11 hso rfl (show ixn (nI k + 2) (k + 2) _ from by rw [show nI k + 2 = nI (k + 2) from (Int32.ofNat_add k 2).symm]; exact ixn_nI (by omega) hl2) hq ?_ (shK hsh)
  refine wp_cS q179_ok d179_12 ml_11_292 rfl q226_ok rfl rfl rfl (Nat.le_of_ble_eq_true rfl) (Nat.le_of_ble_eq_true rfl) (c_fmod _ _ hq0) (fun v12 μ12 hc => ?_)
  obtain ⟨rfl, rfl⟩ := hc
  refine ⟨mm_le_same rfl, ?_⟩
  refine wp_aload_n (j := 0) rfl q179_ok d179_15 ?_
  refine wp_iload_n (j := 1) rfl q179_ok d179_16 ?_
  refine wp_iconst (v := 1) (by decide) q179_ok d179_17 ?_
  refine wp_iadd rfl q179_ok d179_18 ?_
  refine wp_iald q179_ok d179_19 hso rfl (show ixn (nI k + 1) (k + 1) _ from by rw [show nI k + 1 = nI (k + 1) from (Int32.ofNat_add k 1).symm]; exact ixn_nI (by omega) hl2) ha ?_ (shK hsh)
  refine wp_icmp_ge q179_ok d179_20 (t := 27) rfl (fun h20 => ?_) (fun h20 => ?_)
  · refine wp_iconst (v := 0) (by decide) q179_ok d179_27 ?_
    refine wp_zret q179_ok d179_28 rfl (by first | assumption | exact Or.inl rfl | exact Or.inr rfl) ?_
    exact ⟨by unfold onC; rw [if_neg hqp, if_neg (Int32.not_lt.mpr h20)], rfl⟩
  · refine wp_iconst (v := 1) (by decide) q179_ok d179_23 ?_
    refine wp_goto (t := 28) rfl q179_ok d179_24 ?_
    refine wp_zret q179_ok d179_28 rfl (by first | assumption | exact Or.inl rfl | exact Or.inr rfl) ?_
    exact ⟨by unfold onC; rw [if_neg hqp, if_pos (Int32.not_le.mp h20)], rfl⟩
theorem m_bounded {xs : List Int32} {ext : mm_X} {n : Nat} {sh : mm_S} {d : mm_D} {g : mm_G} {r : mm_R}  (y : Int64) : wp xs ext (n + 1) 162 0 [some (.long y), none] [] (sh, d, g, r) (fun v μ => v = some (.int (mx64 (-1000000) (mn64 1000000 y)).toInt32) ∧ μ = (sh, d, g, r)) := by
  refine wp_ldc2 kl_11_193 q162_ok d162_0 ?_
  refine wp_ldc2 kl_11_195 q162_ok d162_3 ?_
  refine wp_lload_n (j := 0) rfl q162_ok d162_6 ?_
  refine wp_cS q162_ok d162_7 ml_11_197 rfl q230_ok rfl rfl rfl (Nat.le_of_ble_eq_true rfl) (Nat.le_of_ble_eq_true rfl) (c_minL _ _) (fun v7 μ7 hc => ?_)
  obtain ⟨rfl, rfl⟩ := hc
  refine ⟨mm_le_same rfl, ?_⟩
  refine wp_cS q162_ok d162_10 ml_11_203 rfl q228_ok rfl rfl rfl (Nat.le_of_ble_eq_true rfl) (Nat.le_of_ble_eq_true rfl) (c_maxL _ _) (fun v10 μ10 hc => ?_)
  obtain ⟨rfl, rfl⟩ := hc
  refine ⟨mm_le_same rfl, ?_⟩
  refine wp_l2i rfl q162_ok d162_13 ?_
  refine wp_iret q162_ok d162_14 rfl ?_
  exact ⟨rfl, rfl⟩
