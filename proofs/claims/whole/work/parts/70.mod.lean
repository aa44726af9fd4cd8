/-! ===== the model's small methods ===== -/
theorem has_v (x : Int32) (k : Int32) : (if (x >>> (k &&& 31)) &&& 1 = 1 then (1 : Int32) else 0) = (if (x >>> (k &&& 31)) &&& 1 = 1 then 1 else 0) := rfl
theorem m_in {xs : List Int32} {ext : mm_X} {n : Nat} {sh : mm_S} {d : mm_D} {g : mm_G} {r : mm_R}  (y a b : Int32) : wp xs ext (n + 0) 131 0 [some (.int y), some (.int a), some (.int b)] [] (sh, d, g, r) (fun v μ => v = some (.int (if a ≤ y ∧ y ≤ b then 1 else 0)) ∧ μ = (sh, d, g, r)) := by
  refine wp_iload_n (j := 0) rfl q131_ok d131_0 ?_
  refine wp_iload_n (j := 1) rfl q131_ok d131_1 ?_
  refine wp_icmp_lt q131_ok d131_2 (t := 14) rfl (fun h2 => ?_) (fun h2 => ?_)
  · refine wp_iconst (v := 0) (by decide) q131_ok d131_14 ?_
    refine wp_zret q131_ok d131_15 rfl (by first | assumption | exact Or.inl rfl | exact Or.inr rfl) ?_
    exact ⟨by rw [if_neg (fun q => absurd q.1 (Int32.not_le.mpr h2))], rfl⟩
  · refine wp_iload_n (j := 0) rfl q131_ok d131_5 ?_
    refine wp_iload_n (j := 2) rfl q131_ok d131_6 ?_
    refine wp_icmp_gt q131_ok d131_7 (t := 14) rfl (fun h7 => ?_) (fun h7 => ?_)
    · refine wp_iconst (v := 0) (by decide) q131_ok d131_14 ?_
      refine wp_zret q131_ok d131_15 rfl (by first | assumption | exact Or.inl rfl | exact Or.inr rfl) ?_
      exact ⟨by rw [if_neg (fun q => absurd q.2 (Int32.not_le.mpr h7))], rfl⟩
    · refine wp_iconst (v := 1) (by decide) q131_ok d131_10 ?_
      refine wp_goto (t := 15) rfl q131_ok d131_11 ?_
      refine wp_zret q131_ok d131_15 rfl (by first | assumption | exact Or.inl rfl | exact Or.inr rfl) ?_
      exact ⟨by rw [if_pos ⟨Int32.not_lt.mp h2, Int32.not_lt.mp h7⟩], rfl⟩
theorem m_has {xs : List Int32} {ext : mm_X} {n : Nat} {sh : mm_S} {d : mm_D} {g : mm_G} {r : mm_R}  (x k : Int32) : wp xs ext (n + 0) 132 0 [some (.int x), some (.int k)] [] (sh, d, g, r) (fun v μ => v = some (.int (if (x >>> (k &&& 31)) &&& 1 = 1 then 1 else 0)) ∧ μ = (sh, d, g, r)) := by
  refine wp_iload_n (j := 0) rfl q132_ok d132_0 ?_
  refine wp_iload_n (j := 1) rfl q132_ok d132_1 ?_
  refine wp_ishr rfl q132_ok d132_2 ?_
  refine wp_iconst (v := 1) (by decide) q132_ok d132_3 ?_
  refine wp_iand rfl q132_ok d132_4 ?_
  refine wp_iconst (v := 1) (by decide) q132_ok d132_5 ?_
  refine wp_icmp_ne q132_ok d132_6 (t := 13) rfl (fun h6 => ?_) (fun h6 => ?_)
  · refine wp_iconst (v := 0) (by decide) q132_ok d132_13 ?_
    refine wp_zret q132_ok d132_14 rfl (by first | assumption | exact Or.inl rfl | exact Or.inr rfl) ?_
    exact ⟨by rw [if_neg h6], rfl⟩
  · have h6 := Classical.not_not.mp h6
    refine wp_iconst (v := 1) (by decide) q132_ok d132_9 ?_
    refine wp_goto (t := 14) rfl q132_ok d132_10 ?_
    refine wp_zret q132_ok d132_14 rfl (by first | assumption | exact Or.inl rfl | exact Or.inr rfl) ?_
    exact ⟨by rw [if_pos h6], rfl⟩
theorem m_isPerson {xs : List Int32} {ext : mm_X} {n : Nat} {sh : mm_S} {d : mm_D} {g : mm_G} {r : mm_R} (hsh : shp sh) (hr : rfx r) (i : Int32) : wp xs ext (n + 1) 175 0 [some (.ref 250), some (.int i)] [] (sh, d, g, r) (fun v μ => v = some (.int (if 0 ≤ i ∧ i ≤ d 250 26 - 1 then 1 else 0)) ∧ μ = (sh, d, g, r)) := by
  refine wp_iload_n (j := 1) rfl q175_ok d175_0 ?_
  refine wp_iconst (v := 0) (by decide) q175_ok d175_1 ?_
  refine wp_aload_n (j := 0) rfl q175_ok d175_2 ?_
  refine wp_getI q175_ok d175_3 fl_11_265 rfl (by first | assumption | exact so0 hsh rfl) (by first | assumption | rfl) ?_
  refine wp_iconst (v := 1) (by decide) q175_ok d175_6 ?_
  refine wp_isub rfl q175_ok d175_7 ?_
  refine wp_cS q175_ok d175_8 ml_11_218 rfl q131_ok rfl rfl rfl (Nat.le_of_ble_eq_true rfl) (Nat.le_of_ble_eq_true rfl) (m_in _ _ _) (fun v8 μ8 hc => ?_)
  obtain ⟨rfl, rfl⟩ := hc
  refine ⟨mm_le_same rfl, ?_⟩
  refine wp_zret q175_ok d175_11 rfl (by split; exact Or.inr rfl; exact Or.inl rfl) ?_
  exact ⟨rfl, rfl⟩
theorem m_isBell {xs : List Int32} {ext : mm_X} {n : Nat} {sh : mm_S} {d : mm_D} {g : mm_G} {r : mm_R} (hsh : shp sh) (hr : rfx r) (i : Int32) : wp xs ext (n + 1) 176 0 [some (.ref 250), some (.int i)] [] (sh, d, g, r) (fun v μ => v = some (.int (if 0 ≤ i ∧ i ≤ d 250 27 - 1 then 1 else 0)) ∧ μ = (sh, d, g, r)) := by
  refine wp_iload_n (j := 1) rfl q176_ok d176_0 ?_
  refine wp_iconst (v := 0) (by decide) q176_ok d176_1 ?_
  refine wp_aload_n (j := 0) rfl q176_ok d176_2 ?_
  refine wp_getI q176_ok d176_3 fl_11_268 rfl (by first | assumption | exact so0 hsh rfl) (by first | assumption | rfl) ?_
  refine wp_iconst (v := 1) (by decide) q176_ok d176_6 ?_
  refine wp_isub rfl q176_ok d176_7 ?_
  refine wp_cS q176_ok d176_8 ml_11_218 rfl q131_ok rfl rfl rfl (Nat.le_of_ble_eq_true rfl) (Nat.le_of_ble_eq_true rfl) (m_in _ _ _) (fun v8 μ8 hc => ?_)
  obtain ⟨rfl, rfl⟩ := hc
  refine ⟨mm_le_same rfl, ?_⟩
  refine wp_zret q176_ok d176_11 rfl (by split; exact Or.inr rfl; exact Or.inl rfl) ?_
  exact ⟨rfl, rfl⟩
theorem m_are {xs : List Int32} {ext : mm_X} {n : Nat} {sh : mm_S} {d : mm_D} {g : mm_G} {r : mm_R} (hsh : shp sh) (hr : rfx r) (i : Int32) : wp xs ext (n + 1) 190 0 [some (.ref 250), some (.int i)] [] (sh, d, g, r) (fun v μ => v = some (.int (if ¬ d 250 26 ≤ 0 ∧ (1 ≤ i ∧ i ≤ 240) then 1 else 0)) ∧ μ = (sh, d, g, r)) := by
  refine wp_aload_n (j := 0) rfl q190_ok d190_0 ?_
  refine wp_getI q190_ok d190_1 fl_11_265 rfl (by first | assumption | exact so0 hsh rfl) (by first | assumption | rfl) ?_
  refine wp_if_le q190_ok d190_4 (t := 22) rfl (fun h4 => ?_) (fun h4 => ?_)
  · refine wp_iconst (v := 0) (by decide) q190_ok d190_22 ?_
    refine wp_zret q190_ok d190_23 rfl (by first | assumption | exact Or.inl rfl | exact Or.inr rfl) ?_
    exact ⟨by rw [if_neg (fun w => w.1 h4)], rfl⟩
  · refine wp_iload_n (j := 1) rfl q190_ok d190_7 ?_
    refine wp_iconst (v := 1) (by decide) q190_ok d190_8 ?_
    refine wp_sipush (v := 240) (by decide) q190_ok d190_9 ?_
    refine wp_cS q190_ok d190_12 ml_11_218 rfl q131_ok rfl rfl rfl (Nat.le_of_ble_eq_true rfl) (Nat.le_of_ble_eq_true rfl) (m_in _ _ _) (fun v12 μ12 hc => ?_)
    obtain ⟨rfl, rfl⟩ := hc
    refine ⟨mm_le_same rfl, ?_⟩
    by_cases q : 1 ≤ i ∧ i ≤ 240
    · rw [if_pos q]
      refine wp_if_eq q190_ok d190_15 (t := 22) rfl (fun h15 => ?_) (fun h15 => ?_)
      · exact absurd h15 (by decide)
      · refine wp_iconst (v := 1) (by decide) q190_ok d190_18 ?_
        refine wp_goto (t := 23) rfl q190_ok d190_19 ?_
        refine wp_zret q190_ok d190_23 rfl (by first | assumption | exact Or.inl rfl | exact Or.inr rfl) ?_
        exact ⟨by rw [if_pos ⟨h4, q⟩], rfl⟩
    · rw [if_neg q]
      refine wp_if_eq q190_ok d190_15 (t := 22) rfl (fun h15 => ?_) (fun h15 => ?_)
      · refine wp_iconst (v := 0) (by decide) q190_ok d190_22 ?_
        refine wp_zret q190_ok d190_23 rfl (by first | assumption | exact Or.inl rfl | exact Or.inr rfl) ?_
        exact ⟨by rw [if_neg (fun w => q w.2)], rfl⟩
      · exact absurd rfl h15
theorem m_isOn {xs : List Int32} {ext : mm_X} {n : Nat} {sh : mm_S} {d : mm_D} {g : mm_G} {r : mm_R} (hsh : shp sh) (hr : rfx r) {c k : Nat} {t f a q : Int32} (hso : so sh c 20) (hl : k + 2 < (sh.2.2.2 c).2) (hl2 : (sh.2.2.2 c).2 < 2 ^ 31) (hf : d c k = f) (ha : d c (k + 1) = a) (hq : d c (k + 2) = q) (h1 : 1 ≤ q) : wp xs ext (n + 1) 177 0 [some (.ref c), some (.int (nI k)), some (.int t)] [] (sh, d, g, r) (fun v μ => v = some (.int (onC t f a q)) ∧ μ = (sh, d, g, r)) := by
  have hq0 : ¬ q = 0 := fun e => by rw [e] at h1; exact absurd h1 (by decide)
  have hqp : ¬ q ≤ 0 := fun e => absurd (Int32.le_trans h1 e) (by decide)
  refine wp_iload_n (j := 2) rfl q177_ok d177_0 ?_
  refine wp_aload_n (j := 0) rfl q177_ok d177_1 ?_
  refine wp_iload_n (j := 1) rfl q177_ok d177_2 ?_
  refine wp_iconst (v := 0) (by decide) q177_ok d177_3 ?_
  refine wp_iadd rfl q177_ok d177_4 ?_
  refine wp_iald q177_ok d177_5 hso rfl (show ixn (nI k + 0) (k + 0) _ from by rw [show nI k + 0 = nI (k + 0) from (Int32.ofNat_add k 0).symm]; exact ixn_nI (by omega) hl2) hf ?_ (shK hsh)
  refine wp_isub rfl q177_ok d177_6 ?_
  refine wp_aload_n (j := 0) rfl q177_ok d177_7 ?_
  refine wp_iload_n (j := 1) rfl q177_ok d177_8 ?_
  refine wp_iconst (v := 2) (by decide) q177_ok d177_9 ?_
  refine wp_iadd rfl q177_ok d177_10 ?_
  refine wp_iald q177_ok d177_11 hso rfl (show ixn (nI k + 2) (k + 2) _ from by rw [show nI k + 2 = nI (k + 2) from (Int32.ofNat_add k 2).symm]; exact ixn_nI (by omega) hl2) hq ?_ (shK hsh)
  refine wp_cS q177_ok d177_12 ml_11_292 rfl q224_ok rfl rfl rfl (Nat.le_of_ble_eq_true rfl) (Nat.le_of_ble_eq_true rfl) (c_fmod _ _ hq0) (fun v12 μ12 hc => ?_)
  obtain ⟨rfl, rfl⟩ := hc
  refine ⟨mm_le_same rfl, ?_⟩
  refine wp_aload_n (j := 0) rfl q177_ok d177_15 ?_
  refine wp_iload_n (j := 1) rfl q177_ok d177_16 ?_
  refine wp_iconst (v := 1) (by decide) q177_ok d177_17 ?_
  refine wp_iadd rfl q177_ok d177_18 ?_
  refine wp_iald q177_ok d177_19 hso rfl (show ixn (nI k + 1) (k + 1) _ from by rw [show nI k + 1 = nI (k + 1) from (Int32.ofNat_add k 1).symm]; exact ixn_nI (by omega) hl2) ha ?_ (shK hsh)
  refine wp_icmp_ge q177_ok d177_20 (t := 27) rfl (fun h20 => ?_) (fun h20 => ?_)
  · refine wp_iconst (v := 0) (by decide) q177_ok d177_27 ?_
    refine wp_zret q177_ok d177_28 rfl (by first | assumption | exact Or.inl rfl | exact Or.inr rfl) ?_
    exact ⟨by unfold onC; rw [if_neg hqp, if_neg (Int32.not_lt.mpr h20)], rfl⟩
  · refine wp_iconst (v := 1) (by decide) q177_ok d177_23 ?_
    refine wp_goto (t := 28) rfl q177_ok d177_24 ?_
    refine wp_zret q177_ok d177_28 rfl (by first | assumption | exact Or.inl rfl | exact Or.inr rfl) ?_
    exact ⟨by unfold onC; rw [if_neg hqp, if_pos (Int32.not_le.mp h20)], rfl⟩
theorem m_bounded {xs : List Int32} {ext : mm_X} {n : Nat} {sh : mm_S} {d : mm_D} {g : mm_G} {r : mm_R}  (y : Int64) : wp xs ext (n + 1) 160 0 [some (.long y), none] [] (sh, d, g, r) (fun v μ => v = some (.int (mx64 (-1000000) (mn64 1000000 y)).toInt32) ∧ μ = (sh, d, g, r)) := by
  refine wp_ldc2 kl_11_193 q160_ok d160_0 ?_
  refine wp_ldc2 kl_11_195 q160_ok d160_3 ?_
  refine wp_lload_n (j := 0) rfl q160_ok d160_6 ?_
  refine wp_cS q160_ok d160_7 ml_11_197 rfl q228_ok rfl rfl rfl (Nat.le_of_ble_eq_true rfl) (Nat.le_of_ble_eq_true rfl) (c_minL _ _) (fun v7 μ7 hc => ?_)
  obtain ⟨rfl, rfl⟩ := hc
  refine ⟨mm_le_same rfl, ?_⟩
  refine wp_cS q160_ok d160_10 ml_11_203 rfl q226_ok rfl rfl rfl (Nat.le_of_ble_eq_true rfl) (Nat.le_of_ble_eq_true rfl) (c_maxL _ _) (fun v10 μ10 hc => ?_)
  obtain ⟨rfl, rfl⟩ := hc
  refine ⟨mm_le_same rfl, ?_⟩
  refine wp_l2i rfl q160_ok d160_13 ?_
  refine wp_iret q160_ok d160_14 rfl ?_
  exact ⟨rfl, rfl⟩
