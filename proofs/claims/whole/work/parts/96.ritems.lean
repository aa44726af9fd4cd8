/-! ===== the model reads items ===== -/
def chrI (k : Nat) : Int32 := if k = 0 then 112 else if k = 1 then 103 else 98
theorem itO_0 (c : Int32) : itO 0 c = if c = 102 then 0 else if c = 108 then 1 else if c = 113 then 2 else if c = 100 then 3 else -1 := rfl
theorem itO_1 (c : Int32) : itO 1 c = if c = 102 then 0 else if c = 108 then 1 else if c = 113 then 2 else if c = 118 then 3 else -1 := rfl
theorem itO_2 (c : Int32) : itO 2 c = if c = 104 then 0 else if c = 107 then 1 else if c = 114 then 2 else -1 := rfl
theorem m_item_0 {xs : List Int32} {ext : mm_X} {n : Nat} {sh : mm_S} {d : mm_D} {g : mm_G} {r : mm_R} (c : Int32) : wp xs ext (n + 0) 167 0 [some (.int 112), some (.int c)] [] (sh, d, g, r) (fun v μ => v = some (.int (itO 0 c)) ∧ μ = (sh, d, g, r)) := by
  refine wp_iload_n (j := 0) rfl q167_ok d167_0 ?_
  refine wp_bipush (v := 98) (by decide) q167_ok d167_1 ?_
  refine wp_icmp_ne q167_ok d167_3 (t := 38) rfl (fun h3 => ?_) (fun h3 => ?_)
  · refine wp_iload_n (j := 1) rfl q167_ok d167_38 ?_
    refine wp_bipush (v := 102) (by decide) q167_ok d167_39 ?_
    refine wp_icmp_ne q167_ok d167_41 (t := 48) rfl (fun h41 => ?_) (fun h41 => ?_)
    · refine wp_iload_n (j := 1) rfl q167_ok d167_48 ?_
      refine wp_bipush (v := 108) (by decide) q167_ok d167_49 ?_
      refine wp_icmp_ne q167_ok d167_51 (t := 58) rfl (fun h51 => ?_) (fun h51 => ?_)
      · refine wp_iload_n (j := 1) rfl q167_ok d167_58 ?_
        refine wp_bipush (v := 113) (by decide) q167_ok d167_59 ?_
        refine wp_icmp_ne q167_ok d167_61 (t := 68) rfl (fun h61 => ?_) (fun h61 => ?_)
        · refine wp_iload_n (j := 1) rfl q167_ok d167_68 ?_
          refine wp_iload_n (j := 0) rfl q167_ok d167_69 ?_
          refine wp_bipush (v := 112) (by decide) q167_ok d167_70 ?_
          refine wp_icmp_ne q167_ok d167_72 (t := 80) rfl (fun h72 => ?_) (fun h72 => ?_)
          · exact absurd rfl h72
          · have h72 := Classical.not_not.mp h72
            refine wp_bipush (v := 100) (by decide) q167_ok d167_75 ?_
            refine wp_goto (t := 82) rfl q167_ok d167_77 ?_
            refine wp_icmp_ne q167_ok d167_82 (t := 89) rfl (fun h82 => ?_) (fun h82 => ?_)
            · refine wp_iconst (v := -1) (by decide) q167_ok d167_89 ?_
              refine wp_iret q167_ok d167_90 rfl ?_
              exact ⟨by rw [itO_0, if_neg h41, if_neg h51, if_neg h61, if_neg h82], rfl⟩
            · have h82 := Classical.not_not.mp h82
              refine wp_iconst (v := 3) (by decide) q167_ok d167_85 ?_
              refine wp_goto (t := 90) rfl q167_ok d167_86 ?_
              refine wp_iret q167_ok d167_90 rfl ?_
              exact ⟨by rw [itO_0, if_neg h41, if_neg h51, if_neg h61, if_pos h82], rfl⟩
        · have h61 := Classical.not_not.mp h61
          refine wp_iconst (v := 2) (by decide) q167_ok d167_64 ?_
          refine wp_goto (t := 90) rfl q167_ok d167_65 ?_
          refine wp_iret q167_ok d167_90 rfl ?_
          exact ⟨by rw [itO_0, if_neg h41, if_neg h51, if_pos h61], rfl⟩
      · have h51 := Classical.not_not.mp h51
        refine wp_iconst (v := 1) (by decide) q167_ok d167_54 ?_
        refine wp_goto (t := 90) rfl q167_ok d167_55 ?_
        refine wp_iret q167_ok d167_90 rfl ?_
        exact ⟨by rw [itO_0, if_neg h41, if_pos h51], rfl⟩
    · have h41 := Classical.not_not.mp h41
      refine wp_iconst (v := 0) (by decide) q167_ok d167_44 ?_
      refine wp_goto (t := 90) rfl q167_ok d167_45 ?_
      refine wp_iret q167_ok d167_90 rfl ?_
      exact ⟨by rw [itO_0, if_pos h41], rfl⟩
  · have h3 := Classical.not_not.mp h3
    exact absurd h3 (by decide)
theorem m_item_1 {xs : List Int32} {ext : mm_X} {n : Nat} {sh : mm_S} {d : mm_D} {g : mm_G} {r : mm_R} (c : Int32) : wp xs ext (n + 0) 167 0 [some (.int 103), some (.int c)] [] (sh, d, g, r) (fun v μ => v = some (.int (itO 1 c)) ∧ μ = (sh, d, g, r)) := by
  refine wp_iload_n (j := 0) rfl q167_ok d167_0 ?_
  refine wp_bipush (v := 98) (by decide) q167_ok d167_1 ?_
  refine wp_icmp_ne q167_ok d167_3 (t := 38) rfl (fun h3 => ?_) (fun h3 => ?_)
  · refine wp_iload_n (j := 1) rfl q167_ok d167_38 ?_
    refine wp_bipush (v := 102) (by decide) q167_ok d167_39 ?_
    refine wp_icmp_ne q167_ok d167_41 (t := 48) rfl (fun h41 => ?_) (fun h41 => ?_)
    · refine wp_iload_n (j := 1) rfl q167_ok d167_48 ?_
      refine wp_bipush (v := 108) (by decide) q167_ok d167_49 ?_
      refine wp_icmp_ne q167_ok d167_51 (t := 58) rfl (fun h51 => ?_) (fun h51 => ?_)
      · refine wp_iload_n (j := 1) rfl q167_ok d167_58 ?_
        refine wp_bipush (v := 113) (by decide) q167_ok d167_59 ?_
        refine wp_icmp_ne q167_ok d167_61 (t := 68) rfl (fun h61 => ?_) (fun h61 => ?_)
        · refine wp_iload_n (j := 1) rfl q167_ok d167_68 ?_
          refine wp_iload_n (j := 0) rfl q167_ok d167_69 ?_
          refine wp_bipush (v := 112) (by decide) q167_ok d167_70 ?_
          refine wp_icmp_ne q167_ok d167_72 (t := 80) rfl (fun h72 => ?_) (fun h72 => ?_)
          · refine wp_bipush (v := 118) (by decide) q167_ok d167_80 ?_
            refine wp_icmp_ne q167_ok d167_82 (t := 89) rfl (fun h82 => ?_) (fun h82 => ?_)
            · refine wp_iconst (v := -1) (by decide) q167_ok d167_89 ?_
              refine wp_iret q167_ok d167_90 rfl ?_
              exact ⟨by rw [itO_1, if_neg h41, if_neg h51, if_neg h61, if_neg h82], rfl⟩
            · have h82 := Classical.not_not.mp h82
              refine wp_iconst (v := 3) (by decide) q167_ok d167_85 ?_
              refine wp_goto (t := 90) rfl q167_ok d167_86 ?_
              refine wp_iret q167_ok d167_90 rfl ?_
              exact ⟨by rw [itO_1, if_neg h41, if_neg h51, if_neg h61, if_pos h82], rfl⟩
          · have h72 := Classical.not_not.mp h72
            exact absurd h72 (by decide)
        · have h61 := Classical.not_not.mp h61
          refine wp_iconst (v := 2) (by decide) q167_ok d167_64 ?_
          refine wp_goto (t := 90) rfl q167_ok d167_65 ?_
          refine wp_iret q167_ok d167_90 rfl ?_
          exact ⟨by rw [itO_1, if_neg h41, if_neg h51, if_pos h61], rfl⟩
      · have h51 := Classical.not_not.mp h51
        refine wp_iconst (v := 1) (by decide) q167_ok d167_54 ?_
        refine wp_goto (t := 90) rfl q167_ok d167_55 ?_
        refine wp_iret q167_ok d167_90 rfl ?_
        exact ⟨by rw [itO_1, if_neg h41, if_pos h51], rfl⟩
    · have h41 := Classical.not_not.mp h41
      refine wp_iconst (v := 0) (by decide) q167_ok d167_44 ?_
      refine wp_goto (t := 90) rfl q167_ok d167_45 ?_
      refine wp_iret q167_ok d167_90 rfl ?_
      exact ⟨by rw [itO_1, if_pos h41], rfl⟩
  · have h3 := Classical.not_not.mp h3
    exact absurd h3 (by decide)
theorem m_item_2 {xs : List Int32} {ext : mm_X} {n : Nat} {sh : mm_S} {d : mm_D} {g : mm_G} {r : mm_R} (c : Int32) : wp xs ext (n + 0) 167 0 [some (.int 98), some (.int c)] [] (sh, d, g, r) (fun v μ => v = some (.int (itO 2 c)) ∧ μ = (sh, d, g, r)) := by
  refine wp_iload_n (j := 0) rfl q167_ok d167_0 ?_
  refine wp_bipush (v := 98) (by decide) q167_ok d167_1 ?_
  refine wp_icmp_ne q167_ok d167_3 (t := 38) rfl (fun h3 => ?_) (fun h3 => ?_)
  · exact absurd rfl h3
  · have h3 := Classical.not_not.mp h3
    refine wp_iload_n (j := 1) rfl q167_ok d167_6 ?_
    refine wp_bipush (v := 104) (by decide) q167_ok d167_7 ?_
    refine wp_icmp_ne q167_ok d167_9 (t := 16) rfl (fun h9 => ?_) (fun h9 => ?_)
    · refine wp_iload_n (j := 1) rfl q167_ok d167_16 ?_
      refine wp_bipush (v := 107) (by decide) q167_ok d167_17 ?_
      refine wp_icmp_ne q167_ok d167_19 (t := 26) rfl (fun h19 => ?_) (fun h19 => ?_)
      · refine wp_iload_n (j := 1) rfl q167_ok d167_26 ?_
        refine wp_bipush (v := 114) (by decide) q167_ok d167_27 ?_
        refine wp_icmp_ne q167_ok d167_29 (t := 36) rfl (fun h29 => ?_) (fun h29 => ?_)
        · refine wp_iconst (v := -1) (by decide) q167_ok d167_36 ?_
          refine wp_iret q167_ok d167_37 rfl ?_
          exact ⟨by rw [itO_2, if_neg h9, if_neg h19, if_neg h29], rfl⟩
        · have h29 := Classical.not_not.mp h29
          refine wp_iconst (v := 2) (by decide) q167_ok d167_32 ?_
          refine wp_goto (t := 37) rfl q167_ok d167_33 ?_
          refine wp_iret q167_ok d167_37 rfl ?_
          exact ⟨by rw [itO_2, if_neg h9, if_neg h19, if_pos h29], rfl⟩
      · have h19 := Classical.not_not.mp h19
        refine wp_iconst (v := 1) (by decide) q167_ok d167_22 ?_
        refine wp_goto (t := 37) rfl q167_ok d167_23 ?_
        refine wp_iret q167_ok d167_37 rfl ?_
        exact ⟨by rw [itO_2, if_neg h9, if_pos h19], rfl⟩
    · have h9 := Classical.not_not.mp h9
      refine wp_iconst (v := 0) (by decide) q167_ok d167_12 ?_
      refine wp_goto (t := 37) rfl q167_ok d167_13 ?_
      refine wp_iret q167_ok d167_37 rfl ?_
      exact ⟨by rw [itO_2, if_pos h9], rfl⟩
theorem m_item {xs : List Int32} {ext : mm_X} {n : Nat} {sh : mm_S} {d : mm_D} {g : mm_G} {r : mm_R} {k : Nat} (hk : k < 3) (c : Int32) : wp xs ext (n + 0) 167 0 [some (.int (chrI k)), some (.int c)] [] (sh, d, g, r) (fun v μ => v = some (.int (itO k c)) ∧ μ = (sh, d, g, r)) := by
  have : k = 0 ∨ k = 1 ∨ k = 2 := by omega
  rcases this with rfl | rfl | rfl
  · exact m_item_0 c
  · exact m_item_1 c
  · exact m_item_2 c
theorem m_lowest {xs : List Int32} {ext : mm_X} {n : Nat} {sh : mm_S} {d : mm_D} {g : mm_G} {r : mm_R} {k j : Nat} (hk : k < 3) (hj : j < mK k) : wp xs ext (n + 0) 168 0 [some (.int (chrI k)), some (.int (nI j))] [] (sh, d, g, r) (fun v μ => v = some (.int (tabI k (4 * j + 1))) ∧ μ = (sh, d, g, r)) := by
  have : k = 0 ∨ k = 1 ∨ k = 2 := by omega
  rcases this with rfl | rfl | rfl
  · have : j = 0 ∨ j = 1 ∨ j = 2 ∨ j = 3 := by have hj : j < 4 := hj; omega
    rcases this with rfl | rfl | rfl | rfl
    · refine wp_iload_n (j := 0) rfl q168_ok d168_0 ?_
      refine wp_bipush (v := 98) (by decide) q168_ok d168_1 ?_
      refine wp_icmp_ne q168_ok d168_3 (t := 18) rfl (fun h3 => ?_) (fun h3 => ?_)
      · refine wp_iload_n (j := 1) rfl q168_ok d168_18 ?_
        refine wp_iconst (v := 2) (by decide) q168_ok d168_19 ?_
        refine wp_icmp_ne q168_ok d168_20 (t := 27) rfl (fun h20 => ?_) (fun h20 => ?_)
        · refine wp_iconst (v := 0) (by decide) q168_ok d168_27 ?_
          refine wp_iret q168_ok d168_28 rfl ?_
          exact ⟨rfl, rfl⟩
        · have h20 := Classical.not_not.mp h20
          exact absurd h20 (by decide)
      · have h3 := Classical.not_not.mp h3
        exact absurd h3 (by decide)
    · refine wp_iload_n (j := 0) rfl q168_ok d168_0 ?_
      refine wp_bipush (v := 98) (by decide) q168_ok d168_1 ?_
      refine wp_icmp_ne q168_ok d168_3 (t := 18) rfl (fun h3 => ?_) (fun h3 => ?_)
      · refine wp_iload_n (j := 1) rfl q168_ok d168_18 ?_
        refine wp_iconst (v := 2) (by decide) q168_ok d168_19 ?_
        refine wp_icmp_ne q168_ok d168_20 (t := 27) rfl (fun h20 => ?_) (fun h20 => ?_)
        · refine wp_iconst (v := 0) (by decide) q168_ok d168_27 ?_
          refine wp_iret q168_ok d168_28 rfl ?_
          exact ⟨rfl, rfl⟩
        · have h20 := Classical.not_not.mp h20
          exact absurd h20 (by decide)
      · have h3 := Classical.not_not.mp h3
        exact absurd h3 (by decide)
    · refine wp_iload_n (j := 0) rfl q168_ok d168_0 ?_
      refine wp_bipush (v := 98) (by decide) q168_ok d168_1 ?_
      refine wp_icmp_ne q168_ok d168_3 (t := 18) rfl (fun h3 => ?_) (fun h3 => ?_)
      · refine wp_iload_n (j := 1) rfl q168_ok d168_18 ?_
        refine wp_iconst (v := 2) (by decide) q168_ok d168_19 ?_
        refine wp_icmp_ne q168_ok d168_20 (t := 27) rfl (fun h20 => ?_) (fun h20 => ?_)
        · exact absurd rfl h20
        · have h20 := Classical.not_not.mp h20
          refine wp_iconst (v := 1) (by decide) q168_ok d168_23 ?_
          refine wp_goto (t := 28) rfl q168_ok d168_24 ?_
          refine wp_iret q168_ok d168_28 rfl ?_
          exact ⟨rfl, rfl⟩
      · have h3 := Classical.not_not.mp h3
        exact absurd h3 (by decide)
    · refine wp_iload_n (j := 0) rfl q168_ok d168_0 ?_
      refine wp_bipush (v := 98) (by decide) q168_ok d168_1 ?_
      refine wp_icmp_ne q168_ok d168_3 (t := 18) rfl (fun h3 => ?_) (fun h3 => ?_)
      · refine wp_iload_n (j := 1) rfl q168_ok d168_18 ?_
        refine wp_iconst (v := 2) (by decide) q168_ok d168_19 ?_
        refine wp_icmp_ne q168_ok d168_20 (t := 27) rfl (fun h20 => ?_) (fun h20 => ?_)
        · refine wp_iconst (v := 0) (by decide) q168_ok d168_27 ?_
          refine wp_iret q168_ok d168_28 rfl ?_
          exact ⟨rfl, rfl⟩
        · have h20 := Classical.not_not.mp h20
          exact absurd h20 (by decide)
      · have h3 := Classical.not_not.mp h3
        exact absurd h3 (by decide)
  · have : j = 0 ∨ j = 1 ∨ j = 2 ∨ j = 3 := by have hj : j < 4 := hj; omega
    rcases this with rfl | rfl | rfl | rfl
    · refine wp_iload_n (j := 0) rfl q168_ok d168_0 ?_
      refine wp_bipush (v := 98) (by decide) q168_ok d168_1 ?_
      refine wp_icmp_ne q168_ok d168_3 (t := 18) rfl (fun h3 => ?_) (fun h3 => ?_)
      · refine wp_iload_n (j := 1) rfl q168_ok d168_18 ?_
        refine wp_iconst (v := 2) (by decide) q168_ok d168_19 ?_
        refine wp_icmp_ne q168_ok d168_20 (t := 27) rfl (fun h20 => ?_) (fun h20 => ?_)
        · refine wp_iconst (v := 0) (by decide) q168_ok d168_27 ?_
          refine wp_iret q168_ok d168_28 rfl ?_
          exact ⟨rfl, rfl⟩
        · have h20 := Classical.not_not.mp h20
          exact absurd h20 (by decide)
      · have h3 := Classical.not_not.mp h3
        exact absurd h3 (by decide)
    · refine wp_iload_n (j := 0) rfl q168_ok d168_0 ?_
      refine wp_bipush (v := 98) (by decide) q168_ok d168_1 ?_
      refine wp_icmp_ne q168_ok d168_3 (t := 18) rfl (fun h3 => ?_) (fun h3 => ?_)
      · refine wp_iload_n (j := 1) rfl q168_ok d168_18 ?_
        refine wp_iconst (v := 2) (by decide) q168_ok d168_19 ?_
        refine wp_icmp_ne q168_ok d168_20 (t := 27) rfl (fun h20 => ?_) (fun h20 => ?_)
        · refine wp_iconst (v := 0) (by decide) q168_ok d168_27 ?_
          refine wp_iret q168_ok d168_28 rfl ?_
          exact ⟨rfl, rfl⟩
        · have h20 := Classical.not_not.mp h20
          exact absurd h20 (by decide)
      · have h3 := Classical.not_not.mp h3
        exact absurd h3 (by decide)
    · refine wp_iload_n (j := 0) rfl q168_ok d168_0 ?_
      refine wp_bipush (v := 98) (by decide) q168_ok d168_1 ?_
      refine wp_icmp_ne q168_ok d168_3 (t := 18) rfl (fun h3 => ?_) (fun h3 => ?_)
      · refine wp_iload_n (j := 1) rfl q168_ok d168_18 ?_
        refine wp_iconst (v := 2) (by decide) q168_ok d168_19 ?_
        refine wp_icmp_ne q168_ok d168_20 (t := 27) rfl (fun h20 => ?_) (fun h20 => ?_)
        · exact absurd rfl h20
        · have h20 := Classical.not_not.mp h20
          refine wp_iconst (v := 1) (by decide) q168_ok d168_23 ?_
          refine wp_goto (t := 28) rfl q168_ok d168_24 ?_
          refine wp_iret q168_ok d168_28 rfl ?_
          exact ⟨rfl, rfl⟩
      · have h3 := Classical.not_not.mp h3
        exact absurd h3 (by decide)
    · refine wp_iload_n (j := 0) rfl q168_ok d168_0 ?_
      refine wp_bipush (v := 98) (by decide) q168_ok d168_1 ?_
      refine wp_icmp_ne q168_ok d168_3 (t := 18) rfl (fun h3 => ?_) (fun h3 => ?_)
      · refine wp_iload_n (j := 1) rfl q168_ok d168_18 ?_
        refine wp_iconst (v := 2) (by decide) q168_ok d168_19 ?_
        refine wp_icmp_ne q168_ok d168_20 (t := 27) rfl (fun h20 => ?_) (fun h20 => ?_)
        · refine wp_iconst (v := 0) (by decide) q168_ok d168_27 ?_
          refine wp_iret q168_ok d168_28 rfl ?_
          exact ⟨rfl, rfl⟩
        · have h20 := Classical.not_not.mp h20
          exact absurd h20 (by decide)
      · have h3 := Classical.not_not.mp h3
        exact absurd h3 (by decide)
  · have : j = 0 ∨ j = 1 ∨ j = 2 := by have hj : j < 3 := hj; omega
    rcases this with rfl | rfl | rfl
    · refine wp_iload_n (j := 0) rfl q168_ok d168_0 ?_
      refine wp_bipush (v := 98) (by decide) q168_ok d168_1 ?_
      refine wp_icmp_ne q168_ok d168_3 (t := 18) rfl (fun h3 => ?_) (fun h3 => ?_)
      · exact absurd rfl h3
      · have h3 := Classical.not_not.mp h3
        refine wp_iload_n (j := 1) rfl q168_ok d168_6 ?_
        refine wp_if_ne q168_ok d168_7 (t := 14) rfl (fun h7 => ?_) (fun h7 => ?_)
        · exact absurd rfl h7
        · have h7 := Classical.not_not.mp h7
          refine wp_iconst (v := 5) (by decide) q168_ok d168_10 ?_
          refine wp_goto (t := 28) rfl q168_ok d168_11 ?_
          refine wp_iret q168_ok d168_28 rfl ?_
          exact ⟨rfl, rfl⟩
    · refine wp_iload_n (j := 0) rfl q168_ok d168_0 ?_
      refine wp_bipush (v := 98) (by decide) q168_ok d168_1 ?_
      refine wp_icmp_ne q168_ok d168_3 (t := 18) rfl (fun h3 => ?_) (fun h3 => ?_)
      · exact absurd rfl h3
      · have h3 := Classical.not_not.mp h3
        refine wp_iload_n (j := 1) rfl q168_ok d168_6 ?_
        refine wp_if_ne q168_ok d168_7 (t := 14) rfl (fun h7 => ?_) (fun h7 => ?_)
        · refine wp_iconst (v := 0) (by decide) q168_ok d168_14 ?_
          refine wp_goto (t := 28) rfl q168_ok d168_15 ?_
          refine wp_iret q168_ok d168_28 rfl ?_
          exact ⟨rfl, rfl⟩
        · have h7 := Classical.not_not.mp h7
          exact absurd h7 (by decide)
    · refine wp_iload_n (j := 0) rfl q168_ok d168_0 ?_
      refine wp_bipush (v := 98) (by decide) q168_ok d168_1 ?_
      refine wp_icmp_ne q168_ok d168_3 (t := 18) rfl (fun h3 => ?_) (fun h3 => ?_)
      · exact absurd rfl h3
      · have h3 := Classical.not_not.mp h3
        refine wp_iload_n (j := 1) rfl q168_ok d168_6 ?_
        refine wp_if_ne q168_ok d168_7 (t := 14) rfl (fun h7 => ?_) (fun h7 => ?_)
        · refine wp_iconst (v := 0) (by decide) q168_ok d168_14 ?_
          refine wp_goto (t := 28) rfl q168_ok d168_15 ?_
          refine wp_iret q168_ok d168_28 rfl ?_
          exact ⟨rfl, rfl⟩
        · have h7 := Classical.not_not.mp h7
          exact absurd h7 (by decide)
theorem m_highest {xs : List Int32} {ext : mm_X} {n : Nat} {sh : mm_S} {d : mm_D} {g : mm_G} {r : mm_R} {k j : Nat} (hk : k < 3) (hj : j < mK k) : wp xs ext (n + 0) 169 0 [some (.int (chrI k)), some (.int (nI j))] [] (sh, d, g, r) (fun v μ => v = some (.int (tabI k (4 * j + 2))) ∧ μ = (sh, d, g, r)) := by
  have : k = 0 ∨ k = 1 ∨ k = 2 := by omega
  rcases this with rfl | rfl | rfl
  · have : j = 0 ∨ j = 1 ∨ j = 2 ∨ j = 3 := by have hj : j < 4 := hj; omega
    rcases this with rfl | rfl | rfl | rfl
    · refine wp_iload_n (j := 0) rfl q169_ok d169_0 ?_
      refine wp_bipush (v := 98) (by decide) q169_ok d169_1 ?_
      refine wp_icmp_ne q169_ok d169_3 (t := 29) rfl (fun h3 => ?_) (fun h3 => ?_)
      · refine wp_iload_n (j := 1) rfl q169_ok d169_29 ?_
        refine wp_if_ne q169_ok d169_30 (t := 38) rfl (fun h30 => ?_) (fun h30 => ?_)
        · exact absurd rfl h30
        · have h30 := Classical.not_not.mp h30
          refine wp_bipush (v := 59) (by decide) q169_ok d169_33 ?_
          refine wp_goto (t := 50) rfl q169_ok d169_35 ?_
          refine wp_iret q169_ok d169_50 rfl ?_
          exact ⟨rfl, rfl⟩
      · have h3 := Classical.not_not.mp h3
        exact absurd h3 (by decide)
    · refine wp_iload_n (j := 0) rfl q169_ok d169_0 ?_
      refine wp_bipush (v := 98) (by decide) q169_ok d169_1 ?_
      refine wp_icmp_ne q169_ok d169_3 (t := 29) rfl (fun h3 => ?_) (fun h3 => ?_)
      · refine wp_iload_n (j := 1) rfl q169_ok d169_29 ?_
        refine wp_if_ne q169_ok d169_30 (t := 38) rfl (fun h30 => ?_) (fun h30 => ?_)
        · refine wp_iload_n (j := 1) rfl q169_ok d169_38 ?_
          refine wp_iconst (v := 3) (by decide) q169_ok d169_39 ?_
          refine wp_icmp_ne q169_ok d169_40 (t := 48) rfl (fun h40 => ?_) (fun h40 => ?_)
          · refine wp_bipush (v := 60) (by decide) q169_ok d169_48 ?_
            refine wp_iret q169_ok d169_50 rfl ?_
            exact ⟨rfl, rfl⟩
          · have h40 := Classical.not_not.mp h40
            exact absurd h40 (by decide)
        · have h30 := Classical.not_not.mp h30
          exact absurd h30 (by decide)
      · have h3 := Classical.not_not.mp h3
        exact absurd h3 (by decide)
    · refine wp_iload_n (j := 0) rfl q169_ok d169_0 ?_
      refine wp_bipush (v := 98) (by decide) q169_ok d169_1 ?_
      refine wp_icmp_ne q169_ok d169_3 (t := 29) rfl (fun h3 => ?_) (fun h3 => ?_)
      · refine wp_iload_n (j := 1) rfl q169_ok d169_29 ?_
        refine wp_if_ne q169_ok d169_30 (t := 38) rfl (fun h30 => ?_) (fun h30 => ?_)
        · refine wp_iload_n (j := 1) rfl q169_ok d169_38 ?_
          refine wp_iconst (v := 3) (by decide) q169_ok d169_39 ?_
          refine wp_icmp_ne q169_ok d169_40 (t := 48) rfl (fun h40 => ?_) (fun h40 => ?_)
          · refine wp_bipush (v := 60) (by decide) q169_ok d169_48 ?_
            refine wp_iret q169_ok d169_50 rfl ?_
            exact ⟨rfl, rfl⟩
          · have h40 := Classical.not_not.mp h40
            exact absurd h40 (by decide)
        · have h30 := Classical.not_not.mp h30
          exact absurd h30 (by decide)
      · have h3 := Classical.not_not.mp h3
        exact absurd h3 (by decide)
    · refine wp_iload_n (j := 0) rfl q169_ok d169_0 ?_
      refine wp_bipush (v := 98) (by decide) q169_ok d169_1 ?_
      refine wp_icmp_ne q169_ok d169_3 (t := 29) rfl (fun h3 => ?_) (fun h3 => ?_)
      · refine wp_iload_n (j := 1) rfl q169_ok d169_29 ?_
        refine wp_if_ne q169_ok d169_30 (t := 38) rfl (fun h30 => ?_) (fun h30 => ?_)
        · refine wp_iload_n (j := 1) rfl q169_ok d169_38 ?_
          refine wp_iconst (v := 3) (by decide) q169_ok d169_39 ?_
          refine wp_icmp_ne q169_ok d169_40 (t := 48) rfl (fun h40 => ?_) (fun h40 => ?_)
          · exact absurd rfl h40
          · have h40 := Classical.not_not.mp h40
            refine wp_bipush (v := 9) (by decide) q169_ok d169_43 ?_
            refine wp_goto (t := 50) rfl q169_ok d169_45 ?_
            refine wp_iret q169_ok d169_50 rfl ?_
            exact ⟨rfl, rfl⟩
        · have h30 := Classical.not_not.mp h30
          exact absurd h30 (by decide)
      · have h3 := Classical.not_not.mp h3
        exact absurd h3 (by decide)
  · have : j = 0 ∨ j = 1 ∨ j = 2 ∨ j = 3 := by have hj : j < 4 := hj; omega
    rcases this with rfl | rfl | rfl | rfl
    · refine wp_iload_n (j := 0) rfl q169_ok d169_0 ?_
      refine wp_bipush (v := 98) (by decide) q169_ok d169_1 ?_
      refine wp_icmp_ne q169_ok d169_3 (t := 29) rfl (fun h3 => ?_) (fun h3 => ?_)
      · refine wp_iload_n (j := 1) rfl q169_ok d169_29 ?_
        refine wp_if_ne q169_ok d169_30 (t := 38) rfl (fun h30 => ?_) (fun h30 => ?_)
        · exact absurd rfl h30
        · have h30 := Classical.not_not.mp h30
          refine wp_bipush (v := 59) (by decide) q169_ok d169_33 ?_
          refine wp_goto (t := 50) rfl q169_ok d169_35 ?_
          refine wp_iret q169_ok d169_50 rfl ?_
          exact ⟨rfl, rfl⟩
      · have h3 := Classical.not_not.mp h3
        exact absurd h3 (by decide)
    · refine wp_iload_n (j := 0) rfl q169_ok d169_0 ?_
      refine wp_bipush (v := 98) (by decide) q169_ok d169_1 ?_
      refine wp_icmp_ne q169_ok d169_3 (t := 29) rfl (fun h3 => ?_) (fun h3 => ?_)
      · refine wp_iload_n (j := 1) rfl q169_ok d169_29 ?_
        refine wp_if_ne q169_ok d169_30 (t := 38) rfl (fun h30 => ?_) (fun h30 => ?_)
        · refine wp_iload_n (j := 1) rfl q169_ok d169_38 ?_
          refine wp_iconst (v := 3) (by decide) q169_ok d169_39 ?_
          refine wp_icmp_ne q169_ok d169_40 (t := 48) rfl (fun h40 => ?_) (fun h40 => ?_)
          · refine wp_bipush (v := 60) (by decide) q169_ok d169_48 ?_
            refine wp_iret q169_ok d169_50 rfl ?_
            exact ⟨rfl, rfl⟩
          · have h40 := Classical.not_not.mp h40
            exact absurd h40 (by decide)
        · have h30 := Classical.not_not.mp h30
          exact absurd h30 (by decide)
      · have h3 := Classical.not_not.mp h3
        exact absurd h3 (by decide)
    · refine wp_iload_n (j := 0) rfl q169_ok d169_0 ?_
      refine wp_bipush (v := 98) (by decide) q169_ok d169_1 ?_
      refine wp_icmp_ne q169_ok d169_3 (t := 29) rfl (fun h3 => ?_) (fun h3 => ?_)
      · refine wp_iload_n (j := 1) rfl q169_ok d169_29 ?_
        refine wp_if_ne q169_ok d169_30 (t := 38) rfl (fun h30 => ?_) (fun h30 => ?_)
        · refine wp_iload_n (j := 1) rfl q169_ok d169_38 ?_
          refine wp_iconst (v := 3) (by decide) q169_ok d169_39 ?_
          refine wp_icmp_ne q169_ok d169_40 (t := 48) rfl (fun h40 => ?_) (fun h40 => ?_)
          · refine wp_bipush (v := 60) (by decide) q169_ok d169_48 ?_
            refine wp_iret q169_ok d169_50 rfl ?_
            exact ⟨rfl, rfl⟩
          · have h40 := Classical.not_not.mp h40
            exact absurd h40 (by decide)
        · have h30 := Classical.not_not.mp h30
          exact absurd h30 (by decide)
      · have h3 := Classical.not_not.mp h3
        exact absurd h3 (by decide)
    · refine wp_iload_n (j := 0) rfl q169_ok d169_0 ?_
      refine wp_bipush (v := 98) (by decide) q169_ok d169_1 ?_
      refine wp_icmp_ne q169_ok d169_3 (t := 29) rfl (fun h3 => ?_) (fun h3 => ?_)
      · refine wp_iload_n (j := 1) rfl q169_ok d169_29 ?_
        refine wp_if_ne q169_ok d169_30 (t := 38) rfl (fun h30 => ?_) (fun h30 => ?_)
        · refine wp_iload_n (j := 1) rfl q169_ok d169_38 ?_
          refine wp_iconst (v := 3) (by decide) q169_ok d169_39 ?_
          refine wp_icmp_ne q169_ok d169_40 (t := 48) rfl (fun h40 => ?_) (fun h40 => ?_)
          · exact absurd rfl h40
          · have h40 := Classical.not_not.mp h40
            refine wp_bipush (v := 9) (by decide) q169_ok d169_43 ?_
            refine wp_goto (t := 50) rfl q169_ok d169_45 ?_
            refine wp_iret q169_ok d169_50 rfl ?_
            exact ⟨rfl, rfl⟩
        · have h30 := Classical.not_not.mp h30
          exact absurd h30 (by decide)
      · have h3 := Classical.not_not.mp h3
        exact absurd h3 (by decide)
  · have : j = 0 ∨ j = 1 ∨ j = 2 := by have hj : j < 3 := hj; omega
    rcases this with rfl | rfl | rfl
    · refine wp_iload_n (j := 0) rfl q169_ok d169_0 ?_
      refine wp_bipush (v := 98) (by decide) q169_ok d169_1 ?_
      refine wp_icmp_ne q169_ok d169_3 (t := 29) rfl (fun h3 => ?_) (fun h3 => ?_)
      · exact absurd rfl h3
      · have h3 := Classical.not_not.mp h3
        refine wp_iload_n (j := 1) rfl q169_ok d169_6 ?_
        refine wp_if_ne q169_ok d169_7 (t := 15) rfl (fun h7 => ?_) (fun h7 => ?_)
        · exact absurd rfl h7
        · have h7 := Classical.not_not.mp h7
          refine wp_bipush (v := 60) (by decide) q169_ok d169_10 ?_
          refine wp_goto (t := 50) rfl q169_ok d169_12 ?_
          refine wp_iret q169_ok d169_50 rfl ?_
          exact ⟨rfl, rfl⟩
    · refine wp_iload_n (j := 0) rfl q169_ok d169_0 ?_
      refine wp_bipush (v := 98) (by decide) q169_ok d169_1 ?_
      refine wp_icmp_ne q169_ok d169_3 (t := 29) rfl (fun h3 => ?_) (fun h3 => ?_)
      · exact absurd rfl h3
      · have h3 := Classical.not_not.mp h3
        refine wp_iload_n (j := 1) rfl q169_ok d169_6 ?_
        refine wp_if_ne q169_ok d169_7 (t := 15) rfl (fun h7 => ?_) (fun h7 => ?_)
        · refine wp_iload_n (j := 1) rfl q169_ok d169_15 ?_
          refine wp_iconst (v := 1) (by decide) q169_ok d169_16 ?_
          refine wp_icmp_ne q169_ok d169_17 (t := 24) rfl (fun h17 => ?_) (fun h17 => ?_)
          · exact absurd rfl h17
          · have h17 := Classical.not_not.mp h17
            refine wp_iconst (v := 1) (by decide) q169_ok d169_20 ?_
            refine wp_goto (t := 50) rfl q169_ok d169_21 ?_
            refine wp_iret q169_ok d169_50 rfl ?_
            exact ⟨rfl, rfl⟩
        · have h7 := Classical.not_not.mp h7
          exact absurd h7 (by decide)
    · refine wp_iload_n (j := 0) rfl q169_ok d169_0 ?_
      refine wp_bipush (v := 98) (by decide) q169_ok d169_1 ?_
      refine wp_icmp_ne q169_ok d169_3 (t := 29) rfl (fun h3 => ?_) (fun h3 => ?_)
      · exact absurd rfl h3
      · have h3 := Classical.not_not.mp h3
        refine wp_iload_n (j := 1) rfl q169_ok d169_6 ?_
        refine wp_if_ne q169_ok d169_7 (t := 15) rfl (fun h7 => ?_) (fun h7 => ?_)
        · refine wp_iload_n (j := 1) rfl q169_ok d169_15 ?_
          refine wp_iconst (v := 1) (by decide) q169_ok d169_16 ?_
          refine wp_icmp_ne q169_ok d169_17 (t := 24) rfl (fun h17 => ?_) (fun h17 => ?_)
          · refine wp_bipush (v := 9) (by decide) q169_ok d169_24 ?_
            refine wp_goto (t := 50) rfl q169_ok d169_26 ?_
            refine wp_iret q169_ok d169_50 rfl ?_
            exact ⟨rfl, rfl⟩
          · have h17 := Classical.not_not.mp h17
            exact absurd h17 (by decide)
        · have h7 := Classical.not_not.mp h7
          exact absurd h7 (by decide)
theorem m_usual {xs : List Int32} {ext : mm_X} {n : Nat} {sh : mm_S} {d : mm_D} {g : mm_G} {r : mm_R} {k j : Nat} (hk : k < 3) (hj : j < mK k) : wp xs ext (n + 0) 170 0 [some (.int (chrI k)), some (.int (nI j))] [] (sh, d, g, r) (fun v μ => v = some (.int (tabI k (4 * j + 3))) ∧ μ = (sh, d, g, r)) := by
  have : k = 0 ∨ k = 1 ∨ k = 2 := by omega
  rcases this with rfl | rfl | rfl
  · have : j = 0 ∨ j = 1 ∨ j = 2 ∨ j = 3 := by have hj : j < 4 := hj; omega
    rcases this with rfl | rfl | rfl | rfl
    · refine wp_iload_n (j := 0) rfl q170_ok d170_0 ?_
      refine wp_bipush (v := 98) (by decide) q170_ok d170_1 ?_
      refine wp_icmp_ne q170_ok d170_3 (t := 27) rfl (fun h3 => ?_) (fun h3 => ?_)
      · refine wp_iload_n (j := 0) rfl q170_ok d170_27 ?_
        refine wp_bipush (v := 103) (by decide) q170_ok d170_28 ?_
        refine wp_icmp_ne q170_ok d170_30 (t := 55) rfl (fun h30 => ?_) (fun h30 => ?_)
        · refine wp_iload_n (j := 1) rfl q170_ok d170_55 ?_
          refine wp_iconst (v := 1) (by decide) q170_ok d170_56 ?_
          refine wp_icmp_ne q170_ok d170_57 (t := 64) rfl (fun h57 => ?_) (fun h57 => ?_)
          · refine wp_iload_n (j := 1) rfl q170_ok d170_64 ?_
            refine wp_iconst (v := 2) (by decide) q170_ok d170_65 ?_
            refine wp_icmp_ne q170_ok d170_66 (t := 74) rfl (fun h66 => ?_) (fun h66 => ?_)
            · refine wp_iload_n (j := 1) rfl q170_ok d170_74 ?_
              refine wp_iconst (v := 3) (by decide) q170_ok d170_75 ?_
              refine wp_icmp_ne q170_ok d170_76 (t := 83) rfl (fun h76 => ?_) (fun h76 => ?_)
              · refine wp_iconst (v := 0) (by decide) q170_ok d170_83 ?_
                refine wp_iret q170_ok d170_84 rfl ?_
                exact ⟨rfl, rfl⟩
              · have h76 := Classical.not_not.mp h76
                exact absurd h76 (by decide)
            · have h66 := Classical.not_not.mp h66
              exact absurd h66 (by decide)
          · have h57 := Classical.not_not.mp h57
            exact absurd h57 (by decide)
        · have h30 := Classical.not_not.mp h30
          exact absurd h30 (by decide)
      · have h3 := Classical.not_not.mp h3
        exact absurd h3 (by decide)
    · refine wp_iload_n (j := 0) rfl q170_ok d170_0 ?_
      refine wp_bipush (v := 98) (by decide) q170_ok d170_1 ?_
      refine wp_icmp_ne q170_ok d170_3 (t := 27) rfl (fun h3 => ?_) (fun h3 => ?_)
      · refine wp_iload_n (j := 0) rfl q170_ok d170_27 ?_
        refine wp_bipush (v := 103) (by decide) q170_ok d170_28 ?_
        refine wp_icmp_ne q170_ok d170_30 (t := 55) rfl (fun h30 => ?_) (fun h30 => ?_)
        · refine wp_iload_n (j := 1) rfl q170_ok d170_55 ?_
          refine wp_iconst (v := 1) (by decide) q170_ok d170_56 ?_
          refine wp_icmp_ne q170_ok d170_57 (t := 64) rfl (fun h57 => ?_) (fun h57 => ?_)
          · exact absurd rfl h57
          · have h57 := Classical.not_not.mp h57
            refine wp_iconst (v := 5) (by decide) q170_ok d170_60 ?_
            refine wp_goto (t := 84) rfl q170_ok d170_61 ?_
            refine wp_iret q170_ok d170_84 rfl ?_
            exact ⟨rfl, rfl⟩
        · have h30 := Classical.not_not.mp h30
          exact absurd h30 (by decide)
      · have h3 := Classical.not_not.mp h3
        exact absurd h3 (by decide)
    · refine wp_iload_n (j := 0) rfl q170_ok d170_0 ?_
      refine wp_bipush (v := 98) (by decide) q170_ok d170_1 ?_
      refine wp_icmp_ne q170_ok d170_3 (t := 27) rfl (fun h3 => ?_) (fun h3 => ?_)
      · refine wp_iload_n (j := 0) rfl q170_ok d170_27 ?_
        refine wp_bipush (v := 103) (by decide) q170_ok d170_28 ?_
        refine wp_icmp_ne q170_ok d170_30 (t := 55) rfl (fun h30 => ?_) (fun h30 => ?_)
        · refine wp_iload_n (j := 1) rfl q170_ok d170_55 ?_
          refine wp_iconst (v := 1) (by decide) q170_ok d170_56 ?_
          refine wp_icmp_ne q170_ok d170_57 (t := 64) rfl (fun h57 => ?_) (fun h57 => ?_)
          · refine wp_iload_n (j := 1) rfl q170_ok d170_64 ?_
            refine wp_iconst (v := 2) (by decide) q170_ok d170_65 ?_
            refine wp_icmp_ne q170_ok d170_66 (t := 74) rfl (fun h66 => ?_) (fun h66 => ?_)
            · exact absurd rfl h66
            · have h66 := Classical.not_not.mp h66
              refine wp_bipush (v := 20) (by decide) q170_ok d170_69 ?_
              refine wp_goto (t := 84) rfl q170_ok d170_71 ?_
              refine wp_iret q170_ok d170_84 rfl ?_
              exact ⟨rfl, rfl⟩
          · have h57 := Classical.not_not.mp h57
            exact absurd h57 (by decide)
        · have h30 := Classical.not_not.mp h30
          exact absurd h30 (by decide)
      · have h3 := Classical.not_not.mp h3
        exact absurd h3 (by decide)
    · refine wp_iload_n (j := 0) rfl q170_ok d170_0 ?_
      refine wp_bipush (v := 98) (by decide) q170_ok d170_1 ?_
      refine wp_icmp_ne q170_ok d170_3 (t := 27) rfl (fun h3 => ?_) (fun h3 => ?_)
      · refine wp_iload_n (j := 0) rfl q170_ok d170_27 ?_
        refine wp_bipush (v := 103) (by decide) q170_ok d170_28 ?_
        refine wp_icmp_ne q170_ok d170_30 (t := 55) rfl (fun h30 => ?_) (fun h30 => ?_)
        · refine wp_iload_n (j := 1) rfl q170_ok d170_55 ?_
          refine wp_iconst (v := 1) (by decide) q170_ok d170_56 ?_
          refine wp_icmp_ne q170_ok d170_57 (t := 64) rfl (fun h57 => ?_) (fun h57 => ?_)
          · refine wp_iload_n (j := 1) rfl q170_ok d170_64 ?_
            refine wp_iconst (v := 2) (by decide) q170_ok d170_65 ?_
            refine wp_icmp_ne q170_ok d170_66 (t := 74) rfl (fun h66 => ?_) (fun h66 => ?_)
            · refine wp_iload_n (j := 1) rfl q170_ok d170_74 ?_
              refine wp_iconst (v := 3) (by decide) q170_ok d170_75 ?_
              refine wp_icmp_ne q170_ok d170_76 (t := 83) rfl (fun h76 => ?_) (fun h76 => ?_)
              · exact absurd rfl h76
              · have h76 := Classical.not_not.mp h76
                refine wp_iconst (v := 1) (by decide) q170_ok d170_79 ?_
                refine wp_goto (t := 84) rfl q170_ok d170_80 ?_
                refine wp_iret q170_ok d170_84 rfl ?_
                exact ⟨rfl, rfl⟩
            · have h66 := Classical.not_not.mp h66
              exact absurd h66 (by decide)
          · have h57 := Classical.not_not.mp h57
            exact absurd h57 (by decide)
        · have h30 := Classical.not_not.mp h30
          exact absurd h30 (by decide)
      · have h3 := Classical.not_not.mp h3
        exact absurd h3 (by decide)
  · have : j = 0 ∨ j = 1 ∨ j = 2 ∨ j = 3 := by have hj : j < 4 := hj; omega
    rcases this with rfl | rfl | rfl | rfl
    · refine wp_iload_n (j := 0) rfl q170_ok d170_0 ?_
      refine wp_bipush (v := 98) (by decide) q170_ok d170_1 ?_
      refine wp_icmp_ne q170_ok d170_3 (t := 27) rfl (fun h3 => ?_) (fun h3 => ?_)
      · refine wp_iload_n (j := 0) rfl q170_ok d170_27 ?_
        refine wp_bipush (v := 103) (by decide) q170_ok d170_28 ?_
        refine wp_icmp_ne q170_ok d170_30 (t := 55) rfl (fun h30 => ?_) (fun h30 => ?_)
        · exact absurd rfl h30
        · have h30 := Classical.not_not.mp h30
          refine wp_iload_n (j := 1) rfl q170_ok d170_33 ?_
          refine wp_iconst (v := 1) (by decide) q170_ok d170_34 ?_
          refine wp_icmp_ne q170_ok d170_35 (t := 43) rfl (fun h35 => ?_) (fun h35 => ?_)
          · refine wp_iload_n (j := 1) rfl q170_ok d170_43 ?_
            refine wp_iconst (v := 2) (by decide) q170_ok d170_44 ?_
            refine wp_icmp_ne q170_ok d170_45 (t := 53) rfl (fun h45 => ?_) (fun h45 => ?_)
            · refine wp_iconst (v := 0) (by decide) q170_ok d170_53 ?_
              refine wp_iret q170_ok d170_54 rfl ?_
              exact ⟨rfl, rfl⟩
            · have h45 := Classical.not_not.mp h45
              exact absurd h45 (by decide)
          · have h35 := Classical.not_not.mp h35
            exact absurd h35 (by decide)
      · have h3 := Classical.not_not.mp h3
        exact absurd h3 (by decide)
    · refine wp_iload_n (j := 0) rfl q170_ok d170_0 ?_
      refine wp_bipush (v := 98) (by decide) q170_ok d170_1 ?_
      refine wp_icmp_ne q170_ok d170_3 (t := 27) rfl (fun h3 => ?_) (fun h3 => ?_)
      · refine wp_iload_n (j := 0) rfl q170_ok d170_27 ?_
        refine wp_bipush (v := 103) (by decide) q170_ok d170_28 ?_
        refine wp_icmp_ne q170_ok d170_30 (t := 55) rfl (fun h30 => ?_) (fun h30 => ?_)
        · exact absurd rfl h30
        · have h30 := Classical.not_not.mp h30
          refine wp_iload_n (j := 1) rfl q170_ok d170_33 ?_
          refine wp_iconst (v := 1) (by decide) q170_ok d170_34 ?_
          refine wp_icmp_ne q170_ok d170_35 (t := 43) rfl (fun h35 => ?_) (fun h35 => ?_)
          · exact absurd rfl h35
          · have h35 := Classical.not_not.mp h35
            refine wp_bipush (v := 10) (by decide) q170_ok d170_38 ?_
            refine wp_goto (t := 54) rfl q170_ok d170_40 ?_
            refine wp_iret q170_ok d170_54 rfl ?_
            exact ⟨rfl, rfl⟩
      · have h3 := Classical.not_not.mp h3
        exact absurd h3 (by decide)
    · refine wp_iload_n (j := 0) rfl q170_ok d170_0 ?_
      refine wp_bipush (v := 98) (by decide) q170_ok d170_1 ?_
      refine wp_icmp_ne q170_ok d170_3 (t := 27) rfl (fun h3 => ?_) (fun h3 => ?_)
      · refine wp_iload_n (j := 0) rfl q170_ok d170_27 ?_
        refine wp_bipush (v := 103) (by decide) q170_ok d170_28 ?_
        refine wp_icmp_ne q170_ok d170_30 (t := 55) rfl (fun h30 => ?_) (fun h30 => ?_)
        · exact absurd rfl h30
        · have h30 := Classical.not_not.mp h30
          refine wp_iload_n (j := 1) rfl q170_ok d170_33 ?_
          refine wp_iconst (v := 1) (by decide) q170_ok d170_34 ?_
          refine wp_icmp_ne q170_ok d170_35 (t := 43) rfl (fun h35 => ?_) (fun h35 => ?_)
          · refine wp_iload_n (j := 1) rfl q170_ok d170_43 ?_
            refine wp_iconst (v := 2) (by decide) q170_ok d170_44 ?_
            refine wp_icmp_ne q170_ok d170_45 (t := 53) rfl (fun h45 => ?_) (fun h45 => ?_)
            · exact absurd rfl h45
            · have h45 := Classical.not_not.mp h45
              refine wp_bipush (v := 60) (by decide) q170_ok d170_48 ?_
              refine wp_goto (t := 54) rfl q170_ok d170_50 ?_
              refine wp_iret q170_ok d170_54 rfl ?_
              exact ⟨rfl, rfl⟩
          · have h35 := Classical.not_not.mp h35
            exact absurd h35 (by decide)
      · have h3 := Classical.not_not.mp h3
        exact absurd h3 (by decide)
    · refine wp_iload_n (j := 0) rfl q170_ok d170_0 ?_
      refine wp_bipush (v := 98) (by decide) q170_ok d170_1 ?_
      refine wp_icmp_ne q170_ok d170_3 (t := 27) rfl (fun h3 => ?_) (fun h3 => ?_)
      · refine wp_iload_n (j := 0) rfl q170_ok d170_27 ?_
        refine wp_bipush (v := 103) (by decide) q170_ok d170_28 ?_
        refine wp_icmp_ne q170_ok d170_30 (t := 55) rfl (fun h30 => ?_) (fun h30 => ?_)
        · exact absurd rfl h30
        · have h30 := Classical.not_not.mp h30
          refine wp_iload_n (j := 1) rfl q170_ok d170_33 ?_
          refine wp_iconst (v := 1) (by decide) q170_ok d170_34 ?_
          refine wp_icmp_ne q170_ok d170_35 (t := 43) rfl (fun h35 => ?_) (fun h35 => ?_)
          · refine wp_iload_n (j := 1) rfl q170_ok d170_43 ?_
            refine wp_iconst (v := 2) (by decide) q170_ok d170_44 ?_
            refine wp_icmp_ne q170_ok d170_45 (t := 53) rfl (fun h45 => ?_) (fun h45 => ?_)
            · refine wp_iconst (v := 0) (by decide) q170_ok d170_53 ?_
              refine wp_iret q170_ok d170_54 rfl ?_
              exact ⟨rfl, rfl⟩
            · have h45 := Classical.not_not.mp h45
              exact absurd h45 (by decide)
          · have h35 := Classical.not_not.mp h35
            exact absurd h35 (by decide)
      · have h3 := Classical.not_not.mp h3
        exact absurd h3 (by decide)
  · have : j = 0 ∨ j = 1 ∨ j = 2 := by have hj : j < 3 := hj; omega
    rcases this with rfl | rfl | rfl
    · refine wp_iload_n (j := 0) rfl q170_ok d170_0 ?_
      refine wp_bipush (v := 98) (by decide) q170_ok d170_1 ?_
      refine wp_icmp_ne q170_ok d170_3 (t := 27) rfl (fun h3 => ?_) (fun h3 => ?_)
      · exact absurd rfl h3
      · have h3 := Classical.not_not.mp h3
        refine wp_iload_n (j := 1) rfl q170_ok d170_6 ?_
        refine wp_if_ne q170_ok d170_7 (t := 15) rfl (fun h7 => ?_) (fun h7 => ?_)
        · exact absurd rfl h7
        · have h7 := Classical.not_not.mp h7
          refine wp_bipush (v := 20) (by decide) q170_ok d170_10 ?_
          refine wp_goto (t := 26) rfl q170_ok d170_12 ?_
          refine wp_iret q170_ok d170_26 rfl ?_
          exact ⟨rfl, rfl⟩
    · refine wp_iload_n (j := 0) rfl q170_ok d170_0 ?_
      refine wp_bipush (v := 98) (by decide) q170_ok d170_1 ?_
      refine wp_icmp_ne q170_ok d170_3 (t := 27) rfl (fun h3 => ?_) (fun h3 => ?_)
      · exact absurd rfl h3
      · have h3 := Classical.not_not.mp h3
        refine wp_iload_n (j := 1) rfl q170_ok d170_6 ?_
        refine wp_if_ne q170_ok d170_7 (t := 15) rfl (fun h7 => ?_) (fun h7 => ?_)
        · refine wp_iload_n (j := 1) rfl q170_ok d170_15 ?_
          refine wp_iconst (v := 1) (by decide) q170_ok d170_16 ?_
          refine wp_icmp_ne q170_ok d170_17 (t := 24) rfl (fun h17 => ?_) (fun h17 => ?_)
          · exact absurd rfl h17
          · have h17 := Classical.not_not.mp h17
            refine wp_iconst (v := 0) (by decide) q170_ok d170_20 ?_
            refine wp_goto (t := 26) rfl q170_ok d170_21 ?_
            refine wp_iret q170_ok d170_26 rfl ?_
            exact ⟨rfl, rfl⟩
        · have h7 := Classical.not_not.mp h7
          exact absurd h7 (by decide)
    · refine wp_iload_n (j := 0) rfl q170_ok d170_0 ?_
      refine wp_bipush (v := 98) (by decide) q170_ok d170_1 ?_
      refine wp_icmp_ne q170_ok d170_3 (t := 27) rfl (fun h3 => ?_) (fun h3 => ?_)
      · exact absurd rfl h3
      · have h3 := Classical.not_not.mp h3
        refine wp_iload_n (j := 1) rfl q170_ok d170_6 ?_
        refine wp_if_ne q170_ok d170_7 (t := 15) rfl (fun h7 => ?_) (fun h7 => ?_)
        · refine wp_iload_n (j := 1) rfl q170_ok d170_15 ?_
          refine wp_iconst (v := 1) (by decide) q170_ok d170_16 ?_
          refine wp_icmp_ne q170_ok d170_17 (t := 24) rfl (fun h17 => ?_) (fun h17 => ?_)
          · refine wp_bipush (v := 9) (by decide) q170_ok d170_24 ?_
            refine wp_iret q170_ok d170_26 rfl ?_
            exact ⟨rfl, rfl⟩
          · have h17 := Classical.not_not.mp h17
            exact absurd h17 (by decide)
        · have h7 := Classical.not_not.mp h7
          exact absurd h7 (by decide)
theorem itO_no {k : Nat} (hk : k < 3) : itO k 59 = -1 ∧ itO k (-1) = -1 := by
  have : k = 0 ∨ k = 1 ∨ k = 2 := by omega
  rcases this with rfl | rfl | rfl <;> decide
/-- only the place, and what is wrong -/
def af (d d2 : mm_D) : Prop := (∀ c, c ≠ 250 → d2 c = d c) ∧ ∀ j, j ≠ 3 → j ≠ 4 → d2 250 j = d 250 j
theorem af_refl (d : mm_D) : af d d := ⟨fun _ _ => rfl, fun _ _ _ => rfl⟩
theorem af_trans {d d1 d2 : mm_D} (h : af d d1) (h' : af d1 d2) : af d d2 := ⟨fun c hc => (h'.1 c hc).trans (h.1 c hc), fun j a b => (h'.2 j a b).trans (h.2 j a b)⟩
theorem af_250 {d : mm_D} {k : Nat} {v : Int32} (hk : k = 3 ∨ k = 4) : af d (mm_up d 250 k v) := ⟨fun c hc => mm_up_ne hc, fun j a b => (mm_up_at j).trans (if_neg (by omega))⟩
theorem af_3 {d : mm_D} {v : Int32} : af d (mm_up d 250 3 v) := af_250 (Or.inl rfl)
theorem af_4 {d : mm_D} {v : Int32} : af d (mm_up d 250 4 v) := af_250 (Or.inr rfl)
theorem tapM_af {d d2 : mm_D} {L : wo_P} (h : tapM d L) (hf : af d d2) : tapM d2 L := tapM_x h (hf.1 251 (by decide)) (hf.2 2 (by decide) (by decide))
def numR (lo hi : Int32) (res : Nat ⊕ (Nat × Int32)) : Nat ⊕ (Nat × Int32) := match res with
  | .inl e => .inl e
  | .inr x => if x.2 < lo then .inl (x.1 - 1) else if x.2 ≤ hi then .inr x else .inl (x.1 - 1)
def npost (sh : mm_S) (g : mm_G) (r : mm_R) (L : wo_P) (d : mm_D) (res : Nat ⊕ (Nat × Int32)) (v : Option Value) (μ : mm_M) : Prop := ∃ u, v = some (.int u) ∧ ∃ d2, μ = (sh, d2, g, r) ∧ af d d2 ∧ (match res with
  | .inl e => d2 250 4 = nI e ∧ e ≤ L.1
  | .inr x => u = x.2 ∧ d2 250 3 = nI x.1 ∧ x.1 ≤ L.1 ∧ d2 250 4 = -1)
theorem np_trans {sh : mm_S} {g : mm_G} {r : mm_R} {L : wo_P} {d d1 : mm_D} {res : Nat ⊕ (Nat × Int32)} {v : Option Value} {μ : mm_M} (hf : af d d1) (h : npost sh g r L d1 res v μ) : npost sh g r L d res v μ := by
  obtain ⟨u, h1, d2, h2, h3, h4⟩ := h
  exact ⟨u, h1, d2, h2, af_trans hf h3, h4⟩
theorem r_num_t {xs : List Int32} {ext : mm_X} {n : Nat} {sh : mm_S} {d : mm_D} {g : mm_G} {r : mm_R} {L : wo_P} (hsh : shp sh) (hr : rfx r) {e : Nat} (lo hi u : Int32) (hL : tapM d L) (ha : d 250 3 = nI e) (hw : d 250 4 = -1) (he : e ≤ L.1) (he1 : 1 ≤ e) : wp xs ext (n + 1) 166 67 [some (.ref 250), some (.int lo), some (.int hi), some (.int u)] [] (sh, d, g, r) (npost sh g r L d (numR lo hi (if dgt L e = -1 then .inr (e, u) else .inl e))) := by
  have h160 := hL.2.1
  refine wp_aload_n (j := 0) rfl q166_ok d166_67 ?_
  refine wp_cV q166_ok d166_68 ml_11_116 rfl q140_ok (u := 11) rfl (by first | assumption | exact so0 hsh rfl) rfl (Nat.le_of_ble_eq_true rfl) (Nat.le_of_ble_eq_true rfl) (m_here (n := n) hsh hr hL ha (by omega)) (fun v68 μ68 hc => ?_)
  obtain ⟨rfl, rfl⟩ := hc
  refine ⟨mm_le_same rfl, ?_⟩
  refine wp_cS q166_ok d166_71 ml_11_135 rfl q143_ok rfl rfl rfl (Nat.le_of_ble_eq_true rfl) (Nat.le_of_ble_eq_true rfl) (m_isDigit _) (fun v71 μ71 hc => ?_)
  obtain ⟨rfl, rfl⟩ := hc
  refine ⟨mm_le_same rfl, ?_⟩
  by_cases cD : isD (bAt L e)
  · rw [if_pos cD, if_neg (dgt_is cD).2]
    refine wp_if_eq q166_ok d166_74 (t := 84) rfl (fun h74 => ?_) (fun h74 => ?_)
    · exact absurd h74 (by decide)
    · refine wp_aload_n (j := 0) rfl q166_ok d166_77 ?_
      refine wp_cV q166_ok d166_78 ml_11_129 rfl q142_ok (u := 11) rfl (by first | assumption | exact so0 hsh rfl) rfl (Nat.le_of_ble_eq_true rfl) (Nat.le_of_ble_eq_true rfl) (m_bad0 hsh hr hw ha) (fun v78 μ78 hc => ?_)
      obtain ⟨rfl, rfl⟩ := hc
      refine ⟨mm_le_same rfl, ?_⟩
      refine wp_goto (t := 107) rfl q166_ok d166_81 ?_
      refine wp_iload_n (j := 3) rfl q166_ok d166_107 ?_
      refine wp_iret q166_ok d166_108 rfl ?_
      exact ⟨u, rfl, _, rfl, af_4, (mm_up_at 4).trans (if_pos rfl), he⟩
  · rw [if_neg cD, if_pos (dgt_not cD)]
    refine wp_if_eq q166_ok d166_74 (t := 84) rfl (fun h74 => ?_) (fun h74 => ?_)
    · refine wp_iload_n (j := 3) rfl q166_ok d166_84 ?_
      refine wp_iload_n (j := 1) rfl q166_ok d166_85 ?_
      refine wp_iload_n (j := 2) rfl q166_ok d166_86 ?_
      refine wp_cS q166_ok d166_87 ml_11_218 rfl q133_ok rfl rfl rfl (Nat.le_of_ble_eq_true rfl) (Nat.le_of_ble_eq_true rfl) (m_in _ _ _) (fun v87 μ87 hc => ?_)
      obtain ⟨rfl, rfl⟩ := hc
      refine ⟨mm_le_same rfl, ?_⟩
      by_cases c0 : lo ≤ u ∧ u ≤ hi
      · rw [if_pos c0]
        refine wp_if_ne q166_ok d166_90 (t := 107) rfl (fun h90 => ?_) (fun h90 => ?_)
        · refine wp_iload_n (j := 3) rfl q166_ok d166_107 ?_
          refine wp_iret q166_ok d166_108 rfl ?_
          have er : numR lo hi (.inr (e, u)) = .inr (e, u) := by
            show (if u < lo then _ else if u ≤ hi then _ else _) = _
            rw [if_neg (Int32.not_lt.mpr c0.1), if_pos c0.2]
          rw [er]
          exact ⟨u, rfl, d, rfl, af_refl d, rfl, ha, he, hw⟩
        · have h90 := Classical.not_not.mp h90
          exact absurd h90 (by decide)
      · rw [if_neg c0]
        refine wp_if_ne q166_ok d166_90 (t := 107) rfl (fun h90 => ?_) (fun h90 => ?_)
        · exact absurd rfl h90
        · have h90 := Classical.not_not.mp h90
          refine wp_aload_n (j := 0) rfl q166_ok d166_93 ?_
          refine wp_dup rfl q166_ok d166_94 ?_
          refine wp_getI q166_ok d166_95 fl_11_113 rfl (by first | assumption | exact so0 hsh rfl) ha ?_
          refine wp_iconst (v := 1) (by decide) q166_ok d166_98 ?_
          refine wp_isub (nI_sub1 he1) q166_ok d166_99 ?_
          refine wp_putI q166_ok d166_100 fl_11_113 rfl (by first | assumption | exact so0 hsh rfl) (Or.inl rfl) ?_
          refine wp_aload_n (j := 0) rfl q166_ok d166_103 ?_
          refine wp_cV q166_ok d166_104 ml_11_129 rfl q142_ok (u := 11) rfl (by first | assumption | exact so0 hsh rfl) rfl (Nat.le_of_ble_eq_true rfl) (Nat.le_of_ble_eq_true rfl) (m_bad0 (a := e - 1) hsh hr (((mm_up_at 4).trans (if_neg (by decide))).trans hw) ((mm_up_at 3).trans (if_pos rfl))) (fun v104 μ104 hc => ?_)
          obtain ⟨rfl, rfl⟩ := hc
          refine ⟨mm_le_same rfl, ?_⟩
          refine wp_iload_n (j := 3) rfl q166_ok d166_107 ?_
          refine wp_iret q166_ok d166_108 rfl ?_
          have er : numR lo hi (.inr (e, u)) = .inl (e - 1) := by
            show (if u < lo then _ else if u ≤ hi then _ else _) = _
            by_cases q : u < lo
            · rw [if_pos q]
            · rw [if_neg q, if_neg (fun w => c0 ⟨Int32.not_lt.mp q, w⟩)]
          rw [er]
          exact ⟨u, rfl, _, rfl, af_trans af_3 af_4, (mm_up_at 4).trans (if_pos rfl), by omega⟩
    · exact absurd rfl h74
theorem r_num {xs : List Int32} {ext : mm_X} {n : Nat} {sh : mm_S} {d : mm_D} {g : mm_G} {r : mm_R} {L : wo_P} (hsh : shp sh) (hr : rfx r) {q : Nat} (lo hi : Int32) (hL : tapM d L) (ha : d 250 3 = nI q) (hw : d 250 4 = -1) (hq : q ≤ L.1) : wp xs ext (n + 2) 166 0 [some (.ref 250), some (.int lo), some (.int hi), none] [] (sh, d, g, r) (npost sh g r L d (numR lo hi (numS L 1 q))) := by
  have h160 := hL.2.1
  have hwl := wsp_le L hq
  have hwg := wsp_ge L q
  have hL1 := tapM_250 (v := nI (wsp L q)) hL (show 2 ≠ 3 by decide)
  have ha1 : mm_up d 250 3 (nI (wsp L q)) 250 3 = nI (wsp L q) := (mm_up_at 3).trans (if_pos rfl)
  have hw1 : mm_up d 250 3 (nI (wsp L q)) 250 4 = -1 := ((mm_up_at 4).trans (if_neg (by decide))).trans hw
  refine wp_aload_n (j := 0) rfl q166_ok d166_0 ?_
  refine wp_cV q166_ok d166_1 ml_11_132 rfl q141_ok (u := 11) rfl (by first | assumption | exact so0 hsh rfl) rfl (Nat.le_of_ble_eq_true rfl) (Nat.le_of_ble_eq_true rfl) (m_look hsh hr hL ha hq) (fun v1 μ1 hc => ?_)
  obtain ⟨rfl, rfl⟩ := hc
  refine ⟨mm_le_same rfl, ?_⟩
  refine wp_cS q166_ok d166_4 ml_11_135 rfl q143_ok rfl rfl rfl (Nat.le_of_ble_eq_true rfl) (Nat.le_of_ble_eq_true rfl) (m_isDigit _) (fun v4 μ4 hc => ?_)
  obtain ⟨rfl, rfl⟩ := hc
  refine ⟨mm_le_same rfl, ?_⟩
  by_cases cD : isD (bAt L (wsp L q))
  · rw [if_pos cD]
    have hdg := (dgt_is cD).2
    have hql := dgt_lt hdg
    have hL2 := tapM_250 (v := nI (wsp L q + 1)) hL1 (show 2 ≠ 3 by decide)
    have ha2 : mm_up (mm_up d 250 3 (nI (wsp L q))) 250 3 (nI (wsp L q + 1)) 250 3 = nI (wsp L q + 1) := (mm_up_at 3).trans (if_pos rfl)
    have hw2 : mm_up (mm_up d 250 3 (nI (wsp L q))) 250 3 (nI (wsp L q + 1)) 250 4 = -1 := ((mm_up_at 4).trans (if_neg (by decide))).trans hw1
    refine wp_if_ne q166_ok d166_7 (t := 16) rfl (fun h7 => ?_) (fun h7 => ?_)
    · refine wp_aload_n (j := 0) rfl q166_ok d166_16 ?_
      refine wp_cV q166_ok d166_17 ml_11_116 rfl q140_ok (u := 11) rfl (by first | assumption | exact so0 hsh rfl) rfl (Nat.le_of_ble_eq_true rfl) (Nat.le_of_ble_eq_true rfl) (m_here (n := n + 1) hsh hr hL1 ha1 (by omega)) (fun v17 μ17 hc => ?_)
      obtain ⟨rfl, rfl⟩ := hc
      refine ⟨mm_le_same rfl, ?_⟩
      refine wp_bipush (v := 48) (by decide) q166_ok d166_20 ?_
      refine wp_isub (dgt_is cD).1.symm q166_ok d166_22 ?_
      refine wp_istore_n (j := 3) (Nat.le_of_ble_eq_true rfl) (rfl : _ = [_, _, _, _]) q166_ok d166_23 ?_
      refine wp_aload_n (j := 0) rfl q166_ok d166_24 ?_
      refine wp_dup rfl q166_ok d166_25 ?_
      refine wp_getI q166_ok d166_26 fl_11_113 rfl (by first | assumption | exact so0 hsh rfl) ha1 ?_
      refine wp_iconst (v := 1) (by decide) q166_ok d166_29 ?_
      refine wp_iadd (nI_1 _) q166_ok d166_30 ?_
      refine wp_putI q166_ok d166_31 fl_11_113 rfl (by first | assumption | exact so0 hsh rfl) (Or.inl rfl) ?_
      refine wp_aload_n (j := 0) rfl q166_ok d166_34 ?_
      refine wp_cV q166_ok d166_35 ml_11_116 rfl q140_ok (u := 11) rfl (by first | assumption | exact so0 hsh rfl) rfl (Nat.le_of_ble_eq_true rfl) (Nat.le_of_ble_eq_true rfl) (m_here (n := n + 1) hsh hr hL2 ha2 (by omega)) (fun v35 μ35 hc => ?_)
      obtain ⟨rfl, rfl⟩ := hc
      refine ⟨mm_le_same rfl, ?_⟩
      refine wp_cS q166_ok d166_38 ml_11_135 rfl q143_ok rfl rfl rfl (Nat.le_of_ble_eq_true rfl) (Nat.le_of_ble_eq_true rfl) (m_isDigit _) (fun v38 μ38 hc => ?_)
      obtain ⟨rfl, rfl⟩ := hc
      refine ⟨mm_le_same rfl, ?_⟩
      by_cases cE : isD (bAt L (wsp L q + 1))
      · rw [if_pos cE]
        have hL3 := tapM_250 (v := nI (wsp L q + 1 + 1)) hL2 (show 2 ≠ 3 by decide)
        have ha3 : mm_up (mm_up (mm_up d 250 3 (nI (wsp L q))) 250 3 (nI (wsp L q + 1))) 250 3 (nI (wsp L q + 1 + 1)) 250 3 = nI (wsp L q + 1 + 1) := (mm_up_at 3).trans (if_pos rfl)
        have hw3 : mm_up (mm_up (mm_up d 250 3 (nI (wsp L q))) 250 3 (nI (wsp L q + 1))) 250 3 (nI (wsp L q + 1 + 1)) 250 4 = -1 := ((mm_up_at 4).trans (if_neg (by decide))).trans hw2
        refine wp_if_eq q166_ok d166_41 (t := 67) rfl (fun h41 => ?_) (fun h41 => ?_)
        · exact absurd h41 (by decide)
        · refine wp_bipush (v := 10) (by decide) q166_ok d166_44 ?_
          refine wp_iload_n (j := 3) rfl q166_ok d166_46 ?_
          refine wp_imul rfl q166_ok d166_47 ?_
          refine wp_aload_n (j := 0) rfl q166_ok d166_48 ?_
          refine wp_cV q166_ok d166_49 ml_11_116 rfl q140_ok (u := 11) rfl (by first | assumption | exact so0 hsh rfl) rfl (Nat.le_of_ble_eq_true rfl) (Nat.le_of_ble_eq_true rfl) (m_here (n := n + 1) hsh hr hL2 ha2 (by omega)) (fun v49 μ49 hc => ?_)
          obtain ⟨rfl, rfl⟩ := hc
          refine ⟨mm_le_same rfl, ?_⟩
          refine wp_iadd rfl q166_ok d166_52 ?_
          refine wp_bipush (v := 48) (by decide) q166_ok d166_53 ?_
          refine wp_isub (dg_step _ cE) q166_ok d166_55 ?_
          refine wp_istore_n (j := 3) (Nat.le_of_ble_eq_true rfl) (rfl : _ = [_, _, _, _]) q166_ok d166_56 ?_
          refine wp_aload_n (j := 0) rfl q166_ok d166_57 ?_
          refine wp_dup rfl q166_ok d166_58 ?_
          refine wp_getI q166_ok d166_59 fl_11_113 rfl (by first | assumption | exact so0 hsh rfl) ha2 ?_
          refine wp_iconst (v := 1) (by decide) q166_ok d166_62 ?_
          refine wp_iadd (nI_1 _) q166_ok d166_63 ?_
          refine wp_putI q166_ok d166_64 fl_11_113 rfl (by first | assumption | exact so0 hsh rfl) (Or.inl rfl) ?_
          have e1 : numS L 1 q = (if dgt L (wsp L q + 1 + 1) = -1 then .inr (wsp L q + 1 + 1, dgt L (wsp L q) * 10 + dgt L (wsp L q + 1)) else .inl (wsp L q + 1 + 1)) := by
            have : numL L 1 (wsp L q + 1) (dgt L (wsp L q)) = (wsp L q + 1 + 1, dgt L (wsp L q) * 10 + dgt L (wsp L q + 1)) := by rw [numL, if_neg (dgt_is cE).2]; rfl
            unfold numS
            rw [if_neg hdg, this]
          rw [e1]
          exact wp_post (r_num_t (n := n + 1) hsh hr lo hi _ hL3 ha3 hw3 (dgt_lt (dgt_is cE).2) (by omega)) (fun v μ hc => np_trans (af_trans (af_trans af_3 af_3) af_3) hc)
      · rw [if_neg cE]
        refine wp_if_eq q166_ok d166_41 (t := 67) rfl (fun h41 => ?_) (fun h41 => ?_)
        · have e1 : numS L 1 q = (if dgt L (wsp L q + 1) = -1 then .inr (wsp L q + 1, dgt L (wsp L q)) else .inl (wsp L q + 1)) := by
            have : numL L 1 (wsp L q + 1) (dgt L (wsp L q)) = (wsp L q + 1, dgt L (wsp L q)) := by rw [numL, if_pos (dgt_not cE)]
            unfold numS
            rw [if_neg hdg, this]
          rw [e1]
          exact wp_post (r_num_t (n := n + 1) hsh hr lo hi _ hL2 ha2 hw2 hql (by omega)) (fun v μ hc => np_trans (af_trans af_3 af_3) hc)
        · exact absurd rfl h41
    · have h7 := Classical.not_not.mp h7
      exact absurd h7 (by decide)
  · rw [if_neg cD]
    refine wp_if_ne q166_ok d166_7 (t := 16) rfl (fun h7 => ?_) (fun h7 => ?_)
    · exact absurd rfl h7
    · have h7 := Classical.not_not.mp h7
      refine wp_aload_n (j := 0) rfl q166_ok d166_10 ?_
      refine wp_cV q166_ok d166_11 ml_11_129 rfl q142_ok (u := 11) rfl (by first | assumption | exact so0 hsh rfl) rfl (Nat.le_of_ble_eq_true rfl) (Nat.le_of_ble_eq_true rfl) (m_bad0 hsh hr hw1 ha1) (fun v11 μ11 hc => ?_)
      obtain ⟨rfl, rfl⟩ := hc
      refine ⟨mm_le_same rfl, ?_⟩
      refine wp_iload_n (j := 1) rfl q166_ok d166_14 ?_
      refine wp_iret q166_ok d166_15 rfl ?_
      have e1 : numR lo hi (numS L 1 q) = .inl (wsp L q) := by
        unfold numS
        rw [if_pos (dgt_not cD)]
        rfl
      rw [e1]
      exact ⟨lo, rfl, _, rfl, af_trans af_3 af_4, (mm_up_at 4).trans (if_pos rfl), hwl⟩
/-- only the place, what is wrong, and places f .. of row c -/
def jf (c f m : Nat) (d d2 : mm_D) : Prop := (∀ a, a ≠ 250 → a ≠ c → d2 a = d a) ∧ (∀ j, j ≠ 3 → j ≠ 4 → d2 250 j = d 250 j) ∧ ∀ j, (j < f ∨ f + m ≤ j) → d2 c j = d c j
theorem jf_refl (c f m : Nat) (d : mm_D) : jf c f m d d := ⟨fun _ _ _ => rfl, fun _ _ _ => rfl, fun _ _ => rfl⟩
theorem jf_trans {c f m : Nat} {d d1 d2 : mm_D} (h : jf c f m d d1) (h' : jf c f m d1 d2) : jf c f m d d2 := ⟨fun a b e => (h'.1 a b e).trans (h.1 a b e), fun j a b => (h'.2.1 j a b).trans (h.2.1 j a b), fun j a => (h'.2.2 j a).trans (h.2.2 j a)⟩
theorem jf_af {c f m : Nat} {d d2 : mm_D} (hc : c ≠ 250) (h : af d d2) : jf c f m d d2 := ⟨fun a b _ => h.1 a b, h.2, fun j _ => by rw [h.1 c hc]⟩
theorem jf_up {c f m i : Nat} {d : mm_D} {v : Int32} (hc : c ≠ 250) (hi : i < m) : jf c f m d (mm_up d c (f + i) v) := ⟨fun a _ e => mm_up_ne e, fun j _ _ => by rw [mm_up_ne (fun q => hc q.symm)], fun j a => by rw [mm_up_at, if_neg (by omega)]⟩
def ipM (sh : mm_S) (g : mm_G) (r : mm_R) (L : wo_P) (d : mm_D) (c f k : Nat) (res : Nat ⊕ (Nat × (Nat → Int32))) (v : Option Value) (μ : mm_M) : Prop := v = none ∧ ∃ d2, μ = (sh, d2, g, r) ∧ jf c f (mK k) d d2 ∧ (match res with
  | .inl e => e ≤ L.1 ∧ (d2 250 4 = nI e ∨ (d2 250 4 = -1 ∧ d2 250 3 = nI e ∧ wsp L e = e ∧ ¬ bAt L e = 59 ∧ ¬ bAt L e = -1))
  | .inr x => d2 250 4 = -1 ∧ d2 250 3 = nI x.1 ∧ x.1 ≤ L.1 ∧ ∀ j, j < mK k → d2 c (f + j) = x.2 j)
theorem ipM_trans {sh : mm_S} {g : mm_G} {r : mm_R} {L : wo_P} {d d1 : mm_D} {c f k : Nat} {res : Nat ⊕ (Nat × (Nat → Int32))} {v : Option Value} {μ : mm_M} (hj : jf c f (mK k) d d1) (h : ipM sh g r L d1 c f k res v μ) : ipM sh g r L d c f k res v μ := by
  obtain ⟨h1, d2, h2, h3, h4⟩ := h
  exact ⟨h1, d2, h2, jf_trans hj h3, h4⟩
theorem itm_step {L : wo_P} {k z p j : Nat} {th : Int32} {w : Nat → Int32} (hj : itO k (bAt L (wsp L p)) = nI j) (hjl : j < 2 ^ 31) (hth : (th >>> (nI j &&& 31)) &&& 1 = 0) : itmL L k (z + 1) p th w = (match numR (tabI k (4 * j + 1)) (tabI k (4 * j + 2)) (numS L 1 (wsp L p + 1)) with | .inl e => .inl e | .inr x => itmL L k z x.1 (th ||| ((1 : Int32) <<< (nI j &&& 31))) (rowU w j x.2)) := by
  rw [itmL, hj, if_neg (Int32.not_lt.mpr (nI_pos' hjl)), if_pos hth, nI_clamp hjl]
  cases numS L 1 (wsp L p + 1) with
  | inl e => rfl
  | inr x =>
    show (if x.2 < tabI k (4 * j + 1) then (.inl (x.1 - 1) : Nat ⊕ (Nat × (Nat → Int32))) else if x.2 ≤ tabI k (4 * j + 2) then itmL L k z x.1 (th ||| ((1 : Int32) <<< (nI j &&& 31))) (rowU w j x.2) else .inl (x.1 - 1)) = (match (if x.2 < tabI k (4 * j + 1) then (.inl (x.1 - 1) : Nat ⊕ (Nat × Int32)) else if x.2 ≤ tabI k (4 * j + 2) then .inr x else .inl (x.1 - 1)) with | .inl e => (.inl e : Nat ⊕ (Nat × (Nat → Int32))) | .inr x => itmL L k z x.1 (th ||| ((1 : Int32) <<< (nI j &&& 31))) (rowU w j x.2))
    by_cases q1 : x.2 < tabI k (4 * j + 1)
    · rw [if_pos q1, if_pos q1]
    · rw [if_neg q1, if_neg q1]
      by_cases q2 : x.2 ≤ tabI k (4 * j + 2)
      · rw [if_pos q2, if_pos q2]
      · rw [if_neg q2, if_neg q2]
theorem num_gt {L : wo_P} {q : Nat} {lo hi : Int32} {x : Nat × Int32} (h : numR lo hi (numS L 1 q) = .inr x) : q < x.1 ∧ x.1 ≤ L.1 := by
  cases e : numS L 1 q with
  | inl w => rw [e] at h; cases h
  | inr y =>
    rw [e] at h
    have h : (if y.2 < lo then (.inl (y.1 - 1) : Nat ⊕ (Nat × Int32)) else if y.2 ≤ hi then .inr y else .inl (y.1 - 1)) = .inr x := h
    by_cases q1 : y.2 < lo
    · rw [if_pos q1] at h; cases h
    · rw [if_neg q1] at h
      by_cases q2 : y.2 ≤ hi
      · rw [if_pos q2] at h
        cases h
        obtain ⟨_, h2, h3, _⟩ := num_ok1 e
        have := wsp_ge L q
        exact ⟨by omega, h3⟩
      · rw [if_neg q2] at h; cases h
theorem r_items_l {xs : List Int32} {ext : mm_X} {n : Nat} {sh : mm_S} {g : mm_G} {r : mm_R} {L : wo_P} (hsh : shp sh) (hr : rfx r) {c f k m : Nat} (hso : so sh c 20) (hm : (sh.2.2.2 c).2 = m) (hm31 : m < 2 ^ 31) (hfm : f + mK k ≤ m) (hc : 251 < c) (hk : k < 3) : ∀ (z : Nat) (d : mm_D) (p : Nat) (th : Int32) (w : Nat → Int32), L.1 + 1 ≤ z + p → tapM d L → d 250 3 = nI (wsp L p) → wsp L p ≤ L.1 → d 250 4 = -1 → (∀ j, j < mK k → d c (f + j) = w j) → wp xs ext (n + 3) 171 41 [some (.ref 250), some (.int (chrI k)), some (.ref c), some (.int (nI f)), some (.int (nI (mK k))), some (.int th), some (.int (itO k (bAt L (wsp L p))))] [] (sh, d, g, r) (ipM sh g r L d c f k (itmL L k z p th w)) := by
  intro z
  induction z with
  | zero =>
    intro d p th w hz hL ha hwl hw hrow
    have := wsp_ge L p
    omega
  | succ z ih =>
    intro d p th w hz hL ha hwl hw hrow
    have hwg := wsp_ge L p
    have h160 := hL.2.1
    have hid : wsp L (wsp L p) = wsp L p := by
      by_cases q : p ≤ L.1
      · exact wsp_id q
      · omega
    rcases itO_ok k (bAt L (wsp L p)) with hj | ⟨j, hjm, hj⟩
    · rw [hj]
      have er : itmL L k (z + 1) p th w = .inr (wsp L p, w) := by rw [itmL, hj, if_pos (by decide)]
      rw [er]
      refine wp_aload_n (j := 0) rfl q171_ok d171_41 ?_
      refine wp_getI q171_ok d171_42 fl_11_120 rfl (by first | assumption | exact so0 hsh rfl) hw ?_
      refine wp_iconst (v := -1) (by decide) q171_ok d171_45 ?_
      refine wp_icmp_ne q171_ok d171_46 (t := 131) rfl (fun h46 => ?_) (fun h46 => ?_)
      · exact absurd rfl h46
      · have h46 := Classical.not_not.mp h46
        refine wp_iload (j := 6) rfl q171_ok d171_49 ?_
        refine wp_iconst (v := -1) (by decide) q171_ok d171_51 ?_
        refine wp_icmp_eq q171_ok d171_52 (t := 131) rfl (fun h52 => ?_) (fun h52 => ?_)
        · refine wp_vret q171_ok d171_131 rfl ?_
          exact ⟨rfl, d, rfl, jf_refl c f _ d, hw, ha, hwl, hrow⟩
        · exact absurd rfl h52
    · rw [hj]
      have hm4 := mK4 k
      have hj31 : j < 2 ^ 31 := by omega
      have h59 : ¬ bAt L (wsp L p) = 59 := fun e => by
        rw [e, (itO_no hk).1] at hj
        exact nI_nm1 hj31 hj.symm
      have h1n : ¬ bAt L (wsp L p) = -1 := fun e => by
        rw [e, (itO_no hk).2] at hj
        exact nI_nm1 hj31 hj.symm
      have hql : wsp L p < L.1 := by
        refine Classical.byContradiction (fun q => h1n (bAt_out q))
      have hL1 := tapM_250 (v := nI (wsp L p + 1)) hL (show 2 ≠ 3 by decide)
      have ha1 : mm_up d 250 3 (nI (wsp L p + 1)) 250 3 = nI (wsp L p + 1) := (mm_up_at 3).trans (if_pos rfl)
      have hw1 : mm_up d 250 3 (nI (wsp L p + 1)) 250 4 = -1 := ((mm_up_at 4).trans (if_neg (by decide))).trans hw
      refine wp_aload_n (j := 0) rfl q171_ok d171_41 ?_
      refine wp_getI q171_ok d171_42 fl_11_120 rfl (by first | assumption | exact so0 hsh rfl) hw ?_
      refine wp_iconst (v := -1) (by decide) q171_ok d171_45 ?_
      refine wp_icmp_ne q171_ok d171_46 (t := 131) rfl (fun h46 => ?_) (fun h46 => ?_)
      · exact absurd rfl h46
      · have h46 := Classical.not_not.mp h46
        refine wp_iload (j := 6) rfl q171_ok d171_49 ?_
        refine wp_iconst (v := -1) (by decide) q171_ok d171_51 ?_
        refine wp_icmp_eq q171_ok d171_52 (t := 131) rfl (fun h52 => ?_) (fun h52 => ?_)
        · exact absurd h52 (nI_nm1 hj31)
        · refine wp_iload (j := 5) rfl q171_ok d171_55 ?_
          refine wp_iload (j := 6) rfl q171_ok d171_57 ?_
          refine wp_cS q171_ok d171_59 ml_11_229 rfl q134_ok rfl rfl rfl (Nat.le_of_ble_eq_true rfl) (Nat.le_of_ble_eq_true rfl) (m_has _ _) (fun v59 μ59 hc => ?_)
          obtain ⟨rfl, rfl⟩ := hc
          refine ⟨mm_le_same rfl, ?_⟩
          by_cases hth : (th >>> (nI j &&& 31)) &&& 1 = 0
          · rw [if_neg (show ¬ (th >>> (nI j &&& 31)) &&& 1 = 1 from fun e => by rw [hth] at e; exact absurd e (by decide))]
            refine wp_if_ne q171_ok d171_62 (t := 131) rfl (fun h62 => ?_) (fun h62 => ?_)
            · exact absurd rfl h62
            · have h62 := Classical.not_not.mp h62
              refine wp_iload (j := 5) rfl q171_ok d171_65 ?_
              refine wp_iconst (v := 1) (by decide) q171_ok d171_67 ?_
              refine wp_iload (j := 6) rfl q171_ok d171_68 ?_
              refine wp_ishl rfl q171_ok d171_70 ?_
              refine wp_ior rfl q171_ok d171_71 ?_
              refine wp_istore (j := 5) (Nat.le_of_ble_eq_true rfl) (rfl : _ = [_, _, _, _, _, _, _]) q171_ok d171_72 ?_
              refine wp_aload_n (j := 0) rfl q171_ok d171_74 ?_
              refine wp_dup rfl q171_ok d171_75 ?_
              refine wp_getI q171_ok d171_76 fl_11_113 rfl (by first | assumption | exact so0 hsh rfl) ha ?_
              refine wp_iconst (v := 1) (by decide) q171_ok d171_79 ?_
              refine wp_iadd (nI_1 _) q171_ok d171_80 ?_
              refine wp_putI q171_ok d171_81 fl_11_113 rfl (by first | assumption | exact so0 hsh rfl) (Or.inl rfl) ?_
              refine wp_aload_n (j := 2) rfl q171_ok d171_84 ?_
              refine wp_iload_n (j := 3) rfl q171_ok d171_85 ?_
              refine wp_iload (j := 6) rfl q171_ok d171_86 ?_
              refine wp_iadd (nI_pl f j) q171_ok d171_88 ?_
              refine wp_aload_n (j := 0) rfl q171_ok d171_89 ?_
              refine wp_iload_n (j := 1) rfl q171_ok d171_90 ?_
              refine wp_iload (j := 6) rfl q171_ok d171_91 ?_
              refine wp_cS q171_ok d171_93 ml_11_233 rfl q168_ok rfl rfl rfl (Nat.le_of_ble_eq_true rfl) (Nat.le_of_ble_eq_true rfl) (m_lowest hk hjm) (fun v93 μ93 hc => ?_)
              obtain ⟨rfl, rfl⟩ := hc
              refine ⟨mm_le_same rfl, ?_⟩
              refine wp_iload_n (j := 1) rfl q171_ok d171_96 ?_
              refine wp_iload (j := 6) rfl q171_ok d171_97 ?_
              refine wp_cS q171_ok d171_99 ml_11_236 rfl q169_ok rfl rfl rfl (Nat.le_of_ble_eq_true rfl) (Nat.le_of_ble_eq_true rfl) (m_highest hk hjm) (fun v99 μ99 hc => ?_)
              obtain ⟨rfl, rfl⟩ := hc
              refine ⟨mm_le_same rfl, ?_⟩
              refine wp_cV q171_ok d171_102 ml_11_239 rfl q166_ok (u := 11) rfl (by first | assumption | exact so0 hsh rfl) rfl (Nat.le_of_ble_eq_true rfl) (Nat.le_of_ble_eq_true rfl) (r_num (n := n) hsh hr _ _ hL1 ha1 hw1 hql) (fun v102 μ102 hc => ?_)
              obtain ⟨u, rfl, d3, rfl, a3, m3⟩ := hc
              refine ⟨mm_le_same rfl, ?_⟩
              refine wp_iast q171_ok d171_105 hso hm (ixn_nI (show f + j < m by omega) hm31) ?_
              have J : jf c f (mK k) d (mm_up d3 c (f + j) u) := jf_trans (jf_af (by omega) (af_trans af_3 a3)) (jf_up (by omega) hjm)
              have e4 : ∀ i, mm_up d3 c (f + j) u 250 i = d3 250 i := fun i => congrFun (mm_up_ne (by omega)) i
              have er := itm_step (L := L) (z := z) (w := w) hj hj31 hth
              rw [er]
              cases e3 : numR (tabI k (4 * j + 1)) (tabI k (4 * j + 2)) (numS L 1 (wsp L p + 1)) with
              | inl e =>
                rw [e3] at m3
                have m3 : d3 250 4 = nI e ∧ e ≤ L.1 := m3
                have hw3 : mm_up d3 c (f + j) u 250 4 = nI e := (e4 4).trans m3.1
                have hne : ¬ nI e = -1 := nI_nm1 (by omega)
                refine wp_aload_n (j := 0) rfl q171_ok d171_106 ?_
                refine wp_getI q171_ok d171_107 fl_11_120 rfl (by first | assumption | exact so0 hsh rfl) hw3 ?_
                refine wp_iconst (v := -1) (by decide) q171_ok d171_110 ?_
                refine wp_icmp_ne q171_ok d171_111 (t := 125) rfl (fun h111 => ?_) (fun h111 => ?_)
                · refine wp_iconst (v := -1) (by decide) q171_ok d171_125 ?_
                  refine wp_istore (j := 6) (Nat.le_of_ble_eq_true rfl) (rfl : _ = [_, _, _, _, _, _, _]) q171_ok d171_126 ?_
                  refine wp_goto (t := 41) rfl q171_ok d171_128 ?_
                  refine wp_aload_n (j := 0) rfl q171_ok d171_41 ?_
                  refine wp_getI q171_ok d171_42 fl_11_120 rfl (by first | assumption | exact so0 hsh rfl) hw3 ?_
                  refine wp_iconst (v := -1) (by decide) q171_ok d171_45 ?_
                  refine wp_icmp_ne q171_ok d171_46 (t := 131) rfl (fun h46 => ?_) (fun h46 => ?_)
                  · refine wp_vret q171_ok d171_131 rfl ?_
                    exact ⟨rfl, _, rfl, J, m3.2, Or.inl hw3⟩
                  · have h46 := Classical.not_not.mp h46
                    exact absurd h46 hne
                · have h111 := Classical.not_not.mp h111
                  exact absurd h111 hne
              | inr x =>
                have hx := num_gt e3
                rw [e3] at m3
                have m3 : u = x.2 ∧ d3 250 3 = nI x.1 ∧ x.1 ≤ L.1 ∧ d3 250 4 = -1 := m3
                obtain ⟨rfl, a4, hx1, w4⟩ := m3
                have hw3 : mm_up d3 c (f + j) x.2 250 4 = -1 := (e4 4).trans w4
                have ha3 : mm_up d3 c (f + j) x.2 250 3 = nI x.1 := (e4 3).trans a4
                have hL3 : tapM (mm_up d3 c (f + j) x.2) L := tapM_x (tapM_af hL1 a3) (mm_up_ne (by omega)) (e4 2)
                refine wp_aload_n (j := 0) rfl q171_ok d171_106 ?_
                refine wp_getI q171_ok d171_107 fl_11_120 rfl (by first | assumption | exact so0 hsh rfl) hw3 ?_
                refine wp_iconst (v := -1) (by decide) q171_ok d171_110 ?_
                refine wp_icmp_ne q171_ok d171_111 (t := 125) rfl (fun h111 => ?_) (fun h111 => ?_)
                · exact absurd rfl h111
                · have h111 := Classical.not_not.mp h111
                  refine wp_iload_n (j := 1) rfl q171_ok d171_114 ?_
                  refine wp_aload_n (j := 0) rfl q171_ok d171_115 ?_
                  refine wp_cV q171_ok d171_116 ml_11_132 rfl q141_ok (u := 11) rfl (by first | assumption | exact so0 hsh rfl) rfl (Nat.le_of_ble_eq_true rfl) (Nat.le_of_ble_eq_true rfl) (m_look hsh hr hL3 ha3 hx1) (fun v116 μ116 hc => ?_)
                  obtain ⟨rfl, rfl⟩ := hc
                  refine ⟨mm_le_same rfl, ?_⟩
                  refine wp_cS q171_ok d171_119 ml_11_226 rfl q167_ok rfl rfl rfl (Nat.le_of_ble_eq_true rfl) (Nat.le_of_ble_eq_true rfl) (m_item hk _) (fun v119 μ119 hc => ?_)
                  obtain ⟨rfl, rfl⟩ := hc
                  refine ⟨mm_le_same rfl, ?_⟩
                  refine wp_goto (t := 126) rfl q171_ok d171_122 ?_
                  refine wp_istore (j := 6) (Nat.le_of_ble_eq_true rfl) (rfl : _ = [_, _, _, _, _, _, _]) q171_ok d171_126 ?_
                  refine wp_goto (t := 41) rfl q171_ok d171_128 ?_
                  have hwx := wsp_le L hx1
                  refine wp_post (ih _ x.1 _ (rowU w j x.2) (by omega) (tapM_250 hL3 (by decide)) ((mm_up_at 3).trans (if_pos rfl)) hwx (((mm_up_at 4).trans (if_neg (by decide))).trans hw3) (fun i hi => ?_)) (fun v μ hc => ipM_trans (jf_trans J (jf_af (by omega) af_3)) hc)
                  rw [mm_up_ne (by omega), mm_up_at]
                  unfold rowU
                  by_cases q : i = j
                  · rw [if_pos q, if_pos (by omega)]
                  · rw [if_neg q, if_neg (by omega), a3.1 c (by omega), mm_up_ne (by omega)]
                    exact hrow i hi
          · rw [if_pos (show (th >>> (nI j &&& 31)) &&& 1 = 1 from (hasB th (show j < 6 by omega)).mpr (by
              have := fun q => hth ((gb_sh th (show j < 6 by omega)).mpr q)
              cases e : gb th j with
              | false => exact absurd e this
              | true => rfl))]
            have er : itmL L k (z + 1) p th w = .inl (wsp L p) := by rw [itmL, hj, if_neg (Int32.not_lt.mpr (nI_pos' hj31)), if_neg hth]
            rw [er]
            refine wp_if_ne q171_ok d171_62 (t := 131) rfl (fun h62 => ?_) (fun h62 => ?_)
            · refine wp_vret q171_ok d171_131 rfl ?_
              exact ⟨rfl, d, rfl, jf_refl c f _ d, hwl, Or.inr ⟨hw, ha, hid, h59, h1n⟩⟩
            · have h62 := Classical.not_not.mp h62
              exact absurd h62 (by decide)
