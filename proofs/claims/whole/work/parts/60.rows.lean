/-! ===== towns told: rows ===== -/
def up4 (d : mm_D) (c : Nat) (a0 a1 a2 a3 : Int32) : mm_D := mm_up (mm_up (mm_up (mm_up d c 0 a0) c 1 a1) c 2 a2) c 3 a3
def up3 (d : mm_D) (c : Nat) (a0 a1 a2 : Int32) : mm_D := mm_up (mm_up (mm_up d c 0 a0) c 1 a1) c 2 a2
theorem up4_ne {d : mm_D} {c j : Nat} {a0 a1 a2 a3 : Int32} (h : j ≠ c) : up4 d c a0 a1 a2 a3 j = d j := by
  unfold up4
  rw [mm_up_ne h, mm_up_ne h, mm_up_ne h, mm_up_ne h]
theorem up3_ne {d : mm_D} {c j : Nat} {a0 a1 a2 : Int32} (h : j ≠ c) : up3 d c a0 a1 a2 j = d j := by
  unfold up3
  rw [mm_up_ne h, mm_up_ne h, mm_up_ne h]
theorem up4_at {d : mm_D} {c : Nat} {a0 a1 a2 a3 : Int32} {j : Nat} (h : j < 4) : up4 d c a0 a1 a2 a3 c j = if j = 0 then a0 else if j = 1 then a1 else if j = 2 then a2 else a3 := by
  have : j = 0 ∨ j = 1 ∨ j = 2 ∨ j = 3 := by omega
  unfold up4
  rw [mm_up_at, mm_up_at, mm_up_at, mm_up_at]
  rcases this with rfl | rfl | rfl | rfl <;> rfl
theorem up3_at {d : mm_D} {c : Nat} {a0 a1 a2 : Int32} {j : Nat} (h : j < 3) : up3 d c a0 a1 a2 c j = if j = 0 then a0 else if j = 1 then a1 else a2 := by
  have : j = 0 ∨ j = 1 ∨ j = 2 := by omega
  unfold up3
  rw [mm_up_at, mm_up_at, mm_up_at]
  rcases this with rfl | rfl | rfl <;> rfl
/-- the tables: a letter's place; the least, the most, what it is where it is not told -/
def tabI (k j : Nat) : Int32 := (mm_st.getD k []).getD j 0
theorem s20 {sh : mm_S} (hsh : shp sh) {p : Nat} (h : p < 6) : so sh (20 + p) 20 ∧ (sh.2.2.2 (20 + p)).2 = 4 := by
  have e : ∀ p, p < 6 → lay (20 + p) = (20, 4) := by decide +kernel
  exact ⟨⟨by rw [hsh.1]; omega, by rw [hsh.2 _ (by omega), e p h]⟩, by rw [hsh.2 _ (by omega), e p h]⟩
theorem s28 {sh : mm_S} (hsh : shp sh) {p : Nat} (h : p < 2) : so sh (28 + p) 20 ∧ (sh.2.2.2 (28 + p)).2 = 3 := by
  have e : ∀ p, p < 2 → lay (28 + p) = (20, 3) := by decide +kernel
  exact ⟨⟨by rw [hsh.1]; omega, by rw [hsh.2 _ (by omega), e p h]⟩, by rw [hsh.2 _ (by omega), e p h]⟩
theorem r19 {r : mm_R} (hr : rfx r) {p : Nat} (h : p < 6) : r 19 p = some (20 + p) := hr _ _ _ (by
  have : ∀ p, p < 6 → r0 19 p = some (20 + p) := by decide +kernel
  exact this p h)
theorem r27 {r : mm_R} (hr : rfx r) {p : Nat} (h : p < 2) : r 27 p = some (28 + p) := hr _ _ _ (by
  have : ∀ p, p < 2 → r0 27 p = some (28 + p) := by decide +kernel
  exact this p h)
theorem c_untold0 {xs : List Int32} {ext : mm_X} {n : Nat} {sh : mm_S} {d : mm_D} {g : mm_G} {r : mm_R} {c : Nat} (hsh : shp sh) (hso : so sh c 20) (hm : (sh.2.2.2 c).2 = 4) : wp xs ext (n + 0) 57 0 [some (.ref c), some (.ref (mm_K + 1 + 0)), none] [] (sh, d, g, r) (fun v μ => v = some (.ref c) ∧ μ = (sh, up4 d c 0 5 20 1, g, r)) := by
  refine wp_iconst (v := 0) (by decide) q57_ok d57_0 ?_
  refine wp_istore_n (j := 2) (Nat.le_of_ble_eq_true rfl) (rfl : _ = [_, _, _]) q57_ok d57_1 ?_
  refine wp_iload_n (j := 2) rfl q57_ok d57_2 ?_
  refine wp_aload_n (j := 0) rfl q57_ok d57_3 ?_
  refine wp_alen q57_ok d57_4 hso.1 (by rw [hso.2]; decide) hm rfl ?_ (shK hsh)
  refine wp_icmp_ge q57_ok d57_5 (t := 34) rfl (fun h5 => ?_) (fun h5 => ?_)
  · exact absurd h5 (by decide)
  · refine wp_iconst (v := 4) (by decide) q57_ok d57_8 ?_
    refine wp_iload_n (j := 2) rfl q57_ok d57_9 ?_
    refine wp_imul rfl q57_ok d57_10 ?_
    refine wp_iconst (v := 3) (by decide) q57_ok d57_11 ?_
    refine wp_iadd rfl q57_ok d57_12 ?_
    refine wp_aload_n (j := 1) rfl q57_ok d57_13 ?_
    refine wp_alenK q57_ok d57_14 (Nat.le_of_ble_eq_true rfl) (Nat.le_of_ble_eq_true rfl) (show Int32.ofNat (mm_ca xs (mm_K + 1 + 0)).length = 16 from rfl) ?_
    refine wp_icmp_ge q57_ok d57_15 (t := 34) rfl (fun h15 => ?_) (fun h15 => ?_)
    · exact absurd h15 (by decide)
    · refine wp_aload_n (j := 0) rfl q57_ok d57_18 ?_
      refine wp_iload_n (j := 2) rfl q57_ok d57_19 ?_
      refine wp_aload_n (j := 1) rfl q57_ok d57_20 ?_
      refine wp_iconst (v := 4) (by decide) q57_ok d57_21 ?_
      refine wp_iload_n (j := 2) rfl q57_ok d57_22 ?_
      refine wp_imul rfl q57_ok d57_23 ?_
      refine wp_iconst (v := 3) (by decide) q57_ok d57_24 ?_
      refine wp_iadd rfl q57_ok d57_25 ?_
      refine wp_ialdK q57_ok d57_26 (Nat.le_of_ble_eq_true rfl) (Nat.le_of_ble_eq_true rfl) ⟨rfl, by decide, (show 3 < 16 by decide)⟩ (show (mm_ca xs (mm_K + 1 + 0)).getD 3 0 = 0 from rfl) ?_
      refine wp_iast q57_ok d57_27 hso hm ⟨rfl, by decide, by decide⟩ ?_
      refine wp_iinc (j := 2) rfl (by first | exact inc1 | rfl) (rfl : _ = [_, _, _]) q57_ok d57_28 ?_
      refine wp_goto (t := 2) rfl q57_ok d57_31 ?_
      refine wp_iload_n (j := 2) rfl q57_ok d57_2 ?_
      refine wp_aload_n (j := 0) rfl q57_ok d57_3 ?_
      refine wp_alen q57_ok d57_4 hso.1 (by rw [hso.2]; decide) hm rfl ?_ (shK hsh)
      refine wp_icmp_ge q57_ok d57_5 (t := 34) rfl (fun h5 => ?_) (fun h5 => ?_)
      · exact absurd h5 (by decide)
      · refine wp_iconst (v := 4) (by decide) q57_ok d57_8 ?_
        refine wp_iload_n (j := 2) rfl q57_ok d57_9 ?_
        refine wp_imul rfl q57_ok d57_10 ?_
        refine wp_iconst (v := 3) (by decide) q57_ok d57_11 ?_
        refine wp_iadd rfl q57_ok d57_12 ?_
        refine wp_aload_n (j := 1) rfl q57_ok d57_13 ?_
        refine wp_alenK q57_ok d57_14 (Nat.le_of_ble_eq_true rfl) (Nat.le_of_ble_eq_true rfl) (show Int32.ofNat (mm_ca xs (mm_K + 1 + 0)).length = 16 from rfl) ?_
        refine wp_icmp_ge q57_ok d57_15 (t := 34) rfl (fun h15 => ?_) (fun h15 => ?_)
        · exact absurd h15 (by decide)
        · refine wp_aload_n (j := 0) rfl q57_ok d57_18 ?_
          refine wp_iload_n (j := 2) rfl q57_ok d57_19 ?_
          refine wp_aload_n (j := 1) rfl q57_ok d57_20 ?_
          refine wp_iconst (v := 4) (by decide) q57_ok d57_21 ?_
          refine wp_iload_n (j := 2) rfl q57_ok d57_22 ?_
          refine wp_imul rfl q57_ok d57_23 ?_
          refine wp_iconst (v := 3) (by decide) q57_ok d57_24 ?_
          refine wp_iadd rfl q57_ok d57_25 ?_
          refine wp_ialdK q57_ok d57_26 (Nat.le_of_ble_eq_true rfl) (Nat.le_of_ble_eq_true rfl) ⟨rfl, by decide, (show 7 < 16 by decide)⟩ (show (mm_ca xs (mm_K + 1 + 0)).getD 7 0 = 5 from rfl) ?_
          refine wp_iast q57_ok d57_27 hso hm ⟨rfl, by decide, by decide⟩ ?_
          refine wp_iinc (j := 2) rfl (by first | exact inc1 | rfl) (rfl : _ = [_, _, _]) q57_ok d57_28 ?_
          refine wp_goto (t := 2) rfl q57_ok d57_31 ?_
          refine wp_iload_n (j := 2) rfl q57_ok d57_2 ?_
          refine wp_aload_n (j := 0) rfl q57_ok d57_3 ?_
          refine wp_alen q57_ok d57_4 hso.1 (by rw [hso.2]; decide) hm rfl ?_ (shK hsh)
          refine wp_icmp_ge q57_ok d57_5 (t := 34) rfl (fun h5 => ?_) (fun h5 => ?_)
          · exact absurd h5 (by decide)
          · refine wp_iconst (v := 4) (by decide) q57_ok d57_8 ?_
            refine wp_iload_n (j := 2) rfl q57_ok d57_9 ?_
            refine wp_imul rfl q57_ok d57_10 ?_
            refine wp_iconst (v := 3) (by decide) q57_ok d57_11 ?_
            refine wp_iadd rfl q57_ok d57_12 ?_
            refine wp_aload_n (j := 1) rfl q57_ok d57_13 ?_
            refine wp_alenK q57_ok d57_14 (Nat.le_of_ble_eq_true rfl) (Nat.le_of_ble_eq_true rfl) (show Int32.ofNat (mm_ca xs (mm_K + 1 + 0)).length = 16 from rfl) ?_
            refine wp_icmp_ge q57_ok d57_15 (t := 34) rfl (fun h15 => ?_) (fun h15 => ?_)
            · exact absurd h15 (by decide)
            · refine wp_aload_n (j := 0) rfl q57_ok d57_18 ?_
              refine wp_iload_n (j := 2) rfl q57_ok d57_19 ?_
              refine wp_aload_n (j := 1) rfl q57_ok d57_20 ?_
              refine wp_iconst (v := 4) (by decide) q57_ok d57_21 ?_
              refine wp_iload_n (j := 2) rfl q57_ok d57_22 ?_
              refine wp_imul rfl q57_ok d57_23 ?_
              refine wp_iconst (v := 3) (by decide) q57_ok d57_24 ?_
              refine wp_iadd rfl q57_ok d57_25 ?_
              refine wp_ialdK q57_ok d57_26 (Nat.le_of_ble_eq_true rfl) (Nat.le_of_ble_eq_true rfl) ⟨rfl, by decide, (show 11 < 16 by decide)⟩ (show (mm_ca xs (mm_K + 1 + 0)).getD 11 0 = 20 from rfl) ?_
              refine wp_iast q57_ok d57_27 hso hm ⟨rfl, by decide, by decide⟩ ?_
              refine wp_iinc (j := 2) rfl (by first | exact inc1 | rfl) (rfl : _ = [_, _, _]) q57_ok d57_28 ?_
              refine wp_goto (t := 2) rfl q57_ok d57_31 ?_
              refine wp_iload_n (j := 2) rfl q57_ok d57_2 ?_
              refine wp_aload_n (j := 0) rfl q57_ok d57_3 ?_
              refine wp_alen q57_ok d57_4 hso.1 (by rw [hso.2]; decide) hm rfl ?_ (shK hsh)
              refine wp_icmp_ge q57_ok d57_5 (t := 34) rfl (fun h5 => ?_) (fun h5 => ?_)
              · exact absurd h5 (by decide)
              · refine wp_iconst (v := 4) (by decide) q57_ok d57_8 ?_
                refine wp_iload_n (j := 2) rfl q57_ok d57_9 ?_
                refine wp_imul rfl q57_ok d57_10 ?_
                refine wp_iconst (v := 3) (by decide) q57_ok d57_11 ?_
                refine wp_iadd rfl q57_ok d57_12 ?_
                refine wp_aload_n (j := 1) rfl q57_ok d57_13 ?_
                refine wp_alenK q57_ok d57_14 (Nat.le_of_ble_eq_true rfl) (Nat.le_of_ble_eq_true rfl) (show Int32.ofNat (mm_ca xs (mm_K + 1 + 0)).length = 16 from rfl) ?_
                refine wp_icmp_ge q57_ok d57_15 (t := 34) rfl (fun h15 => ?_) (fun h15 => ?_)
                · exact absurd h15 (by decide)
                · refine wp_aload_n (j := 0) rfl q57_ok d57_18 ?_
                  refine wp_iload_n (j := 2) rfl q57_ok d57_19 ?_
                  refine wp_aload_n (j := 1) rfl q57_ok d57_20 ?_
                  refine wp_iconst (v := 4) (by decide) q57_ok d57_21 ?_
                  refine wp_iload_n (j := 2) rfl q57_ok d57_22 ?_
                  refine wp_imul rfl q57_ok d57_23 ?_
                  refine wp_iconst (v := 3) (by decide) q57_ok d57_24 ?_
                  refine wp_iadd rfl q57_ok d57_25 ?_
                  refine wp_ialdK q57_ok d57_26 (Nat.le_of_ble_eq_true rfl) (Nat.le_of_ble_eq_true rfl) ⟨rfl, by decide, (show 15 < 16 by decide)⟩ (show (mm_ca xs (mm_K + 1 + 0)).getD 15 0 = 1 from rfl) ?_
                  refine wp_iast q57_ok d57_27 hso hm ⟨rfl, by decide, by decide⟩ ?_
                  refine wp_iinc (j := 2) rfl (by first | exact inc1 | rfl) (rfl : _ = [_, _, _]) q57_ok d57_28 ?_
                  refine wp_goto (t := 2) rfl q57_ok d57_31 ?_
                  refine wp_iload_n (j := 2) rfl q57_ok d57_2 ?_
                  refine wp_aload_n (j := 0) rfl q57_ok d57_3 ?_
                  refine wp_alen q57_ok d57_4 hso.1 (by rw [hso.2]; decide) hm rfl ?_ (shK hsh)
                  refine wp_icmp_ge q57_ok d57_5 (t := 34) rfl (fun h5 => ?_) (fun h5 => ?_)
                  · refine wp_aload_n (j := 0) rfl q57_ok d57_34 ?_
                    refine wp_aret q57_ok d57_35 rfl ?_
                    exact ⟨rfl, rfl⟩
                  · exact absurd (by decide) h5
theorem c_untold1 {xs : List Int32} {ext : mm_X} {n : Nat} {sh : mm_S} {d : mm_D} {g : mm_G} {r : mm_R} {c : Nat} (hsh : shp sh) (hso : so sh c 20) (hm : (sh.2.2.2 c).2 = 4) : wp xs ext (n + 0) 57 0 [some (.ref c), some (.ref (mm_K + 1 + 1)), none] [] (sh, d, g, r) (fun v μ => v = some (.ref c) ∧ μ = (sh, up4 d c 0 10 60 0, g, r)) := by
  refine wp_iconst (v := 0) (by decide) q57_ok d57_0 ?_
  refine wp_istore_n (j := 2) (Nat.le_of_ble_eq_true rfl) (rfl : _ = [_, _, _]) q57_ok d57_1 ?_
  refine wp_iload_n (j := 2) rfl q57_ok d57_2 ?_
  refine wp_aload_n (j := 0) rfl q57_ok d57_3 ?_
  refine wp_alen q57_ok d57_4 hso.1 (by rw [hso.2]; decide) hm rfl ?_ (shK hsh)
  refine wp_icmp_ge q57_ok d57_5 (t := 34) rfl (fun h5 => ?_) (fun h5 => ?_)
  · exact absurd h5 (by decide)
  · refine wp_iconst (v := 4) (by decide) q57_ok d57_8 ?_
    refine wp_iload_n (j := 2) rfl q57_ok d57_9 ?_
    refine wp_imul rfl q57_ok d57_10 ?_
    refine wp_iconst (v := 3) (by decide) q57_ok d57_11 ?_
    refine wp_iadd rfl q57_ok d57_12 ?_
    refine wp_aload_n (j := 1) rfl q57_ok d57_13 ?_
    refine wp_alenK q57_ok d57_14 (Nat.le_of_ble_eq_true rfl) (Nat.le_of_ble_eq_true rfl) (show Int32.ofNat (mm_ca xs (mm_K + 1 + 1)).length = 16 from rfl) ?_
    refine wp_icmp_ge q57_ok d57_15 (t := 34) rfl (fun h15 => ?_) (fun h15 => ?_)
    · exact absurd h15 (by decide)
    · refine wp_aload_n (j := 0) rfl q57_ok d57_18 ?_
      refine wp_iload_n (j := 2) rfl q57_ok d57_19 ?_
      refine wp_aload_n (j := 1) rfl q57_ok d57_20 ?_
      refine wp_iconst (v := 4) (by decide) q57_ok d57_21 ?_
      refine wp_iload_n (j := 2) rfl q57_ok d57_22 ?_
      refine wp_imul rfl q57_ok d57_23 ?_
      refine wp_iconst (v := 3) (by decide) q57_ok d57_24 ?_
      refine wp_iadd rfl q57_ok d57_25 ?_
      refine wp_ialdK q57_ok d57_26 (Nat.le_of_ble_eq_true rfl) (Nat.le_of_ble_eq_true rfl) ⟨rfl, by decide, (show 3 < 16 by decide)⟩ (show (mm_ca xs (mm_K + 1 + 1)).getD 3 0 = 0 from rfl) ?_
      refine wp_iast q57_ok d57_27 hso hm ⟨rfl, by decide, by decide⟩ ?_
      refine wp_iinc (j := 2) rfl (by first | exact inc1 | rfl) (rfl : _ = [_, _, _]) q57_ok d57_28 ?_
      refine wp_goto (t := 2) rfl q57_ok d57_31 ?_
      refine wp_iload_n (j := 2) rfl q57_ok d57_2 ?_
      refine wp_aload_n (j := 0) rfl q57_ok d57_3 ?_
      refine wp_alen q57_ok d57_4 hso.1 (by rw [hso.2]; decide) hm rfl ?_ (shK hsh)
      refine wp_icmp_ge q57_ok d57_5 (t := 34) rfl (fun h5 => ?_) (fun h5 => ?_)
      · exact absurd h5 (by decide)
      · refine wp_iconst (v := 4) (by decide) q57_ok d57_8 ?_
        refine wp_iload_n (j := 2) rfl q57_ok d57_9 ?_
        refine wp_imul rfl q57_ok d57_10 ?_
        refine wp_iconst (v := 3) (by decide) q57_ok d57_11 ?_
        refine wp_iadd rfl q57_ok d57_12 ?_
        refine wp_aload_n (j := 1) rfl q57_ok d57_13 ?_
        refine wp_alenK q57_ok d57_14 (Nat.le_of_ble_eq_true rfl) (Nat.le_of_ble_eq_true rfl) (show Int32.ofNat (mm_ca xs (mm_K + 1 + 1)).length = 16 from rfl) ?_
        refine wp_icmp_ge q57_ok d57_15 (t := 34) rfl (fun h15 => ?_) (fun h15 => ?_)
        · exact absurd h15 (by decide)
        · refine wp_aload_n (j := 0) rfl q57_ok d57_18 ?_
          refine wp_iload_n (j := 2) rfl q57_ok d57_19 ?_
          refine wp_aload_n (j := 1) rfl q57_ok d57_20 ?_
          refine wp_iconst (v := 4) (by decide) q57_ok d57_21 ?_
          refine wp_iload_n (j := 2) rfl q57_ok d57_22 ?_
          refine wp_imul rfl q57_ok d57_23 ?_
          refine wp_iconst (v := 3) (by decide) q57_ok d57_24 ?_
          refine wp_iadd rfl q57_ok d57_25 ?_
          refine wp_ialdK q57_ok d57_26 (Nat.le_of_ble_eq_true rfl) (Nat.le_of_ble_eq_true rfl) ⟨rfl, by decide, (show 7 < 16 by decide)⟩ (show (mm_ca xs (mm_K + 1 + 1)).getD 7 0 = 10 from rfl) ?_
          refine wp_iast q57_ok d57_27 hso hm ⟨rfl, by decide, by decide⟩ ?_
          refine wp_iinc (j := 2) rfl (by first | exact inc1 | rfl) (rfl : _ = [_, _, _]) q57_ok d57_28 ?_
          refine wp_goto (t := 2) rfl q57_ok d57_31 ?_
          refine wp_iload_n (j := 2) rfl q57_ok d57_2 ?_
          refine wp_aload_n (j := 0) rfl q57_ok d57_3 ?_
          refine wp_alen q57_ok d57_4 hso.1 (by rw [hso.2]; decide) hm rfl ?_ (shK hsh)
          refine wp_icmp_ge q57_ok d57_5 (t := 34) rfl (fun h5 => ?_) (fun h5 => ?_)
          · exact absurd h5 (by decide)
          · refine wp_iconst (v := 4) (by decide) q57_ok d57_8 ?_
            refine wp_iload_n (j := 2) rfl q57_ok d57_9 ?_
            refine wp_imul rfl q57_ok d57_10 ?_
            refine wp_iconst (v := 3) (by decide) q57_ok d57_11 ?_
            refine wp_iadd rfl q57_ok d57_12 ?_
            refine wp_aload_n (j := 1) rfl q57_ok d57_13 ?_
            refine wp_alenK q57_ok d57_14 (Nat.le_of_ble_eq_true rfl) (Nat.le_of_ble_eq_true rfl) (show Int32.ofNat (mm_ca xs (mm_K + 1 + 1)).length = 16 from rfl) ?_
            refine wp_icmp_ge q57_ok d57_15 (t := 34) rfl (fun h15 => ?_) (fun h15 => ?_)
            · exact absurd h15 (by decide)
            · refine wp_aload_n (j := 0) rfl q57_ok d57_18 ?_
              refine wp_iload_n (j := 2) rfl q57_ok d57_19 ?_
              refine wp_aload_n (j := 1) rfl q57_ok d57_20 ?_
              refine wp_iconst (v := 4) (by decide) q57_ok d57_21 ?_
              refine wp_iload_n (j := 2) rfl q57_ok d57_22 ?_
              refine wp_imul rfl q57_ok d57_23 ?_
              refine wp_iconst (v := 3) (by decide) q57_ok d57_24 ?_
              refine wp_iadd rfl q57_ok d57_25 ?_
              refine wp_ialdK q57_ok d57_26 (Nat.le_of_ble_eq_true rfl) (Nat.le_of_ble_eq_true rfl) ⟨rfl, by decide, (show 11 < 16 by decide)⟩ (show (mm_ca xs (mm_K + 1 + 1)).getD 11 0 = 60 from rfl) ?_
              refine wp_iast q57_ok d57_27 hso hm ⟨rfl, by decide, by decide⟩ ?_
              refine wp_iinc (j := 2) rfl (by first | exact inc1 | rfl) (rfl : _ = [_, _, _]) q57_ok d57_28 ?_
              refine wp_goto (t := 2) rfl q57_ok d57_31 ?_
              refine wp_iload_n (j := 2) rfl q57_ok d57_2 ?_
              refine wp_aload_n (j := 0) rfl q57_ok d57_3 ?_
              refine wp_alen q57_ok d57_4 hso.1 (by rw [hso.2]; decide) hm rfl ?_ (shK hsh)
              refine wp_icmp_ge q57_ok d57_5 (t := 34) rfl (fun h5 => ?_) (fun h5 => ?_)
              · exact absurd h5 (by decide)
              · refine wp_iconst (v := 4) (by decide) q57_ok d57_8 ?_
                refine wp_iload_n (j := 2) rfl q57_ok d57_9 ?_
                refine wp_imul rfl q57_ok d57_10 ?_
                refine wp_iconst (v := 3) (by decide) q57_ok d57_11 ?_
                refine wp_iadd rfl q57_ok d57_12 ?_
                refine wp_aload_n (j := 1) rfl q57_ok d57_13 ?_
                refine wp_alenK q57_ok d57_14 (Nat.le_of_ble_eq_true rfl) (Nat.le_of_ble_eq_true rfl) (show Int32.ofNat (mm_ca xs (mm_K + 1 + 1)).length = 16 from rfl) ?_
                refine wp_icmp_ge q57_ok d57_15 (t := 34) rfl (fun h15 => ?_) (fun h15 => ?_)
                · exact absurd h15 (by decide)
                · refine wp_aload_n (j := 0) rfl q57_ok d57_18 ?_
                  refine wp_iload_n (j := 2) rfl q57_ok d57_19 ?_
                  refine wp_aload_n (j := 1) rfl q57_ok d57_20 ?_
                  refine wp_iconst (v := 4) (by decide) q57_ok d57_21 ?_
                  refine wp_iload_n (j := 2) rfl q57_ok d57_22 ?_
                  refine wp_imul rfl q57_ok d57_23 ?_
                  refine wp_iconst (v := 3) (by decide) q57_ok d57_24 ?_
                  refine wp_iadd rfl q57_ok d57_25 ?_
                  refine wp_ialdK q57_ok d57_26 (Nat.le_of_ble_eq_true rfl) (Nat.le_of_ble_eq_true rfl) ⟨rfl, by decide, (show 15 < 16 by decide)⟩ (show (mm_ca xs (mm_K + 1 + 1)).getD 15 0 = 0 from rfl) ?_
                  refine wp_iast q57_ok d57_27 hso hm ⟨rfl, by decide, by decide⟩ ?_
                  refine wp_iinc (j := 2) rfl (by first | exact inc1 | rfl) (rfl : _ = [_, _, _]) q57_ok d57_28 ?_
                  refine wp_goto (t := 2) rfl q57_ok d57_31 ?_
                  refine wp_iload_n (j := 2) rfl q57_ok d57_2 ?_
                  refine wp_aload_n (j := 0) rfl q57_ok d57_3 ?_
                  refine wp_alen q57_ok d57_4 hso.1 (by rw [hso.2]; decide) hm rfl ?_ (shK hsh)
                  refine wp_icmp_ge q57_ok d57_5 (t := 34) rfl (fun h5 => ?_) (fun h5 => ?_)
                  · refine wp_aload_n (j := 0) rfl q57_ok d57_34 ?_
                    refine wp_aret q57_ok d57_35 rfl ?_
                    exact ⟨rfl, rfl⟩
                  · exact absurd (by decide) h5
theorem c_untold2 {xs : List Int32} {ext : mm_X} {n : Nat} {sh : mm_S} {d : mm_D} {g : mm_G} {r : mm_R} {c : Nat} (hsh : shp sh) (hso : so sh c 20) (hm : (sh.2.2.2 c).2 = 3) : wp xs ext (n + 0) 57 0 [some (.ref c), some (.ref (mm_K + 1 + 2)), none] [] (sh, d, g, r) (fun v μ => v = some (.ref c) ∧ μ = (sh, up3 d c 20 0 9, g, r)) := by
  refine wp_iconst (v := 0) (by decide) q57_ok d57_0 ?_
  refine wp_istore_n (j := 2) (Nat.le_of_ble_eq_true rfl) (rfl : _ = [_, _, _]) q57_ok d57_1 ?_
  refine wp_iload_n (j := 2) rfl q57_ok d57_2 ?_
  refine wp_aload_n (j := 0) rfl q57_ok d57_3 ?_
  refine wp_alen q57_ok d57_4 hso.1 (by rw [hso.2]; decide) hm rfl ?_ (shK hsh)
  refine wp_icmp_ge q57_ok d57_5 (t := 34) rfl (fun h5 => ?_) (fun h5 => ?_)
  · exact absurd h5 (by decide)
  · refine wp_iconst (v := 4) (by decide) q57_ok d57_8 ?_
    refine wp_iload_n (j := 2) rfl q57_ok d57_9 ?_
    refine wp_imul rfl q57_ok d57_10 ?_
    refine wp_iconst (v := 3) (by decide) q57_ok d57_11 ?_
    refine wp_iadd rfl q57_ok d57_12 ?_
    refine wp_aload_n (j := 1) rfl q57_ok d57_13 ?_
    refine wp_alenK q57_ok d57_14 (Nat.le_of_ble_eq_true rfl) (Nat.le_of_ble_eq_true rfl) (show Int32.ofNat (mm_ca xs (mm_K + 1 + 2)).length = 12 from rfl) ?_
    refine wp_icmp_ge q57_ok d57_15 (t := 34) rfl (fun h15 => ?_) (fun h15 => ?_)
    · exact absurd h15 (by decide)
    · refine wp_aload_n (j := 0) rfl q57_ok d57_18 ?_
      refine wp_iload_n (j := 2) rfl q57_ok d57_19 ?_
      refine wp_aload_n (j := 1) rfl q57_ok d57_20 ?_
      refine wp_iconst (v := 4) (by decide) q57_ok d57_21 ?_
      refine wp_iload_n (j := 2) rfl q57_ok d57_22 ?_
      refine wp_imul rfl q57_ok d57_23 ?_
      refine wp_iconst (v := 3) (by decide) q57_ok d57_24 ?_
      refine wp_iadd rfl q57_ok d57_25 ?_
      refine wp_ialdK q57_ok d57_26 (Nat.le_of_ble_eq_true rfl) (Nat.le_of_ble_eq_true rfl) ⟨rfl, by decide, (show 3 < 12 by decide)⟩ (show (mm_ca xs (mm_K + 1 + 2)).getD 3 0 = 20 from rfl) ?_
      refine wp_iast q57_ok d57_27 hso hm ⟨rfl, by decide, by decide⟩ ?_
      refine wp_iinc (j := 2) rfl (by first | exact inc1 | rfl) (rfl : _ = [_, _, _]) q57_ok d57_28 ?_
      refine wp_goto (t := 2) rfl q57_ok d57_31 ?_
      refine wp_iload_n (j := 2) rfl q57_ok d57_2 ?_
      refine wp_aload_n (j := 0) rfl q57_ok d57_3 ?_
      refine wp_alen q57_ok d57_4 hso.1 (by rw [hso.2]; decide) hm rfl ?_ (shK hsh)
      refine wp_icmp_ge q57_ok d57_5 (t := 34) rfl (fun h5 => ?_) (fun h5 => ?_)
      · exact absurd h5 (by decide)
      · refine wp_iconst (v := 4) (by decide) q57_ok d57_8 ?_
        refine wp_iload_n (j := 2) rfl q57_ok d57_9 ?_
        refine wp_imul rfl q57_ok d57_10 ?_
        refine wp_iconst (v := 3) (by decide) q57_ok d57_11 ?_
        refine wp_iadd rfl q57_ok d57_12 ?_
        refine wp_aload_n (j := 1) rfl q57_ok d57_13 ?_
        refine wp_alenK q57_ok d57_14 (Nat.le_of_ble_eq_true rfl) (Nat.le_of_ble_eq_true rfl) (show Int32.ofNat (mm_ca xs (mm_K + 1 + 2)).length = 12 from rfl) ?_
        refine wp_icmp_ge q57_ok d57_15 (t := 34) rfl (fun h15 => ?_) (fun h15 => ?_)
        · exact absurd h15 (by decide)
        · refine wp_aload_n (j := 0) rfl q57_ok d57_18 ?_
          refine wp_iload_n (j := 2) rfl q57_ok d57_19 ?_
          refine wp_aload_n (j := 1) rfl q57_ok d57_20 ?_
          refine wp_iconst (v := 4) (by decide) q57_ok d57_21 ?_
          refine wp_iload_n (j := 2) rfl q57_ok d57_22 ?_
          refine wp_imul rfl q57_ok d57_23 ?_
          refine wp_iconst (v := 3) (by decide) q57_ok d57_24 ?_
          refine wp_iadd rfl q57_ok d57_25 ?_
          refine wp_ialdK q57_ok d57_26 (Nat.le_of_ble_eq_true rfl) (Nat.le_of_ble_eq_true rfl) ⟨rfl, by decide, (show 7 < 12 by decide)⟩ (show (mm_ca xs (mm_K + 1 + 2)).getD 7 0 = 0 from rfl) ?_
          refine wp_iast q57_ok d57_27 hso hm ⟨rfl, by decide, by decide⟩ ?_
          refine wp_iinc (j := 2) rfl (by first | exact inc1 | rfl) (rfl : _ = [_, _, _]) q57_ok d57_28 ?_
          refine wp_goto (t := 2) rfl q57_ok d57_31 ?_
          refine wp_iload_n (j := 2) rfl q57_ok d57_2 ?_
          refine wp_aload_n (j := 0) rfl q57_ok d57_3 ?_
          refine wp_alen q57_ok d57_4 hso.1 (by rw [hso.2]; decide) hm rfl ?_ (shK hsh)
          refine wp_icmp_ge q57_ok d57_5 (t := 34) rfl (fun h5 => ?_) (fun h5 => ?_)
          · exact absurd h5 (by decide)
          · refine wp_iconst (v := 4) (by decide) q57_ok d57_8 ?_
            refine wp_iload_n (j := 2) rfl q57_ok d57_9 ?_
            refine wp_imul rfl q57_ok d57_10 ?_
            refine wp_iconst (v := 3) (by decide) q57_ok d57_11 ?_
            refine wp_iadd rfl q57_ok d57_12 ?_
            refine wp_aload_n (j := 1) rfl q57_ok d57_13 ?_
            refine wp_alenK q57_ok d57_14 (Nat.le_of_ble_eq_true rfl) (Nat.le_of_ble_eq_true rfl) (show Int32.ofNat (mm_ca xs (mm_K + 1 + 2)).length = 12 from rfl) ?_
            refine wp_icmp_ge q57_ok d57_15 (t := 34) rfl (fun h15 => ?_) (fun h15 => ?_)
            · exact absurd h15 (by decide)
            · refine wp_aload_n (j := 0) rfl q57_ok d57_18 ?_
              refine wp_iload_n (j := 2) rfl q57_ok d57_19 ?_
              refine wp_aload_n (j := 1) rfl q57_ok d57_20 ?_
              refine wp_iconst (v := 4) (by decide) q57_ok d57_21 ?_
              refine wp_iload_n (j := 2) rfl q57_ok d57_22 ?_
              refine wp_imul rfl q57_ok d57_23 ?_
              refine wp_iconst (v := 3) (by decide) q57_ok d57_24 ?_
              refine wp_iadd rfl q57_ok d57_25 ?_
              refine wp_ialdK q57_ok d57_26 (Nat.le_of_ble_eq_true rfl) (Nat.le_of_ble_eq_true rfl) ⟨rfl, by decide, (show 11 < 12 by decide)⟩ (show (mm_ca xs (mm_K + 1 + 2)).getD 11 0 = 9 from rfl) ?_
              refine wp_iast q57_ok d57_27 hso hm ⟨rfl, by decide, by decide⟩ ?_
              refine wp_iinc (j := 2) rfl (by first | exact inc1 | rfl) (rfl : _ = [_, _, _]) q57_ok d57_28 ?_
              refine wp_goto (t := 2) rfl q57_ok d57_31 ?_
              refine wp_iload_n (j := 2) rfl q57_ok d57_2 ?_
              refine wp_aload_n (j := 0) rfl q57_ok d57_3 ?_
              refine wp_alen q57_ok d57_4 hso.1 (by rw [hso.2]; decide) hm rfl ?_ (shK hsh)
              refine wp_icmp_ge q57_ok d57_5 (t := 34) rfl (fun h5 => ?_) (fun h5 => ?_)
              · refine wp_aload_n (j := 0) rfl q57_ok d57_34 ?_
                refine wp_aret q57_ok d57_35 rfl ?_
                exact ⟨rfl, rfl⟩
              · exact absurd (by decide) h5
