/-! ===== towns told: the reading of items ===== -/
def mK (k : Nat) : Nat := if k = 2 then 3 else 4
theorem mK4 (k : Nat) : mK k ≤ 4 := by unfold mK; split <;> omega
def itO (k : Nat) (c : Int32) : Int32 := if c = tabI k 0 then 0 else if c = tabI k 4 then 1 else if c = tabI k 8 then 2 else if k = 2 then -1 else if c = tabI k 12 then 3 else -1
theorem itO_ok (k : Nat) (c : Int32) : itO k c = -1 ∨ ∃ j, j < mK k ∧ itO k c = nI j := by
  unfold itO mK
  split
  · exact Or.inr ⟨0, by split <;> omega, rfl⟩
  · split
    · exact Or.inr ⟨1, by split <;> omega, rfl⟩
    · split
      · exact Or.inr ⟨2, by split <;> omega, rfl⟩
      · split
        · exact Or.inl rfl
        · rename_i h
          split
          · exact Or.inr ⟨3, by omega, rfl⟩
          · exact Or.inl rfl
def rowU (w : Nat → Int32) (j : Nat) (v : Int32) : Nat → Int32 := fun i => if i = j then v else w i
/-- items of a row -/
def itmL (L : wo_P) (k : Nat) : Nat → Nat → Int32 → (Nat → Int32) → Nat ⊕ (Nat × (Nat → Int32))
  | 0, p, _, w => .inr (p, w)
  | z + 1, p, th, w => if itO k (bAt L (wsp L p)) < 0 then .inr (wsp L p, w)
    else if (th >>> (itO k (bAt L (wsp L p)) &&& 31)) &&& 1 = 0 then (match numS L 1 (wsp L p + 1) with
      | .inl e => .inl e
      | .inr x => if x.2 < tabI k (4 * (itO k (bAt L (wsp L p))).toNatClampNeg + 1) then .inl (x.1 - 1)
        else if x.2 ≤ tabI k (4 * (itO k (bAt L (wsp L p))).toNatClampNeg + 2) then itmL L k z x.1 (th ||| ((1 : Int32) <<< (itO k (bAt L (wsp L p)) &&& 31))) (rowU w (itO k (bAt L (wsp L p))).toNatClampNeg x.2)
        else .inl (x.1 - 1))
    else .inl (wsp L p)
theorem num_ok1 {L : wo_P} {q : Nat} {x : Nat × Int32} (h : numS L 1 q = .inr x) : ¬ x.2 = -1 ∧ wsp L q < x.1 ∧ x.1 ≤ L.1 ∧ ∃ m, m ≤ 99 ∧ x.2 = nI m := by
  unfold numS at h
  by_cases q1 : dgt L (wsp L q) = -1
  · rw [if_pos q1] at h; cases h
  · rw [if_neg q1] at h
    by_cases q2 : dgt L (numL L 1 (wsp L q + 1) (dgt L (wsp L q))).1 = -1
    · rw [if_pos q2] at h
      cases h
      obtain ⟨h0, h9⟩ := dgt09 q1
      have he := nI_ofn h0
      have hl : (dgt L (wsp L q)).toNatClampNeg ≤ 9 := by
        rw [he] at h9
        refine (nI_leI ?_ (by decide)).mp (show nI (dgt L (wsp L q)).toNatClampNeg ≤ nI 9 from h9)
        have b := Int32.toInt_lt (dgt L (wsp L q))
        have c : (dgt L (wsp L q)).toNatClampNeg = (dgt L (wsp L q)).toInt.toNat := rfl
        omega
      obtain ⟨m2, h1, h2⟩ := numL_nI (L := L) 1 (wsp L q + 1) (dgt L (wsp L q)).toNatClampNeg
      rw [← he] at h2
      have hle := numL_le (L := L) 1 (wsp L q + 1) (dgt L (wsp L q)) (dgt_lt q1)
      exact ⟨by rw [h2]; exact nI_nm1 (by omega), by omega, hle.2, m2, by omega, h2⟩
    · rw [if_neg q2] at h; cases h
theorem ca_len (xs : List Int32) {k : Nat} (hk : k < 3) : (mm_ca xs (mm_K + 1 + k)).length = 4 * mK k := by
  have : k = 0 ∨ k = 1 ∨ k = 2 := by omega
  rcases this with rfl | rfl | rfl <;> rfl
theorem ca_get (xs : List Int32) {k : Nat} (hk : k < 3) (j : Nat) : (mm_ca xs (mm_K + 1 + k)).getD j 0 = tabI k j := by
  have : k = 0 ∨ k = 1 ∨ k = 2 := by omega
  rcases this with rfl | rfl | rfl <;> rfl
theorem nI_4 (j c : Nat) : (4 : Int32) * nI j + nI c = nI (4 * j + c) := by
  show Int32.ofNat 4 * Int32.ofNat j + Int32.ofNat c = Int32.ofNat _
  rw [Int32.ofNat_add, Int32.ofNat_mul]
theorem c_itemOf0 {xs : List Int32} {ext : mm_X} {n : Nat} {sh : mm_S} {d : mm_D} {g : mm_G} {r : mm_R} (c : Int32) : wp xs ext (n + 0) 76 0 [some (.int c), some (.ref (mm_K + 1 + 0)), none] [] (sh, d, g, r) (fun v μ => v = some (.int (itO 0 c)) ∧ μ = (sh, d, g, r)) := by
  refine wp_iconst (v := 0) (by decide) q76_ok d76_0 ?_
  refine wp_istore_n (j := 2) (Nat.le_of_ble_eq_true rfl) (rfl : _ = [_, _, _]) q76_ok d76_1 ?_
  refine wp_iconst (v := 4) (by decide) q76_ok d76_2 ?_
  refine wp_iload_n (j := 2) rfl q76_ok d76_3 ?_
  refine wp_imul rfl q76_ok d76_4 ?_
  refine wp_aload_n (j := 1) rfl q76_ok d76_5 ?_
  refine wp_alenK q76_ok d76_6 (Nat.le_of_ble_eq_true rfl) (Nat.le_of_ble_eq_true rfl) (show Int32.ofNat (mm_ca xs (mm_K + 1 + 0)).length = 16 from rfl) ?_
  refine wp_icmp_ge q76_ok d76_7 (t := 27) rfl (fun h7 => ?_) (fun h7 => ?_)
  · exact absurd h7 (by decide)
  · refine wp_aload_n (j := 1) rfl q76_ok d76_10 ?_
    refine wp_iconst (v := 4) (by decide) q76_ok d76_11 ?_
    refine wp_iload_n (j := 2) rfl q76_ok d76_12 ?_
    refine wp_imul rfl q76_ok d76_13 ?_
    refine wp_ialdK q76_ok d76_14 (Nat.le_of_ble_eq_true rfl) (Nat.le_of_ble_eq_true rfl) ⟨rfl, by decide, (show 0 < 16 by decide)⟩ (show (mm_ca xs (mm_K + 1 + 0)).getD 0 0 = tabI 0 0 from rfl) ?_
    refine wp_iload_n (j := 0) rfl q76_ok d76_15 ?_
    refine wp_icmp_ne q76_ok d76_16 (t := 21) rfl (fun h16 => ?_) (fun h16 => ?_)
    · have e0 : ¬ c = tabI 0 0 := fun q => h16 q.symm
      refine wp_iinc (j := 2) rfl (by first | exact inc1 | rfl) (rfl : _ = [_, _, _]) q76_ok d76_21 ?_
      refine wp_goto (t := 2) rfl q76_ok d76_24 ?_
      refine wp_iconst (v := 4) (by decide) q76_ok d76_2 ?_
      refine wp_iload_n (j := 2) rfl q76_ok d76_3 ?_
      refine wp_imul rfl q76_ok d76_4 ?_
      refine wp_aload_n (j := 1) rfl q76_ok d76_5 ?_
      refine wp_alenK q76_ok d76_6 (Nat.le_of_ble_eq_true rfl) (Nat.le_of_ble_eq_true rfl) (show Int32.ofNat (mm_ca xs (mm_K + 1 + 0)).length = 16 from rfl) ?_
      refine wp_icmp_ge q76_ok d76_7 (t := 27) rfl (fun h7 => ?_) (fun h7 => ?_)
      · exact absurd h7 (by decide)
      · refine wp_aload_n (j := 1) rfl q76_ok d76_10 ?_
        refine wp_iconst (v := 4) (by decide) q76_ok d76_11 ?_
        refine wp_iload_n (j := 2) rfl q76_ok d76_12 ?_
        refine wp_imul rfl q76_ok d76_13 ?_
        refine wp_ialdK q76_ok d76_14 (Nat.le_of_ble_eq_true rfl) (Nat.le_of_ble_eq_true rfl) ⟨rfl, by decide, (show 4 < 16 by decide)⟩ (show (mm_ca xs (mm_K + 1 + 0)).getD 4 0 = tabI 0 4 from rfl) ?_
        refine wp_iload_n (j := 0) rfl q76_ok d76_15 ?_
        refine wp_icmp_ne q76_ok d76_16 (t := 21) rfl (fun h16 => ?_) (fun h16 => ?_)
        · have e1 : ¬ c = tabI 0 4 := fun q => h16 q.symm
          refine wp_iinc (j := 2) rfl (by first | exact inc1 | rfl) (rfl : _ = [_, _, _]) q76_ok d76_21 ?_
          refine wp_goto (t := 2) rfl q76_ok d76_24 ?_
          refine wp_iconst (v := 4) (by decide) q76_ok d76_2 ?_
          refine wp_iload_n (j := 2) rfl q76_ok d76_3 ?_
          refine wp_imul rfl q76_ok d76_4 ?_
          refine wp_aload_n (j := 1) rfl q76_ok d76_5 ?_
          refine wp_alenK q76_ok d76_6 (Nat.le_of_ble_eq_true rfl) (Nat.le_of_ble_eq_true rfl) (show Int32.ofNat (mm_ca xs (mm_K + 1 + 0)).length = 16 from rfl) ?_
          refine wp_icmp_ge q76_ok d76_7 (t := 27) rfl (fun h7 => ?_) (fun h7 => ?_)
          · exact absurd h7 (by decide)
          · refine wp_aload_n (j := 1) rfl q76_ok d76_10 ?_
            refine wp_iconst (v := 4) (by decide) q76_ok d76_11 ?_
            refine wp_iload_n (j := 2) rfl q76_ok d76_12 ?_
            refine wp_imul rfl q76_ok d76_13 ?_
            refine wp_ialdK q76_ok d76_14 (Nat.le_of_ble_eq_true rfl) (Nat.le_of_ble_eq_true rfl) ⟨rfl, by decide, (show 8 < 16 by decide)⟩ (show (mm_ca xs (mm_K + 1 + 0)).getD 8 0 = tabI 0 8 from rfl) ?_
            refine wp_iload_n (j := 0) rfl q76_ok d76_15 ?_
            refine wp_icmp_ne q76_ok d76_16 (t := 21) rfl (fun h16 => ?_) (fun h16 => ?_)
            · have e2 : ¬ c = tabI 0 8 := fun q => h16 q.symm
              refine wp_iinc (j := 2) rfl (by first | exact inc1 | rfl) (rfl : _ = [_, _, _]) q76_ok d76_21 ?_
              refine wp_goto (t := 2) rfl q76_ok d76_24 ?_
              refine wp_iconst (v := 4) (by decide) q76_ok d76_2 ?_
              refine wp_iload_n (j := 2) rfl q76_ok d76_3 ?_
              refine wp_imul rfl q76_ok d76_4 ?_
              refine wp_aload_n (j := 1) rfl q76_ok d76_5 ?_
              refine wp_alenK q76_ok d76_6 (Nat.le_of_ble_eq_true rfl) (Nat.le_of_ble_eq_true rfl) (show Int32.ofNat (mm_ca xs (mm_K + 1 + 0)).length = 16 from rfl) ?_
              refine wp_icmp_ge q76_ok d76_7 (t := 27) rfl (fun h7 => ?_) (fun h7 => ?_)
              · exact absurd h7 (by decide)
              · refine wp_aload_n (j := 1) rfl q76_ok d76_10 ?_
                refine wp_iconst (v := 4) (by decide) q76_ok d76_11 ?_
                refine wp_iload_n (j := 2) rfl q76_ok d76_12 ?_
                refine wp_imul rfl q76_ok d76_13 ?_
                refine wp_ialdK q76_ok d76_14 (Nat.le_of_ble_eq_true rfl) (Nat.le_of_ble_eq_true rfl) ⟨rfl, by decide, (show 12 < 16 by decide)⟩ (show (mm_ca xs (mm_K + 1 + 0)).getD 12 0 = tabI 0 12 from rfl) ?_
                refine wp_iload_n (j := 0) rfl q76_ok d76_15 ?_
                refine wp_icmp_ne q76_ok d76_16 (t := 21) rfl (fun h16 => ?_) (fun h16 => ?_)
                · have e3 : ¬ c = tabI 0 12 := fun q => h16 q.symm
                  refine wp_iinc (j := 2) rfl (by first | exact inc1 | rfl) (rfl : _ = [_, _, _]) q76_ok d76_21 ?_
                  refine wp_goto (t := 2) rfl q76_ok d76_24 ?_
                  refine wp_iconst (v := 4) (by decide) q76_ok d76_2 ?_
                  refine wp_iload_n (j := 2) rfl q76_ok d76_3 ?_
                  refine wp_imul rfl q76_ok d76_4 ?_
                  refine wp_aload_n (j := 1) rfl q76_ok d76_5 ?_
                  refine wp_alenK q76_ok d76_6 (Nat.le_of_ble_eq_true rfl) (Nat.le_of_ble_eq_true rfl) (show Int32.ofNat (mm_ca xs (mm_K + 1 + 0)).length = 16 from rfl) ?_
                  refine wp_icmp_ge q76_ok d76_7 (t := 27) rfl (fun h7 => ?_) (fun h7 => ?_)
                  · refine wp_iconst (v := -1) (by decide) q76_ok d76_27 ?_
                    refine wp_iret q76_ok d76_28 rfl ?_
                    exact ⟨by unfold itO; (rw [if_neg e0, if_neg e1, if_neg e2, if_neg (by decide), if_neg e3]) <;> rfl, rfl⟩
                  · exact absurd (by decide) h7
                · have h16 := Classical.not_not.mp h16
                  have e3 : c = tabI 0 12 := h16.symm
                  refine wp_iload_n (j := 2) rfl q76_ok d76_19 ?_
                  refine wp_iret q76_ok d76_20 rfl ?_
                  exact ⟨by unfold itO; (rw [if_neg e0, if_neg e1, if_neg e2, if_neg (by decide), if_pos e3]) <;> rfl, rfl⟩
            · have h16 := Classical.not_not.mp h16
              have e2 : c = tabI 0 8 := h16.symm
              refine wp_iload_n (j := 2) rfl q76_ok d76_19 ?_
              refine wp_iret q76_ok d76_20 rfl ?_
              exact ⟨by unfold itO; (rw [if_neg e0, if_neg e1, if_pos e2]) <;> rfl, rfl⟩
        · have h16 := Classical.not_not.mp h16
          have e1 : c = tabI 0 4 := h16.symm
          refine wp_iload_n (j := 2) rfl q76_ok d76_19 ?_
          refine wp_iret q76_ok d76_20 rfl ?_
          exact ⟨by unfold itO; (rw [if_neg e0, if_pos e1]) <;> rfl, rfl⟩
    · have h16 := Classical.not_not.mp h16
      have e0 : c = tabI 0 0 := h16.symm
      refine wp_iload_n (j := 2) rfl q76_ok d76_19 ?_
      refine wp_iret q76_ok d76_20 rfl ?_
      exact ⟨by unfold itO; (rw [if_pos e0]) <;> rfl, rfl⟩
theorem c_itemOf1 {xs : List Int32} {ext : mm_X} {n : Nat} {sh : mm_S} {d : mm_D} {g : mm_G} {r : mm_R} (c : Int32) : wp xs ext (n + 0) 76 0 [some (.int c), some (.ref (mm_K + 1 + 1)), none] [] (sh, d, g, r) (fun v μ => v = some (.int (itO 1 c)) ∧ μ = (sh, d, g, r)) := by
  refine wp_iconst (v := 0) (by decide) q76_ok d76_0 ?_
  refine wp_istore_n (j := 2) (Nat.le_of_ble_eq_true rfl) (rfl : _ = [_, _, _]) q76_ok d76_1 ?_
  refine wp_iconst (v := 4) (by decide) q76_ok d76_2 ?_
  refine wp_iload_n (j := 2) rfl q76_ok d76_3 ?_
  refine wp_imul rfl q76_ok d76_4 ?_
  refine wp_aload_n (j := 1) rfl q76_ok d76_5 ?_
  refine wp_alenK q76_ok d76_6 (Nat.le_of_ble_eq_true rfl) (Nat.le_of_ble_eq_true rfl) (show Int32.ofNat (mm_ca xs (mm_K + 1 + 1)).length = 16 from rfl) ?_
  refine wp_icmp_ge q76_ok d76_7 (t := 27) rfl (fun h7 => ?_) (fun h7 => ?_)
  · exact absurd h7 (by decide)
  · refine wp_aload_n (j := 1) rfl q76_ok d76_10 ?_
    refine wp_iconst (v := 4) (by decide) q76_ok d76_11 ?_
    refine wp_iload_n (j := 2) rfl q76_ok d76_12 ?_
    refine wp_imul rfl q76_ok d76_13 ?_
    refine wp_ialdK q76_ok d76_14 (Nat.le_of_ble_eq_true rfl) (Nat.le_of_ble_eq_true rfl) ⟨rfl, by decide, (show 0 < 16 by decide)⟩ (show (mm_ca xs (mm_K + 1 + 1)).getD 0 0 = tabI 1 0 from rfl) ?_
    refine wp_iload_n (j := 0) rfl q76_ok d76_15 ?_
    refine wp_icmp_ne q76_ok d76_16 (t := 21) rfl (fun h16 => ?_) (fun h16 => ?_)
    · have e0 : ¬ c = tabI 1 0 := fun q => h16 q.symm
      refine wp_iinc (j := 2) rfl (by first | exact inc1 | rfl) (rfl : _ = [_, _, _]) q76_ok d76_21 ?_
      refine wp_goto (t := 2) rfl q76_ok d76_24 ?_
      refine wp_iconst (v := 4) (by decide) q76_ok d76_2 ?_
      refine wp_iload_n (j := 2) rfl q76_ok d76_3 ?_
      refine wp_imul rfl q76_ok d76_4 ?_
      refine wp_aload_n (j := 1) rfl q76_ok d76_5 ?_
      refine wp_alenK q76_ok d76_6 (Nat.le_of_ble_eq_true rfl) (Nat.le_of_ble_eq_true rfl) (show Int32.ofNat (mm_ca xs (mm_K + 1 + 1)).length = 16 from rfl) ?_
      refine wp_icmp_ge q76_ok d76_7 (t := 27) rfl (fun h7 => ?_) (fun h7 => ?_)
      · exact absurd h7 (by decide)
      · refine wp_aload_n (j := 1) rfl q76_ok d76_10 ?_
        refine wp_iconst (v := 4) (by decide) q76_ok d76_11 ?_
        refine wp_iload_n (j := 2) rfl q76_ok d76_12 ?_
        refine wp_imul rfl q76_ok d76_13 ?_
        refine wp_ialdK q76_ok d76_14 (Nat.le_of_ble_eq_true rfl) (Nat.le_of_ble_eq_true rfl) ⟨rfl, by decide, (show 4 < 16 by decide)⟩ (show (mm_ca xs (mm_K + 1 + 1)).getD 4 0 = tabI 1 4 from rfl) ?_
        refine wp_iload_n (j := 0) rfl q76_ok d76_15 ?_
        refine wp_icmp_ne q76_ok d76_16 (t := 21) rfl (fun h16 => ?_) (fun h16 => ?_)
        · have e1 : ¬ c = tabI 1 4 := fun q => h16 q.symm
          refine wp_iinc (j := 2) rfl (by first | exact inc1 | rfl) (rfl : _ = [_, _, _]) q76_ok d76_21 ?_
          refine wp_goto (t := 2) rfl q76_ok d76_24 ?_
          refine wp_iconst (v := 4) (by decide) q76_ok d76_2 ?_
          refine wp_iload_n (j := 2) rfl q76_ok d76_3 ?_
          refine wp_imul rfl q76_ok d76_4 ?_
          refine wp_aload_n (j := 1) rfl q76_ok d76_5 ?_
          refine wp_alenK q76_ok d76_6 (Nat.le_of_ble_eq_true rfl) (Nat.le_of_ble_eq_true rfl) (show Int32.ofNat (mm_ca xs (mm_K + 1 + 1)).length = 16 from rfl) ?_
          refine wp_icmp_ge q76_ok d76_7 (t := 27) rfl (fun h7 => ?_) (fun h7 => ?_)
          · exact absurd h7 (by decide)
          · refine wp_aload_n (j := 1) rfl q76_ok d76_10 ?_
            refine wp_iconst (v := 4) (by decide) q76_ok d76_11 ?_
            refine wp_iload_n (j := 2) rfl q76_ok d76_12 ?_
            refine wp_imul rfl q76_ok d76_13 ?_
            refine wp_ialdK q76_ok d76_14 (Nat.le_of_ble_eq_true rfl) (Nat.le_of_ble_eq_true rfl) ⟨rfl, by decide, (show 8 < 16 by decide)⟩ (show (mm_ca xs (mm_K + 1 + 1)).getD 8 0 = tabI 1 8 from rfl) ?_
            refine wp_iload_n (j := 0) rfl q76_ok d76_15 ?_
            refine wp_icmp_ne q76_ok d76_16 (t := 21) rfl (fun h16 => ?_) (fun h16 => ?_)
            · have e2 : ¬ c = tabI 1 8 := fun q => h16 q.symm
              refine wp_iinc (j := 2) rfl (by first | exact inc1 | rfl) (rfl : _ = [_, _, _]) q76_ok d76_21 ?_
              refine wp_goto (t := 2) rfl q76_ok d76_24 ?_
              refine wp_iconst (v := 4) (by decide) q76_ok d76_2 ?_
              refine wp_iload_n (j := 2) rfl q76_ok d76_3 ?_
              refine wp_imul rfl q76_ok d76_4 ?_
              refine wp_aload_n (j := 1) rfl q76_ok d76_5 ?_
              refine wp_alenK q76_ok d76_6 (Nat.le_of_ble_eq_true rfl) (Nat.le_of_ble_eq_true rfl) (show Int32.ofNat (mm_ca xs (mm_K + 1 + 1)).length = 16 from rfl) ?_
              refine wp_icmp_ge q76_ok d76_7 (t := 27) rfl (fun h7 => ?_) (fun h7 => ?_)
              · exact absurd h7 (by decide)
              · refine wp_aload_n (j := 1) rfl q76_ok d76_10 ?_
                refine wp_iconst (v := 4) (by decide) q76_ok d76_11 ?_
                refine wp_iload_n (j := 2) rfl q76_ok d76_12 ?_
                refine wp_imul rfl q76_ok d76_13 ?_
                refine wp_ialdK q76_ok d76_14 (Nat.le_of_ble_eq_true rfl) (Nat.le_of_ble_eq_true rfl) ⟨rfl, by decide, (show 12 < 16 by decide)⟩ (show (mm_ca xs (mm_K + 1 + 1)).getD 12 0 = tabI 1 12 from rfl) ?_
                refine wp_iload_n (j := 0) rfl q76_ok d76_15 ?_
                refine wp_icmp_ne q76_ok d76_16 (t := 21) rfl (fun h16 => ?_) (fun h16 => ?_)
                · have e3 : ¬ c = tabI 1 12 := fun q => h16 q.symm
                  refine wp_iinc (j := 2) rfl (by first | exact inc1 | rfl) (rfl : _ = [_, _, _]) q76_ok d76_21 ?_
                  refine wp_goto (t := 2) rfl q76_ok d76_24 ?_
                  refine wp_iconst (v := 4) (by decide) q76_ok d76_2 ?_
                  refine wp_iload_n (j := 2) rfl q76_ok d76_3 ?_
                  refine wp_imul rfl q76_ok d76_4 ?_
                  refine wp_aload_n (j := 1) rfl q76_ok d76_5 ?_
                  refine wp_alenK q76_ok d76_6 (Nat.le_of_ble_eq_true rfl) (Nat.le_of_ble_eq_true rfl) (show Int32.ofNat (mm_ca xs (mm_K + 1 + 1)).length = 16 from rfl) ?_
                  refine wp_icmp_ge q76_ok d76_7 (t := 27) rfl (fun h7 => ?_) (fun h7 => ?_)
                  · refine wp_iconst (v := -1) (by decide) q76_ok d76_27 ?_
                    refine wp_iret q76_ok d76_28 rfl ?_
                    exact ⟨by unfold itO; (rw [if_neg e0, if_neg e1, if_neg e2, if_neg (by decide), if_neg e3]) <;> rfl, rfl⟩
                  · exact absurd (by decide) h7
                · have h16 := Classical.not_not.mp h16
                  have e3 : c = tabI 1 12 := h16.symm
                  refine wp_iload_n (j := 2) rfl q76_ok d76_19 ?_
                  refine wp_iret q76_ok d76_20 rfl ?_
                  exact ⟨by unfold itO; (rw [if_neg e0, if_neg e1, if_neg e2, if_neg (by decide), if_pos e3]) <;> rfl, rfl⟩
            · have h16 := Classical.not_not.mp h16
              have e2 : c = tabI 1 8 := h16.symm
              refine wp_iload_n (j := 2) rfl q76_ok d76_19 ?_
              refine wp_iret q76_ok d76_20 rfl ?_
              exact ⟨by unfold itO; (rw [if_neg e0, if_neg e1, if_pos e2]) <;> rfl, rfl⟩
        · have h16 := Classical.not_not.mp h16
          have e1 : c = tabI 1 4 := h16.symm
          refine wp_iload_n (j := 2) rfl q76_ok d76_19 ?_
          refine wp_iret q76_ok d76_20 rfl ?_
          exact ⟨by unfold itO; (rw [if_neg e0, if_pos e1]) <;> rfl, rfl⟩
    · have h16 := Classical.not_not.mp h16
      have e0 : c = tabI 1 0 := h16.symm
      refine wp_iload_n (j := 2) rfl q76_ok d76_19 ?_
      refine wp_iret q76_ok d76_20 rfl ?_
      exact ⟨by unfold itO; (rw [if_pos e0]) <;> rfl, rfl⟩
theorem c_itemOf2 {xs : List Int32} {ext : mm_X} {n : Nat} {sh : mm_S} {d : mm_D} {g : mm_G} {r : mm_R} (c : Int32) : wp xs ext (n + 0) 76 0 [some (.int c), some (.ref (mm_K + 1 + 2)), none] [] (sh, d, g, r) (fun v μ => v = some (.int (itO 2 c)) ∧ μ = (sh, d, g, r)) := by
  refine wp_iconst (v := 0) (by decide) q76_ok d76_0 ?_
  refine wp_istore_n (j := 2) (Nat.le_of_ble_eq_true rfl) (rfl : _ = [_, _, _]) q76_ok d76_1 ?_
  refine wp_iconst (v := 4) (by decide) q76_ok d76_2 ?_
  refine wp_iload_n (j := 2) rfl q76_ok d76_3 ?_
  refine wp_imul rfl q76_ok d76_4 ?_
  refine wp_aload_n (j := 1) rfl q76_ok d76_5 ?_
  refine wp_alenK q76_ok d76_6 (Nat.le_of_ble_eq_true rfl) (Nat.le_of_ble_eq_true rfl) (show Int32.ofNat (mm_ca xs (mm_K + 1 + 2)).length = 12 from rfl) ?_
  refine wp_icmp_ge q76_ok d76_7 (t := 27) rfl (fun h7 => ?_) (fun h7 => ?_)
  · exact absurd h7 (by decide)
  · refine wp_aload_n (j := 1) rfl q76_ok d76_10 ?_
    refine wp_iconst (v := 4) (by decide) q76_ok d76_11 ?_
    refine wp_iload_n (j := 2) rfl q76_ok d76_12 ?_
    refine wp_imul rfl q76_ok d76_13 ?_
    refine wp_ialdK q76_ok d76_14 (Nat.le_of_ble_eq_true rfl) (Nat.le_of_ble_eq_true rfl) ⟨rfl, by decide, (show 0 < 12 by decide)⟩ (show (mm_ca xs (mm_K + 1 + 2)).getD 0 0 = tabI 2 0 from rfl) ?_
    refine wp_iload_n (j := 0) rfl q76_ok d76_15 ?_
    refine wp_icmp_ne q76_ok d76_16 (t := 21) rfl (fun h16 => ?_) (fun h16 => ?_)
    · have e0 : ¬ c = tabI 2 0 := fun q => h16 q.symm
      refine wp_iinc (j := 2) rfl (by first | exact inc1 | rfl) (rfl : _ = [_, _, _]) q76_ok d76_21 ?_
      refine wp_goto (t := 2) rfl q76_ok d76_24 ?_
      refine wp_iconst (v := 4) (by decide) q76_ok d76_2 ?_
      refine wp_iload_n (j := 2) rfl q76_ok d76_3 ?_
      refine wp_imul rfl q76_ok d76_4 ?_
      refine wp_aload_n (j := 1) rfl q76_ok d76_5 ?_
      refine wp_alenK q76_ok d76_6 (Nat.le_of_ble_eq_true rfl) (Nat.le_of_ble_eq_true rfl) (show Int32.ofNat (mm_ca xs (mm_K + 1 + 2)).length = 12 from rfl) ?_
      refine wp_icmp_ge q76_ok d76_7 (t := 27) rfl (fun h7 => ?_) (fun h7 => ?_)
      · exact absurd h7 (by decide)
      · refine wp_aload_n (j := 1) rfl q76_ok d76_10 ?_
        refine wp_iconst (v := 4) (by decide) q76_ok d76_11 ?_
        refine wp_iload_n (j := 2) rfl q76_ok d76_12 ?_
        refine wp_imul rfl q76_ok d76_13 ?_
        refine wp_ialdK q76_ok d76_14 (Nat.le_of_ble_eq_true rfl) (Nat.le_of_ble_eq_true rfl) ⟨rfl, by decide, (show 4 < 12 by decide)⟩ (show (mm_ca xs (mm_K + 1 + 2)).getD 4 0 = tabI 2 4 from rfl) ?_
        refine wp_iload_n (j := 0) rfl q76_ok d76_15 ?_
        refine wp_icmp_ne q76_ok d76_16 (t := 21) rfl (fun h16 => ?_) (fun h16 => ?_)
        · have e1 : ¬ c = tabI 2 4 := fun q => h16 q.symm
          refine wp_iinc (j := 2) rfl (by first | exact inc1 | rfl) (rfl : _ = [_, _, _]) q76_ok d76_21 ?_
          refine wp_goto (t := 2) rfl q76_ok d76_24 ?_
          refine wp_iconst (v := 4) (by decide) q76_ok d76_2 ?_
          refine wp_iload_n (j := 2) rfl q76_ok d76_3 ?_
          refine wp_imul rfl q76_ok d76_4 ?_
          refine wp_aload_n (j := 1) rfl q76_ok d76_5 ?_
          refine wp_alenK q76_ok d76_6 (Nat.le_of_ble_eq_true rfl) (Nat.le_of_ble_eq_true rfl) (show Int32.ofNat (mm_ca xs (mm_K + 1 + 2)).length = 12 from rfl) ?_
          refine wp_icmp_ge q76_ok d76_7 (t := 27) rfl (fun h7 => ?_) (fun h7 => ?_)
          · exact absurd h7 (by decide)
          · refine wp_aload_n (j := 1) rfl q76_ok d76_10 ?_
            refine wp_iconst (v := 4) (by decide) q76_ok d76_11 ?_
            refine wp_iload_n (j := 2) rfl q76_ok d76_12 ?_
            refine wp_imul rfl q76_ok d76_13 ?_
            refine wp_ialdK q76_ok d76_14 (Nat.le_of_ble_eq_true rfl) (Nat.le_of_ble_eq_true rfl) ⟨rfl, by decide, (show 8 < 12 by decide)⟩ (show (mm_ca xs (mm_K + 1 + 2)).getD 8 0 = tabI 2 8 from rfl) ?_
            refine wp_iload_n (j := 0) rfl q76_ok d76_15 ?_
            refine wp_icmp_ne q76_ok d76_16 (t := 21) rfl (fun h16 => ?_) (fun h16 => ?_)
            · have e2 : ¬ c = tabI 2 8 := fun q => h16 q.symm
              refine wp_iinc (j := 2) rfl (by first | exact inc1 | rfl) (rfl : _ = [_, _, _]) q76_ok d76_21 ?_
              refine wp_goto (t := 2) rfl q76_ok d76_24 ?_
              refine wp_iconst (v := 4) (by decide) q76_ok d76_2 ?_
              refine wp_iload_n (j := 2) rfl q76_ok d76_3 ?_
              refine wp_imul rfl q76_ok d76_4 ?_
              refine wp_aload_n (j := 1) rfl q76_ok d76_5 ?_
              refine wp_alenK q76_ok d76_6 (Nat.le_of_ble_eq_true rfl) (Nat.le_of_ble_eq_true rfl) (show Int32.ofNat (mm_ca xs (mm_K + 1 + 2)).length = 12 from rfl) ?_
              refine wp_icmp_ge q76_ok d76_7 (t := 27) rfl (fun h7 => ?_) (fun h7 => ?_)
              · refine wp_iconst (v := -1) (by decide) q76_ok d76_27 ?_
                refine wp_iret q76_ok d76_28 rfl ?_
                exact ⟨by unfold itO; (rw [if_neg e0, if_neg e1, if_neg e2, if_pos rfl]) <;> rfl, rfl⟩
              · exact absurd (by decide) h7
            · have h16 := Classical.not_not.mp h16
              have e2 : c = tabI 2 8 := h16.symm
              refine wp_iload_n (j := 2) rfl q76_ok d76_19 ?_
              refine wp_iret q76_ok d76_20 rfl ?_
              exact ⟨by unfold itO; (rw [if_neg e0, if_neg e1, if_pos e2]) <;> rfl, rfl⟩
        · have h16 := Classical.not_not.mp h16
          have e1 : c = tabI 2 4 := h16.symm
          refine wp_iload_n (j := 2) rfl q76_ok d76_19 ?_
          refine wp_iret q76_ok d76_20 rfl ?_
          exact ⟨by unfold itO; (rw [if_neg e0, if_pos e1]) <;> rfl, rfl⟩
    · have h16 := Classical.not_not.mp h16
      have e0 : c = tabI 2 0 := h16.symm
      refine wp_iload_n (j := 2) rfl q76_ok d76_19 ?_
      refine wp_iret q76_ok d76_20 rfl ?_
      exact ⟨by unfold itO; (rw [if_pos e0]) <;> rfl, rfl⟩
theorem c_itemOf {xs : List Int32} {ext : mm_X} {n : Nat} {sh : mm_S} {d : mm_D} {g : mm_G} {r : mm_R} {k : Nat} (hk : k < 3) (c : Int32) : wp xs ext (n + 0) 76 0 [some (.int c), some (.ref (mm_K + 1 + k)), none] [] (sh, d, g, r) (fun v μ => v = some (.int (itO k c)) ∧ μ = (sh, d, g, r)) := by
  have : k = 0 ∨ k = 1 ∨ k = 2 := by omega
  rcases this with rfl | rfl | rfl
  · exact c_itemOf0 c
  · exact c_itemOf1 c
  · exact c_itemOf2 c
/-- only the signs and row c -/
def rf (c : Nat) (d d2 : mm_D) : Prop := ∀ a, a ≠ 3 → a ≠ c → d2 a = d a
theorem rf_sf {c : Nat} {d d2 : mm_D} (h : sf d d2) : rf c d d2 := fun a h1 _ => h a h1
theorem rf_trans {c : Nat} {d d1 d2 : mm_D} (h : rf c d d1) (h' : rf c d1 d2) : rf c d d2 := fun a h1 h2 => (h' a h1 h2).trans (h a h1 h2)
def ipost (sh : mm_S) (g : mm_G) (r : mm_R) (L : wo_P) (d : mm_D) (c k : Nat) (res : Nat ⊕ (Nat × (Nat → Int32))) (v : Option Value) (μ : mm_M) : Prop := ∃ d2, μ = (sh, d2, g, r) ∧ rf c d d2 ∧ (match res with
  | .inl w => v = some (.int 0) ∧ d2 3 2 = nI w
  | .inr x => v = some (.int 1) ∧ sgR d2 L x.1 ∧ ∀ j, j < mK k → d2 c j = x.2 j)
theorem c_items_l {xs : List Int32} {ext : mm_X} {n : Nat} {sh : mm_S} {g : mm_G} {r : mm_R} {L : wo_P} (hsh : shp sh) (hr : rfx r) {c k : Nat} (hk : k < 3) (hso : so sh c 20) (hm : (sh.2.2.2 c).2 = mK k) (hc : 4 ≤ c) : ∀ (z i p : Nat) (th : Int32) (w : Nat → Int32) (u5 u6 : Option Value) (d : mm_D), z + i = 160 → sgR d L p → (∀ j, j < mK k → d c j = w j) → wp xs ext (n + 3) 75 5 [some (.ref 32), some (.ref c), some (.ref (mm_K + 1 + k)), some (.int th), some (.int (nI i)), u5, u6] [] (sh, d, g, r) (ipost sh g r L d c k (itmL L k z p th w)) := by
  have hK4 := mK4 k
  intro z
  induction z with
  | zero =>
    intro i p th w u5 u6 d hz hg hw
    have hvb : i = 160 := by omega
    subst hvb
    refine wp_iload (j := 4) rfl q75_ok d75_5 ?_
    refine wp_sipush (v := 160) (by decide) q75_ok d75_7 ?_
    refine wp_icmp_ge q75_ok d75_10 (t := 162) rfl (fun h10 => ?_) (fun h10 => ?_)
    · refine wp_iconst (v := 1) (by decide) q75_ok d75_162 ?_
      refine wp_zret q75_ok d75_163 rfl (by first | assumption | exact Or.inl rfl | exact Or.inr rfl) ?_
      exact ⟨d, rfl, fun _ _ _ => rfl, rfl, hg, hw⟩
    · exact absurd (nI_le (Nat.le_refl _) (by decide)) h10
  | succ z ih =>
    intro i p th w u5 u6 d hz hg hw
    have hlt : i < 160 := by omega
    have hwl := wsp_le L hg.2.2
    have hwg := wsp_ge L p
    refine wp_iload (j := 4) rfl q75_ok d75_5 ?_
    refine wp_sipush (v := 160) (by decide) q75_ok d75_7 ?_
    refine wp_icmp_ge q75_ok d75_10 (t := 162) rfl (fun h10 => ?_) (fun h10 => ?_)
    · exact absurd h10 (nI_ge hlt (by decide))
    · refine wp_aload_n (j := 0) rfl q75_ok d75_13 ?_
      refine wp_getR q75_ok d75_14 fl_8_9 rfl (by first | assumption | exact so0 hsh rfl) (by first | assumption | exact hr _ _ _ rfl) ?_
      refine wp_cV q75_ok d75_17 ml_8_41 rfl q35_ok (u := 4) rfl (by first | assumption | exact so0 hsh rfl) rfl (Nat.le_of_ble_eq_true rfl) (Nat.le_of_ble_eq_true rfl) (c_peek hsh hr hg) (fun v17 μ17 hc => ?_)
      obtain ⟨rfl, d1, rfl, f1, a1, w1⟩ := hc
      refine ⟨mm_le_same rfl, ?_⟩
      have hg1 : sgR d1 L (wsp L p) := ⟨tpR_sf hg.1 f1, a1, hwl⟩
      refine wp_aload_n (j := 2) rfl q75_ok d75_20 ?_
      refine wp_cS q75_ok d75_21 ml_8_84 rfl q76_ok rfl rfl rfl (Nat.le_of_ble_eq_true rfl) (Nat.le_of_ble_eq_true rfl) (c_itemOf hk _) (fun v21 μ21 hc => ?_)
      obtain ⟨rfl, rfl⟩ := hc
      refine ⟨mm_le_same rfl, ?_⟩
      refine wp_istore (j := 5) (Nat.le_of_ble_eq_true rfl) (rfl : _ = [_, _, _, _, _, _, _]) q75_ok d75_24 ?_
      refine wp_iload (j := 5) rfl q75_ok d75_26 ?_
      refine wp_if_lt q75_ok d75_28 (t := 49) rfl (fun h28 => ?_) (fun h28 => ?_)
      · refine wp_iconst (v := 1) (by decide) q75_ok d75_49 ?_
        refine wp_zret q75_ok d75_50 rfl (by first | assumption | exact Or.inl rfl | exact Or.inr rfl) ?_
        exact ⟨d1, rfl, rf_sf f1, by rw [itmL, if_pos (show itO k (bAt L (wsp L p)) < 0 from h28)]; exact ⟨rfl, hg1, fun j hj => by rw [f1 c (by omega)]; exact hw j hj⟩⟩
      · have hq0 : ¬ itO k (bAt L (wsp L p)) < 0 := h28
        obtain ⟨j, hj, hje⟩ : ∃ j, j < mK k ∧ itO k (bAt L (wsp L p)) = nI j := (itO_ok k (bAt L (wsp L p))).resolve_left (fun e => hq0 (by rw [e]; decide))
        have hjc : (itO k (bAt L (wsp L p))).toNatClampNeg = j := by rw [hje]; exact nI_clamp (by omega)
        refine wp_iload (j := 5) rfl q75_ok d75_31 ?_
        refine wp_aload_n (j := 1) rfl q75_ok d75_33 ?_
        refine wp_alen q75_ok d75_34 hso.1 (by rw [hso.2]; decide) hm rfl ?_ (shK hsh)
        refine wp_icmp_ge q75_ok d75_35 (t := 49) rfl (fun h35 => ?_) (fun h35 => ?_)
        · exact absurd h35 (by rw [hje]; exact nI_ge hj (by omega))
        · refine wp_iconst (v := 4) (by decide) q75_ok d75_38 ?_
          refine wp_iload (j := 5) rfl q75_ok d75_39 ?_
          refine wp_imul rfl q75_ok d75_41 ?_
          refine wp_iconst (v := 3) (by decide) q75_ok d75_42 ?_
          refine wp_iadd rfl q75_ok d75_43 ?_
          refine wp_aload_n (j := 2) rfl q75_ok d75_44 ?_
          refine wp_alenK q75_ok d75_45 (show mm_K ≤ mm_K + 1 + k by omega) (show mm_K + 1 + k < mm_K + 4 by omega) (show Int32.ofNat (mm_ca xs (mm_K + 1 + k)).length = nI (4 * mK k) from by rw [ca_len xs hk]; rfl) ?_
          refine wp_icmp_lt q75_ok d75_46 (t := 51) rfl (fun h46 => ?_) (fun h46 => ?_)
          · refine wp_iload_n (j := 3) rfl q75_ok d75_51 ?_
            refine wp_iload (j := 5) rfl q75_ok d75_52 ?_
            refine wp_ishr rfl q75_ok d75_54 ?_
            refine wp_iconst (v := 1) (by decide) q75_ok d75_55 ?_
            refine wp_iand rfl q75_ok d75_56 ?_
            refine wp_if_eq q75_ok d75_57 (t := 75) rfl (fun h57 => ?_) (fun h57 => ?_)
            · refine wp_iload_n (j := 3) rfl q75_ok d75_75 ?_
              refine wp_iconst (v := 1) (by decide) q75_ok d75_76 ?_
              refine wp_iload (j := 5) rfl q75_ok d75_77 ?_
              refine wp_ishl rfl q75_ok d75_79 ?_
              refine wp_ior rfl q75_ok d75_80 ?_
              refine wp_istore_n (j := 3) (Nat.le_of_ble_eq_true rfl) (rfl : _ = [_, _, _, _, _, _, _]) q75_ok d75_81 ?_
              refine wp_aload_n (j := 0) rfl q75_ok d75_82 ?_
              refine wp_getR q75_ok d75_83 fl_8_9 rfl (by first | assumption | exact so0 hsh rfl) (by first | assumption | exact hr _ _ _ rfl) ?_
              refine wp_cV q75_ok d75_86 ml_8_67 rfl q36_ok (u := 4) rfl (by first | assumption | exact so0 hsh rfl) rfl (Nat.le_of_ble_eq_true rfl) (Nat.le_of_ble_eq_true rfl) (c_skip hsh hr a1) (fun v86 μ86 hc => ?_)
              obtain ⟨rfl, rfl⟩ := hc
              refine ⟨mm_le_same rfl, ?_⟩
              have hql : wsp L p < L.1 := by
                refine Classical.byContradiction (fun q => ?_)
                have e : bAt L (wsp L p) = -1 := by unfold bAt; rw [if_neg q]
                rw [e] at hje
                have e0 : itO k (-1) = -1 := by
                  have : k = 0 ∨ k = 1 ∨ k = 2 := by omega
                  rcases this with rfl | rfl | rfl <;> decide
                rw [e0] at hje
                exact absurd hje.symm (nI_nm1 (by omega))
              have hg2 : sgR (mm_up d1 3 1 (nI (wsp L p + 1))) L (wsp L p + 1) := ⟨tpR_sf hg1.1 (sf_up _ _ _), (mm_up_at 1).trans (if_pos rfl), hql⟩
              refine wp_aload_n (j := 0) rfl q75_ok d75_89 ?_
              refine wp_getR q75_ok d75_90 fl_8_9 rfl (by first | assumption | exact so0 hsh rfl) (by first | assumption | exact hr _ _ _ rfl) ?_
              refine wp_iconst (v := 2) (by decide) q75_ok d75_93 ?_
              refine wp_cV q75_ok d75_94 ml_8_88 rfl q41_ok (u := 4) rfl (by first | assumption | exact so0 hsh rfl) rfl (Nat.le_of_ble_eq_true rfl) (Nat.le_of_ble_eq_true rfl) (c_number (f := 1) hsh hr hg2 (by decide)) (fun v94 μ94 hc => ?_)
              obtain ⟨d3, rfl, f3, m3⟩ := hc
              refine ⟨mm_le_same rfl, ?_⟩
              cases e3 : numS L 1 (wsp L p + 1) with
              | inl e =>
                rw [e3] at m3
                obtain ⟨rfl, m3⟩ := m3
                refine wp_istore (j := 6) (Nat.le_of_ble_eq_true rfl) (rfl : _ = [_, _, _, _, _, _, _]) q75_ok d75_97 ?_
                refine wp_iload (j := 6) rfl q75_ok d75_99 ?_
                refine wp_iconst (v := -1) (by decide) q75_ok d75_101 ?_
                refine wp_icmp_ne q75_ok d75_102 (t := 107) rfl (fun h102 => ?_) (fun h102 => ?_)
                · exact absurd rfl h102
                · have h102 := Classical.not_not.mp h102
                  refine wp_iconst (v := 0) (by decide) q75_ok d75_105 ?_
                  refine wp_zret q75_ok d75_106 rfl (by first | assumption | exact Or.inl rfl | exact Or.inr rfl) ?_
                  exact ⟨d3, rfl, (rf_trans (rf_sf (sf_trans f1 (sf_up d1 1 (nI (wsp L p + 1))))) (rf_sf f3)), by rw [itmL, if_neg hq0, if_pos h57, e3]; exact ⟨rfl, m3⟩⟩
              | inr x =>
                rw [e3] at m3
                obtain ⟨rfl, m3⟩ := m3
                obtain ⟨n1, n2, n3, _⟩ := num_ok1 e3
                have hw2 := wsp_ge L (wsp L p + 1)
                have hg3 : sgR d3 L x.1 := ⟨tpR_sf hg2.1 f3, m3, n3⟩
                refine wp_istore (j := 6) (Nat.le_of_ble_eq_true rfl) (rfl : _ = [_, _, _, _, _, _, _]) q75_ok d75_97 ?_
                refine wp_iload (j := 6) rfl q75_ok d75_99 ?_
                refine wp_iconst (v := -1) (by decide) q75_ok d75_101 ?_
                refine wp_icmp_ne q75_ok d75_102 (t := 107) rfl (fun h102 => ?_) (fun h102 => ?_)
                · refine wp_iload (j := 6) rfl q75_ok d75_107 ?_
                  refine wp_aload_n (j := 2) rfl q75_ok d75_109 ?_
                  refine wp_iconst (v := 4) (by decide) q75_ok d75_110 ?_
                  refine wp_iload (j := 5) rfl q75_ok d75_111 ?_
                  refine wp_imul rfl q75_ok d75_113 ?_
                  refine wp_iconst (v := 1) (by decide) q75_ok d75_114 ?_
                  refine wp_iadd rfl q75_ok d75_115 ?_
                  refine wp_ialdK q75_ok d75_116 (show mm_K ≤ mm_K + 1 + k by omega) (show mm_K + 1 + k < mm_K + 4 by omega) (show ixn (4 * (itO k (bAt L (wsp L p))) + 1) (4 * j + 1) _ from by rw [hje, show (4 : Int32) * nI j + 1 = nI (4 * j + 1) from nI_4 j 1, ca_len xs hk]; exact ixn_nI (by omega) (by omega)) (ca_get xs hk _) ?_
                  refine wp_icmp_lt q75_ok d75_117 (t := 133) rfl (fun h117 => ?_) (fun h117 => ?_)
                  · refine wp_aload_n (j := 0) rfl q75_ok d75_133 ?_
                    refine wp_getR q75_ok d75_134 fl_8_9 rfl (by first | assumption | exact so0 hsh rfl) (by first | assumption | exact hr _ _ _ rfl) ?_
                    refine wp_aload_n (j := 0) rfl q75_ok d75_137 ?_
                    refine wp_getR q75_ok d75_138 fl_8_9 rfl (by first | assumption | exact so0 hsh rfl) (by first | assumption | exact hr _ _ _ rfl) ?_
                    refine wp_getI q75_ok d75_141 fl_8_51 rfl (by first | assumption | exact so0 hsh rfl) m3 ?_
                    refine wp_iconst (v := 1) (by decide) q75_ok d75_144 ?_
                    refine wp_isub (nI_sub1 (by omega)) q75_ok d75_145 ?_
                    refine wp_cV q75_ok d75_146 ml_8_64 rfl q39_ok (u := 4) rfl (by first | assumption | exact so0 hsh rfl) rfl (Nat.le_of_ble_eq_true rfl) (Nat.le_of_ble_eq_true rfl) (c_refuse hsh hr _) (fun v146 μ146 hc => ?_)
                    obtain ⟨rfl, rfl⟩ := hc
                    refine ⟨mm_le_same rfl, ?_⟩
                    refine wp_zret q75_ok d75_149 rfl (by first | assumption | exact Or.inl rfl | exact Or.inr rfl) ?_
                    exact ⟨_, rfl, rf_trans (rf_trans (rf_sf (sf_trans f1 (sf_up d1 1 (nI (wsp L p + 1))))) (rf_sf f3)) (rf_sf (sf_up d3 _ _)), by rw [itmL, if_neg hq0, if_pos h57, e3]; dsimp only; rw [hjc, if_pos h117]; exact ⟨rfl, (mm_up_at 2).trans (if_pos rfl)⟩⟩
                  · refine wp_iload (j := 6) rfl q75_ok d75_120 ?_
                    refine wp_aload_n (j := 2) rfl q75_ok d75_122 ?_
                    refine wp_iconst (v := 4) (by decide) q75_ok d75_123 ?_
                    refine wp_iload (j := 5) rfl q75_ok d75_124 ?_
                    refine wp_imul rfl q75_ok d75_126 ?_
                    refine wp_iconst (v := 2) (by decide) q75_ok d75_127 ?_
                    refine wp_iadd rfl q75_ok d75_128 ?_
                    refine wp_ialdK q75_ok d75_129 (show mm_K ≤ mm_K + 1 + k by omega) (show mm_K + 1 + k < mm_K + 4 by omega) (show ixn (4 * (itO k (bAt L (wsp L p))) + 2) (4 * j + 2) _ from by rw [hje, show (4 : Int32) * nI j + 2 = nI (4 * j + 2) from nI_4 j 2, ca_len xs hk]; exact ixn_nI (by omega) (by omega)) (ca_get xs hk _) ?_
                    refine wp_icmp_le q75_ok d75_130 (t := 150) rfl (fun h130 => ?_) (fun h130 => ?_)
                    · refine wp_aload_n (j := 1) rfl q75_ok d75_150 ?_
                      refine wp_iload (j := 5) rfl q75_ok d75_151 ?_
                      refine wp_iload (j := 6) rfl q75_ok d75_153 ?_
                      refine wp_iast q75_ok d75_155 hso hm (show ixn (itO k (bAt L (wsp L p))) j (mK k) from by rw [hje]; exact ixn_nI hj (by omega)) ?_
                      refine wp_iinc (j := 4) rfl (by first | exact inc1 | rfl) (rfl : _ = [_, _, _, _, _, _, _]) q75_ok d75_156 ?_
                      refine wp_goto (t := 5) rfl q75_ok d75_159 ?_
                      have hw4 : ∀ i, i < mK k → mm_up d3 c j x.2 c i = rowU w j x.2 i := fun i hi => by
                        rw [mm_up_at]
                        unfold rowU
                        by_cases q : i = j
                        · rw [if_pos q, if_pos q]
                        · rw [if_neg q, if_neg q, f3 c (by omega), mm_up_ne (show c ≠ 3 by omega), f1 c (by omega)]
                          exact hw i hi
                      have hg4 : sgR (mm_up d3 c j x.2) L x.1 := by
                        refine ⟨?_, by rw [mm_up_ne (show 3 ≠ c by omega)]; exact m3, n3⟩
                        unfold tpR
                        rw [mm_up_ne (show 1 ≠ c by omega), mm_up_ne (show 2 ≠ c by omega)]
                        exact hg3.1
                      refine wp_post (ih (i + 1) x.1 _ (rowU w j x.2) _ _ _ (by omega) hg4 hw4) (fun v μ hc => ?_)
                      obtain ⟨d5, rfl, f5, m5⟩ := hc
                      refine ⟨d5, rfl, rf_trans (rf_trans (rf_trans (rf_sf (sf_trans f1 (sf_up d1 1 (nI (wsp L p + 1))))) (rf_sf f3)) (fun a h1 h2 => mm_up_ne h2)) f5, ?_⟩
                      rw [itmL, if_neg hq0, if_pos h57, e3]
                      dsimp only
                      rw [hjc, if_neg h117, if_pos h130]
                      exact m5
                    · refine wp_aload_n (j := 0) rfl q75_ok d75_133 ?_
                      refine wp_getR q75_ok d75_134 fl_8_9 rfl (by first | assumption | exact so0 hsh rfl) (by first | assumption | exact hr _ _ _ rfl) ?_
                      refine wp_aload_n (j := 0) rfl q75_ok d75_137 ?_
                      refine wp_getR q75_ok d75_138 fl_8_9 rfl (by first | assumption | exact so0 hsh rfl) (by first | assumption | exact hr _ _ _ rfl) ?_
                      refine wp_getI q75_ok d75_141 fl_8_51 rfl (by first | assumption | exact so0 hsh rfl) m3 ?_
                      refine wp_iconst (v := 1) (by decide) q75_ok d75_144 ?_
                      refine wp_isub (nI_sub1 (by omega)) q75_ok d75_145 ?_
                      refine wp_cV q75_ok d75_146 ml_8_64 rfl q39_ok (u := 4) rfl (by first | assumption | exact so0 hsh rfl) rfl (Nat.le_of_ble_eq_true rfl) (Nat.le_of_ble_eq_true rfl) (c_refuse hsh hr _) (fun v146 μ146 hc => ?_)
                      obtain ⟨rfl, rfl⟩ := hc
                      refine ⟨mm_le_same rfl, ?_⟩
                      refine wp_zret q75_ok d75_149 rfl (by first | assumption | exact Or.inl rfl | exact Or.inr rfl) ?_
                      exact ⟨_, rfl, rf_trans (rf_trans (rf_sf (sf_trans f1 (sf_up d1 1 (nI (wsp L p + 1))))) (rf_sf f3)) (rf_sf (sf_up d3 _ _)), by rw [itmL, if_neg hq0, if_pos h57, e3]; dsimp only; rw [hjc, if_neg h117, if_neg h130]; exact ⟨rfl, (mm_up_at 2).trans (if_pos rfl)⟩⟩
                · have h102 := Classical.not_not.mp h102
                  exact absurd h102 n1
            · refine wp_aload_n (j := 0) rfl q75_ok d75_60 ?_
              refine wp_getR q75_ok d75_61 fl_8_9 rfl (by first | assumption | exact so0 hsh rfl) (by first | assumption | exact hr _ _ _ rfl) ?_
              refine wp_aload_n (j := 0) rfl q75_ok d75_64 ?_
              refine wp_getR q75_ok d75_65 fl_8_9 rfl (by first | assumption | exact so0 hsh rfl) (by first | assumption | exact hr _ _ _ rfl) ?_
              refine wp_getI q75_ok d75_68 fl_8_51 rfl (by first | assumption | exact so0 hsh rfl) a1 ?_
              refine wp_cV q75_ok d75_71 ml_8_64 rfl q39_ok (u := 4) rfl (by first | assumption | exact so0 hsh rfl) rfl (Nat.le_of_ble_eq_true rfl) (Nat.le_of_ble_eq_true rfl) (c_refuse hsh hr _) (fun v71 μ71 hc => ?_)
              obtain ⟨rfl, rfl⟩ := hc
              refine ⟨mm_le_same rfl, ?_⟩
              refine wp_zret q75_ok d75_74 rfl (by first | assumption | exact Or.inl rfl | exact Or.inr rfl) ?_
              exact ⟨_, rfl, rf_sf (sf_trans f1 (sf_up d1 _ _)), by rw [itmL, if_neg hq0, if_neg h57]; exact ⟨rfl, (mm_up_at 2).trans (if_pos rfl)⟩⟩
          · exact absurd (show 4 * itO k (bAt L (wsp L p)) + 3 < nI (4 * mK k) from by rw [hje, show (4 : Int32) * nI j + 3 = nI (4 * j + 3) from nI_4 j 3]; exact (nI_ltI (by omega) (by omega)).mpr (by omega)) h46
theorem c_items {xs : List Int32} {ext : mm_X} {n : Nat} {sh : mm_S} {g : mm_G} {r : mm_R} {L : wo_P} (hsh : shp sh) (hr : rfx r) {c k p : Nat} (hk : k < 3) (hso : so sh c 20) (hm : (sh.2.2.2 c).2 = mK k) (hc : 4 ≤ c) {w : Nat → Int32} {d : mm_D} (hg : sgR d L p) (hw : ∀ j, j < mK k → d c j = w j) : wp xs ext (n + 3) 75 0 [some (.ref 32), some (.ref c), some (.ref (mm_K + 1 + k)), none, none, none, none] [] (sh, d, g, r) (ipost sh g r L d c k (itmL L k 160 p 0 w)) := by
  refine wp_iconst (v := 0) (by decide) q75_ok d75_0 ?_
  refine wp_istore_n (j := 3) (Nat.le_of_ble_eq_true rfl) (rfl : _ = [_, _, _, _, _, _, _]) q75_ok d75_1 ?_
  refine wp_iconst (v := 0) (by decide) q75_ok d75_2 ?_
  refine wp_istore (j := 4) (Nat.le_of_ble_eq_true rfl) (rfl : _ = [_, _, _, _, _, _, _]) q75_ok d75_3 ?_
  exact c_items_l hsh hr hk hso hm hc 160 0 p 0 w none none d (by omega) hg hw
