/-! ===== who wavers, and the trial ===== -/
def heedsC (c : Nat → Int32) : Nat → Nat → Int32
  | 0, _ => 0
  | m + 1, a => if c a = -5 then 1 else heedsC c m (a + 1)
theorem heedsC01 (c : Nat → Int32) : ∀ m a, heedsC c m a = 0 ∨ heedsC c m a = 1
  | 0, _ => Or.inl rfl
  | m + 1, a => by
    rw [heedsC]
    split
    · exact Or.inr rfl
    · exact heedsC01 c m (a + 1)
def wavC (d : mm_D) (r : mm_R) : Nat → Int32
  | 0 => 0
  | k + 1 => match r 12 k with
    | none => wavC d r k
    | some h => if heedsC (d (h + 1)) (lenC d h) 0 = 0 then wavC d r k else wavC d r k ||| bitC k
theorem wavC_ag {d d' : mm_D} {r : mm_R} (ha : ag d d') (hb : habs d r) : ∀ k, k ≤ 6 → wavC d' r k = wavC d r k
  | 0, _ => rfl
  | k + 1, h => by
    rw [wavC, wavC, wavC_ag ha hb k (by omega)]
    cases hc : r 12 k with
    | none => rfl
    | some x =>
      have hh := (hb k x (by omega) hc).1
      have e1 := ha _ (hab_nscr hh).1
      have e2 := ha _ (hab_nscr hh).2
      have ew : heedsC (d' (x + 1)) (lenC d' x) 0 = heedsC (d (x + 1)) (lenC d x) 0 := by
        unfold lenC
        rw [e1, e2]
      show (if heedsC (d' (x + 1)) (lenC d' x) 0 = 0 then wavC d r k else wavC d r k ||| bitC k) = if heedsC (d (x + 1)) (lenC d x) 0 = 0 then wavC d r k else wavC d r k ||| bitC k
      rw [ew]
theorem c_heeds_l {xs : List Int32} {ext : mm_X} {n : Nat} {sh : mm_S} {d : mm_D} {g : mm_G} {r : mm_R} (hsh : shp sh) (hr : rfx r) {h len : Nat} (hh : hb sh r h) (hlen : d h 2 = nI len) (hl : len ≤ 160) : ∀ (m a : Nat), m + a = len → wp xs ext (n + 1) 7 2 [some (.ref h), some (.int (nI a))] [] (sh, d, g, r) (fun v μ => v = some (.int (heedsC (d (h + 1)) m a)) ∧ μ = (sh, d, g, r)) := by
  obtain ⟨ho1, ho2, ho3, ho4, ho5, ho6, ho7⟩ := hh
  intro m
  induction m with
  | zero =>
    intro a  hm
    have hvb : len = a := by omega
    subst hvb
    refine wp_iload_n (j := 1) rfl q7_ok d7_2 ?_
    refine wp_aload_n (j := 0) rfl q7_ok d7_3 ?_
    refine wp_getI q7_ok d7_4 fl_0_22 rfl (by first | assumption | exact so0 hsh rfl) (by first | assumption | rfl) ?_
    refine wp_icmp_ge q7_ok d7_7 (t := 38) rfl (fun h7 => ?_) (fun h7 => ?_)
    · refine wp_iconst (v := 0) (by decide) q7_ok d7_38 ?_
      refine wp_zret q7_ok d7_39 rfl (by first | assumption | exact Or.inl rfl | exact Or.inr rfl) ?_
      exact ⟨rfl, rfl⟩
    · exact absurd (nI_le (Nat.le_refl _) (by omega)) h7
  | succ m ih =>
    intro a  hm
    have hlt : a < len := by omega
    refine wp_iload_n (j := 1) rfl q7_ok d7_2 ?_
    refine wp_aload_n (j := 0) rfl q7_ok d7_3 ?_
    refine wp_getI q7_ok d7_4 fl_0_22 rfl (by first | assumption | exact so0 hsh rfl) (by first | assumption | rfl) ?_
    refine wp_icmp_ge q7_ok d7_7 (t := 38) rfl (fun h7 => ?_) (fun h7 => ?_)
    · exact absurd h7 (nI_ge hlt (by omega))
    · refine wp_iload_n (j := 1) rfl q7_ok d7_10 ?_
      refine wp_aload_n (j := 0) rfl q7_ok d7_11 ?_
      refine wp_getR q7_ok d7_12 fl_0_9 rfl (by first | assumption | exact so0 hsh rfl) (by first | assumption | exact hr _ _ _ rfl) ?_
      refine wp_alen (m := 160) q7_ok d7_15 ho2.1 (so20 ho2) (by first | assumption | exact shl hsh (Nat.le_of_ble_eq_true rfl) rfl) rfl ?_ (shK hsh)
      refine wp_icmp_ge q7_ok d7_16 (t := 38) rfl (fun h16 => ?_) (fun h16 => ?_)
      · exact absurd h16 (nI_ge (show a < 160 by omega) (by decide))
      · refine wp_aload_n (j := 0) rfl q7_ok d7_19 ?_
        refine wp_getR q7_ok d7_20 fl_0_9 rfl (by first | assumption | exact so0 hsh rfl) (by first | assumption | exact hr _ _ _ rfl) ?_
        refine wp_iload_n (j := 1) rfl q7_ok d7_23 ?_
        refine wp_iald (m := 160) q7_ok d7_24 (by first | assumption | exact so0 hsh rfl) (by first | assumption | exact shl hsh (Nat.le_of_ble_eq_true rfl) rfl) (by first | assumption | exact ixn_nI (by omega)) (by first | assumption | rfl) ?_ (shK hsh)
        refine wp_bipush (v := -5) (by decide) q7_ok d7_25 ?_
        refine wp_icmp_ne q7_ok d7_27 (t := 32) rfl (fun h27 => ?_) (fun h27 => ?_)
        · refine wp_iinc (j := 1) rfl (by first | exact inc1 | rfl) (rfl : _ = [_, _]) q7_ok d7_32 ?_
          refine wp_goto (t := 2) rfl q7_ok d7_35 ?_
          have := ih (a + 1) (by omega)
          rw [heedsC, if_neg (by assumption)]
          exact this
        · have h27 := Classical.not_not.mp h27
          refine wp_iconst (v := 1) (by decide) q7_ok d7_30 ?_
          refine wp_zret q7_ok d7_31 rfl (by first | assumption | exact Or.inl rfl | exact Or.inr rfl) ?_
          exact ⟨by rw [heedsC, if_pos (by assumption)], rfl⟩
theorem c_heeds {xs : List Int32} {ext : mm_X} {n : Nat} {sh : mm_S} {d : mm_D} {g : mm_G} {r : mm_R} (hsh : shp sh) (hr : rfx r) {h len : Nat} (hh : hb sh r h) (hlen : d h 2 = nI len) (hl : len ≤ 160) : wp xs ext (n + 1) 7 0 [some (.ref h), none] [] (sh, d, g, r) (fun v μ => v = some (.int (heedsC (d (h + 1)) len 0)) ∧ μ = (sh, d, g, r)) := by
  refine wp_iconst (v := 0) (by decide) q7_ok d7_0 ?_
  refine wp_istore_n (j := 1) (Nat.le_of_ble_eq_true rfl) (rfl : _ = [_, _]) q7_ok d7_1 ?_
  exact c_heeds_l hsh hr hh hlen hl len 0 (by omega)
theorem c_wav_l {xs : List Int32} {ext : mm_X} {n : Nat} {sh : mm_S} {d : mm_D} {g : mm_G} {r : mm_R} (hsh : shp sh) (hr : rfx r) {np : Nat} (hnp : d 4 5 = nI np) (h6 : np ≤ 6) (hbs : habs d r) : ∀ (m k : Nat) (z : Option Value), m + k = np → wp xs ext (n + 2) 68 4 [some (.ref 4), some (.int (wavC d r k)), some (.int (nI k)), z] [] (sh, d, g, r) (fun v μ => v = some (.int (wavC d r np)) ∧ μ = (sh, d, g, r)) := by
  intro m
  induction m with
  | zero =>
    intro k z hm
    have hvb : np = k := by omega
    subst hvb
    refine wp_iload_n (j := 2) rfl q68_ok d68_4 ?_
    refine wp_aload_n (j := 0) rfl q68_ok d68_5 ?_
    refine wp_getI q68_ok d68_6 fl_7_32 rfl (by first | assumption | exact so0 hsh rfl) (by first | assumption | rfl) ?_
    refine wp_icmp_ge q68_ok d68_9 (t := 48) rfl (fun h9 => ?_) (fun h9 => ?_)
    · refine wp_iload_n (j := 1) rfl q68_ok d68_48 ?_
      refine wp_iret q68_ok d68_49 rfl ?_
      exact ⟨rfl, rfl⟩
    · exact absurd (nI_le (Nat.le_refl _) (by omega)) h9
  | succ m ih =>
    intro k z hm
    have hlt : k < np := by omega
    have hk6 : k < 6 := by omega
    cases hc : r 12 k with
    | none =>
      have := ih (k + 1) (some .null) (by omega)
      simp only [wavC, hc] at this
      refine wp_iload_n (j := 2) rfl q68_ok d68_4 ?_
      refine wp_aload_n (j := 0) rfl q68_ok d68_5 ?_
      refine wp_getI q68_ok d68_6 fl_7_32 rfl (by first | assumption | exact so0 hsh rfl) (by first | assumption | rfl) ?_
      refine wp_icmp_ge q68_ok d68_9 (t := 48) rfl (fun h9 => ?_) (fun h9 => ?_)
      · exact absurd h9 (nI_ge hlt (by omega))
      · refine wp_iload_n (j := 2) rfl q68_ok d68_12 ?_
        refine wp_bipush (v := 6) (by decide) q68_ok d68_13 ?_
        refine wp_icmp_ge q68_ok d68_15 (t := 48) rfl (fun h15 => ?_) (fun h15 => ?_)
        · exact absurd h15 (nI_ge hk6 (by decide))
        · refine wp_aload_n (j := 0) rfl q68_ok d68_18 ?_
          refine wp_getR q68_ok d68_19 fl_7_18 rfl (by first | assumption | exact so0 hsh rfl) (by first | assumption | exact hr _ _ _ rfl) ?_
          refine wp_iload_n (j := 2) rfl q68_ok d68_22 ?_
          refine wp_aaldN (m := 6) q68_ok d68_23 (t := 23) (by decide) (by first | assumption | exact so0 hsh rfl) (by first | assumption | exact shl hsh (Nat.le_of_ble_eq_true rfl) rfl) (ixn_nI hk6) hc ?_
          refine wp_astore_nN (j := 3) (Nat.le_of_ble_eq_true rfl) (rfl : _ = [_, _, _, _]) q68_ok d68_24 ?_
          refine wp_aload_nN (j := 3) rfl q68_ok d68_25 ?_
          refine wp_ifnullN (t := 42) rfl q68_ok d68_26 ?_
          refine wp_iinc (j := 2) rfl (by first | exact inc1 | rfl) (rfl : _ = [_, _, _, _]) q68_ok d68_42 ?_
          refine wp_goto (t := 4) rfl q68_ok d68_45 ?_
          exact this
    | some h =>
      obtain ⟨hh, len, hlen, hl, hind⟩ := hbs k h hk6 hc
      have hhb := hab_hb hsh hr hh
      have ho1 := hhb.1
      have := ih (k + 1) (some (.ref h)) (by omega)
      simp only [wavC, hc, lenC_nI hlen hl] at this
      refine wp_iload_n (j := 2) rfl q68_ok d68_4 ?_
      refine wp_aload_n (j := 0) rfl q68_ok d68_5 ?_
      refine wp_getI q68_ok d68_6 fl_7_32 rfl (by first | assumption | exact so0 hsh rfl) (by first | assumption | rfl) ?_
      refine wp_icmp_ge q68_ok d68_9 (t := 48) rfl (fun h9 => ?_) (fun h9 => ?_)
      · exact absurd h9 (nI_ge hlt (by omega))
      · refine wp_iload_n (j := 2) rfl q68_ok d68_12 ?_
        refine wp_bipush (v := 6) (by decide) q68_ok d68_13 ?_
        refine wp_icmp_ge q68_ok d68_15 (t := 48) rfl (fun h15 => ?_) (fun h15 => ?_)
        · exact absurd h15 (nI_ge hk6 (by decide))
        · refine wp_aload_n (j := 0) rfl q68_ok d68_18 ?_
          refine wp_getR q68_ok d68_19 fl_7_18 rfl (by first | assumption | exact so0 hsh rfl) (by first | assumption | exact hr _ _ _ rfl) ?_
          refine wp_iload_n (j := 2) rfl q68_ok d68_22 ?_
          refine wp_aald (m := 6) q68_ok d68_23 (t := 23) (by decide) (by first | assumption | exact so0 hsh rfl) (by first | assumption | exact shl hsh (Nat.le_of_ble_eq_true rfl) rfl) (ixn_nI hk6) hc ?_
          refine wp_astore_n (j := 3) (Nat.le_of_ble_eq_true rfl) (rfl : _ = [_, _, _, _]) q68_ok d68_24 ?_
          refine wp_aload_n (j := 3) rfl q68_ok d68_25 ?_
          refine wp_ifnull q68_ok d68_26 ?_
          refine wp_aload_n (j := 3) rfl q68_ok d68_29 ?_
          refine wp_cV q68_ok d68_30 ml_7_101 rfl q7_ok (u := 0) rfl (by first | assumption | exact so0 hsh rfl) rfl (Nat.le_of_ble_eq_true rfl) (Nat.le_of_ble_eq_true rfl) (c_heeds hsh hr hhb hlen hl) (fun v30 μ30 hc => ?_)
          obtain ⟨rfl, rfl⟩ := hc
          refine ⟨mm_le_same rfl, ?_⟩
          refine wp_if_eq q68_ok d68_33 (t := 42) rfl (fun h33 => ?_) (fun h33 => ?_)
          · refine wp_iinc (j := 2) rfl (by first | exact inc1 | rfl) (rfl : _ = [_, _, _, _]) q68_ok d68_42 ?_
            refine wp_goto (t := 4) rfl q68_ok d68_45 ?_
            rw [if_pos h33] at this
            exact this
          · refine wp_iload_n (j := 1) rfl q68_ok d68_36 ?_
            refine wp_iconst (v := 1) (by decide) q68_ok d68_37 ?_
            refine wp_iload_n (j := 2) rfl q68_ok d68_38 ?_
            refine wp_ishl rfl q68_ok d68_39 ?_
            refine wp_ior rfl q68_ok d68_40 ?_
            refine wp_istore_n (j := 1) (Nat.le_of_ble_eq_true rfl) (rfl : _ = [_, _, _, _]) q68_ok d68_41 ?_
            refine wp_iinc (j := 2) rfl (by first | exact inc1 | rfl) (rfl : _ = [_, _, _, _]) q68_ok d68_42 ?_
            refine wp_goto (t := 4) rfl q68_ok d68_45 ?_
            rw [if_neg h33] at this
            exact this
theorem c_wav {xs : List Int32} {ext : mm_X} {n : Nat} {sh : mm_S} {d : mm_D} {g : mm_G} {r : mm_R} (hsh : shp sh) (hr : rfx r) {np : Nat} (hnp : d 4 5 = nI np) (h6 : np ≤ 6) (hbs : habs d r) : wp xs ext (n + 2) 68 0 [some (.ref 4), none, none, none] [] (sh, d, g, r) (fun v μ => v = some (.int (wavC d r np)) ∧ μ = (sh, d, g, r)) := by
  refine wp_iconst (v := 0) (by decide) q68_ok d68_0 ?_
  refine wp_istore_n (j := 1) (Nat.le_of_ble_eq_true rfl) (rfl : _ = [_, _, _, _]) q68_ok d68_1 ?_
  refine wp_iconst (v := 0) (by decide) q68_ok d68_2 ?_
  refine wp_istore_n (j := 2) (Nat.le_of_ble_eq_true rfl) (rfl : _ = [_, _, _, _]) q68_ok d68_3 ?_
  exact c_wav_l hsh hr hnp h6 hbs np 0 none (by omega)
