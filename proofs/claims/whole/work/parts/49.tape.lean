/-! ===== feed, end ===== -/
abbrev wo_P : Type := Nat × (Nat → Int32)
def byt (x : Int32) (s : Nat) : Int32 := us32 x (nI s) &&& 255
def shS (j : Nat) : Int32 := nI (8 * j) - 8
theorem shS_0 : shS 0 < 0 := by decide
theorem shS_s {j : Nat} (h : j < 4) : shS (j + 1) = nI (8 * j) := by
  have : ∀ j, j < 4 → shS (j + 1) = nI (8 * j) := by decide
  exact this j h
theorem shS_n {j : Nat} (h : j < 4) : ¬ shS (j + 1) < 0 := by
  have : ∀ j, j < 4 → ¬ shS (j + 1) < 0 := by decide
  exact this j h
theorem shS_d {j : Nat} (h : j < 4) : shS (j + 1) + Int32.ofInt (-8) = shS j := by
  have : ∀ j, j < 4 → shS (j + 1) + Int32.ofInt (-8) = shS j := by decide
  exact this j h
/-- how many of the last j bytes are there -/
def cntW (x : Int32) : Nat → Nat
  | 0 => 0
  | j + 1 => (if byt x (8 * j) = 0 then 0 else 1) + cntW x j
theorem cntW_le (x : Int32) : ∀ j, cntW x j ≤ j
  | 0 => Nat.le_refl _
  | j + 1 => by
    rw [cntW]
    have := cntW_le x j
    split <;> omega
def psh (L : wo_P) (x : Int32) : wo_P := if x = 0 then L else (L.1 + 1, fun i => if i = L.1 then x else L.2 i)
def pshW (x : Int32) : Nat → wo_P → wo_P
  | 0, L => L
  | j + 1, L => pshW x j (psh L (byt x (8 * j)))
theorem pshW_1 (x : Int32) : ∀ j L, (pshW x j L).1 = L.1 + cntW x j
  | 0, _ => rfl
  | j + 1, L => by
    rw [pshW, cntW, pshW_1 x j]
    unfold psh
    split
    · rw [Nat.zero_add]
    · show L.1 + 1 + _ = _
      omega
def tpR (d : mm_D) (L : wo_P) : Prop := d 1 1 = nI L.1 ∧ L.1 ≤ 160 ∧ ∀ i, i < L.1 → d 2 i = L.2 i
theorem c_bytes_l {xs : List Int32} {ext : mm_X} {n : Nat} {sh : mm_S} {d : mm_D} {g : mm_G} {r : mm_R} (x : Int32) : ∀ (j : Nat) (f : Nat), j ≤ 4 → wp xs ext (n + 0) 43 5 [some (.int x), some (.int (nI f)), some (.int (shS j))] [] (sh, d, g, r) (fun v μ => v = some (.int (nI (f + cntW x j))) ∧ μ = (sh, d, g, r)) := by
  intro j
  induction j with
  | zero =>
    intro f hj
    refine wp_iload_n (j := 2) rfl q43_ok d43_5 ?_
    refine wp_if_lt q43_ok d43_6 (t := 33) rfl (fun h6 => ?_) (fun h6 => ?_)
    · refine wp_iload_n (j := 1) rfl q43_ok d43_33 ?_
      refine wp_iret q43_ok d43_34 rfl ?_
      exact ⟨rfl, rfl⟩
    · exact absurd shS_0 h6
  | succ j ih =>
    intro f hj
    have hb : us32 x (shS (j + 1)) &&& 255 = byt x (8 * j) := by rw [shS_s (by omega)]; rfl
    refine wp_iload_n (j := 2) rfl q43_ok d43_5 ?_
    refine wp_if_lt q43_ok d43_6 (t := 33) rfl (fun h6 => ?_) (fun h6 => ?_)
    · exact absurd h6 (shS_n (by omega))
    · refine wp_iload_n (j := 1) rfl q43_ok d43_9 ?_
      refine wp_iload_n (j := 0) rfl q43_ok d43_10 ?_
      refine wp_iload_n (j := 2) rfl q43_ok d43_11 ?_
      refine wp_iushr rfl q43_ok d43_12 ?_
      refine wp_sipush (v := 255) (by decide) q43_ok d43_13 ?_
      refine wp_iand hb q43_ok d43_16 ?_
      refine wp_if_eq q43_ok d43_17 (t := 24) rfl (fun h17 => ?_) (fun h17 => ?_)
      · refine wp_iconst (v := 0) (by decide) q43_ok d43_24 ?_
        refine wp_iadd rfl q43_ok d43_25 ?_
        refine wp_istore_n (j := 1) (Nat.le_of_ble_eq_true rfl) (rfl : _ = [_, _, _]) q43_ok d43_26 ?_
        refine wp_iinc (j := 2) rfl (shS_d (by omega)) (rfl : _ = [_, _, _]) q43_ok d43_27 ?_
        refine wp_goto (t := 5) rfl q43_ok d43_30 ?_
        have this := ih f (by omega)
        rw [show nI f + 0 = nI f from Int32.add_zero _, cntW, if_pos h17, Nat.zero_add]
        exact this
      · refine wp_iconst (v := 1) (by decide) q43_ok d43_20 ?_
        refine wp_goto (t := 25) rfl q43_ok d43_21 ?_
        refine wp_iadd rfl q43_ok d43_25 ?_
        refine wp_istore_n (j := 1) (Nat.le_of_ble_eq_true rfl) (rfl : _ = [_, _, _]) q43_ok d43_26 ?_
        refine wp_iinc (j := 2) rfl (shS_d (by omega)) (rfl : _ = [_, _, _]) q43_ok d43_27 ?_
        refine wp_goto (t := 5) rfl q43_ok d43_30 ?_
        have this := ih (f + 1) (by omega)
        rw [show nI f + 1 = nI (f + 1) from nI_1 f, cntW, if_neg h17, ← Nat.add_assoc]
        exact this
theorem c_bytes {xs : List Int32} {ext : mm_X} {n : Nat} {sh : mm_S} {d : mm_D} {g : mm_G} {r : mm_R}  (x : Int32) : wp xs ext (n + 0) 43 0 [some (.int x), none, none] [] (sh, d, g, r) (fun v μ => v = some (.int (nI (cntW x 4))) ∧ μ = (sh, d, g, r)) := by
  refine wp_iconst (v := 0) (by decide) q43_ok d43_0 ?_
  refine wp_istore_n (j := 1) (Nat.le_of_ble_eq_true rfl) (rfl : _ = [_, _, _]) q43_ok d43_1 ?_
  refine wp_bipush (v := 24) (by decide) q43_ok d43_2 ?_
  refine wp_istore_n (j := 2) (Nat.le_of_ble_eq_true rfl) (rfl : _ = [_, _, _]) q43_ok d43_4 ?_
  have this := c_bytes_l (xs := xs) (ext := ext) (n := n) (sh := sh) (d := d) (g := g) (r := r) x 4 0 (Nat.le_refl _)
  rw [Nat.zero_add] at this
  exact this
theorem c_add_l {xs : List Int32} {ext : mm_X} {n : Nat} {sh : mm_S} {g : mm_G} {r : mm_R} (hsh : shp sh) (hr : rfx r) (x : Int32) : ∀ (j : Nat) (u : Option Value) (L : wo_P) (d : mm_D), j ≤ 4 → tpR d L → L.1 + cntW x j ≤ 160 → wp xs ext (n + 0) 44 3 [some (.ref 1), some (.int x), some (.int (shS j)), u] [] (sh, d, g, r) (fun v μ => v = none ∧ ∃ d2, μ = (sh, d2, g, r) ∧ tpR d2 (pshW x j L) ∧ (∀ c, c ≠ 1 → c ≠ 2 → d2 c = d c) ∧ d2 1 0 = d 1 0) := by
  intro j
  induction j with
  | zero =>
    intro u L d hj hL hs
    refine wp_iload_n (j := 2) rfl q44_ok d44_3 ?_
    refine wp_if_lt q44_ok d44_4 (t := 64) rfl (fun h4 => ?_) (fun h4 => ?_)
    · refine wp_vret q44_ok d44_64 rfl ?_
      exact ⟨rfl, d, rfl, hL, fun _ _ _ => rfl, rfl⟩
    · exact absurd shS_0 h4
  | succ j ih =>
    intro u L d hj hL hs
    have hb : us32 x (shS (j + 1)) &&& 255 = byt x (8 * j) := by rw [shS_s (by omega)]; rfl
    have h160 := hL.2.1
    rw [cntW] at hs
    refine wp_iload_n (j := 2) rfl q44_ok d44_3 ?_
    refine wp_if_lt q44_ok d44_4 (t := 64) rfl (fun h4 => ?_) (fun h4 => ?_)
    · exact absurd h4 (shS_n (by omega))
    · refine wp_iload_n (j := 1) rfl q44_ok d44_7 ?_
      refine wp_iload_n (j := 2) rfl q44_ok d44_8 ?_
      refine wp_iushr rfl q44_ok d44_9 ?_
      refine wp_sipush (v := 255) (by decide) q44_ok d44_10 ?_
      refine wp_iand hb q44_ok d44_13 ?_
      refine wp_istore_n (j := 3) (Nat.le_of_ble_eq_true rfl) (rfl : _ = [_, _, _, _]) q44_ok d44_14 ?_
      refine wp_iload_n (j := 3) rfl q44_ok d44_15 ?_
      refine wp_if_eq q44_ok d44_16 (t := 58) rfl (fun h16 => ?_) (fun h16 => ?_)
      · refine wp_iinc (j := 2) rfl (shS_d (by omega)) (rfl : _ = [_, _, _, _]) q44_ok d44_58 ?_
        refine wp_goto (t := 3) rfl q44_ok d44_61 ?_
        rw [if_pos h16] at hs
        have this := ih (some (.int (byt x (8 * j)))) L d (by omega) hL (by omega)
        rw [pshW, show psh L (byt x (8 * j)) = L from if_pos h16]
        exact this
      · refine wp_aload_n (j := 0) rfl q44_ok d44_19 ?_
        refine wp_getI q44_ok d44_20 fl_5_15 rfl (by first | assumption | exact so0 hsh rfl) hL.1 ?_
        refine wp_if_lt q44_ok d44_23 (t := 58) rfl (fun h23 => ?_) (fun h23 => ?_)
        · exact absurd h23 (nI_pos (by omega))
        · refine wp_aload_n (j := 0) rfl q44_ok d44_26 ?_
          refine wp_getI q44_ok d44_27 fl_5_15 rfl (by first | assumption | exact so0 hsh rfl) hL.1 ?_
          refine wp_aload_n (j := 0) rfl q44_ok d44_30 ?_
          refine wp_getR q44_ok d44_31 fl_5_9 rfl (by first | assumption | exact so0 hsh rfl) (by first | assumption | exact hr _ _ _ rfl) ?_
          refine wp_alen (m := 160) q44_ok d44_34 (shlt hsh (Nat.le_of_ble_eq_true rfl)) (sht hsh (Nat.le_of_ble_eq_true rfl) (Nat.le_of_ble_eq_true rfl)) (by first | assumption | exact shl hsh (Nat.le_of_ble_eq_true rfl) rfl) rfl ?_ (shK hsh)
          refine wp_icmp_ge q44_ok d44_35 (t := 58) rfl (fun h35 => ?_) (fun h35 => ?_)
          · exact absurd h35 (nI_ge (show L.1 < 160 by rw [if_neg h16] at hs; omega) (by decide))
          · refine wp_aload_n (j := 0) rfl q44_ok d44_38 ?_
            refine wp_getR q44_ok d44_39 fl_5_9 rfl (by first | assumption | exact so0 hsh rfl) (by first | assumption | exact hr _ _ _ rfl) ?_
            refine wp_aload_n (j := 0) rfl q44_ok d44_42 ?_
            refine wp_getI q44_ok d44_43 fl_5_15 rfl (by first | assumption | exact so0 hsh rfl) hL.1 ?_
            refine wp_iload_n (j := 3) rfl q44_ok d44_46 ?_
            refine wp_iast (m := 160) q44_ok d44_47 (by first | assumption | exact so0 hsh rfl) (by first | assumption | exact shl hsh (Nat.le_of_ble_eq_true rfl) rfl) (ixn_nI (show L.1 < 160 by rw [if_neg h16] at hs; omega)) ?_
            refine wp_aload_n (j := 0) rfl q44_ok d44_48 ?_
            refine wp_dup rfl q44_ok d44_49 ?_
            refine wp_getI q44_ok d44_50 fl_5_15 rfl (by first | assumption | exact so0 hsh rfl) ((congrFun (mm_up_ne (by decide)) _).trans hL.1) ?_
            refine wp_iconst (v := 1) (by decide) q44_ok d44_53 ?_
            refine wp_iadd rfl q44_ok d44_54 ?_
            refine wp_putI q44_ok d44_55 fl_5_15 rfl (by first | assumption | exact so0 hsh rfl) (Or.inl rfl) ?_
            refine wp_iinc (j := 2) rfl (shS_d (by omega)) (rfl : _ = [_, _, _, _]) q44_ok d44_58 ?_
            refine wp_goto (t := 3) rfl q44_ok d44_61 ?_
            rw [if_neg h16] at hs
            have hL2 : tpR (mm_up (mm_up d 2 L.1 (byt x (8 * j))) 1 1 (nI L.1 + 1)) (psh L (byt x (8 * j))) := by
              unfold psh
              rw [if_neg h16]
              refine ⟨?_, by show L.1 + 1 ≤ 160; omega, fun i hi => ?_⟩
              · rw [mm_up_at, if_pos rfl]
                exact nI_1 _
              · have hi' : i < L.1 + 1 := hi
                show mm_up (mm_up d 2 L.1 (byt x (8 * j))) 1 1 (nI L.1 + 1) 2 i = if i = L.1 then byt x (8 * j) else L.2 i
                rw [mm_up_ne (by decide), mm_up_at]
                by_cases q : i = L.1
                · rw [if_pos q, if_pos q]
                · rw [if_neg q, if_neg q]
                  exact hL.2.2 i (by omega)
            have e1 : (psh L (byt x (8 * j))).1 = L.1 + 1 := by unfold psh; rw [if_neg h16]
            refine wp_post (ih (some (.int (byt x (8 * j)))) _ _ (by omega) hL2 (by rw [e1]; omega)) (fun v μ hc => ?_)
            obtain ⟨rfl, d2, rfl, k1, k2, k3⟩ := hc
            exact ⟨rfl, d2, rfl, k1, fun c h1 h2 => by rw [k2 c h1 h2, mm_up_ne h1, mm_up_ne h2], by rw [k3, mm_up_at, if_neg (by decide), mm_up_ne (by decide)]⟩
theorem c_add {xs : List Int32} {ext : mm_X} {n : Nat} {sh : mm_S} {d : mm_D} {g : mm_G} {r : mm_R} (hsh : shp sh) (hr : rfx r) (x : Int32) {L : wo_P} (hL : tpR d L) (hs : L.1 + cntW x 4 ≤ 160) : wp xs ext (n + 0) 44 0 [some (.ref 1), some (.int x), none, none] [] (sh, d, g, r) (fun v μ => v = none ∧ ∃ d2, μ = (sh, d2, g, r) ∧ tpR d2 (pshW x 4 L) ∧ (∀ c, c ≠ 1 → c ≠ 2 → d2 c = d c) ∧ d2 1 0 = d 1 0) := by
  refine wp_bipush (v := 24) (by decide) q44_ok d44_0 ?_
  refine wp_istore_n (j := 2) (Nat.le_of_ble_eq_true rfl) (rfl : _ = [_, _, _, _]) q44_ok d44_2 ?_
  exact c_add_l hsh hr x 4 none L d (Nat.le_refl _) hL hs
def fdN (a b c e f : Int32) : Nat := cntW a 4 + cntW b 4 + cntW c 4 + cntW e 4 + cntW f 4
def fdL (L : wo_P) (a b c e f : Int32) : wo_P := pshW f 4 (pshW e 4 (pshW c 4 (pshW b 4 (pshW a 4 L))))
def feedQ (S : wo_S) (a b c e f : Int32) : Int32 := if (sP S).1 + fdN a b c e f ≤ 160 then nI ((sP S).1 + fdN a b c e f) else -1
def feedS (S : wo_S) (a b c e f : Int32) : wo_S := if (sP S).1 + fdN a b c e f ≤ 160 then sTap S (fdL (sP S) a b c e f) else S
abbrev endT (S : wo_S) (n1 : Int32) : Prop := 0 ≤ n1 ∧ n1 ≤ nI (sP S).1
def endS (S : wo_S) (n1 : Int32) : wo_S := if endT S n1 then sTap S (n1.toNatClampNeg, (sP S).2) else S
theorem repC_tap {d d2 : mm_D} {g : mm_G} {r : mm_R} {S : wo_S} {L : wo_P} (ok : okW (sW S) (sH S).1) (h : repC d g r S) (hd : ∀ c, c ≠ 1 → c ≠ 2 → d2 c = d c) (hL : tpR d2 L) : repC d2 g r (sTap S L) := by
  obtain ⟨a1, a2, a3, a4, a5, a6, a7, a8⟩ := h
  refine ⟨rpW_row ⟨ok.1, ok.2.1⟩ a1 (fun c h1 h2 => hd c (by omega) (by omega)) rfl, rpH_row a2 (fun c h1 h2 => hd c (by omega) (by omega)), hX_row a3 (fun c hc => hd c (by omega) (by omega)) (fun _ _ => rfl), ?_, hL, ⟨?_, hA_row a6.2.1 (hd _ (by decide) (by decide)) (hd _ (by decide) (by decide)) (hd _ (by decide) (by decide)), a6.2.2⟩, ntR_eq a7 (hd _ (by decide) (by decide)) (hd _ (by decide) (by decide)) (hd _ (by decide) (by decide)), hA_row a8 (hd _ (by decide) (by decide)) (hd _ (by decide) (by decide)) (hd _ (by decide) (by decide))⟩
  · rw [hd 0 (by decide) (by decide)]; exact a4
  · rw [hd 0 (by decide) (by decide)]; exact a6.1
theorem k_feed {xs : List Int32} {ext : mm_X} {n : Nat} {sh : mm_S} {d : mm_D} {g : mm_G} {r : mm_R} {S : wo_S} (hsh : shp sh) (hr : rfx r) (ok : okW (sW S) (sH S).1) (h : repC d g r S) (a b c e f : Int32) : wp xs ext (n + 1) 88 0 [some (.ref 0), some (.int a), some (.int b), some (.int c), some (.int e), some (.int f), none] [] (sh, d, g, r) (kpost sh d g r (feedS S a b c e f) (some (.int (feedQ S a b c e f)))) := by
  have hL : tpR d (sP S) := h.2.2.2.2.1
  have l160 := hL.2.1
  have ca := cntW_le a 4
  have cb := cntW_le b 4
  have cc := cntW_le c 4
  have ce := cntW_le e 4
  have cf := cntW_le f 4
  have hN : nI (cntW a 4) + nI (cntW b 4) + nI (cntW c 4) + nI (cntW e 4) + nI (cntW f 4) = nI (fdN a b c e f) := by
    unfold fdN
    show Int32.ofNat _ + Int32.ofNat _ + Int32.ofNat _ + Int32.ofNat _ + Int32.ofNat _ = Int32.ofNat _
    rw [Int32.ofNat_add, Int32.ofNat_add, Int32.ofNat_add, Int32.ofNat_add]
  have hN2 : nI (sP S).1 + nI (fdN a b c e f) = nI ((sP S).1 + fdN a b c e f) := (Int32.ofNat_add _ _).symm
  have hN3 : fdN a b c e f ≤ 20 := by unfold fdN; omega
  refine wp_iload_n (j := 1) rfl q88_ok d88_0 ?_
  refine wp_cS q88_ok d88_1 ml_10_102 rfl q43_ok rfl rfl rfl (Nat.le_of_ble_eq_true rfl) (Nat.le_of_ble_eq_true rfl) (c_bytes _) (fun v1 μ1 hc => ?_)
  obtain ⟨rfl, rfl⟩ := hc
  refine ⟨mm_le_same rfl, ?_⟩
  refine wp_iload_n (j := 2) rfl q88_ok d88_4 ?_
  refine wp_cS q88_ok d88_5 ml_10_102 rfl q43_ok rfl rfl rfl (Nat.le_of_ble_eq_true rfl) (Nat.le_of_ble_eq_true rfl) (c_bytes _) (fun v5 μ5 hc => ?_)
  obtain ⟨rfl, rfl⟩ := hc
  refine ⟨mm_le_same rfl, ?_⟩
  refine wp_iadd rfl q88_ok d88_8 ?_
  refine wp_iload_n (j := 3) rfl q88_ok d88_9 ?_
  refine wp_cS q88_ok d88_10 ml_10_102 rfl q43_ok rfl rfl rfl (Nat.le_of_ble_eq_true rfl) (Nat.le_of_ble_eq_true rfl) (c_bytes _) (fun v10 μ10 hc => ?_)
  obtain ⟨rfl, rfl⟩ := hc
  refine ⟨mm_le_same rfl, ?_⟩
  refine wp_iadd rfl q88_ok d88_13 ?_
  refine wp_iload (j := 4) rfl q88_ok d88_14 ?_
  refine wp_cS q88_ok d88_16 ml_10_102 rfl q43_ok rfl rfl rfl (Nat.le_of_ble_eq_true rfl) (Nat.le_of_ble_eq_true rfl) (c_bytes _) (fun v16 μ16 hc => ?_)
  obtain ⟨rfl, rfl⟩ := hc
  refine ⟨mm_le_same rfl, ?_⟩
  refine wp_iadd rfl q88_ok d88_19 ?_
  refine wp_iload (j := 5) rfl q88_ok d88_20 ?_
  refine wp_cS q88_ok d88_22 ml_10_102 rfl q43_ok rfl rfl rfl (Nat.le_of_ble_eq_true rfl) (Nat.le_of_ble_eq_true rfl) (c_bytes _) (fun v22 μ22 hc => ?_)
  obtain ⟨rfl, rfl⟩ := hc
  refine ⟨mm_le_same rfl, ?_⟩
  refine wp_iadd rfl q88_ok d88_25 ?_
  refine wp_istore (j := 6) (Nat.le_of_ble_eq_true rfl) (rfl : _ = [_, _, _, _, _, _, _]) q88_ok d88_26 ?_
  refine wp_aload_n (j := 0) rfl q88_ok d88_28 ?_
  refine wp_getR q88_ok d88_29 fl_10_12 rfl (by first | assumption | exact so0 hsh rfl) (by first | assumption | exact hr _ _ _ rfl) ?_
  refine wp_getI q88_ok d88_32 fl_10_106 rfl (by first | assumption | exact so0 hsh rfl) hL.1 ?_
  refine wp_iload (j := 6) rfl q88_ok d88_35 ?_
  refine wp_iadd ((congrArg (nI (sP S).1 + ·) hN).trans hN2) q88_ok d88_37 ?_
  refine wp_sipush (v := 160) (by decide) q88_ok d88_38 ?_
  refine wp_icmp_le q88_ok d88_41 (t := 46) rfl (fun h41 => ?_) (fun h41 => ?_)
  · have hq : (sP S).1 + fdN a b c e f ≤ 160 := (nI_leI (by omega) (by decide)).mp (show nI ((sP S).1 + fdN a b c e f) ≤ nI 160 from h41)
    have hff : fdL (sP S) a b c e f = pshW f 4 (pshW e 4 (pshW c 4 (pshW b 4 (pshW a 4 (sP S))))) := rfl
    refine wp_aload_n (j := 0) rfl q88_ok d88_46 ?_
    refine wp_getR q88_ok d88_47 fl_10_12 rfl (by first | assumption | exact so0 hsh rfl) (by first | assumption | exact hr _ _ _ rfl) ?_
    refine wp_iload_n (j := 1) rfl q88_ok d88_50 ?_
    refine wp_cV q88_ok d88_51 ml_10_110 rfl q44_ok (u := 5) rfl (by first | assumption | exact so0 hsh rfl) rfl (Nat.le_of_ble_eq_true rfl) (Nat.le_of_ble_eq_true rfl) (c_add hsh hr a hL (by unfold fdN at hq; omega)) (fun v51 μ51 hc => ?_)
    obtain ⟨rfl, d1, rfl, k1, f1, z1⟩ := hc
    refine ⟨mm_le_same rfl, ?_⟩
    refine wp_aload_n (j := 0) rfl q88_ok d88_54 ?_
    refine wp_getR q88_ok d88_55 fl_10_12 rfl (by first | assumption | exact so0 hsh rfl) (by first | assumption | exact hr _ _ _ rfl) ?_
    refine wp_iload_n (j := 2) rfl q88_ok d88_58 ?_
    refine wp_cV q88_ok d88_59 ml_10_110 rfl q44_ok (u := 5) rfl (by first | assumption | exact so0 hsh rfl) rfl (Nat.le_of_ble_eq_true rfl) (Nat.le_of_ble_eq_true rfl) (c_add hsh hr b k1 (by rw [pshW_1]; unfold fdN at hq; omega)) (fun v59 μ59 hc => ?_)
    obtain ⟨rfl, d2, rfl, k2, f2, z2⟩ := hc
    refine ⟨mm_le_same rfl, ?_⟩
    refine wp_aload_n (j := 0) rfl q88_ok d88_62 ?_
    refine wp_getR q88_ok d88_63 fl_10_12 rfl (by first | assumption | exact so0 hsh rfl) (by first | assumption | exact hr _ _ _ rfl) ?_
    refine wp_iload_n (j := 3) rfl q88_ok d88_66 ?_
    refine wp_cV q88_ok d88_67 ml_10_110 rfl q44_ok (u := 5) rfl (by first | assumption | exact so0 hsh rfl) rfl (Nat.le_of_ble_eq_true rfl) (Nat.le_of_ble_eq_true rfl) (c_add hsh hr c k2 (by rw [pshW_1, pshW_1]; unfold fdN at hq; omega)) (fun v67 μ67 hc => ?_)
    obtain ⟨rfl, d3, rfl, k3, f3, z3⟩ := hc
    refine ⟨mm_le_same rfl, ?_⟩
    refine wp_aload_n (j := 0) rfl q88_ok d88_70 ?_
    refine wp_getR q88_ok d88_71 fl_10_12 rfl (by first | assumption | exact so0 hsh rfl) (by first | assumption | exact hr _ _ _ rfl) ?_
    refine wp_iload (j := 4) rfl q88_ok d88_74 ?_
    refine wp_cV q88_ok d88_76 ml_10_110 rfl q44_ok (u := 5) rfl (by first | assumption | exact so0 hsh rfl) rfl (Nat.le_of_ble_eq_true rfl) (Nat.le_of_ble_eq_true rfl) (c_add hsh hr e k3 (by rw [pshW_1, pshW_1, pshW_1]; unfold fdN at hq; omega)) (fun v76 μ76 hc => ?_)
    obtain ⟨rfl, d4, rfl, k4, f4, z4⟩ := hc
    refine ⟨mm_le_same rfl, ?_⟩
    refine wp_aload_n (j := 0) rfl q88_ok d88_79 ?_
    refine wp_getR q88_ok d88_80 fl_10_12 rfl (by first | assumption | exact so0 hsh rfl) (by first | assumption | exact hr _ _ _ rfl) ?_
    refine wp_iload (j := 5) rfl q88_ok d88_83 ?_
    refine wp_cV q88_ok d88_85 ml_10_110 rfl q44_ok (u := 5) rfl (by first | assumption | exact so0 hsh rfl) rfl (Nat.le_of_ble_eq_true rfl) (Nat.le_of_ble_eq_true rfl) (c_add hsh hr f k4 (by rw [pshW_1, pshW_1, pshW_1, pshW_1]; unfold fdN at hq; omega)) (fun v85 μ85 hc => ?_)
    obtain ⟨rfl, d5, rfl, k5, f5, z5⟩ := hc
    refine ⟨mm_le_same rfl, ?_⟩
    refine wp_aload_n (j := 0) rfl q88_ok d88_88 ?_
    refine wp_getR q88_ok d88_89 fl_10_12 rfl (by first | assumption | exact so0 hsh rfl) (by first | assumption | exact hr _ _ _ rfl) ?_
    refine wp_getI q88_ok d88_92 fl_10_106 rfl (by first | assumption | exact so0 hsh rfl) k5.1 ?_
    refine wp_iret q88_ok d88_95 rfl ?_
    unfold feedQ feedS
    rw [if_pos hq, if_pos hq]
    have fa : ∀ c, c ≠ 1 → c ≠ 2 → d5 c = d c := fun c h1 h2 => by rw [f5 c h1 h2, f4 c h1 h2, f3 c h1 h2, f2 c h1 h2, f1 c h1 h2]
    refine ⟨congrArg (fun x => some (Value.int (nI x))) ?_, _, _, _, rfl, hr, repC_tap ok h fa k5, fun c hc => ⟨fa c (by omega) (by omega), rfl, rfl⟩⟩
    rw [pshW_1, pshW_1, pshW_1, pshW_1, pshW_1]
    unfold fdN
    omega
  · refine wp_iconst (v := -1) (by decide) q88_ok d88_44 ?_
    refine wp_iret q88_ok d88_45 rfl ?_
    have hq : ¬ (sP S).1 + fdN a b c e f ≤ 160 := fun q => h41 ((nI_leI (by omega) (by decide)).mpr q)
    unfold feedQ feedS
    rw [if_neg hq, if_neg hq]
    exact kp_same hr h rfl
theorem k_end {xs : List Int32} {ext : mm_X} {n : Nat} {sh : mm_S} {d : mm_D} {g : mm_G} {r : mm_R} {S : wo_S} (hsh : shp sh) (hr : rfx r) (ok : okW (sW S) (sH S).1) (h : repC d g r S) (n1 : Int32) : wp xs ext (n + 0) 89 0 [some (.ref 0), some (.int n1)] [] (sh, d, g, r) (kpost sh d g r (endS S n1) (some (.int (if endT S n1 then 1 else 0)))) := by
  have hL : tpR d (sP S) := h.2.2.2.2.1
  refine wp_iload_n (j := 1) rfl q89_ok d89_0 ?_
  refine wp_if_lt q89_ok d89_1 (t := 15) rfl (fun h1 => ?_) (fun h1 => ?_)
  · refine wp_iconst (v := 0) (by decide) q89_ok d89_15 ?_
    refine wp_zret q89_ok d89_16 rfl (by first | assumption | exact Or.inl rfl | exact Or.inr rfl) ?_
    have hq : ¬ endT S n1 := fun q => absurd q.1 (Int32.not_le.mpr h1)
    unfold endS
    rw [if_neg hq, if_neg hq]
    exact kp_same hr h rfl
  · refine wp_iload_n (j := 1) rfl q89_ok d89_4 ?_
    refine wp_aload_n (j := 0) rfl q89_ok d89_5 ?_
    refine wp_getR q89_ok d89_6 fl_10_12 rfl (by first | assumption | exact so0 hsh rfl) (by first | assumption | exact hr _ _ _ rfl) ?_
    refine wp_getI q89_ok d89_9 fl_10_106 rfl (by first | assumption | exact so0 hsh rfl) hL.1 ?_
    refine wp_icmp_le q89_ok d89_12 (t := 17) rfl (fun h12 => ?_) (fun h12 => ?_)
    · refine wp_aload_n (j := 0) rfl q89_ok d89_17 ?_
      refine wp_getR q89_ok d89_18 fl_10_12 rfl (by first | assumption | exact so0 hsh rfl) (by first | assumption | exact hr _ _ _ rfl) ?_
      refine wp_iload_n (j := 1) rfl q89_ok d89_21 ?_
      refine wp_putI q89_ok d89_22 fl_10_106 rfl (by first | assumption | exact so0 hsh rfl) (Or.inl rfl) ?_
      refine wp_iconst (v := 1) (by decide) q89_ok d89_25 ?_
      refine wp_zret q89_ok d89_26 rfl (by first | assumption | exact Or.inl rfl | exact Or.inr rfl) ?_
      have hq : endT S n1 := ⟨Int32.not_lt.mp h1, h12⟩
      have hn := nI_ofn hq.1
      have hle : n1.toNatClampNeg ≤ (sP S).1 := by
        have a := hq.2
        rw [hn] at a
        refine (nI_leI ?_ (by have := hL.2.1; omega)).mp a
        have b := Int32.toInt_lt n1
        have c : n1.toNatClampNeg = n1.toInt.toNat := rfl
        omega
      unfold endS
      rw [if_pos hq, if_pos hq]
      refine ⟨rfl, _, _, _, rfl, hr, repC_tap ok h (fun c h1 h2 => mm_up_ne h1) ⟨((mm_up_at 1).trans (if_pos rfl)).trans hn, by show n1.toNatClampNeg ≤ 160; have := hL.2.1; omega, fun i hi => ?_⟩, fun c hc => ⟨mm_up_ne (by omega), rfl, rfl⟩⟩
      have hi' : i < n1.toNatClampNeg := hi
      rw [mm_up_ne (by decide)]
      exact hL.2.2 i (by omega)
    · refine wp_iconst (v := 0) (by decide) q89_ok d89_15 ?_
      refine wp_zret q89_ok d89_16 rfl (by first | assumption | exact Or.inl rfl | exact Or.inr rfl) ?_
      have hq : ¬ endT S n1 := fun q => h12 q.2
      unfold endS
      rw [if_neg hq, if_neg hq]
      exact kp_same hr h rfl
