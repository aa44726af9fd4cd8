/-! ===== towers ===== -/
def tw (sh : mm_S) (r : mm_R) (w : Nat) : Prop := so sh w 6 ∧ so sh (w + 1) 20 ∧ (sh.2.2.2 (w + 1)).2 = 2 ∧ so sh (w + 2) 20 ∧ (sh.2.2.2 (w + 2)).2 = 2 ∧ r w 1 = some (w + 1) ∧ r w 2 = some (w + 2)
def rstT (d : mm_D) (w : Nat) : mm_D := mm_up (mm_up (mm_up (mm_up (mm_up d w 0 0) (w + 1) 0 0) (w + 2) 0 0) (w + 1) 1 0) (w + 2) 1 0
def cpT0 (d : mm_D) (a b : Nat) : mm_D := mm_up d a 0 (d b 0)
def cpT1 (d : mm_D) (a b : Nat) : mm_D := mm_up (cpT0 d a b) (a + 1) 0 (cpT0 d a b (b + 1) 0)
def cpT2 (d : mm_D) (a b : Nat) : mm_D := mm_up (cpT1 d a b) (a + 2) 0 (cpT1 d a b (b + 2) 0)
def cpT3 (d : mm_D) (a b : Nat) : mm_D := mm_up (cpT2 d a b) (a + 1) 1 (cpT2 d a b (b + 1) 1)
def cpT (d : mm_D) (a b : Nat) : mm_D := mm_up (cpT3 d a b) (a + 2) 1 (cpT3 d a b (b + 2) 1)
def drwX (x : Int64) : Int64 := x * 6364136223846793005 + 1442695040888963407
def drwV (x : Int64) : Int32 := (((drwX x).toUInt64 >>> ((33 : Int32).toInt64.toUInt64 &&& Int64.toUInt64 63)).toInt64 - (((drwX x).toUInt64 >>> ((33 : Int32).toInt64.toUInt64 &&& Int64.toUInt64 63)).toInt64 / 100) * 100).toInt32
def pO (d : mm_D) (w b : Nat) : Int32 := d (w + 1) b + dueC (d (14 + b) 0) (d w 0)
def pD1 (d : mm_D) (w b : Nat) (s : Int32) : mm_D := mm_up d (w + 1) b (leftC (d (14 + b) 1) (pO d w b) s)
def pD2 (d : mm_D) (w b : Nat) (s : Int32) : mm_D := if pO d w b ≤ pD1 d w b s (w + 1) b then pD1 d w b s else mm_up (pD1 d w b s) (w + 2) b (pD1 d w b s (w + 2) b + 1)
def pD (d : mm_D) (w : Nat) (s : Int32) : Nat → mm_D
  | 0 => d
  | b + 1 => pD2 (pD d w s b) w b s
def pR (d : mm_D) (w : Nat) (s : Int32) : Nat → Int32
  | 0 => 0
  | b + 1 => if pO (pD d w s b) w b ≤ pD1 (pD d w s b) w b s (w + 1) b then pR d w s b else pR d w s b ||| bitC b
def pasD (d : mm_D) (w : Nat) (s : Int32) (nb : Nat) : mm_D := mm_up (pD d w s nb) w 0 (pD d w s nb w 0 + 1)
theorem pD1_row {d : mm_D} {w b c : Nat} {s : Int32} (h1 : c ≠ w + 1) : pD1 d w b s c = d c := mm_up_ne h1
theorem pD2_row {d : mm_D} {w b c : Nat} {s : Int32} (h1 : c ≠ w + 1) (h2 : c ≠ w + 2) : pD2 d w b s c = d c := by
  unfold pD2
  split
  · exact pD1_row h1
  · rw [mm_up_ne h2, pD1_row h1]
theorem pD_row {d : mm_D} {w c : Nat} {s : Int32} (h1 : c ≠ w + 1) (h2 : c ≠ w + 2) : ∀ b, pD d w s b c = d c
  | 0 => rfl
  | b + 1 => by rw [pD, pD2_row h1 h2, pD_row h1 h2 b]
theorem pasD_row {d : mm_D} {w c nb : Nat} {s : Int32} (h0 : c ≠ w) (h1 : c ≠ w + 1) (h2 : c ≠ w + 2) : pasD d w s nb c = d c := by unfold pasD; rw [mm_up_ne h0, pD_row h1 h2]
theorem c_trestart {xs : List Int32} {ext : mm_X} {n : Nat} {sh : mm_S} {d : mm_D} {g : mm_G} {r : mm_R} (hsh : shp sh) (hr : rfx r) {w : Nat} (hw : tw sh r w) : wp xs ext (n + 0) 46 0 [some (.ref w), none] [] (sh, d, g, r) (fun v μ => v = none ∧ μ = (sh, rstT d w, g, r)) := by
  obtain ⟨ht1, ht2, ht3, ht4, ht5, ht6, ht7⟩ := hw
  refine wp_aload_n (j := 0) rfl q46_ok d46_0 ?_
  refine wp_iconst (v := 0) (by decide) q46_ok d46_1 ?_
  refine wp_putI q46_ok d46_2 fl_6_18 rfl (by first | assumption | exact so0 hsh rfl) (Or.inl rfl) ?_
  refine wp_iconst (v := 0) (by decide) q46_ok d46_5 ?_
  refine wp_istore_n (j := 1) (Nat.le_of_ble_eq_true rfl) (rfl : _ = [_, _]) q46_ok d46_6 ?_
  refine wp_iload_n (j := 1) rfl q46_ok d46_7 ?_
  refine wp_iconst (v := 2) (by decide) q46_ok d46_8 ?_
  refine wp_icmp_ge q46_ok d46_9 (t := 32) rfl (fun h9 => ?_) (fun h9 => ?_)
  · exact absurd h9 (by decide)
  · refine wp_aload_n (j := 0) rfl q46_ok d46_12 ?_
    refine wp_getR q46_ok d46_13 fl_6_9 rfl (by first | assumption | exact so0 hsh rfl) (by first | assumption | exact hr _ _ _ rfl) ?_
    refine wp_iload_n (j := 1) rfl q46_ok d46_16 ?_
    refine wp_iconst (v := 0) (by decide) q46_ok d46_17 ?_
    refine wp_iast (m := 2) q46_ok d46_18 (by first | assumption | exact so0 hsh rfl) (by first | assumption | exact shl hsh (Nat.le_of_ble_eq_true rfl) rfl) (ixn_nI (j := 0) (Nat.le_of_ble_eq_true rfl)) ?_
    refine wp_aload_n (j := 0) rfl q46_ok d46_19 ?_
    refine wp_getR q46_ok d46_20 fl_6_15 rfl (by first | assumption | exact so0 hsh rfl) (by first | assumption | exact hr _ _ _ rfl) ?_
    refine wp_iload_n (j := 1) rfl q46_ok d46_23 ?_
    refine wp_iconst (v := 0) (by decide) q46_ok d46_24 ?_
    refine wp_iast (m := 2) q46_ok d46_25 (by first | assumption | exact so0 hsh rfl) (by first | assumption | exact shl hsh (Nat.le_of_ble_eq_true rfl) rfl) (ixn_nI (j := 0) (Nat.le_of_ble_eq_true rfl)) ?_
    refine wp_iinc (j := 1) rfl (by first | exact inc1 | rfl) (rfl : _ = [_, _]) q46_ok d46_26 ?_
    refine wp_goto (t := 7) rfl q46_ok d46_29 ?_
    refine wp_iload_n (j := 1) rfl q46_ok d46_7 ?_
    refine wp_iconst (v := 2) (by decide) q46_ok d46_8 ?_
    refine wp_icmp_ge q46_ok d46_9 (t := 32) rfl (fun h9 => ?_) (fun h9 => ?_)
    · exact absurd h9 (by decide)
    · refine wp_aload_n (j := 0) rfl q46_ok d46_12 ?_
      refine wp_getR q46_ok d46_13 fl_6_9 rfl (by first | assumption | exact so0 hsh rfl) (by first | assumption | exact hr _ _ _ rfl) ?_
      refine wp_iload_n (j := 1) rfl q46_ok d46_16 ?_
      refine wp_iconst (v := 0) (by decide) q46_ok d46_17 ?_
      refine wp_iast (m := 2) q46_ok d46_18 (by first | assumption | exact so0 hsh rfl) (by first | assumption | exact shl hsh (Nat.le_of_ble_eq_true rfl) rfl) (ixn_nI (j := 1) (Nat.le_of_ble_eq_true rfl)) ?_
      refine wp_aload_n (j := 0) rfl q46_ok d46_19 ?_
      refine wp_getR q46_ok d46_20 fl_6_15 rfl (by first | assumption | exact so0 hsh rfl) (by first | assumption | exact hr _ _ _ rfl) ?_
      refine wp_iload_n (j := 1) rfl q46_ok d46_23 ?_
      refine wp_iconst (v := 0) (by decide) q46_ok d46_24 ?_
      refine wp_iast (m := 2) q46_ok d46_25 (by first | assumption | exact so0 hsh rfl) (by first | assumption | exact shl hsh (Nat.le_of_ble_eq_true rfl) rfl) (ixn_nI (j := 1) (Nat.le_of_ble_eq_true rfl)) ?_
      refine wp_iinc (j := 1) rfl (by first | exact inc1 | rfl) (rfl : _ = [_, _]) q46_ok d46_26 ?_
      refine wp_goto (t := 7) rfl q46_ok d46_29 ?_
      refine wp_iload_n (j := 1) rfl q46_ok d46_7 ?_
      refine wp_iconst (v := 2) (by decide) q46_ok d46_8 ?_
      refine wp_icmp_ge q46_ok d46_9 (t := 32) rfl (fun h9 => ?_) (fun h9 => ?_)
      · refine wp_vret q46_ok d46_32 rfl ?_
        exact ⟨rfl, rfl⟩
      · exact absurd h9 (by decide)
theorem c_tcopy {xs : List Int32} {ext : mm_X} {n : Nat} {sh : mm_S} {d : mm_D} {g : mm_G} {r : mm_R} (hsh : shp sh) (hr : rfx r) {a b : Nat} (ha : tw sh r a) (hb : tw sh r b) : wp xs ext (n + 0) 47 0 [some (.ref a), some (.ref b), none] [] (sh, d, g, r) (fun v μ => v = none ∧ μ = (sh, cpT d a b, mm_up g a 3 (g b 3), r)) := by
  obtain ⟨ht1, ht2, ht3, ht4, ht5, ht6, ht7⟩ := ha
  obtain ⟨hu1, hu2, hu3, hu4, hu5, hu6, hu7⟩ := hb
  refine wp_aload_n (j := 0) rfl q47_ok d47_0 ?_
  refine wp_aload_n (j := 1) rfl q47_ok d47_1 ?_
  refine wp_getI q47_ok d47_2 fl_6_18 rfl (by first | assumption | exact so0 hsh rfl) (by first | assumption | rfl) ?_
  refine wp_putI q47_ok d47_5 fl_6_18 rfl (by first | assumption | exact so0 hsh rfl) (Or.inl rfl) ?_
  refine wp_iconst (v := 0) (by decide) q47_ok d47_8 ?_
  refine wp_istore_n (j := 2) (Nat.le_of_ble_eq_true rfl) (rfl : _ = [_, _, _]) q47_ok d47_9 ?_
  refine wp_iload_n (j := 2) rfl q47_ok d47_10 ?_
  refine wp_iconst (v := 2) (by decide) q47_ok d47_11 ?_
  refine wp_icmp_ge q47_ok d47_12 (t := 45) rfl (fun h12 => ?_) (fun h12 => ?_)
  · exact absurd h12 (by decide)
  · refine wp_aload_n (j := 0) rfl q47_ok d47_15 ?_
    refine wp_getR q47_ok d47_16 fl_6_9 rfl (by first | assumption | exact so0 hsh rfl) (by first | assumption | exact hr _ _ _ rfl) ?_
    refine wp_iload_n (j := 2) rfl q47_ok d47_19 ?_
    refine wp_aload_n (j := 1) rfl q47_ok d47_20 ?_
    refine wp_getR q47_ok d47_21 fl_6_9 rfl (by first | assumption | exact so0 hsh rfl) (by first | assumption | exact hr _ _ _ rfl) ?_
    refine wp_iload_n (j := 2) rfl q47_ok d47_24 ?_
    refine wp_iald (m := 2) q47_ok d47_25 (by first | assumption | exact so0 hsh rfl) (by first | assumption | exact shl hsh (Nat.le_of_ble_eq_true rfl) rfl) (ixn_nI (j := 0) (Nat.le_of_ble_eq_true rfl)) (by first | assumption | rfl) ?_ (shK hsh)
    refine wp_iast (m := 2) q47_ok d47_26 (by first | assumption | exact so0 hsh rfl) (by first | assumption | exact shl hsh (Nat.le_of_ble_eq_true rfl) rfl) (ixn_nI (j := 0) (Nat.le_of_ble_eq_true rfl)) ?_
    refine wp_aload_n (j := 0) rfl q47_ok d47_27 ?_
    refine wp_getR q47_ok d47_28 fl_6_15 rfl (by first | assumption | exact so0 hsh rfl) (by first | assumption | exact hr _ _ _ rfl) ?_
    refine wp_iload_n (j := 2) rfl q47_ok d47_31 ?_
    refine wp_aload_n (j := 1) rfl q47_ok d47_32 ?_
    refine wp_getR q47_ok d47_33 fl_6_15 rfl (by first | assumption | exact so0 hsh rfl) (by first | assumption | exact hr _ _ _ rfl) ?_
    refine wp_iload_n (j := 2) rfl q47_ok d47_36 ?_
    refine wp_iald (m := 2) q47_ok d47_37 (by first | assumption | exact so0 hsh rfl) (by first | assumption | exact shl hsh (Nat.le_of_ble_eq_true rfl) rfl) (ixn_nI (j := 0) (Nat.le_of_ble_eq_true rfl)) (by first | assumption | rfl) ?_ (shK hsh)
    refine wp_iast (m := 2) q47_ok d47_38 (by first | assumption | exact so0 hsh rfl) (by first | assumption | exact shl hsh (Nat.le_of_ble_eq_true rfl) rfl) (ixn_nI (j := 0) (Nat.le_of_ble_eq_true rfl)) ?_
    refine wp_iinc (j := 2) rfl (by first | exact inc1 | rfl) (rfl : _ = [_, _, _]) q47_ok d47_39 ?_
    refine wp_goto (t := 10) rfl q47_ok d47_42 ?_
    refine wp_iload_n (j := 2) rfl q47_ok d47_10 ?_
    refine wp_iconst (v := 2) (by decide) q47_ok d47_11 ?_
    refine wp_icmp_ge q47_ok d47_12 (t := 45) rfl (fun h12 => ?_) (fun h12 => ?_)
    · exact absurd h12 (by decide)
    · refine wp_aload_n (j := 0) rfl q47_ok d47_15 ?_
      refine wp_getR q47_ok d47_16 fl_6_9 rfl (by first | assumption | exact so0 hsh rfl) (by first | assumption | exact hr _ _ _ rfl) ?_
      refine wp_iload_n (j := 2) rfl q47_ok d47_19 ?_
      refine wp_aload_n (j := 1) rfl q47_ok d47_20 ?_
      refine wp_getR q47_ok d47_21 fl_6_9 rfl (by first | assumption | exact so0 hsh rfl) (by first | assumption | exact hr _ _ _ rfl) ?_
      refine wp_iload_n (j := 2) rfl q47_ok d47_24 ?_
      refine wp_iald (m := 2) q47_ok d47_25 (by first | assumption | exact so0 hsh rfl) (by first | assumption | exact shl hsh (Nat.le_of_ble_eq_true rfl) rfl) (ixn_nI (j := 1) (Nat.le_of_ble_eq_true rfl)) (by first | assumption | rfl) ?_ (shK hsh)
      refine wp_iast (m := 2) q47_ok d47_26 (by first | assumption | exact so0 hsh rfl) (by first | assumption | exact shl hsh (Nat.le_of_ble_eq_true rfl) rfl) (ixn_nI (j := 1) (Nat.le_of_ble_eq_true rfl)) ?_
      refine wp_aload_n (j := 0) rfl q47_ok d47_27 ?_
      refine wp_getR q47_ok d47_28 fl_6_15 rfl (by first | assumption | exact so0 hsh rfl) (by first | assumption | exact hr _ _ _ rfl) ?_
      refine wp_iload_n (j := 2) rfl q47_ok d47_31 ?_
      refine wp_aload_n (j := 1) rfl q47_ok d47_32 ?_
      refine wp_getR q47_ok d47_33 fl_6_15 rfl (by first | assumption | exact so0 hsh rfl) (by first | assumption | exact hr _ _ _ rfl) ?_
      refine wp_iload_n (j := 2) rfl q47_ok d47_36 ?_
      refine wp_iald (m := 2) q47_ok d47_37 (by first | assumption | exact so0 hsh rfl) (by first | assumption | exact shl hsh (Nat.le_of_ble_eq_true rfl) rfl) (ixn_nI (j := 1) (Nat.le_of_ble_eq_true rfl)) (by first | assumption | rfl) ?_ (shK hsh)
      refine wp_iast (m := 2) q47_ok d47_38 (by first | assumption | exact so0 hsh rfl) (by first | assumption | exact shl hsh (Nat.le_of_ble_eq_true rfl) rfl) (ixn_nI (j := 1) (Nat.le_of_ble_eq_true rfl)) ?_
      refine wp_iinc (j := 2) rfl (by first | exact inc1 | rfl) (rfl : _ = [_, _, _]) q47_ok d47_39 ?_
      refine wp_goto (t := 10) rfl q47_ok d47_42 ?_
      refine wp_iload_n (j := 2) rfl q47_ok d47_10 ?_
      refine wp_iconst (v := 2) (by decide) q47_ok d47_11 ?_
      refine wp_icmp_ge q47_ok d47_12 (t := 45) rfl (fun h12 => ?_) (fun h12 => ?_)
      · refine wp_aload_n (j := 0) rfl q47_ok d47_45 ?_
        refine wp_aload_n (j := 1) rfl q47_ok d47_46 ?_
        refine wp_getJ q47_ok d47_47 fl_6_22 rfl (by first | assumption | exact so0 hsh rfl) (by first | assumption | rfl) ?_
        refine wp_putJ q47_ok d47_50 fl_6_22 rfl (by first | assumption | exact so0 hsh rfl) (Or.inl rfl) ?_
        refine wp_vret q47_ok d47_53 rfl ?_
        exact ⟨rfl, rfl⟩
      · exact absurd h12 (by decide)
theorem c_draw {xs : List Int32} {ext : mm_X} {n : Nat} {sh : mm_S} {d : mm_D} {g : mm_G} {r : mm_R} (hsh : shp sh) (hr : rfx r)  : wp xs ext (n + 0) 48 0 [some (.ref 38)] [] (sh, d, g, r) (fun v μ => v = some (.int (drwV (g 38 3))) ∧ μ = (sh, d, mm_up g 38 3 (drwX (g 38 3)), r)) := by
  refine wp_aload_n (j := 0) rfl q48_ok d48_0 ?_
  refine wp_aload_n (j := 0) rfl q48_ok d48_1 ?_
  refine wp_getJ q48_ok d48_2 fl_6_22 rfl (by first | assumption | exact so0 hsh rfl) (by first | assumption | rfl) ?_
  refine wp_ldc2 kl_6_26 q48_ok d48_5 ?_
  refine wp_lmul rfl q48_ok d48_8 ?_
  refine wp_ldc2 kl_6_28 q48_ok d48_9 ?_
  refine wp_ladd rfl q48_ok d48_12 ?_
  refine wp_putJ q48_ok d48_13 fl_6_22 rfl (by first | assumption | exact so0 hsh rfl) (Or.inl rfl) ?_
  refine wp_aload_n (j := 0) rfl q48_ok d48_16 ?_
  refine wp_getJ q48_ok d48_17 fl_6_22 rfl (by first | assumption | exact so0 hsh rfl) ((mm_up_at 3).trans (if_pos rfl)) ?_
  refine wp_bipush (v := 33) (by decide) q48_ok d48_20 ?_
  refine wp_lushr rfl q48_ok d48_22 ?_
  refine wp_ldc2 kl_6_30 q48_ok d48_23 ?_
  refine wp_lrem (by decide) rfl q48_ok d48_26 ?_
  refine wp_l2i rfl q48_ok d48_27 ?_
  refine wp_iret q48_ok d48_28 rfl ?_
  exact ⟨rfl, rfl⟩
theorem c_pass_l {xs : List Int32} {ext : mm_X} {n : Nat} {sh : mm_S} {d : mm_D} {g : mm_G} {r : mm_R} (hsh : shp sh) (hr : rfx r) {w nb : Nat} (hw : tw sh r w) (hw38 : 38 ≤ w) (hnb : d 4 6 = nI nb) (h2 : nb ≤ 2) (s : Int32) : ∀ (m b : Nat) (z : Option Value), m + b = nb → wp xs ext (n + 2) 49 5 [some (.ref w), some (.ref 4), some (.int s), some (.int (pR d w s b)), some (.int (nI b)), z] [] (sh, pD d w s b, g, r) (fun v μ => v = some (.int (pR d w s nb)) ∧ μ = (sh, pasD d w s nb, g, r)) := by
  obtain ⟨ht1, ht2, ht3, ht4, ht5, ht6, ht7⟩ := hw
  intro m
  induction m with
  | zero =>
    intro b z hm
    have hvb : nb = b := by omega
    subst hvb
    have hnb1 : pD d w s nb 4 6 = nI nb := by rw [pD_row (by omega) (by omega)]; exact hnb
    refine wp_iload (j := 4) rfl q49_ok d49_5 ?_
    refine wp_aload_n (j := 1) rfl q49_ok d49_7 ?_
    refine wp_getI q49_ok d49_8 fl_6_32 rfl (by first | assumption | exact so0 hsh rfl) (by first | assumption | rfl) ?_
    refine wp_icmp_ge q49_ok d49_11 (t := 92) rfl (fun h11 => ?_) (fun h11 => ?_)
    · refine wp_aload_n (j := 0) rfl q49_ok d49_92 ?_
      refine wp_dup rfl q49_ok d49_93 ?_
      refine wp_getI q49_ok d49_94 fl_6_18 rfl (by first | assumption | exact so0 hsh rfl) (by first | assumption | rfl) ?_
      refine wp_iconst (v := 1) (by decide) q49_ok d49_97 ?_
      refine wp_iadd rfl q49_ok d49_98 ?_
      refine wp_putI q49_ok d49_99 fl_6_18 rfl (by first | assumption | exact so0 hsh rfl) (Or.inl rfl) ?_
      refine wp_iload_n (j := 3) rfl q49_ok d49_102 ?_
      refine wp_iret q49_ok d49_103 rfl ?_
      exact ⟨rfl, rfl⟩
    · exact absurd (nI_le (Nat.le_refl _) (by omega)) h11
  | succ m ih =>
    intro b z hm
    have hlt : b < nb := by omega
    have hnb1 : pD d w s b 4 6 = nI nb := by rw [pD_row (by omega) (by omega)]; exact hnb
    refine wp_iload (j := 4) rfl q49_ok d49_5 ?_
    refine wp_aload_n (j := 1) rfl q49_ok d49_7 ?_
    refine wp_getI q49_ok d49_8 fl_6_32 rfl (by first | assumption | exact so0 hsh rfl) (by first | assumption | rfl) ?_
    refine wp_icmp_ge q49_ok d49_11 (t := 92) rfl (fun h11 => ?_) (fun h11 => ?_)
    · exact absurd h11 (nI_ge hlt (by omega))
    · refine wp_iload (j := 4) rfl q49_ok d49_14 ?_
      refine wp_iconst (v := 2) (by decide) q49_ok d49_16 ?_
      refine wp_icmp_ge q49_ok d49_17 (t := 92) rfl (fun h17 => ?_) (fun h17 => ?_)
      · exact absurd h17 (nI_ge (show b < 2 by omega) (by decide))
      · refine wp_aload_n (j := 0) rfl q49_ok d49_20 ?_
        refine wp_getR q49_ok d49_21 fl_6_9 rfl (by first | assumption | exact so0 hsh rfl) (by first | assumption | exact hr _ _ _ rfl) ?_
        refine wp_iload (j := 4) rfl q49_ok d49_24 ?_
        refine wp_iald (m := 2) q49_ok d49_26 (by first | assumption | exact so0 hsh rfl) (by first | assumption | exact shl hsh (Nat.le_of_ble_eq_true rfl) rfl) (by first | assumption | exact ixn_nI (by omega)) (by first | assumption | rfl) ?_ (shK hsh)
        refine wp_aload_n (j := 1) rfl q49_ok d49_27 ?_
        refine wp_iload (j := 4) rfl q49_ok d49_28 ?_
        refine wp_aload_n (j := 0) rfl q49_ok d49_30 ?_
        refine wp_getI q49_ok d49_31 fl_6_18 rfl (by first | assumption | exact so0 hsh rfl) (by first | assumption | rfl) ?_
        refine wp_cV q49_ok d49_34 ml_6_37 rfl q70_ok (u := 7) rfl (by first | assumption | exact so0 hsh rfl) rfl (Nat.le_of_ble_eq_true rfl) (Nat.le_of_ble_eq_true rfl) (c_due hsh hr hnb1 h2 hlt _) (fun v34 μ34 hc => ?_)
        obtain ⟨rfl, rfl⟩ := hc
        refine ⟨mm_le_same rfl, ?_⟩
        refine wp_iadd rfl q49_ok d49_37 ?_
        refine wp_istore (j := 5) (Nat.le_of_ble_eq_true rfl) (rfl : _ = [_, _, _, _, _, _]) q49_ok d49_38 ?_
        refine wp_aload_n (j := 0) rfl q49_ok d49_40 ?_
        refine wp_getR q49_ok d49_41 fl_6_9 rfl (by first | assumption | exact so0 hsh rfl) (by first | assumption | exact hr _ _ _ rfl) ?_
        refine wp_iload (j := 4) rfl q49_ok d49_44 ?_
        refine wp_aload_n (j := 1) rfl q49_ok d49_46 ?_
        refine wp_iload (j := 4) rfl q49_ok d49_47 ?_
        refine wp_iload (j := 5) rfl q49_ok d49_49 ?_
        refine wp_iload_n (j := 2) rfl q49_ok d49_51 ?_
        refine wp_cV q49_ok d49_52 ml_6_41 rfl q71_ok (u := 7) rfl (by first | assumption | exact so0 hsh rfl) rfl (Nat.le_of_ble_eq_true rfl) (Nat.le_of_ble_eq_true rfl) (c_left hsh hr hnb1 h2 hlt _ _) (fun v52 μ52 hc => ?_)
        obtain ⟨rfl, rfl⟩ := hc
        refine ⟨mm_le_same rfl, ?_⟩
        refine wp_iast (m := 2) q49_ok d49_55 (by first | assumption | exact so0 hsh rfl) (by first | assumption | exact shl hsh (Nat.le_of_ble_eq_true rfl) rfl) (by first | assumption | exact ixn_nI (by omega)) ?_
        refine wp_aload_n (j := 0) rfl q49_ok d49_56 ?_
        refine wp_getR q49_ok d49_57 fl_6_9 rfl (by first | assumption | exact so0 hsh rfl) (by first | assumption | exact hr _ _ _ rfl) ?_
        refine wp_iload (j := 4) rfl q49_ok d49_60 ?_
        refine wp_iald (m := 2) q49_ok d49_62 (by first | assumption | exact so0 hsh rfl) (by first | assumption | exact shl hsh (Nat.le_of_ble_eq_true rfl) rfl) (by first | assumption | exact ixn_nI (by omega)) (by first | assumption | rfl) ?_ (shK hsh)
        refine wp_iload (j := 5) rfl q49_ok d49_63 ?_
        refine wp_icmp_ge q49_ok d49_65 (t := 86) rfl (fun h65 => ?_) (fun h65 => ?_)
        · refine wp_iinc (j := 4) rfl (by first | exact inc1 | rfl) (rfl : _ = [_, _, _, _, _, _]) q49_ok d49_86 ?_
          refine wp_goto (t := 5) rfl q49_ok d49_89 ?_
          have this := fun z => ih (b + 1) z (by omega)
          rw [pD, pR, pD2] at this
          first | (have h9 : pO (pD d w s b) w b ≤ pD1 (pD d w s b) w b s (w + 1) b := h65; rw [if_pos h9, if_pos h9] at this; exact this _) | (have h9 : ¬ pO (pD d w s b) w b ≤ pD1 (pD d w s b) w b s (w + 1) b := h65; rw [if_neg h9, if_neg h9] at this; exact this _)
        · refine wp_aload_n (j := 0) rfl q49_ok d49_68 ?_
          refine wp_getR q49_ok d49_69 fl_6_15 rfl (by first | assumption | exact so0 hsh rfl) (by first | assumption | exact hr _ _ _ rfl) ?_
          refine wp_iload (j := 4) rfl q49_ok d49_72 ?_
          refine wp_dup2 rfl rfl q49_ok d49_74 ?_
          refine wp_iald (m := 2) q49_ok d49_75 (by first | assumption | exact so0 hsh rfl) (by first | assumption | exact shl hsh (Nat.le_of_ble_eq_true rfl) rfl) (by first | assumption | exact ixn_nI (by omega)) (by first | assumption | rfl) ?_ (shK hsh)
          refine wp_iconst (v := 1) (by decide) q49_ok d49_76 ?_
          refine wp_iadd rfl q49_ok d49_77 ?_
          refine wp_iast (m := 2) q49_ok d49_78 (by first | assumption | exact so0 hsh rfl) (by first | assumption | exact shl hsh (Nat.le_of_ble_eq_true rfl) rfl) (by first | assumption | exact ixn_nI (by omega)) ?_
          refine wp_iload_n (j := 3) rfl q49_ok d49_79 ?_
          refine wp_iconst (v := 1) (by decide) q49_ok d49_80 ?_
          refine wp_iload (j := 4) rfl q49_ok d49_81 ?_
          refine wp_ishl rfl q49_ok d49_83 ?_
          refine wp_ior rfl q49_ok d49_84 ?_
          refine wp_istore_n (j := 3) (Nat.le_of_ble_eq_true rfl) (rfl : _ = [_, _, _, _, _, _]) q49_ok d49_85 ?_
          refine wp_iinc (j := 4) rfl (by first | exact inc1 | rfl) (rfl : _ = [_, _, _, _, _, _]) q49_ok d49_86 ?_
          refine wp_goto (t := 5) rfl q49_ok d49_89 ?_
          have this := fun z => ih (b + 1) z (by omega)
          rw [pD, pR, pD2] at this
          first | (have h9 : pO (pD d w s b) w b ≤ pD1 (pD d w s b) w b s (w + 1) b := h65; rw [if_pos h9, if_pos h9] at this; exact this _) | (have h9 : ¬ pO (pD d w s b) w b ≤ pD1 (pD d w s b) w b s (w + 1) b := h65; rw [if_neg h9, if_neg h9] at this; exact this _)
theorem c_pass {xs : List Int32} {ext : mm_X} {n : Nat} {sh : mm_S} {d : mm_D} {g : mm_G} {r : mm_R} (hsh : shp sh) (hr : rfx r) {w nb : Nat} (hw : tw sh r w) (hw38 : 38 ≤ w) (hnb : d 4 6 = nI nb) (h2 : nb ≤ 2) (s : Int32) : wp xs ext (n + 2) 49 0 [some (.ref w), some (.ref 4), some (.int s), none, none, none] [] (sh, d, g, r) (fun v μ => v = some (.int (pR d w s nb)) ∧ μ = (sh, pasD d w s nb, g, r)) := by
  refine wp_iconst (v := 0) (by decide) q49_ok d49_0 ?_
  refine wp_istore_n (j := 3) (Nat.le_of_ble_eq_true rfl) (rfl : _ = [_, _, _, _, _, _]) q49_ok d49_1 ?_
  refine wp_iconst (v := 0) (by decide) q49_ok d49_2 ?_
  refine wp_istore (j := 4) (Nat.le_of_ble_eq_true rfl) (rfl : _ = [_, _, _, _, _, _]) q49_ok d49_3 ?_
  exact c_pass_l hsh hr hw hw38 hnb h2 s nb 0 _ (by omega)
