/-! ===== small methods ===== -/
def fmod (x y : Int32) : Int32 := if 0 ≤ (x ^^^ y) then x - x / y * y else if x - x / y * y = 0 then x - x / y * y else x - x / y * y + y
def onC (m f a q : Int32) : Int32 := if q ≤ 0 then 0 else if fmod (m - f) q < a then 1 else 0
theorem onC01 (m f a q : Int32) : onC m f a q = 0 ∨ onC m f a q = 1 := by
  unfold onC
  split
  · exact Or.inl rfl
  · split
    · exact Or.inr rfl
    · exact Or.inl rfl
def foggyC (d : mm_D) (m : Int32) : Int32 := if d 4 7 = 0 then 0 else onC m (d 16 0) (d 16 1) (d 16 2)
theorem foggyC01 (d : mm_D) (m : Int32) : foggyC d m = 0 ∨ foggyC d m = 1 := by
  unfold foggyC
  split
  · exact Or.inl rfl
  · exact onC01 _ _ _ _
def dueC (h m : Int32) : Int32 := if h < 1 then 0 else if ¬ m - m / h * h = 0 then 0 else if ¬ m / h - m / h / 12 * 12 = 0 then m / h - m / h / 12 * 12 else 12
def leftC (kind owing seen : Int32) : Int32 := if 1 ≤ owing then (if (if kind = 1 then (1 : Int32) else 0) = seen then owing - 1 else owing) else owing
def bitC (k : Nat) : Int32 := (1 : Int32) <<< (nI k &&& 31)
def nearC (d : mm_D) (view : Int32) : Nat → Int32
  | 0 => 0
  | k + 1 => if view < d (6 + k) 3 then nearC d view k else nearC d view k ||| bitC k
def viewC (d : mm_D) : Int32 := if d 4 7 = 0 then -1 else d 16 3
def seersC (d : mm_D) (looking m near : Int32) : Int32 := if foggyC d m = 0 then looking else looking &&& near
def reachC (d : mm_D) (p : Nat) : Nat → Int32
  | 0 => 0
  | k + 1 => if d (14 + k) 2 < d (6 + p) 3 then reachC d p k else reachC d p k ||| bitC k
theorem r5 {r : mm_R} (hr : rfx r) {p : Nat} (h : p < 6) : r 5 p = some (6 + p) := hr _ _ _ (by
  have : ∀ p, p < 6 → r0 5 p = some (6 + p) := by decide +kernel
  exact this p h)
theorem r13 {r : mm_R} (hr : rfx r) {p : Nat} (h : p < 2) : r 13 p = some (14 + p) := hr _ _ _ (by
  have : ∀ p, p < 2 → r0 13 p = some (14 + p) := by decide +kernel
  exact this p h)
theorem s6 {sh : mm_S} (hsh : shp sh) {p : Nat} (h : p < 6) : so sh (6 + p) 20 ∧ (sh.2.2.2 (6 + p)).2 = 4 := by
  have : ∀ p, p < 6 → lay (6 + p) = (20, 4) := by decide +kernel
  exact ⟨⟨by rw [hsh.1]; omega, by rw [hsh.2 _ (by omega), this p h]⟩, by rw [hsh.2 _ (by omega), this p h]⟩
theorem s14 {sh : mm_S} (hsh : shp sh) {p : Nat} (h : p < 2) : so sh (14 + p) 20 ∧ (sh.2.2.2 (14 + p)).2 = 3 := by
  have : ∀ p, p < 2 → lay (14 + p) = (20, 3) := by decide +kernel
  exact ⟨⟨by rw [hsh.1]; omega, by rw [hsh.2 _ (by omega), this p h]⟩, by rw [hsh.2 _ (by omega), this p h]⟩
theorem c_fmod {xs : List Int32} {ext : mm_X} {n : Nat} {sh : mm_S} {d : mm_D} {g : mm_G} {r : mm_R}  (x y : Int32) (hy : ¬ y = 0) : wp xs ext (n + 0) 224 0 [some (.int x), some (.int y), none] [] (sh, d, g, r) (fun v μ => v = some (.int (fmod x y)) ∧ μ = (sh, d, g, r)) := by
  refine wp_iload_n (j := 0) rfl q224_ok d224_0 ?_
  refine wp_iload_n (j := 1) rfl q224_ok d224_1 ?_
  refine wp_irem (by assumption) rfl q224_ok d224_2 ?_
  refine wp_istore_n (j := 2) (Nat.le_of_ble_eq_true rfl) (rfl : _ = [_, _, _]) q224_ok d224_3 ?_
  refine wp_iload_n (j := 0) rfl q224_ok d224_4 ?_
  refine wp_iload_n (j := 1) rfl q224_ok d224_5 ?_
  refine wp_ixor rfl q224_ok d224_6 ?_
  refine wp_if_ge q224_ok d224_7 (t := 18) rfl (fun h7 => ?_) (fun h7 => ?_)
  · refine wp_iload_n (j := 2) rfl q224_ok d224_18 ?_
    refine wp_iret q224_ok d224_19 rfl ?_
    exact ⟨by first | (simp [fmod, *]; done) | (subst_vars; simp [fmod, *]; done), rfl⟩
  · refine wp_iload_n (j := 2) rfl q224_ok d224_10 ?_
    refine wp_if_eq q224_ok d224_11 (t := 18) rfl (fun h11 => ?_) (fun h11 => ?_)
    · refine wp_iload_n (j := 2) rfl q224_ok d224_18 ?_
      refine wp_iret q224_ok d224_19 rfl ?_
      exact ⟨by first | (simp [fmod, *]; done) | (subst_vars; simp [fmod, *]; done), rfl⟩
    · refine wp_iload_n (j := 2) rfl q224_ok d224_14 ?_
      refine wp_iload_n (j := 1) rfl q224_ok d224_15 ?_
      refine wp_iadd rfl q224_ok d224_16 ?_
      refine wp_iret q224_ok d224_17 rfl ?_
      exact ⟨by first | (simp [fmod, *]; done) | (subst_vars; simp [fmod, *]; done), rfl⟩
theorem c_max {xs : List Int32} {ext : mm_X} {n : Nat} {sh : mm_S} {d : mm_D} {g : mm_G} {r : mm_R}  (x y : Int32) : wp xs ext (n + 0) 225 0 [some (.int x), some (.int y)] [] (sh, d, g, r) (fun v μ => v = some (.int (if x < y then y else x)) ∧ μ = (sh, d, g, r)) := by
  refine wp_iload_n (j := 0) rfl q225_ok d225_0 ?_
  refine wp_iload_n (j := 1) rfl q225_ok d225_1 ?_
  refine wp_icmp_lt q225_ok d225_2 (t := 9) rfl (fun h2 => ?_) (fun h2 => ?_)
  · refine wp_iload_n (j := 1) rfl q225_ok d225_9 ?_
    refine wp_iret q225_ok d225_10 rfl ?_
    exact ⟨by simp [*], rfl⟩
  · refine wp_iload_n (j := 0) rfl q225_ok d225_5 ?_
    refine wp_goto (t := 10) rfl q225_ok d225_6 ?_
    refine wp_iret q225_ok d225_10 rfl ?_
    exact ⟨by simp [*], rfl⟩
theorem c_min {xs : List Int32} {ext : mm_X} {n : Nat} {sh : mm_S} {d : mm_D} {g : mm_G} {r : mm_R}  (x y : Int32) : wp xs ext (n + 0) 227 0 [some (.int x), some (.int y)] [] (sh, d, g, r) (fun v μ => v = some (.int (if y < x then y else x)) ∧ μ = (sh, d, g, r)) := by
  refine wp_iload_n (j := 0) rfl q227_ok d227_0 ?_
  refine wp_iload_n (j := 1) rfl q227_ok d227_1 ?_
  refine wp_icmp_gt q227_ok d227_2 (t := 9) rfl (fun h2 => ?_) (fun h2 => ?_)
  · refine wp_iload_n (j := 1) rfl q227_ok d227_9 ?_
    refine wp_iret q227_ok d227_10 rfl ?_
    exact ⟨by simp [*], rfl⟩
  · refine wp_iload_n (j := 0) rfl q227_ok d227_5 ?_
    refine wp_goto (t := 10) rfl q227_ok d227_6 ?_
    refine wp_iret q227_ok d227_10 rfl ?_
    exact ⟨by simp [*], rfl⟩
theorem c_isAhead {xs : List Int32} {ext : mm_X} {n : Nat} {sh : mm_S} {d : mm_D} {g : mm_G} {r : mm_R}  (a : Int32) : wp xs ext (n + 0) 130 0 [some (.int a)] [] (sh, d, g, r) (fun v μ => v = some (.int (if a < 1 then 0 else if 240 < a then 0 else 1)) ∧ μ = (sh, d, g, r)) := by
  refine wp_iload_n (j := 0) rfl q130_ok d130_0 ?_
  refine wp_iconst (v := 1) (by decide) q130_ok d130_1 ?_
  refine wp_icmp_lt q130_ok d130_2 (t := 16) rfl (fun h2 => ?_) (fun h2 => ?_)
  · refine wp_iconst (v := 0) (by decide) q130_ok d130_16 ?_
    refine wp_zret q130_ok d130_17 rfl (by first | assumption | exact Or.inl rfl | exact Or.inr rfl) ?_
    exact ⟨by simp [*], rfl⟩
  · refine wp_iload_n (j := 0) rfl q130_ok d130_5 ?_
    refine wp_sipush (v := 240) (by decide) q130_ok d130_6 ?_
    refine wp_icmp_gt q130_ok d130_9 (t := 16) rfl (fun h9 => ?_) (fun h9 => ?_)
    · refine wp_iconst (v := 0) (by decide) q130_ok d130_16 ?_
      refine wp_zret q130_ok d130_17 rfl (by first | assumption | exact Or.inl rfl | exact Or.inr rfl) ?_
      exact ⟨by simp [*], rfl⟩
    · refine wp_iconst (v := 1) (by decide) q130_ok d130_12 ?_
      refine wp_goto (t := 17) rfl q130_ok d130_13 ?_
      refine wp_zret q130_ok d130_17 rfl (by first | assumption | exact Or.inl rfl | exact Or.inr rfl) ?_
      exact ⟨by simp [*], rfl⟩
theorem c_isOn {xs : List Int32} {ext : mm_X} {n : Nat} {sh : mm_S} {d : mm_D} {g : mm_G} {r : mm_R}  (m f a q : Int32) : wp xs ext (n + 1) 60 0 [some (.int m), some (.int f), some (.int a), some (.int q)] [] (sh, d, g, r) (fun v μ => v = some (.int (onC m f a q)) ∧ μ = (sh, d, g, r)) := by
  refine wp_iload_n (j := 3) rfl q60_ok d60_0 ?_
  refine wp_if_le q60_ok d60_1 (t := 19) rfl (fun h1 => ?_) (fun h1 => ?_)
  · refine wp_iconst (v := 0) (by decide) q60_ok d60_19 ?_
    refine wp_zret q60_ok d60_20 rfl (by first | assumption | exact Or.inl rfl | exact Or.inr rfl) ?_
    exact ⟨by first | (simp [onC, *]; done) | (subst_vars; simp [onC, *]; done), rfl⟩
  · refine wp_iload_n (j := 0) rfl q60_ok d60_4 ?_
    refine wp_iload_n (j := 1) rfl q60_ok d60_5 ?_
    refine wp_isub rfl q60_ok d60_6 ?_
    refine wp_iload_n (j := 3) rfl q60_ok d60_7 ?_
    have hq0 : ¬ q = 0 := fun e => h1 (by rw [e]; decide)
    refine wp_cS q60_ok d60_8 ml_7_77 rfl q224_ok rfl rfl rfl (Nat.le_of_ble_eq_true rfl) (Nat.le_of_ble_eq_true rfl) (c_fmod _ _ (by assumption)) (fun v8 μ8 hc => ?_)
    obtain ⟨rfl, rfl⟩ := hc
    refine ⟨mm_le_same rfl, ?_⟩
    refine wp_iload_n (j := 2) rfl q60_ok d60_11 ?_
    refine wp_icmp_ge q60_ok d60_12 (t := 19) rfl (fun h12 => ?_) (fun h12 => ?_)
    · refine wp_iconst (v := 0) (by decide) q60_ok d60_19 ?_
      refine wp_zret q60_ok d60_20 rfl (by first | assumption | exact Or.inl rfl | exact Or.inr rfl) ?_
      exact ⟨by first | (simp [onC, *]; done) | (subst_vars; simp [onC, *]; done), rfl⟩
    · refine wp_iconst (v := 1) (by decide) q60_ok d60_15 ?_
      refine wp_goto (t := 20) rfl q60_ok d60_16 ?_
      refine wp_zret q60_ok d60_20 rfl (by first | assumption | exact Or.inl rfl | exact Or.inr rfl) ?_
      exact ⟨by first | (simp [onC, *]; done) | (subst_vars; simp [onC, *]; done), rfl⟩
theorem c_isFoggy {xs : List Int32} {ext : mm_X} {n : Nat} {sh : mm_S} {d : mm_D} {g : mm_G} {r : mm_R} (hsh : shp sh) (hr : rfx r) (m : Int32) : wp xs ext (n + 2) 59 0 [some (.ref 4), some (.int m)] [] (sh, d, g, r) (fun v μ => v = some (.int (foggyC d m)) ∧ μ = (sh, d, g, r)) := by
  refine wp_aload_n (j := 0) rfl q59_ok d59_0 ?_
  refine wp_getZ q59_ok d59_1 fl_7_39 rfl (by first | assumption | exact so0 hsh rfl) (by first | assumption | rfl) ?_
  refine wp_if_eq q59_ok d59_4 (t := 36) rfl (fun h4 => ?_) (fun h4 => ?_)
  · refine wp_iconst (v := 0) (by decide) q59_ok d59_36 ?_
    refine wp_zret q59_ok d59_37 rfl (by first | assumption | exact Or.inl rfl | exact Or.inr rfl) ?_
    exact ⟨by simp [foggyC, *]; try (first | done | exact ((onC01 _ _ _ _).resolve_left (by assumption)).symm), rfl⟩
  · refine wp_iload_n (j := 1) rfl q59_ok d59_7 ?_
    refine wp_aload_n (j := 0) rfl q59_ok d59_8 ?_
    refine wp_getR q59_ok d59_9 fl_7_25 rfl (by first | assumption | exact so0 hsh rfl) (by first | assumption | exact hr _ _ _ rfl) ?_
    refine wp_iconst (v := 0) (by decide) q59_ok d59_12 ?_
    refine wp_iald (m := 4) q59_ok d59_13 (by first | assumption | exact so0 hsh rfl) (by first | assumption | exact shl hsh (Nat.le_of_ble_eq_true rfl) rfl) (ixn_nI (j := 0) (Nat.le_of_ble_eq_true rfl)) (by first | assumption | rfl) ?_ (shK hsh)
    refine wp_aload_n (j := 0) rfl q59_ok d59_14 ?_
    refine wp_getR q59_ok d59_15 fl_7_25 rfl (by first | assumption | exact so0 hsh rfl) (by first | assumption | exact hr _ _ _ rfl) ?_
    refine wp_iconst (v := 1) (by decide) q59_ok d59_18 ?_
    refine wp_iald (m := 4) q59_ok d59_19 (by first | assumption | exact so0 hsh rfl) (by first | assumption | exact shl hsh (Nat.le_of_ble_eq_true rfl) rfl) (ixn_nI (j := 1) (Nat.le_of_ble_eq_true rfl)) (by first | assumption | rfl) ?_ (shK hsh)
    refine wp_aload_n (j := 0) rfl q59_ok d59_20 ?_
    refine wp_getR q59_ok d59_21 fl_7_25 rfl (by first | assumption | exact so0 hsh rfl) (by first | assumption | exact hr _ _ _ rfl) ?_
    refine wp_iconst (v := 2) (by decide) q59_ok d59_24 ?_
    refine wp_iald (m := 4) q59_ok d59_25 (by first | assumption | exact so0 hsh rfl) (by first | assumption | exact shl hsh (Nat.le_of_ble_eq_true rfl) rfl) (ixn_nI (j := 2) (Nat.le_of_ble_eq_true rfl)) (by first | assumption | rfl) ?_ (shK hsh)
    refine wp_cS q59_ok d59_26 ml_7_73 rfl q60_ok rfl rfl rfl (Nat.le_of_ble_eq_true rfl) (Nat.le_of_ble_eq_true rfl) (c_isOn _ _ _ _) (fun v26 μ26 hc => ?_)
    obtain ⟨rfl, rfl⟩ := hc
    refine ⟨mm_le_same rfl, ?_⟩
    refine wp_if_eq q59_ok d59_29 (t := 36) rfl (fun h29 => ?_) (fun h29 => ?_)
    · refine wp_iconst (v := 0) (by decide) q59_ok d59_36 ?_
      refine wp_zret q59_ok d59_37 rfl (by first | assumption | exact Or.inl rfl | exact Or.inr rfl) ?_
      exact ⟨by simp [foggyC, *]; try (first | done | exact ((onC01 _ _ _ _).resolve_left (by assumption)).symm), rfl⟩
    · refine wp_iconst (v := 1) (by decide) q59_ok d59_32 ?_
      refine wp_goto (t := 37) rfl q59_ok d59_33 ?_
      refine wp_zret q59_ok d59_37 rfl (by first | assumption | exact Or.inl rfl | exact Or.inr rfl) ?_
      exact ⟨by simp [foggyC, *]; try (first | done | exact ((onC01 _ _ _ _).resolve_left (by assumption)).symm), rfl⟩
theorem c_spanIsOn {xs : List Int32} {ext : mm_X} {n : Nat} {sh : mm_S} {d : mm_D} {g : mm_G} {r : mm_R} (hsh : shp sh) (hr : rfx r) {np p : Nat} (hnp : d 4 5 = nI np) (h6 : np ≤ 6) (hp : p < np) (f m : Int32) : wp xs ext (n + 2) 61 0 [some (.ref 4), some (.int (nI p)), some (.int f), some (.int m)] [] (sh, d, g, r) (fun v μ => v = some (.int (onC m f (d (6 + p) 1) (d (6 + p) 2))) ∧ μ = (sh, d, g, r)) := by
  have hp6 : p < 6 := by omega
  obtain ⟨hs1, hs2⟩ := s6 hsh hp6
  have hr5 := r5 hr hp6
  refine wp_iload_n (j := 1) rfl q61_ok d61_0 ?_
  refine wp_if_lt q61_ok d61_1 (t := 12) rfl (fun h1 => ?_) (fun h1 => ?_)
  · exact absurd h1 (nI_pos (by omega))
  · refine wp_iload_n (j := 1) rfl q61_ok d61_4 ?_
    refine wp_aload_n (j := 0) rfl q61_ok d61_5 ?_
    refine wp_getI q61_ok d61_6 fl_7_32 rfl (by first | assumption | exact so0 hsh rfl) (by first | assumption | rfl) ?_
    refine wp_icmp_lt q61_ok d61_9 (t := 14) rfl (fun h9 => ?_) (fun h9 => ?_)
    · refine wp_iload_n (j := 3) rfl q61_ok d61_14 ?_
      refine wp_iload_n (j := 2) rfl q61_ok d61_15 ?_
      refine wp_aload_n (j := 0) rfl q61_ok d61_16 ?_
      refine wp_getR q61_ok d61_17 fl_7_11 rfl (by first | assumption | exact so0 hsh rfl) (by first | assumption | exact hr _ _ _ rfl) ?_
      refine wp_iload_n (j := 1) rfl q61_ok d61_20 ?_
      refine wp_aald (m := 6) q61_ok d61_21 (t := 25) (by decide) (by first | assumption | exact so0 hsh rfl) (by first | assumption | exact shl hsh (Nat.le_of_ble_eq_true rfl) rfl) (by first | assumption | exact ixn_nI (by omega)) (by first | assumption | exact hr _ _ _ rfl) ?_
      refine wp_iconst (v := 1) (by decide) q61_ok d61_22 ?_
      refine wp_iald (m := 4) q61_ok d61_23 (by first | assumption | exact so0 hsh rfl) (by first | assumption | exact shl hsh (Nat.le_of_ble_eq_true rfl) rfl) (ixn_nI (j := 1) (Nat.le_of_ble_eq_true rfl)) (by first | assumption | rfl) ?_ (shK hsh)
      refine wp_aload_n (j := 0) rfl q61_ok d61_24 ?_
      refine wp_getR q61_ok d61_25 fl_7_11 rfl (by first | assumption | exact so0 hsh rfl) (by first | assumption | exact hr _ _ _ rfl) ?_
      refine wp_iload_n (j := 1) rfl q61_ok d61_28 ?_
      refine wp_aald (m := 6) q61_ok d61_29 (t := 25) (by decide) (by first | assumption | exact so0 hsh rfl) (by first | assumption | exact shl hsh (Nat.le_of_ble_eq_true rfl) rfl) (by first | assumption | exact ixn_nI (by omega)) (by first | assumption | exact hr _ _ _ rfl) ?_
      refine wp_iconst (v := 2) (by decide) q61_ok d61_30 ?_
      refine wp_iald (m := 4) q61_ok d61_31 (by first | assumption | exact so0 hsh rfl) (by first | assumption | exact shl hsh (Nat.le_of_ble_eq_true rfl) rfl) (ixn_nI (j := 2) (Nat.le_of_ble_eq_true rfl)) (by first | assumption | rfl) ?_ (shK hsh)
      refine wp_cS q61_ok d61_32 ml_7_73 rfl q60_ok rfl rfl rfl (Nat.le_of_ble_eq_true rfl) (Nat.le_of_ble_eq_true rfl) (c_isOn _ _ _ _) (fun v32 μ32 hc => ?_)
      obtain ⟨rfl, rfl⟩ := hc
      refine ⟨mm_le_same rfl, ?_⟩
      refine wp_zret q61_ok d61_35 rfl (onC01 _ _ _ _) ?_
      exact ⟨rfl, rfl⟩
    · exact absurd ((nI_ltI (by omega) (by omega)).mpr hp) h9
theorem c_near_l {xs : List Int32} {ext : mm_X} {n : Nat} {sh : mm_S} {d : mm_D} {g : mm_G} {r : mm_R} (hsh : shp sh) (hr : rfx r) {np : Nat} (hnp : d 4 5 = nI np) (h6 : np ≤ 6) (view : Int32) : ∀ (m k : Nat), m + k = np → wp xs ext (n + 0) 65 4 [some (.ref 4), some (.int view), some (.int (nearC d view k)), some (.int (nI k))] [] (sh, d, g, r) (fun v μ => v = some (.int (nearC d view np)) ∧ μ = (sh, d, g, r)) := by
  intro m
  induction m with
  | zero =>
    intro k hm
    obtain rfl : k = np := by omega
    refine wp_iload_n (j := 3) rfl q65_ok d65_4 ?_
    refine wp_aload_n (j := 0) rfl q65_ok d65_5 ?_
    refine wp_getI q65_ok d65_6 fl_7_32 rfl (by first | assumption | exact so0 hsh rfl) (by first | assumption | rfl) ?_
    refine wp_icmp_ge q65_ok d65_9 (t := 36) rfl (fun h9 => ?_) (fun h9 => ?_)
    · refine wp_iload_n (j := 2) rfl q65_ok d65_36 ?_
      refine wp_iret q65_ok d65_37 rfl ?_
      exact ⟨rfl, rfl⟩
    · exact absurd (nI_le (Nat.le_refl _) (by omega)) h9
  | succ m ih =>
    intro k hm
    have hlt : k < np := by omega
    refine wp_iload_n (j := 3) rfl q65_ok d65_4 ?_
    refine wp_aload_n (j := 0) rfl q65_ok d65_5 ?_
    refine wp_getI q65_ok d65_6 fl_7_32 rfl (by first | assumption | exact so0 hsh rfl) (by first | assumption | rfl) ?_
    refine wp_icmp_ge q65_ok d65_9 (t := 36) rfl (fun h9 => ?_) (fun h9 => ?_)
    · exact absurd h9 (nI_ge hlt (by omega))
    · obtain ⟨hs1, hs2⟩ := s6 hsh (show k < 6 by omega)
      have hr5 := r5 hr (show k < 6 by omega)
      refine wp_aload_n (j := 0) rfl q65_ok d65_12 ?_
      refine wp_getR q65_ok d65_13 fl_7_11 rfl (by first | assumption | exact so0 hsh rfl) (by first | assumption | exact hr _ _ _ rfl) ?_
      refine wp_iload_n (j := 3) rfl q65_ok d65_16 ?_
      refine wp_aald (m := 6) q65_ok d65_17 (t := 25) (by decide) (by first | assumption | exact so0 hsh rfl) (by first | assumption | exact shl hsh (Nat.le_of_ble_eq_true rfl) rfl) (by first | assumption | exact ixn_nI (by omega)) (by first | assumption | exact hr _ _ _ rfl) ?_
      refine wp_iconst (v := 3) (by decide) q65_ok d65_18 ?_
      refine wp_iald (m := 4) q65_ok d65_19 (by first | assumption | exact so0 hsh rfl) (by first | assumption | exact shl hsh (Nat.le_of_ble_eq_true rfl) rfl) (ixn_nI (j := 3) (Nat.le_of_ble_eq_true rfl)) (by first | assumption | rfl) ?_ (shK hsh)
      refine wp_iload_n (j := 1) rfl q65_ok d65_20 ?_
      refine wp_icmp_gt q65_ok d65_21 (t := 30) rfl (fun h21 => ?_) (fun h21 => ?_)
      · refine wp_iinc (j := 3) rfl (by first | exact inc1 | rfl) (rfl : _ = [_, _, _, _]) q65_ok d65_30 ?_
        refine wp_goto (t := 4) rfl q65_ok d65_33 ?_
        have := ih (k + 1) (by omega)
        rw [nearC] at this
        first | (rw [if_pos h21] at this; exact this) | (rw [if_neg h21] at this; exact this)
      · refine wp_iload_n (j := 2) rfl q65_ok d65_24 ?_
        refine wp_iconst (v := 1) (by decide) q65_ok d65_25 ?_
        refine wp_iload_n (j := 3) rfl q65_ok d65_26 ?_
        refine wp_ishl rfl q65_ok d65_27 ?_
        refine wp_ior rfl q65_ok d65_28 ?_
        refine wp_istore_n (j := 2) (Nat.le_of_ble_eq_true rfl) (rfl : _ = [_, _, _, _]) q65_ok d65_29 ?_
        refine wp_iinc (j := 3) rfl (by first | exact inc1 | rfl) (rfl : _ = [_, _, _, _]) q65_ok d65_30 ?_
        refine wp_goto (t := 4) rfl q65_ok d65_33 ?_
        have := ih (k + 1) (by omega)
        rw [nearC] at this
        first | (rw [if_pos h21] at this; exact this) | (rw [if_neg h21] at this; exact this)
theorem c_near {xs : List Int32} {ext : mm_X} {n : Nat} {sh : mm_S} {d : mm_D} {g : mm_G} {r : mm_R} (hsh : shp sh) (hr : rfx r) {np : Nat} (hnp : d 4 5 = nI np) (h6 : np ≤ 6) (view : Int32) : wp xs ext (n + 0) 65 0 [some (.ref 4), some (.int view), none, none] [] (sh, d, g, r) (fun v μ => v = some (.int (nearC d view np)) ∧ μ = (sh, d, g, r)) := by
  refine wp_iconst (v := 0) (by decide) q65_ok d65_0 ?_
  refine wp_istore_n (j := 2) (Nat.le_of_ble_eq_true rfl) (rfl : _ = [_, _, _, _]) q65_ok d65_1 ?_
  refine wp_iconst (v := 0) (by decide) q65_ok d65_2 ?_
  refine wp_istore_n (j := 3) (Nat.le_of_ble_eq_true rfl) (rfl : _ = [_, _, _, _]) q65_ok d65_3 ?_
  exact c_near_l hsh hr hnp h6 view np 0 (by omega)
theorem c_view {xs : List Int32} {ext : mm_X} {n : Nat} {sh : mm_S} {d : mm_D} {g : mm_G} {r : mm_R} (hsh : shp sh) (hr : rfx r)  : wp xs ext (n + 0) 58 0 [some (.ref 4)] [] (sh, d, g, r) (fun v μ => v = some (.int (viewC d)) ∧ μ = (sh, d, g, r)) := by
  refine wp_aload_n (j := 0) rfl q58_ok d58_0 ?_
  refine wp_getZ q58_ok d58_1 fl_7_39 rfl (by first | assumption | exact so0 hsh rfl) (by first | assumption | rfl) ?_
  refine wp_if_eq q58_ok d58_4 (t := 16) rfl (fun h4 => ?_) (fun h4 => ?_)
  · refine wp_iconst (v := -1) (by decide) q58_ok d58_16 ?_
    refine wp_iret q58_ok d58_17 rfl ?_
    exact ⟨by first | (simp [viewC, *]; done) | (subst_vars; simp [viewC, *]; done), rfl⟩
  · refine wp_aload_n (j := 0) rfl q58_ok d58_7 ?_
    refine wp_getR q58_ok d58_8 fl_7_25 rfl (by first | assumption | exact so0 hsh rfl) (by first | assumption | exact hr _ _ _ rfl) ?_
    refine wp_iconst (v := 3) (by decide) q58_ok d58_11 ?_
    refine wp_iald (m := 4) q58_ok d58_12 (by first | assumption | exact so0 hsh rfl) (by first | assumption | exact shl hsh (Nat.le_of_ble_eq_true rfl) rfl) (ixn_nI (j := 3) (Nat.le_of_ble_eq_true rfl)) (by first | assumption | rfl) ?_ (shK hsh)
    refine wp_goto (t := 17) rfl q58_ok d58_13 ?_
    refine wp_iret q58_ok d58_17 rfl ?_
    exact ⟨by first | (simp [viewC, *]; done) | (subst_vars; simp [viewC, *]; done), rfl⟩
theorem c_seers {xs : List Int32} {ext : mm_X} {n : Nat} {sh : mm_S} {d : mm_D} {g : mm_G} {r : mm_R} (hsh : shp sh) (hr : rfx r) (x m y : Int32) : wp xs ext (n + 3) 64 0 [some (.ref 4), some (.int x), some (.int m), some (.int y)] [] (sh, d, g, r) (fun v μ => v = some (.int (seersC d x m y)) ∧ μ = (sh, d, g, r)) := by
  refine wp_aload_n (j := 0) rfl q64_ok d64_0 ?_
  refine wp_iload_n (j := 2) rfl q64_ok d64_1 ?_
  refine wp_cV q64_ok d64_2 ml_7_94 rfl q59_ok (u := 7) rfl (by first | assumption | exact so0 hsh rfl) rfl (Nat.le_of_ble_eq_true rfl) (Nat.le_of_ble_eq_true rfl) (c_isFoggy hsh hr _) (fun v2 μ2 hc => ?_)
  obtain ⟨rfl, rfl⟩ := hc
  refine ⟨mm_le_same rfl, ?_⟩
  refine wp_if_eq q64_ok d64_5 (t := 14) rfl (fun h5 => ?_) (fun h5 => ?_)
  · refine wp_iload_n (j := 1) rfl q64_ok d64_14 ?_
    refine wp_iret q64_ok d64_15 rfl ?_
    exact ⟨by first | (simp [seersC, *]; done) | (subst_vars; simp [seersC, *]; done), rfl⟩
  · refine wp_iload_n (j := 1) rfl q64_ok d64_8 ?_
    refine wp_iload_n (j := 3) rfl q64_ok d64_9 ?_
    refine wp_iand rfl q64_ok d64_10 ?_
    refine wp_goto (t := 15) rfl q64_ok d64_11 ?_
    refine wp_iret q64_ok d64_15 rfl ?_
    exact ⟨by first | (simp [seersC, *]; done) | (subst_vars; simp [seersC, *]; done), rfl⟩
theorem c_due {xs : List Int32} {ext : mm_X} {n : Nat} {sh : mm_S} {d : mm_D} {g : mm_G} {r : mm_R} (hsh : shp sh) (hr : rfx r) {nb k : Nat} (hnb : d 4 6 = nI nb) (h2 : nb ≤ 2) (hk : k < nb) (m : Int32) : wp xs ext (n + 0) 68 0 [some (.ref 4), some (.int (nI k)), some (.int m), none, none] [] (sh, d, g, r) (fun v μ => v = some (.int (dueC (d (14 + k) 0) m)) ∧ μ = (sh, d, g, r)) := by
  have hk2 : k < 2 := by omega
  obtain ⟨hs1, hs2⟩ := s14 hsh hk2
  have hr5 := r13 hr hk2
  refine wp_iload_n (j := 1) rfl q68_ok d68_0 ?_
  refine wp_if_lt q68_ok d68_1 (t := 12) rfl (fun h1 => ?_) (fun h1 => ?_)
  · exact absurd h1 (nI_pos (by omega))
  · refine wp_iload_n (j := 1) rfl q68_ok d68_4 ?_
    refine wp_aload_n (j := 0) rfl q68_ok d68_5 ?_
    refine wp_getI q68_ok d68_6 fl_7_36 rfl (by first | assumption | exact so0 hsh rfl) (by first | assumption | rfl) ?_
    refine wp_icmp_lt q68_ok d68_9 (t := 14) rfl (fun h9 => ?_) (fun h9 => ?_)
    · refine wp_aload_n (j := 0) rfl q68_ok d68_14 ?_
      refine wp_getR q68_ok d68_15 fl_7_22 rfl (by first | assumption | exact so0 hsh rfl) (by first | assumption | exact hr _ _ _ rfl) ?_
      refine wp_iload_n (j := 1) rfl q68_ok d68_18 ?_
      refine wp_aald (m := 2) q68_ok d68_19 (t := 25) (by decide) (by first | assumption | exact so0 hsh rfl) (by first | assumption | exact shl hsh (Nat.le_of_ble_eq_true rfl) rfl) (by first | assumption | exact ixn_nI (by omega)) (by first | assumption | exact hr _ _ _ rfl) ?_
      refine wp_iconst (v := 0) (by decide) q68_ok d68_20 ?_
      refine wp_iald (m := 3) q68_ok d68_21 (by first | assumption | exact so0 hsh rfl) (by first | assumption | exact shl hsh (Nat.le_of_ble_eq_true rfl) rfl) (ixn_nI (j := 0) (Nat.le_of_ble_eq_true rfl)) (by first | assumption | rfl) ?_ (shK hsh)
      refine wp_istore_n (j := 3) (Nat.le_of_ble_eq_true rfl) (rfl : _ = [_, _, _, _, _]) q68_ok d68_22 ?_
      refine wp_iload_n (j := 3) rfl q68_ok d68_23 ?_
      refine wp_iconst (v := 1) (by decide) q68_ok d68_24 ?_
      refine wp_icmp_lt q68_ok d68_25 (t := 34) rfl (fun h25 => ?_) (fun h25 => ?_)
      · refine wp_iconst (v := 0) (by decide) q68_ok d68_34 ?_
        refine wp_iret q68_ok d68_35 rfl ?_
        exact ⟨by first | (simp [dueC, *]; done) | (subst_vars; simp [dueC, *]; done), rfl⟩
      · refine wp_iload_n (j := 2) rfl q68_ok d68_28 ?_
        refine wp_iload_n (j := 3) rfl q68_ok d68_29 ?_
        have hn0 : ¬ d (14 + k) 0 = 0 := fun e => h25 (by rw [e]; decide)
        refine wp_irem (by assumption) rfl q68_ok d68_30 ?_
        refine wp_if_eq q68_ok d68_31 (t := 36) rfl (fun h31 => ?_) (fun h31 => ?_)
        · refine wp_iload_n (j := 2) rfl q68_ok d68_36 ?_
          refine wp_iload_n (j := 3) rfl q68_ok d68_37 ?_
          refine wp_idiv (by assumption) rfl q68_ok d68_38 ?_
          refine wp_bipush (v := 12) (by decide) q68_ok d68_39 ?_
          refine wp_irem (by decide) rfl q68_ok d68_41 ?_
          refine wp_istore (j := 4) (Nat.le_of_ble_eq_true rfl) (rfl : _ = [_, _, _, _, _]) q68_ok d68_42 ?_
          refine wp_iload (j := 4) rfl q68_ok d68_44 ?_
          refine wp_if_ne q68_ok d68_46 (t := 54) rfl (fun h46 => ?_) (fun h46 => ?_)
          · refine wp_iload (j := 4) rfl q68_ok d68_54 ?_
            refine wp_iret q68_ok d68_56 rfl ?_
            exact ⟨by first | (simp [dueC, *]; done) | (subst_vars; simp [dueC, *]; done), rfl⟩
          · have h46 := Classical.not_not.mp h46
            refine wp_bipush (v := 12) (by decide) q68_ok d68_49 ?_
            refine wp_goto (t := 56) rfl q68_ok d68_51 ?_
            refine wp_iret q68_ok d68_56 rfl ?_
            exact ⟨by first | (simp [dueC, *]; done) | (subst_vars; simp [dueC, *]; done), rfl⟩
        · refine wp_iconst (v := 0) (by decide) q68_ok d68_34 ?_
          refine wp_iret q68_ok d68_35 rfl ?_
          exact ⟨by first | (simp [dueC, *]; done) | (subst_vars; simp [dueC, *]; done), rfl⟩
    · exact absurd ((nI_ltI (by omega) (by omega)).mpr hk) h9
theorem c_left {xs : List Int32} {ext : mm_X} {n : Nat} {sh : mm_S} {d : mm_D} {g : mm_G} {r : mm_R} (hsh : shp sh) (hr : rfx r) {nb k : Nat} (hnb : d 4 6 = nI nb) (h2 : nb ≤ 2) (hk : k < nb) (w s : Int32) : wp xs ext (n + 0) 69 0 [some (.ref 4), some (.int (nI k)), some (.int w), some (.int s), none] [] (sh, d, g, r) (fun v μ => v = some (.int (leftC (d (14 + k) 1) w s)) ∧ μ = (sh, d, g, r)) := by
  have hk2 : k < 2 := by omega
  obtain ⟨hs1, hs2⟩ := s14 hsh hk2
  have hr5 := r13 hr hk2
  refine wp_iload_n (j := 1) rfl q69_ok d69_0 ?_
  refine wp_if_lt q69_ok d69_1 (t := 17) rfl (fun h1 => ?_) (fun h1 => ?_)
  · exact absurd h1 (nI_pos (by omega))
  · refine wp_iload_n (j := 1) rfl q69_ok d69_4 ?_
    refine wp_aload_n (j := 0) rfl q69_ok d69_5 ?_
    refine wp_getI q69_ok d69_6 fl_7_36 rfl (by first | assumption | exact so0 hsh rfl) (by first | assumption | rfl) ?_
    refine wp_icmp_ge q69_ok d69_9 (t := 17) rfl (fun h9 => ?_) (fun h9 => ?_)
    · exact absurd h9 (nI_ge hk (by omega))
    · refine wp_iload_n (j := 2) rfl q69_ok d69_12 ?_
      refine wp_iconst (v := 1) (by decide) q69_ok d69_13 ?_
      refine wp_icmp_ge q69_ok d69_14 (t := 19) rfl (fun h14 => ?_) (fun h14 => ?_)
      · refine wp_aload_n (j := 0) rfl q69_ok d69_19 ?_
        refine wp_getR q69_ok d69_20 fl_7_22 rfl (by first | assumption | exact so0 hsh rfl) (by first | assumption | exact hr _ _ _ rfl) ?_
        refine wp_iload_n (j := 1) rfl q69_ok d69_23 ?_
        refine wp_aald (m := 2) q69_ok d69_24 (t := 25) (by decide) (by first | assumption | exact so0 hsh rfl) (by first | assumption | exact shl hsh (Nat.le_of_ble_eq_true rfl) rfl) (by first | assumption | exact ixn_nI (by omega)) (by first | assumption | exact hr _ _ _ rfl) ?_
        refine wp_iconst (v := 1) (by decide) q69_ok d69_25 ?_
        refine wp_iald (m := 3) q69_ok d69_26 (by first | assumption | exact so0 hsh rfl) (by first | assumption | exact shl hsh (Nat.le_of_ble_eq_true rfl) rfl) (ixn_nI (j := 1) (Nat.le_of_ble_eq_true rfl)) (by first | assumption | rfl) ?_ (shK hsh)
        refine wp_iconst (v := 1) (by decide) q69_ok d69_27 ?_
        refine wp_icmp_ne q69_ok d69_28 (t := 35) rfl (fun h28 => ?_) (fun h28 => ?_)
        · refine wp_iconst (v := 0) (by decide) q69_ok d69_35 ?_
          refine wp_istore (j := 4) (Nat.le_of_ble_eq_true rfl) (rfl : _ = [_, _, _, _, _]) q69_ok d69_36 ?_
          refine wp_iload (j := 4) rfl q69_ok d69_38 ?_
          refine wp_iload_n (j := 3) rfl q69_ok d69_40 ?_
          refine wp_icmp_ne q69_ok d69_41 (t := 50) rfl (fun h41 => ?_) (fun h41 => ?_)
          · refine wp_iload_n (j := 2) rfl q69_ok d69_50 ?_
            refine wp_iret q69_ok d69_51 rfl ?_
            exact ⟨by first | (simp [leftC, *]; done) | (subst_vars; simp [leftC, *]; done), rfl⟩
          · have h41 := Classical.not_not.mp h41
            refine wp_iload_n (j := 2) rfl q69_ok d69_44 ?_
            refine wp_iconst (v := 1) (by decide) q69_ok d69_45 ?_
            refine wp_isub rfl q69_ok d69_46 ?_
            refine wp_goto (t := 51) rfl q69_ok d69_47 ?_
            refine wp_iret q69_ok d69_51 rfl ?_
            exact ⟨by first | (simp [leftC, *]; done) | (subst_vars; simp [leftC, *]; done), rfl⟩
        · have h28 := Classical.not_not.mp h28
          refine wp_iconst (v := 1) (by decide) q69_ok d69_31 ?_
          refine wp_goto (t := 36) rfl q69_ok d69_32 ?_
          refine wp_istore (j := 4) (Nat.le_of_ble_eq_true rfl) (rfl : _ = [_, _, _, _, _]) q69_ok d69_36 ?_
          refine wp_iload (j := 4) rfl q69_ok d69_38 ?_
          refine wp_iload_n (j := 3) rfl q69_ok d69_40 ?_
          refine wp_icmp_ne q69_ok d69_41 (t := 50) rfl (fun h41 => ?_) (fun h41 => ?_)
          · refine wp_iload_n (j := 2) rfl q69_ok d69_50 ?_
            refine wp_iret q69_ok d69_51 rfl ?_
            exact ⟨by first | (simp [leftC, *]; done) | (subst_vars; simp [leftC, *]; done), rfl⟩
          · have h41 := Classical.not_not.mp h41
            refine wp_iload_n (j := 2) rfl q69_ok d69_44 ?_
            refine wp_iconst (v := 1) (by decide) q69_ok d69_45 ?_
            refine wp_isub rfl q69_ok d69_46 ?_
            refine wp_goto (t := 51) rfl q69_ok d69_47 ?_
            refine wp_iret q69_ok d69_51 rfl ?_
            exact ⟨by first | (simp [leftC, *]; done) | (subst_vars; simp [leftC, *]; done), rfl⟩
      · refine wp_iload_n (j := 2) rfl q69_ok d69_17 ?_
        refine wp_iret q69_ok d69_18 rfl ?_
        exact ⟨by first | (simp [leftC, *]; done) | (subst_vars; simp [leftC, *]; done), rfl⟩
theorem c_reach_l {xs : List Int32} {ext : mm_X} {n : Nat} {sh : mm_S} {d : mm_D} {g : mm_G} {r : mm_R} (hsh : shp sh) (hr : rfx r) {np nb p : Nat} (hnp : d 4 5 = nI np) (h6 : np ≤ 6) (hnb : d 4 6 = nI nb) (h2 : nb ≤ 2) (hp : p < np) : ∀ (m k : Nat), m + k = nb → wp xs ext (n + 0) 67 4 [some (.ref 4), some (.int (nI p)), some (.int (reachC d p k)), some (.int (nI k))] [] (sh, d, g, r) (fun v μ => v = some (.int (reachC d p nb)) ∧ μ = (sh, d, g, r)) := by
  intro m
  induction m with
  | zero =>
    intro k hm
    obtain rfl : k = nb := by omega
    refine wp_iload_n (j := 3) rfl q67_ok d67_4 ?_
    refine wp_aload_n (j := 0) rfl q67_ok d67_5 ?_
    refine wp_getI q67_ok d67_6 fl_7_36 rfl (by first | assumption | exact so0 hsh rfl) (by first | assumption | rfl) ?_
    refine wp_icmp_ge q67_ok d67_9 (t := 55) rfl (fun h9 => ?_) (fun h9 => ?_)
    · refine wp_iload_n (j := 2) rfl q67_ok d67_55 ?_
      refine wp_iret q67_ok d67_56 rfl ?_
      exact ⟨rfl, rfl⟩
    · exact absurd (nI_le (Nat.le_refl _) (by omega)) h9
  | succ m ih =>
    intro k hm
    have hlt : k < nb := by omega
    refine wp_iload_n (j := 3) rfl q67_ok d67_4 ?_
    refine wp_aload_n (j := 0) rfl q67_ok d67_5 ?_
    refine wp_getI q67_ok d67_6 fl_7_36 rfl (by first | assumption | exact so0 hsh rfl) (by first | assumption | rfl) ?_
    refine wp_icmp_ge q67_ok d67_9 (t := 55) rfl (fun h9 => ?_) (fun h9 => ?_)
    · exact absurd h9 (nI_ge hlt (by omega))
    · refine wp_iload_n (j := 1) rfl q67_ok d67_12 ?_
      refine wp_if_lt q67_ok d67_13 (t := 55) rfl (fun h13 => ?_) (fun h13 => ?_)
      · exact absurd h13 (nI_pos (by omega))
      · refine wp_iload_n (j := 1) rfl q67_ok d67_16 ?_
        refine wp_aload_n (j := 0) rfl q67_ok d67_17 ?_
        refine wp_getI q67_ok d67_18 fl_7_32 rfl (by first | assumption | exact so0 hsh rfl) (by first | assumption | rfl) ?_
        refine wp_icmp_ge q67_ok d67_21 (t := 55) rfl (fun h21 => ?_) (fun h21 => ?_)
        · exact absurd h21 (nI_ge hp (by omega))
        · obtain ⟨hs1, hs2⟩ := s6 hsh (show p < 6 by omega)
          have hr5 := r5 hr (show p < 6 by omega)
          obtain ⟨hs3, hs4⟩ := s14 hsh (show k < 2 by omega)
          have hr6 := r13 hr (show k < 2 by omega)
          refine wp_aload_n (j := 0) rfl q67_ok d67_24 ?_
          refine wp_getR q67_ok d67_25 fl_7_11 rfl (by first | assumption | exact so0 hsh rfl) (by first | assumption | exact hr _ _ _ rfl) ?_
          refine wp_iload_n (j := 1) rfl q67_ok d67_28 ?_
          refine wp_aald (m := 6) q67_ok d67_29 (t := 25) (by decide) (by first | assumption | exact so0 hsh rfl) (by first | assumption | exact shl hsh (Nat.le_of_ble_eq_true rfl) rfl) (by first | assumption | exact ixn_nI (by omega)) (by first | assumption | exact hr _ _ _ rfl) ?_
          refine wp_iconst (v := 3) (by decide) q67_ok d67_30 ?_
          refine wp_iald (m := 4) q67_ok d67_31 (by first | assumption | exact so0 hsh rfl) (by first | assumption | exact shl hsh (Nat.le_of_ble_eq_true rfl) rfl) (ixn_nI (j := 3) (Nat.le_of_ble_eq_true rfl)) (by first | assumption | rfl) ?_ (shK hsh)
          refine wp_aload_n (j := 0) rfl q67_ok d67_32 ?_
          refine wp_getR q67_ok d67_33 fl_7_22 rfl (by first | assumption | exact so0 hsh rfl) (by first | assumption | exact hr _ _ _ rfl) ?_
          refine wp_iload_n (j := 3) rfl q67_ok d67_36 ?_
          refine wp_aald (m := 2) q67_ok d67_37 (t := 25) (by decide) (by first | assumption | exact so0 hsh rfl) (by first | assumption | exact shl hsh (Nat.le_of_ble_eq_true rfl) rfl) (by first | assumption | exact ixn_nI (by omega)) (by first | assumption | exact hr _ _ _ rfl) ?_
          refine wp_iconst (v := 2) (by decide) q67_ok d67_38 ?_
          refine wp_iald (m := 3) q67_ok d67_39 (by first | assumption | exact so0 hsh rfl) (by first | assumption | exact shl hsh (Nat.le_of_ble_eq_true rfl) rfl) (ixn_nI (j := 2) (Nat.le_of_ble_eq_true rfl)) (by first | assumption | rfl) ?_ (shK hsh)
          refine wp_icmp_gt q67_ok d67_40 (t := 49) rfl (fun h40 => ?_) (fun h40 => ?_)
          · refine wp_iinc (j := 3) rfl (by first | exact inc1 | rfl) (rfl : _ = [_, _, _, _]) q67_ok d67_49 ?_
            refine wp_goto (t := 4) rfl q67_ok d67_52 ?_
            have := ih (k + 1) (by omega)
            rw [reachC] at this
            first | (rw [if_pos h40] at this; exact this) | (rw [if_neg h40] at this; exact this)
          · refine wp_iload_n (j := 2) rfl q67_ok d67_43 ?_
            refine wp_iconst (v := 1) (by decide) q67_ok d67_44 ?_
            refine wp_iload_n (j := 3) rfl q67_ok d67_45 ?_
            refine wp_ishl rfl q67_ok d67_46 ?_
            refine wp_ior rfl q67_ok d67_47 ?_
            refine wp_istore_n (j := 2) (Nat.le_of_ble_eq_true rfl) (rfl : _ = [_, _, _, _]) q67_ok d67_48 ?_
            refine wp_iinc (j := 3) rfl (by first | exact inc1 | rfl) (rfl : _ = [_, _, _, _]) q67_ok d67_49 ?_
            refine wp_goto (t := 4) rfl q67_ok d67_52 ?_
            have := ih (k + 1) (by omega)
            rw [reachC] at this
            first | (rw [if_pos h40] at this; exact this) | (rw [if_neg h40] at this; exact this)
theorem c_reach {xs : List Int32} {ext : mm_X} {n : Nat} {sh : mm_S} {d : mm_D} {g : mm_G} {r : mm_R} (hsh : shp sh) (hr : rfx r) {np nb p : Nat} (hnp : d 4 5 = nI np) (h6 : np ≤ 6) (hnb : d 4 6 = nI nb) (h2 : nb ≤ 2) (hp : p < np) : wp xs ext (n + 0) 67 0 [some (.ref 4), some (.int (nI p)), none, none] [] (sh, d, g, r) (fun v μ => v = some (.int (reachC d p nb)) ∧ μ = (sh, d, g, r)) := by
  refine wp_iconst (v := 0) (by decide) q67_ok d67_0 ?_
  refine wp_istore_n (j := 2) (Nat.le_of_ble_eq_true rfl) (rfl : _ = [_, _, _, _]) q67_ok d67_1 ?_
  refine wp_iconst (v := 0) (by decide) q67_ok d67_2 ?_
  refine wp_istore_n (j := 3) (Nat.le_of_ble_eq_true rfl) (rfl : _ = [_, _, _, _]) q67_ok d67_3 ?_
  exact c_reach_l hsh hr hnp h6 hnb h2 hp nb 0 (by omega)
