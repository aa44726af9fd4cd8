/-! ===== small methods ===== -/
def fmod (x y : Int32) : Int32 := if 0 ≤ (x ^^^ y) then x - x / y * y else if x - x / y * y = 0 then x - x / y * y else x - x / y * y + y
def onC (m f a q : Int32) : Int32 := if q ≤ 0 then 0 else if fmod (m - f) q < a then 1 else 0
theorem onC01 (m f a q : Int32) : onC m f a q = 0 ∨ onC m f a q = 1 := by
  unfold onC
  split
  · exact Or.inl rfl
  · split
    · exact Or.inr rfl
    · exact Or.inl rfl
def foggyC (d : mm_D) (m : Int32) : Int32 := if d 4 7 = 0 then 0 else onC m (d 16 0) (d 16 1) (d 16 2)
theorem foggyC01 (d : mm_D) (m : Int32) : foggyC d m = 0 ∨ foggyC d m = 1 := by
  unfold foggyC
  split
  · exact Or.inl rfl
  · exact onC01 _ _ _ _
def dueC (h m : Int32) : Int32 := if h < 1 then 0 else if ¬ m - m / h * h = 0 then 0 else if ¬ m / h - m / h / 12 * 12 = 0 then m / h - m / h / 12 * 12 else 12
def leftC (kind owing seen : Int32) : Int32 := if 1 ≤ owing then (if (if kind = 1 then (1 : Int32) else 0) = seen then owing - 1 else owing) else owing
def bitC (k : Nat) : Int32 := (1 : Int32) <<< (nI k &&& 31)
def nearC (d : mm_D) (view : Int32) : Nat → Int32
  | 0 => 0
  | k + 1 => if view < d (6 + k) 3 then nearC d view k else nearC d view k ||| bitC k
def viewC (d : mm_D) : Int32 := if d 4 7 = 0 then -1 else d 16 3
def seersC (d : mm_D) (looking m near : Int32) : Int32 := if foggyC d m = 0 then looking else looking &&& near
def reachC (d : mm_D) (p : Nat) : Nat → Int32
  | 0 => 0
  | k + 1 => if d (14 + k) 2 < d (6 + p) 3 then reachC d p k else reachC d p k ||| bitC k
theorem r5 {r : mm_R} (hr : rfx r) {p : Nat} (h : p < 6) : r 5 p = some (6 + p) := hr _ _ _ (by
  have : ∀ p, p < 6 → r0 5 p = some (6 + p) := by decide +kernel
  exact this p h)
theorem r13 {r : mm_R} (hr : rfx r) {p : Nat} (h : p < 2) : r 13 p = some (14 + p) := hr _ _ _ (by
  have : ∀ p, p < 2 → r0 13 p = some (14 + p) := by decide +kernel
  exact this p h)
theorem s6 {sh : mm_S} (hsh : shp sh) {p : Nat} (h : p < 6) : so sh (6 + p) 20 ∧ (sh.2.2.2 (6 + p)).2 = 4 := by
  have : ∀ p, p < 6 → lay (6 + p) = (20, 4) := by decide +kernel
  exact ⟨⟨by rw [hsh.1]; omega, by rw [hsh.2 _ (by omega), this p h]⟩, by rw [hsh.2 _ (by omega), this p h]⟩
theorem s14 {sh : mm_S} (hsh : shp sh) {p : Nat} (h : p < 2) : so sh (14 + p) 20 ∧ (sh.2.2.2 (14 + p)).2 = 3 := by
  have : ∀ p, p < 2 → lay (14 + p) = (20, 3) := by decide +kernel
  exact ⟨⟨by rw [hsh.1]; omega, by rw [hsh.2 _ (by omega), this p h]⟩, by rw [hsh.2 _ (by omega), this p h]⟩
theorem c_fmod {xs : List Int32} {ext : mm_X} {n : Nat} {sh : mm_S} {d : mm_D} {g : mm_G} {r : mm_R}  (x y : Int32) (hy : ¬ y = 0) : wp xs ext (n + 0) 226 0 [some (.int x), some (.int y), none] [] (sh, d, g, r) (fun v μ => v = some (.int (fmod x y)) ∧ μ = (sh, d, g, r)) := by
  refine wp_iload_n (j := 0) rfl q226_ok d226_0 ?_
  refine wp_iload_n (j := 1) rfl q226_ok d226_1 ?_
  refine wp_irem (by assumption) rfl q226_ok d226_2 ?_
  refine wp_istore_n (j := 2) (Nat.le_of_ble_eq_true rfl) (rfl : _ = [_, _, _]) q226_ok d226_3 ?_
  refine wp_iload_n (j := 0) rfl q226_ok d226_4 ?_
  refine wp_iload_n (j := 1) rfl q226_ok d226_5 ?_
  refine wp_ixor rfl q226_ok d226_6 ?_
  refine wp_if_ge q226_ok d226_7 (t := 18) rfl (fun h7 => ?_) (fun h7 => ?_)
  · refine wp_iload_n (j := 2) rfl q226_ok d226_18 ?_
    refine wp_iret q226_ok d226_19 rfl ?_
    exact ⟨by first | (simp [fmod, *]; done) | (subst_vars; simp [fmod, *]; done), rfl⟩
  · refine wp_iload_n (j := 2) rfl q226_ok d226_10 ?_
    refine wp_if_eq q226_ok d226_11 (t := 18) rfl (fun h11 => ?_) (fun h11 => ?_)
    · refine wp_iload_n (j := 2) rfl q226_ok d226_18 ?_
      refine wp_iret q226_ok d226_19 rfl ?_
      exact ⟨by first | (simp [fmod, *]; done) | (subst_vars; simp [fmod, *]; done), rfl⟩
    · refine wp_iload_n (j := 2) rfl q226_ok d226_14 ?_
      refine wp_iload_n (j := 1) rfl q226_ok d226_15 ?_
      refine wp_iadd rfl q226_ok d226_16 ?_
      refine wp_iret q226_ok d226_17 rfl ?_
      exact ⟨by first | (simp [fmod, *]; done) | (subst_vars; simp [fmod, *]; done), rfl⟩
theorem c_max {xs : List Int32} {ext : mm_X} {n : Nat} {sh : mm_S} {d : mm_D} {g : mm_G} {r : mm_R}  (x y : Int32) : wp xs ext (n + 0) 227 0 [some (.int x), some (.int y)] [] (sh, d, g, r) (fun v μ => v = some (.int (if x < y then y else x)) ∧ μ = (sh, d, g, r)) := by
  refine wp_iload_n (j := 0) rfl q227_ok d227_0 ?_
  refine wp_iload_n (j := 1) rfl q227_ok d227_1 ?_
  refine wp_icmp_lt q227_ok d227_2 (t := 9) rfl (fun h2 => ?_) (fun h2 => ?_)
  · refine wp_iload_n (j := 1) rfl q227_ok d227_9 ?_
    refine wp_iret q227_ok d227_10 rfl ?_
    exact ⟨by simp [*], rfl⟩
  · refine wp_iload_n (j := 0) rfl q227_ok d227_5 ?_
    refine wp_goto (t := 10) rfl q227_ok d227_6 ?_
    refine wp_iret q227_ok d227_10 rfl ?_
    exact ⟨by simp [*], rfl⟩
theorem c_min {xs : List Int32} {ext : mm_X} {n : Nat} {sh : mm_S} {d : mm_D} {g : mm_G} {r : mm_R}  (x y : Int32) : wp xs ext (n + 0) 229 0 [some (.int x), some (.int y)] [] (sh, d, g, r) (fun v μ => v = some (.int (if y < x then y else x)) ∧ μ = (sh, d, g, r)) := by
  refine wp_iload_n (j := 0) rfl q229_ok d229_0 ?_
  refine wp_iload_n (j := 1) rfl q229_ok d229_1 ?_
  refine wp_icmp_gt q229_ok d229_2 (t := 9) rfl (fun h2 => ?_) (fun h2 => ?_)
  · refine wp_iload_n (j := 1) rfl q229_ok d229_9 ?_
    refine wp_iret q229_ok d229_10 rfl ?_
    exact ⟨by simp [*], rfl⟩
  · refine wp_iload_n (j := 0) rfl q229_ok d229_5 ?_
    refine wp_goto (t := 10) rfl q229_ok d229_6 ?_
    refine wp_iret q229_ok d229_10 rfl ?_
    exact ⟨by simp [*], rfl⟩
theorem c_isAhead {xs : List Int32} {ext : mm_X} {n : Nat} {sh : mm_S} {d : mm_D} {g : mm_G} {r : mm_R}  (a : Int32) : wp xs ext (n + 0) 132 0 [some (.int a)] [] (sh, d, g, r) (fun v μ => v = some (.int (if a < 1 then 0 else if 240 < a then 0 else 1)) ∧ μ = (sh, d, g, r)) := by
  refine wp_iload_n (j := 0) rfl q132_ok d132_0 ?_
  refine wp_iconst (v := 1) (by decide) q132_ok d132_1 ?_
  refine wp_icmp_lt q132_ok d132_2 (t := 16) rfl (fun h2 => ?_) (fun h2 => ?_)
  · refine wp_iconst (v := 0) (by decide) q132_ok d132_16 ?_
    refine wp_zret q132_ok d132_17 rfl (by first | assumption | exact Or.inl rfl | exact Or.inr rfl) ?_
    exact ⟨by simp [*], rfl⟩
  · refine wp_iload_n (j := 0) rfl q132_ok d132_5 ?_
    refine wp_sipush (v := 240) (by decide) q132_ok d132_6 ?_
    refine wp_icmp_gt q132_ok d132_9 (t := 16) rfl (fun h9 => ?_) (fun h9 => ?_)
    · refine wp_iconst (v := 0) (by decide) q132_ok d132_16 ?_
      refine wp_zret q132_ok d132_17 rfl (by first | assumption | exact Or.inl rfl | exact Or.inr rfl) ?_
      exact ⟨by simp [*], rfl⟩
    · refine wp_iconst (v := 1) (by decide) q132_ok d132_12 ?_
      refine wp_goto (t := 17) rfl q132_ok d132_13 ?_
      refine wp_zret q132_ok d132_17 rfl (by first | assumption | exact Or.inl rfl | exact Or.inr rfl) ?_
      exact ⟨by simp [*], rfl⟩
theorem c_isOn {xs : List Int32} {ext : mm_X} {n : Nat} {sh : mm_S} {d : mm_D} {g : mm_G} {r : mm_R}  (m f a q : Int32) : wp xs ext (n + 1) 60 0 [some (.int m), some (.int f), some (.int a), some (.int q)] [] (sh, d, g, r) (fun v μ => v = some (.int (onC m f a q)) ∧ μ = (sh, d, g, r)) := by
  refine wp_iload_n (j := 3) rfl q60_ok d60_0 ?_
  refine wp_if_le q60_ok d60_1 (t := 19) rfl (fun h1 => ?_) (fun h1 => ?_)
  · refine wp_iconst (v := 0) (by decide) q60_ok d60_19 ?_
    refine wp_zret q60_ok d60_20 rfl (by first | assumption | exact Or.inl rfl | exact Or.inr rfl) ?_
    exact ⟨by first | (simp [onC, *]; done) | (subst_vars; simp [onC, *]; done), rfl⟩
  · refine wp_iload_n (j := 0) rfl q60_ok d60_4 ?_
    refine wp_iload_n (j := 1) rfl q60_ok d60_5 ?_
    refine wp_isub rfl q60_ok d60_6 ?_
    refine wp_iload_n (j := 3) rfl q60_ok d60_7 ?_
    have hq0 : ¬ q = 0 := fun e => h1 (by rw [e]; decide)
    refine wp_cS q60_ok d60_8 ml_7_77 rfl q226_ok rfl rfl rfl (Nat.le_of_ble_eq_true rfl) (Nat.le_of_ble_eq_true rfl) (c_fmod _ _ (by assumption)) (fun v8 μ8 hc => ?_)
    obtain ⟨rfl, rfl⟩ := hc
    refine ⟨mm_le_same rfl, ?_⟩
    refine wp_iload_n (j := 2) rfl q60_ok d60_11 ?_
    refine wp_icmp_ge q60_ok d60_12 (t := 19) rfl (fun h12 => ?_) (fun h12 => ?_)
    · refine wp_iconst (v := 0) (by decide) q60_ok d60_19 ?_
      refine wp_zret q60_ok d60_20 rfl (by first | assumption | exact Or.inl rfl | exact Or.inr rfl) ?_
      exact ⟨by first | (simp [onC, *]; done) | (subst_vars; simp [onC, *]; done), rfl⟩
    · refine wp_iconst (v := 1) (by decide) q60_ok d60_15 ?_
      refine wp_goto (t := 20) rfl q60_ok d60_16 ?_
      refine wp_zret q60_ok d60_20 rfl (by first | assumption | exact Or.inl rfl | exact Or.inr rfl) ?_
      exact ⟨by first | (simp [onC, *]; done) | (subst_vars; simp [onC, *]; done), rfl⟩
theorem c_isFoggy {xs : List Int32} {ext : mm_X} {n : Nat} {sh : mm_S} {d : mm_D} {g : mm_G} {r : mm_R} (hsh : shp sh) (hr : rfx r) (m : Int32) : wp xs ext (n + 2) 59 0 [some (.ref 4), some (.int m)] [] (sh, d, g, r) (fun v μ => v = some (.int (foggyC d m)) ∧ μ = (sh, d, g, r)) := by
  refine wp_aload_n (j := 0) rfl q59_ok d59_0 ?_
  refine wp_getZ q59_ok d59_1 fl_7_39 rfl (by first | assumption | exact so0 hsh rfl) (by first | assumption | rfl) ?_
  refine wp_if_eq q59_ok d59_4 (t := 36) rfl (fun h4 => ?_) (fun h4 => ?_)
  · refine wp_iconst (v := 0) (by decide) q59_ok d59_36 ?_
    refine wp_zret q59_ok d59_37 rfl (by first | assumption | exact Or.inl rfl | exact Or.inr rfl) ?_
    exact ⟨by simp [foggyC, *]; try (first | done | exact ((onC01 _ _ _ _).resolve_left (by assumption)).symm), rfl⟩
  · refine wp_iload_n (j := 1) rfl q59_ok d59_7 ?_
    refine wp_aload_n (j := 0) rfl q59_ok d59_8 ?_
    refine wp_getR q59_ok d59_9 fl_7_25 rfl (by first | assumption | exact so0 hsh rfl) (by first | assumption | exact hr _ _ _ rfl) ?_
    refine wp_iconst (v := 0) (by decide) q59_ok d59_12 ?_
    refine wp_iald (m := 4) q59_ok d59_13 (by first | assumption | exact so0 hsh rfl) (by first | assumption | exact shl hsh (Nat.le_of_ble_eq_true rfl) rfl) (ixn_nI (j := 0) (Nat.le_of_ble_eq_true rfl)) (by first | assumption | rfl) ?_ (shK hsh)
    refine wp_aload_n (j := 0) rfl q59_ok d59_14 ?_
    refine wp_getR q59_ok d59_15 fl_7_25 rfl (by first | assumption | exact so0 hsh rfl) (by first | assumption | exact hr _ _ _ rfl) ?_
    refine wp_iconst (v := 1) (by decide) q59_ok d59_18 ?_
    refine wp_iald (m := 4) q59_ok d59_19 (by first | assumption | exact so0 hsh rfl) (by first | assumption | exact shl hsh (Nat.le_of_ble_eq_true rfl) rfl) (ixn_nI (j := 1) (Nat.le_of_ble_eq_true rfl)) (by first | assumption | rfl) ?_ (shK hsh)
    refine wp_aload_n (j := 0) rfl q59_ok d59_20 ?_
    refine wp_getR q59_ok d59_21 fl_7_25 rfl (by first | assumption | exact so0 hsh rfl) (by first | assumption | exact hr _ _ _ rfl) ?_
    refine wp_iconst (v := 2) (by decide) q59_ok d59_24 ?_
    refine wp_iald (m := 4) q59_ok d59_25 (by first | assumption | exact so0 hsh rfl) (by first | assumption | exact shl hsh (Nat.le_of_ble_eq_true rfl) rfl) (ixn_nI (j := 2) (Nat.le_of_ble_eq_true rfl)) (by first | assumption | rfl) ?_ (shK hsh)
    refine wp_cS q59_ok d59_26 ml_7_73 rfl q60_ok rfl rfl rfl (Nat.le_of_ble_eq_true rfl) (Nat.le_of_ble_eq_true rfl) (c_isOn _ _ _ _) (fun v26 μ26 hc => ?_)
    obtain ⟨rfl, rfl⟩ := hc
    refine ⟨mm_le_same rfl, ?_⟩
    refine wp_if_eq q59_ok d59_29 (t := 36) rfl (fun h29 => ?_) (fun h29 => ?_)
    · refine wp_iconst (v := 0) (by decide) q59_ok d59_36 ?_
      refine wp_zret q59_ok d59_37 rfl (by first | assumption | exact Or.inl rfl | exact Or.inr rfl) ?_
      exact ⟨by simp [foggyC, *]; try (first | done | exact ((onC01 _ _ _ _).resolve_left (by assumption)).symm), rfl⟩
    · refine wp_iconst (v := 1) (by decide) q59_ok d59_32 ?_
      refine wp_goto (t := 37) rfl q59_ok d59_33 ?_
      refine wp_zret q59_ok d59_37 rfl (by first | assumption | exact Or.inl rfl | exact Or.inr rfl) ?_
      exact ⟨by simp [foggyC, *]; try (first | done | exact ((onC01 _ _ _ _).resolve_left (by assumption)).symm), rfl⟩
theorem c_lives {xs : List Int32} {ext : mm_X} {n : Nat} {sh : mm_S} {d : mm_D} {g : mm_G} {r : mm_R} (hsh : shp sh) (hr : rfx r) {np p : Nat} (hnp : d 4 5 = nI np) (h6 : np ≤ 6) (hp : p < np) : wp xs ext (n + 0) 61 0 [some (.ref 4), some (.int (nI p))] [] (sh, d, g, r) (fun v μ => v = some (.int 1) ∧ μ = (sh, d, g, r)) := by
  refine wp_iload_n (j := 1) rfl q61_ok d61_0 ?_
  refine wp_if_lt q61_ok d61_1 (t := 22) rfl (fun h1 => ?_) (fun h1 => ?_)
  · exact absurd h1 (nI_pos (by omega))
  · refine wp_iload_n (j := 1) rfl q61_ok d61_4 ?_
    refine wp_aload_n (j := 0) rfl q61_ok d61_5 ?_
    refine wp_getI q61_ok d61_6 fl_7_32 rfl (by first | assumption | exact so0 hsh rfl) (by first | assumption | rfl) ?_
    refine wp_icmp_ge q61_ok d61_9 (t := 22) rfl (fun h9 => ?_) (fun h9 => ?_)
    · exact absurd h9 (nI_ge hp (by omega))
    · refine wp_iload_n (j := 1) rfl q61_ok d61_12 ?_
      refine wp_bipush (v := 6) (by decide) q61_ok d61_13 ?_
      refine wp_icmp_ge q61_ok d61_15 (t := 22) rfl (fun h15 => ?_) (fun h15 => ?_)
      · exact absurd h15 (nI_ge (show p < 6 by omega) (by decide))
      · refine wp_iconst (v := 1) (by decide) q61_ok d61_18 ?_
        refine wp_goto (t := 23) rfl q61_ok d61_19 ?_
        refine wp_zret q61_ok d61_23 rfl (by first | assumption | exact Or.inl rfl | exact Or.inr rfl) ?_
        exact ⟨rfl, rfl⟩
theorem c_hangs {xs : List Int32} {ext : mm_X} {n : Nat} {sh : mm_S} {d : mm_D} {g : mm_G} {r : mm_R} (hsh : shp sh) (hr : rfx r) {nb k : Nat} (hnb : d 4 6 = nI nb) (h2 : nb ≤ 2) (hk : k < nb) : wp xs ext (n + 0) 62 0 [some (.ref 4), some (.int (nI k))] [] (sh, d, g, r) (fun v μ => v = some (.int 1) ∧ μ = (sh, d, g, r)) := by
  refine wp_iload_n (j := 1) rfl q62_ok d62_0 ?_
  refine wp_if_lt q62_ok d62_1 (t := 21) rfl (fun h1 => ?_) (fun h1 => ?_)
  · exact absurd h1 (nI_pos (by omega))
  · refine wp_iload_n (j := 1) rfl q62_ok d62_4 ?_
    refine wp_aload_n (j := 0) rfl q62_ok d62_5 ?_
    refine wp_getI q62_ok d62_6 fl_7_36 rfl (by first | assumption | exact so0 hsh rfl) (by first | assumption | rfl) ?_
    refine wp_icmp_ge q62_ok d62_9 (t := 21) rfl (fun h9 => ?_) (fun h9 => ?_)
    · exact absurd h9 (nI_ge hk (by omega))
    · refine wp_iload_n (j := 1) rfl q62_ok d62_12 ?_
      refine wp_iconst (v := 2) (by decide) q62_ok d62_13 ?_
      refine wp_icmp_ge q62_ok d62_14 (t := 21) rfl (fun h14 => ?_) (fun h14 => ?_)
      · exact absurd h14 (nI_ge (show k < 2 by omega) (by decide))
      · refine wp_iconst (v := 1) (by decide) q62_ok d62_17 ?_
        refine wp_goto (t := 22) rfl q62_ok d62_18 ?_
        refine wp_zret q62_ok d62_22 rfl (by first | assumption | exact Or.inl rfl | exact Or.inr rfl) ?_
        exact ⟨rfl, rfl⟩
theorem c_spanIsOn {xs : List Int32} {ext : mm_X} {n : Nat} {sh : mm_S} {d : mm_D} {g : mm_G} {r : mm_R} (hsh : shp sh) (hr : rfx r) {np p : Nat} (hnp : d 4 5 = nI np) (h6 : np ≤ 6) (hp : p < np) (f m : Int32) : wp xs ext (n + 2) 63 0 [some (.ref 4), some (.int (nI p)), some (.int f), some (.int m)] [] (sh, d, g, r) (fun v μ => v = some (.int (onC m f (d (6 + p) 1) (d (6 + p) 2))) ∧ μ = (sh, d, g, r)) := by
  have hp6 : p < 6 := by omega
  obtain ⟨hs1, hs2⟩ := s6 hsh hp6
  have hr5 := r5 hr hp6
  refine wp_aload_n (j := 0) rfl q63_ok d63_0 ?_
  refine wp_iload_n (j := 1) rfl q63_ok d63_1 ?_
  refine wp_cV q63_ok d63_2 ml_7_83 rfl q61_ok (u := 7) rfl (by first | assumption | exact so0 hsh rfl) rfl (Nat.le_of_ble_eq_true rfl) (Nat.le_of_ble_eq_true rfl) (c_lives hsh hr hnp h6 hp) (fun v2 μ2 hc => ?_)
  obtain ⟨rfl, rfl⟩ := hc
  refine ⟨mm_le_same rfl, ?_⟩
  refine wp_if_ne q63_ok d63_5 (t := 10) rfl (fun h5 => ?_) (fun h5 => ?_)
  · refine wp_iload_n (j := 3) rfl q63_ok d63_10 ?_
    refine wp_iload_n (j := 2) rfl q63_ok d63_11 ?_
    refine wp_aload_n (j := 0) rfl q63_ok d63_12 ?_
    refine wp_getR q63_ok d63_13 fl_7_11 rfl (by first | assumption | exact so0 hsh rfl) (by first | assumption | exact hr _ _ _ rfl) ?_
    refine wp_iload_n (j := 1) rfl q63_ok d63_16 ?_
    refine wp_aald (m := 6) q63_ok d63_17 (t := 25) (by decide) (by first | assumption | exact so0 hsh rfl) (by first | assumption | exact shl hsh (Nat.le_of_ble_eq_true rfl) rfl) (by first | assumption | exact ixn_nI (by omega)) (by first | assumption | exact hr _ _ _ rfl) ?_
    refine wp_iconst (v := 1) (by decide) q63_ok d63_18 ?_
    refine wp_iald (m := 4) q63_ok d63_19 (by first | assumption | exact so0 hsh rfl) (by first | assumption | exact shl hsh (Nat.le_of_ble_eq_true rfl) rfl) (ixn_nI (j := 1) (Nat.le_of_ble_eq_true rfl)) (by first | assumption | rfl) ?_ (shK hsh)
    refine wp_aload_n (j := 0) rfl q63_ok d63_20 ?_
    refine wp_getR q63_ok d63_21 fl_7_11 rfl (by first | assumption | exact so0 hsh rfl) (by first | assumption | exact hr _ _ _ rfl) ?_
    refine wp_iload_n (j := 1) rfl q63_ok d63_24 ?_
    refine wp_aald (m := 6) q63_ok d63_25 (t := 25) (by decide) (by first | assumption | exact so0 hsh rfl) (by first | assumption | exact shl hsh (Nat.le_of_ble_eq_true rfl) rfl) (by first | assumption | exact ixn_nI (by omega)) (by first | assumption | exact hr _ _ _ rfl) ?_
    refine wp_iconst (v := 2) (by decide) q63_ok d63_26 ?_
    refine wp_iald (m := 4) q63_ok d63_27 (by first | assumption | exact so0 hsh rfl) (by first | assumption | exact shl hsh (Nat.le_of_ble_eq_true rfl) rfl) (ixn_nI (j := 2) (Nat.le_of_ble_eq_true rfl)) (by first | assumption | rfl) ?_ (shK hsh)
    refine wp_cS q63_ok d63_28 ml_7_73 rfl q60_ok rfl rfl rfl (Nat.le_of_ble_eq_true rfl) (Nat.le_of_ble_eq_true rfl) (c_isOn _ _ _ _) (fun v28 μ28 hc => ?_)
    obtain ⟨rfl, rfl⟩ := hc
    refine ⟨mm_le_same rfl, ?_⟩
    refine wp_zret q63_ok d63_31 rfl (onC01 _ _ _ _) ?_
    exact ⟨rfl, rfl⟩
  · have h5 := Classical.not_not.mp h5
    exact absurd h5 (by decide)
theorem c_near_l {xs : List Int32} {ext : mm_X} {n : Nat} {sh : mm_S} {d : mm_D} {g : mm_G} {r : mm_R} (hsh : shp sh) (hr : rfx r) {np : Nat} (hnp : d 4 5 = nI np) (h6 : np ≤ 6) (view : Int32) : ∀ (m k : Nat), m + k = np → wp xs ext (n + 0) 67 4 [some (.ref 4), some (.int view), some (.int (nearC d view k)), some (.int (nI k))] [] (sh, d, g, r) (fun v μ => v = some (.int (nearC d view np)) ∧ μ = (sh, d, g, r)) := by
  intro m
  induction m with
  | zero =>
    intro k hm
    obtain rfl : k = np := by omega
    refine wp_iload_n (j := 3) rfl q67_ok d67_4 ?_
    refine wp_aload_n (j := 0) rfl q67_ok d67_5 ?_
    refine wp_getI q67_ok d67_6 fl_7_32 rfl (by first | assumption | exact so0 hsh rfl) (by first | assumption | rfl) ?_
    refine wp_icmp_ge q67_ok d67_9 (t := 42) rfl (fun h9 => ?_) (fun h9 => ?_)
    · refine wp_iload_n (j := 2) rfl q67_ok d67_42 ?_
      refine wp_iret q67_ok d67_43 rfl ?_
      exact ⟨rfl, rfl⟩
    · exact absurd (nI_le (Nat.le_refl _) (by omega)) h9
  | succ m ih =>
    intro k hm
    have hlt : k < np := by omega
    refine wp_iload_n (j := 3) rfl q67_ok d67_4 ?_
    refine wp_aload_n (j := 0) rfl q67_ok d67_5 ?_
    refine wp_getI q67_ok d67_6 fl_7_32 rfl (by first | assumption | exact so0 hsh rfl) (by first | assumption | rfl) ?_
    refine wp_icmp_ge q67_ok d67_9 (t := 42) rfl (fun h9 => ?_) (fun h9 => ?_)
    · exact absurd h9 (nI_ge hlt (by omega))
    · refine wp_iload_n (j := 3) rfl q67_ok d67_12 ?_
      refine wp_bipush (v := 6) (by decide) q67_ok d67_13 ?_
      refine wp_icmp_ge q67_ok d67_15 (t := 42) rfl (fun h15 => ?_) (fun h15 => ?_)
      · exact absurd h15 (nI_ge (show k < 6 by omega) (by decide))
      · obtain ⟨hs1, hs2⟩ := s6 hsh (show k < 6 by omega)
        have hr5 := r5 hr (show k < 6 by omega)
        refine wp_aload_n (j := 0) rfl q67_ok d67_18 ?_
        refine wp_getR q67_ok d67_19 fl_7_11 rfl (by first | assumption | exact so0 hsh rfl) (by first | assumption | exact hr _ _ _ rfl) ?_
        refine wp_iload_n (j := 3) rfl q67_ok d67_22 ?_
        refine wp_aald (m := 6) q67_ok d67_23 (t := 25) (by decide) (by first | assumption | exact so0 hsh rfl) (by first | assumption | exact shl hsh (Nat.le_of_ble_eq_true rfl) rfl) (by first | assumption | exact ixn_nI (by omega)) (by first | assumption | exact hr _ _ _ rfl) ?_
        refine wp_iconst (v := 3) (by decide) q67_ok d67_24 ?_
        refine wp_iald (m := 4) q67_ok d67_25 (by first | assumption | exact so0 hsh rfl) (by first | assumption | exact shl hsh (Nat.le_of_ble_eq_true rfl) rfl) (ixn_nI (j := 3) (Nat.le_of_ble_eq_true rfl)) (by first | assumption | rfl) ?_ (shK hsh)
        refine wp_iload_n (j := 1) rfl q67_ok d67_26 ?_
        refine wp_icmp_gt q67_ok d67_27 (t := 36) rfl (fun h27 => ?_) (fun h27 => ?_)
        · refine wp_iinc (j := 3) rfl (by first | exact inc1 | rfl) (rfl : _ = [_, _, _, _]) q67_ok d67_36 ?_
          refine wp_goto (t := 4) rfl q67_ok d67_39 ?_
          have := ih (k + 1) (by omega)
          rw [nearC] at this
          first | (rw [if_pos h27] at this; exact this) | (rw [if_neg h27] at this; exact this)
        · refine wp_iload_n (j := 2) rfl q67_ok d67_30 ?_
          refine wp_iconst (v := 1) (by decide) q67_ok d67_31 ?_
          refine wp_iload_n (j := 3) rfl q67_ok d67_32 ?_
          refine wp_ishl rfl q67_ok d67_33 ?_
          refine wp_ior rfl q67_ok d67_34 ?_
          refine wp_istore_n (j := 2) (Nat.le_of_ble_eq_true rfl) (rfl : _ = [_, _, _, _]) q67_ok d67_35 ?_
          refine wp_iinc (j := 3) rfl (by first | exact inc1 | rfl) (rfl : _ = [_, _, _, _]) q67_ok d67_36 ?_
          refine wp_goto (t := 4) rfl q67_ok d67_39 ?_
          have := ih (k + 1) (by omega)
          rw [nearC] at this
          first | (rw [if_pos h27] at this; exact this) | (rw [if_neg h27] at this; exact this)
theorem c_near {xs : List Int32} {ext : mm_X} {n : Nat} {sh : mm_S} {d : mm_D} {g : mm_G} {r : mm_R} (hsh : shp sh) (hr : rfx r) {np : Nat} (hnp : d 4 5 = nI np) (h6 : np ≤ 6) (view : Int32) : wp xs ext (n + 0) 67 0 [some (.ref 4), some (.int view), none, none] [] (sh, d, g, r) (fun v μ => v = some (.int (nearC d view np)) ∧ μ = (sh, d, g, r)) := by
  refine wp_iconst (v := 0) (by decide) q67_ok d67_0 ?_
  refine wp_istore_n (j := 2) (Nat.le_of_ble_eq_true rfl) (rfl : _ = [_, _, _, _]) q67_ok d67_1 ?_
  refine wp_iconst (v := 0) (by decide) q67_ok d67_2 ?_
  refine wp_istore_n (j := 3) (Nat.le_of_ble_eq_true rfl) (rfl : _ = [_, _, _, _]) q67_ok d67_3 ?_
  exact c_near_l hsh hr hnp h6 view np 0 (by omega)
theorem c_view {xs : List Int32} {ext : mm_X} {n : Nat} {sh : mm_S} {d : mm_D} {g : mm_G} {r : mm_R} (hsh : shp sh) (hr : rfx r)  : wp xs ext (n + 0) 58 0 [some (.ref 4)] [] (sh, d, g, r) (fun v μ => v = some (.int (viewC d)) ∧ μ = (sh, d, g, r)) := by
  refine wp_aload_n (j := 0) rfl q58_ok d58_0 ?_
  refine wp_getZ q58_ok d58_1 fl_7_39 rfl (by first | assumption | exact so0 hsh rfl) (by first | assumption | rfl) ?_
  refine wp_if_eq q58_ok d58_4 (t := 16) rfl (fun h4 => ?_) (fun h4 => ?_)
  · refine wp_iconst (v := -1) (by decide) q58_ok d58_16 ?_
    refine wp_iret q58_ok d58_17 rfl ?_
    exact ⟨by first | (simp [viewC, *]; done) | (subst_vars; simp [viewC, *]; done), rfl⟩
  · refine wp_aload_n (j := 0) rfl q58_ok d58_7 ?_
    refine wp_getR q58_ok d58_8 fl_7_25 rfl (by first | assumption | exact so0 hsh rfl) (by first | assumption | exact hr _ _ _ rfl) ?_
    refine wp_iconst (v := 3) (by decide) q58_ok d58_11 ?_
    refine wp_iald (m := 4) q58_ok d58_12 (by first | assumption | exact so0 hsh rfl) (by first | assumption | exact shl hsh (Nat.le_of_ble_eq_true rfl) rfl) (ixn_nI (j := 3) (Nat.le_of_ble_eq_true rfl)) (by first | assumption | rfl) ?_ (shK hsh)
    refine wp_goto (t := 17) rfl q58_ok d58_13 ?_
    refine wp_iret q58_ok d58_17 rfl ?_
    exact ⟨by first | (simp [viewC, *]; done) | (subst_vars; simp [viewC, *]; done), rfl⟩
theorem c_seers {xs : List Int32} {ext : mm_X} {n : Nat} {sh : mm_S} {d : mm_D} {g : mm_G} {r : mm_R} (hsh : shp sh) (hr : rfx r) (x m y : Int32) : wp xs ext (n + 3) 66 0 [some (.ref 4), some (.int x), some (.int m), some (.int y)] [] (sh, d, g, r) (fun v μ => v = some (.int (seersC d x m y)) ∧ μ = (sh, d, g, r)) := by
  refine wp_aload_n (j := 0) rfl q66_ok d66_0 ?_
  refine wp_iload_n (j := 2) rfl q66_ok d66_1 ?_
  refine wp_cV q66_ok d66_2 ml_7_98 rfl q59_ok (u := 7) rfl (by first | assumption | exact so0 hsh rfl) rfl (Nat.le_of_ble_eq_true rfl) (Nat.le_of_ble_eq_true rfl) (c_isFoggy hsh hr _) (fun v2 μ2 hc => ?_)
  obtain ⟨rfl, rfl⟩ := hc
  refine ⟨mm_le_same rfl, ?_⟩
  refine wp_if_eq q66_ok d66_5 (t := 14) rfl (fun h5 => ?_) (fun h5 => ?_)
  · refine wp_iload_n (j := 1) rfl q66_ok d66_14 ?_
    refine wp_iret q66_ok d66_15 rfl ?_
    exact ⟨by first | (simp [seersC, *]; done) | (subst_vars; simp [seersC, *]; done), rfl⟩
  · refine wp_iload_n (j := 1) rfl q66_ok d66_8 ?_
    refine wp_iload_n (j := 3) rfl q66_ok d66_9 ?_
    refine wp_iand rfl q66_ok d66_10 ?_
    refine wp_goto (t := 15) rfl q66_ok d66_11 ?_
    refine wp_iret q66_ok d66_15 rfl ?_
    exact ⟨by first | (simp [seersC, *]; done) | (subst_vars; simp [seersC, *]; done), rfl⟩
theorem c_due {xs : List Int32} {ext : mm_X} {n : Nat} {sh : mm_S} {d : mm_D} {g : mm_G} {r : mm_R} (hsh : shp sh) (hr : rfx r) {nb k : Nat} (hnb : d 4 6 = nI nb) (h2 : nb ≤ 2) (hk : k < nb) (m : Int32) : wp xs ext (n + 1) 70 0 [some (.ref 4), some (.int (nI k)), some (.int m), none, none] [] (sh, d, g, r) (fun v μ => v = some (.int (dueC (d (14 + k) 0) m)) ∧ μ = (sh, d, g, r)) := by
  have hk2 : k < 2 := by omega
  obtain ⟨hs1, hs2⟩ := s14 hsh hk2
  have hr5 := r13 hr hk2
  refine wp_aload_n (j := 0) rfl q70_ok d70_0 ?_
  refine wp_iload_n (j := 1) rfl q70_ok d70_1 ?_
  refine wp_cV q70_ok d70_2 ml_7_105 rfl q62_ok (u := 7) rfl (by first | assumption | exact so0 hsh rfl) rfl (Nat.le_of_ble_eq_true rfl) (Nat.le_of_ble_eq_true rfl) (c_hangs hsh hr hnb h2 hk) (fun v2 μ2 hc => ?_)
  obtain ⟨rfl, rfl⟩ := hc
  refine ⟨mm_le_same rfl, ?_⟩
  refine wp_if_ne q70_ok d70_5 (t := 10) rfl (fun h5 => ?_) (fun h5 => ?_)
  · refine wp_aload_n (j := 0) rfl q70_ok d70_10 ?_
    refine wp_getR q70_ok d70_11 fl_7_22 rfl (by first | assumption | exact so0 hsh rfl) (by first | assumption | exact hr _ _ _ rfl) ?_
    refine wp_iload_n (j := 1) rfl q70_ok d70_14 ?_
    refine wp_aald (m := 2) q70_ok d70_15 (t := 25) (by decide) (by first | assumption | exact so0 hsh rfl) (by first | assumption | exact shl hsh (Nat.le_of_ble_eq_true rfl) rfl) (by first | assumption | exact ixn_nI (by omega)) (by first | assumption | exact hr _ _ _ rfl) ?_
    refine wp_iconst (v := 0) (by decide) q70_ok d70_16 ?_
    refine wp_iald (m := 3) q70_ok d70_17 (by first | assumption | exact so0 hsh rfl) (by first | assumption | exact shl hsh (Nat.le_of_ble_eq_true rfl) rfl) (ixn_nI (j := 0) (Nat.le_of_ble_eq_true rfl)) (by first | assumption | rfl) ?_ (shK hsh)
    refine wp_istore_n (j := 3) (Nat.le_of_ble_eq_true rfl) (rfl : _ = [_, _, _, _, _]) q70_ok d70_18 ?_
    refine wp_iload_n (j := 3) rfl q70_ok d70_19 ?_
    refine wp_iconst (v := 1) (by decide) q70_ok d70_20 ?_
    refine wp_icmp_lt q70_ok d70_21 (t := 30) rfl (fun h21 => ?_) (fun h21 => ?_)
    · refine wp_iconst (v := 0) (by decide) q70_ok d70_30 ?_
      refine wp_iret q70_ok d70_31 rfl ?_
      exact ⟨by first | (simp [dueC, *]; done) | (subst_vars; simp [dueC, *]; done), rfl⟩
    · refine wp_iload_n (j := 2) rfl q70_ok d70_24 ?_
      refine wp_iload_n (j := 3) rfl q70_ok d70_25 ?_
      have hn0 : ¬ d (14 + k) 0 = 0 := fun e => h21 (by rw [e]; decide)
      refine wp_irem (by assumption) rfl q70_ok d70_26 ?_
      refine wp_if_eq q70_ok d70_27 (t := 32) rfl (fun h27 => ?_) (fun h27 => ?_)
      · refine wp_iload_n (j := 2) rfl q70_ok d70_32 ?_
        refine wp_iload_n (j := 3) rfl q70_ok d70_33 ?_
        refine wp_idiv (by assumption) rfl q70_ok d70_34 ?_
        refine wp_bipush (v := 12) (by decide) q70_ok d70_35 ?_
        refine wp_irem (by decide) rfl q70_ok d70_37 ?_
        refine wp_istore (j := 4) (Nat.le_of_ble_eq_true rfl) (rfl : _ = [_, _, _, _, _]) q70_ok d70_38 ?_
        refine wp_iload (j := 4) rfl q70_ok d70_40 ?_
        refine wp_if_ne q70_ok d70_42 (t := 50) rfl (fun h42 => ?_) (fun h42 => ?_)
        · refine wp_iload (j := 4) rfl q70_ok d70_50 ?_
          refine wp_iret q70_ok d70_52 rfl ?_
          exact ⟨by first | (simp [dueC, *]; done) | (subst_vars; simp [dueC, *]; done), rfl⟩
        · have h42 := Classical.not_not.mp h42
          refine wp_bipush (v := 12) (by decide) q70_ok d70_45 ?_
          refine wp_goto (t := 52) rfl q70_ok d70_47 ?_
          refine wp_iret q70_ok d70_52 rfl ?_
          exact ⟨by first | (simp [dueC, *]; done) | (subst_vars; simp [dueC, *]; done), rfl⟩
      · refine wp_iconst (v := 0) (by decide) q70_ok d70_30 ?_
        refine wp_iret q70_ok d70_31 rfl ?_
        exact ⟨by first | (simp [dueC, *]; done) | (subst_vars; simp [dueC, *]; done), rfl⟩
  · have h5 := Classical.not_not.mp h5
    exact absurd h5 (by decide)
theorem c_left {xs : List Int32} {ext : mm_X} {n : Nat} {sh : mm_S} {d : mm_D} {g : mm_G} {r : mm_R} (hsh : shp sh) (hr : rfx r) {nb k : Nat} (hnb : d 4 6 = nI nb) (h2 : nb ≤ 2) (hk : k < nb) (w s : Int32) : wp xs ext (n + 1) 71 0 [some (.ref 4), some (.int (nI k)), some (.int w), some (.int s), none] [] (sh, d, g, r) (fun v μ => v = some (.int (leftC (d (14 + k) 1) w s)) ∧ μ = (sh, d, g, r)) := by
  have hk2 : k < 2 := by omega
  obtain ⟨hs1, hs2⟩ := s14 hsh hk2
  have hr5 := r13 hr hk2
  refine wp_aload_n (j := 0) rfl q71_ok d71_0 ?_
  refine wp_iload_n (j := 1) rfl q71_ok d71_1 ?_
  refine wp_cV q71_ok d71_2 ml_7_105 rfl q62_ok (u := 7) rfl (by first | assumption | exact so0 hsh rfl) rfl (Nat.le_of_ble_eq_true rfl) (Nat.le_of_ble_eq_true rfl) (c_hangs hsh hr hnb h2 hk) (fun v2 μ2 hc => ?_)
  obtain ⟨rfl, rfl⟩ := hc
  refine ⟨mm_le_same rfl, ?_⟩
  refine wp_if_eq q71_ok d71_5 (t := 13) rfl (fun h5 => ?_) (fun h5 => ?_)
  · exact absurd h5 (by decide)
  · refine wp_iload_n (j := 2) rfl q71_ok d71_8 ?_
    refine wp_iconst (v := 1) (by decide) q71_ok d71_9 ?_
    refine wp_icmp_ge q71_ok d71_10 (t := 15) rfl (fun h10 => ?_) (fun h10 => ?_)
    · refine wp_aload_n (j := 0) rfl q71_ok d71_15 ?_
      refine wp_getR q71_ok d71_16 fl_7_22 rfl (by first | assumption | exact so0 hsh rfl) (by first | assumption | exact hr _ _ _ rfl) ?_
      refine wp_iload_n (j := 1) rfl q71_ok d71_19 ?_
      refine wp_aald (m := 2) q71_ok d71_20 (t := 25) (by decide) (by first | assumption | exact so0 hsh rfl) (by first | assumption | exact shl hsh (Nat.le_of_ble_eq_true rfl) rfl) (by first | assumption | exact ixn_nI (by omega)) (by first | assumption | exact hr _ _ _ rfl) ?_
      refine wp_iconst (v := 1) (by decide) q71_ok d71_21 ?_
      refine wp_iald (m := 3) q71_ok d71_22 (by first | assumption | exact so0 hsh rfl) (by first | assumption | exact shl hsh (Nat.le_of_ble_eq_true rfl) rfl) (ixn_nI (j := 1) (Nat.le_of_ble_eq_true rfl)) (by first | assumption | rfl) ?_ (shK hsh)
      refine wp_iconst (v := 1) (by decide) q71_ok d71_23 ?_
      refine wp_icmp_ne q71_ok d71_24 (t := 31) rfl (fun h24 => ?_) (fun h24 => ?_)
      · refine wp_iconst (v := 0) (by decide) q71_ok d71_31 ?_
        refine wp_istore (j := 4) (Nat.le_of_ble_eq_true rfl) (rfl : _ = [_, _, _, _, _]) q71_ok d71_32 ?_
        refine wp_iload (j := 4) rfl q71_ok d71_34 ?_
        refine wp_iload_n (j := 3) rfl q71_ok d71_36 ?_
        refine wp_icmp_ne q71_ok d71_37 (t := 46) rfl (fun h37 => ?_) (fun h37 => ?_)
        · refine wp_iload_n (j := 2) rfl q71_ok d71_46 ?_
          refine wp_iret q71_ok d71_47 rfl ?_
          exact ⟨by first | (simp [leftC, *]; done) | (subst_vars; simp [leftC, *]; done), rfl⟩
        · have h37 := Classical.not_not.mp h37
          refine wp_iload_n (j := 2) rfl q71_ok d71_40 ?_
          refine wp_iconst (v := 1) (by decide) q71_ok d71_41 ?_
          refine wp_isub rfl q71_ok d71_42 ?_
          refine wp_goto (t := 47) rfl q71_ok d71_43 ?_
          refine wp_iret q71_ok d71_47 rfl ?_
          exact ⟨by first | (simp [leftC, *]; done) | (subst_vars; simp [leftC, *]; done), rfl⟩
      · have h24 := Classical.not_not.mp h24
        refine wp_iconst (v := 1) (by decide) q71_ok d71_27 ?_
        refine wp_goto (t := 32) rfl q71_ok d71_28 ?_
        refine wp_istore (j := 4) (Nat.le_of_ble_eq_true rfl) (rfl : _ = [_, _, _, _, _]) q71_ok d71_32 ?_
        refine wp_iload (j := 4) rfl q71_ok d71_34 ?_
        refine wp_iload_n (j := 3) rfl q71_ok d71_36 ?_
        refine wp_icmp_ne q71_ok d71_37 (t := 46) rfl (fun h37 => ?_) (fun h37 => ?_)
        · refine wp_iload_n (j := 2) rfl q71_ok d71_46 ?_
          refine wp_iret q71_ok d71_47 rfl ?_
          exact ⟨by first | (simp [leftC, *]; done) | (subst_vars; simp [leftC, *]; done), rfl⟩
        · have h37 := Classical.not_not.mp h37
          refine wp_iload_n (j := 2) rfl q71_ok d71_40 ?_
          refine wp_iconst (v := 1) (by decide) q71_ok d71_41 ?_
          refine wp_isub rfl q71_ok d71_42 ?_
          refine wp_goto (t := 47) rfl q71_ok d71_43 ?_
          refine wp_iret q71_ok d71_47 rfl ?_
          exact ⟨by first | (simp [leftC, *]; done) | (subst_vars; simp [leftC, *]; done), rfl⟩
    · refine wp_iload_n (j := 2) rfl q71_ok d71_13 ?_
      refine wp_iret q71_ok d71_14 rfl ?_
      exact ⟨by first | (simp [leftC, *]; done) | (subst_vars; simp [leftC, *]; done), rfl⟩
theorem c_reach_l {xs : List Int32} {ext : mm_X} {n : Nat} {sh : mm_S} {d : mm_D} {g : mm_G} {r : mm_R} (hsh : shp sh) (hr : rfx r) {np nb p : Nat} (hnp : d 4 5 = nI np) (h6 : np ≤ 6) (hnb : d 4 6 = nI nb) (h2 : nb ≤ 2) (hp : p < np) : ∀ (m k : Nat), m + k = nb → wp xs ext (n + 1) 69 4 [some (.ref 4), some (.int (nI p)), some (.int (reachC d p k)), some (.int (nI k))] [] (sh, d, g, r) (fun v μ => v = some (.int (reachC d p nb)) ∧ μ = (sh, d, g, r)) := by
  intro m
  induction m with
  | zero =>
    intro k hm
    obtain rfl : k = nb := by omega
    refine wp_iload_n (j := 3) rfl q69_ok d69_4 ?_
    refine wp_aload_n (j := 0) rfl q69_ok d69_5 ?_
    refine wp_getI q69_ok d69_6 fl_7_36 rfl (by first | assumption | exact so0 hsh rfl) (by first | assumption | rfl) ?_
    refine wp_icmp_ge q69_ok d69_9 (t := 56) rfl (fun h9 => ?_) (fun h9 => ?_)
    · refine wp_iload_n (j := 2) rfl q69_ok d69_56 ?_
      refine wp_iret q69_ok d69_57 rfl ?_
      exact ⟨rfl, rfl⟩
    · exact absurd (nI_le (Nat.le_refl _) (by omega)) h9
  | succ m ih =>
    intro k hm
    have hlt : k < nb := by omega
    refine wp_iload_n (j := 3) rfl q69_ok d69_4 ?_
    refine wp_aload_n (j := 0) rfl q69_ok d69_5 ?_
    refine wp_getI q69_ok d69_6 fl_7_36 rfl (by first | assumption | exact so0 hsh rfl) (by first | assumption | rfl) ?_
    refine wp_icmp_ge q69_ok d69_9 (t := 56) rfl (fun h9 => ?_) (fun h9 => ?_)
    · exact absurd h9 (nI_ge hlt (by omega))
    · refine wp_iload_n (j := 3) rfl q69_ok d69_12 ?_
      refine wp_iconst (v := 2) (by decide) q69_ok d69_13 ?_
      refine wp_icmp_ge q69_ok d69_14 (t := 56) rfl (fun h14 => ?_) (fun h14 => ?_)
      · exact absurd h14 (nI_ge (show k < 2 by omega) (by decide))
      · refine wp_aload_n (j := 0) rfl q69_ok d69_17 ?_
        refine wp_iload_n (j := 1) rfl q69_ok d69_18 ?_
        refine wp_cV q69_ok d69_19 ml_7_83 rfl q61_ok (u := 7) rfl (by first | assumption | exact so0 hsh rfl) rfl (Nat.le_of_ble_eq_true rfl) (Nat.le_of_ble_eq_true rfl) (c_lives hsh hr hnp h6 hp) (fun v19 μ19 hc => ?_)
        obtain ⟨rfl, rfl⟩ := hc
        refine ⟨mm_le_same rfl, ?_⟩
        refine wp_if_eq q69_ok d69_22 (t := 56) rfl (fun h22 => ?_) (fun h22 => ?_)
        · exact absurd h22 (by decide)
        · obtain ⟨hs1, hs2⟩ := s6 hsh (show p < 6 by omega)
          have hr5 := r5 hr (show p < 6 by omega)
          obtain ⟨hs3, hs4⟩ := s14 hsh (show k < 2 by omega)
          have hr6 := r13 hr (show k < 2 by omega)
          refine wp_aload_n (j := 0) rfl q69_ok d69_25 ?_
          refine wp_getR q69_ok d69_26 fl_7_11 rfl (by first | assumption | exact so0 hsh rfl) (by first | assumption | exact hr _ _ _ rfl) ?_
          refine wp_iload_n (j := 1) rfl q69_ok d69_29 ?_
          refine wp_aald (m := 6) q69_ok d69_30 (t := 25) (by decide) (by first | assumption | exact so0 hsh rfl) (by first | assumption | exact shl hsh (Nat.le_of_ble_eq_true rfl) rfl) (by first | assumption | exact ixn_nI (by omega)) (by first | assumption | exact hr _ _ _ rfl) ?_
          refine wp_iconst (v := 3) (by decide) q69_ok d69_31 ?_
          refine wp_iald (m := 4) q69_ok d69_32 (by first | assumption | exact so0 hsh rfl) (by first | assumption | exact shl hsh (Nat.le_of_ble_eq_true rfl) rfl) (ixn_nI (j := 3) (Nat.le_of_ble_eq_true rfl)) (by first | assumption | rfl) ?_ (shK hsh)
          refine wp_aload_n (j := 0) rfl q69_ok d69_33 ?_
          refine wp_getR q69_ok d69_34 fl_7_22 rfl (by first | assumption | exact so0 hsh rfl) (by first | assumption | exact hr _ _ _ rfl) ?_
          refine wp_iload_n (j := 3) rfl q69_ok d69_37 ?_
          refine wp_aald (m := 2) q69_ok d69_38 (t := 25) (by decide) (by first | assumption | exact so0 hsh rfl) (by first | assumption | exact shl hsh (Nat.le_of_ble_eq_true rfl) rfl) (by first | assumption | exact ixn_nI (by omega)) (by first | assumption | exact hr _ _ _ rfl) ?_
          refine wp_iconst (v := 2) (by decide) q69_ok d69_39 ?_
          refine wp_iald (m := 3) q69_ok d69_40 (by first | assumption | exact so0 hsh rfl) (by first | assumption | exact shl hsh (Nat.le_of_ble_eq_true rfl) rfl) (ixn_nI (j := 2) (Nat.le_of_ble_eq_true rfl)) (by first | assumption | rfl) ?_ (shK hsh)
          refine wp_icmp_gt q69_ok d69_41 (t := 50) rfl (fun h41 => ?_) (fun h41 => ?_)
          · refine wp_iinc (j := 3) rfl (by first | exact inc1 | rfl) (rfl : _ = [_, _, _, _]) q69_ok d69_50 ?_
            refine wp_goto (t := 4) rfl q69_ok d69_53 ?_
            have := ih (k + 1) (by omega)
            rw [reachC] at this
            first | (rw [if_pos h41] at this; exact this) | (rw [if_neg h41] at this; exact this)
          · refine wp_iload_n (j := 2) rfl q69_ok d69_44 ?_
            refine wp_iconst (v := 1) (by decide) q69_ok d69_45 ?_
            refine wp_iload_n (j := 3) rfl q69_ok d69_46 ?_
            refine wp_ishl rfl q69_ok d69_47 ?_
            refine wp_ior rfl q69_ok d69_48 ?_
            refine wp_istore_n (j := 2) (Nat.le_of_ble_eq_true rfl) (rfl : _ = [_, _, _, _]) q69_ok d69_49 ?_
            refine wp_iinc (j := 3) rfl (by first | exact inc1 | rfl) (rfl : _ = [_, _, _, _]) q69_ok d69_50 ?_
            refine wp_goto (t := 4) rfl q69_ok d69_53 ?_
            have := ih (k + 1) (by omega)
            rw [reachC] at this
            first | (rw [if_pos h41] at this; exact this) | (rw [if_neg h41] at this; exact this)
theorem c_reach {xs : List Int32} {ext : mm_X} {n : Nat} {sh : mm_S} {d : mm_D} {g : mm_G} {r : mm_R} (hsh : shp sh) (hr : rfx r) {np nb p : Nat} (hnp : d 4 5 = nI np) (h6 : np ≤ 6) (hnb : d 4 6 = nI nb) (h2 : nb ≤ 2) (hp : p < np) : wp xs ext (n + 1) 69 0 [some (.ref 4), some (.int (nI p)), none, none] [] (sh, d, g, r) (fun v μ => v = some (.int (reachC d p nb)) ∧ μ = (sh, d, g, r)) := by
  refine wp_iconst (v := 0) (by decide) q69_ok d69_0 ?_
  refine wp_istore_n (j := 2) (Nat.le_of_ble_eq_true rfl) (rfl : _ = [_, _, _, _]) q69_ok d69_1 ?_
  refine wp_iconst (v := 0) (by decide) q69_ok d69_2 ?_
  refine wp_istore_n (j := 3) (Nat.le_of_ble_eq_true rfl) (rfl : _ = [_, _, _, _]) q69_ok d69_3 ?_
  exact c_reach_l hsh hr hnp h6 hnb h2 hp nb 0 (by omega)
