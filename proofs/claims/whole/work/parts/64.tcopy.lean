/-! ===== a town copied ===== -/
theorem c_copyRow4 {xs : List Int32} {ext : mm_X} {n : Nat} {sh : mm_S} {d : mm_D} {g : mm_G} {r : mm_R} {s t : Nat} (hsh : shp sh) (hne : s ≠ t) (hs : so sh s 20) (hsm : (sh.2.2.2 s).2 = 4) (ht : so sh t 20) (htm : (sh.2.2.2 t).2 = 4) : wp xs ext (n + 0) 53 0 [some (.ref s), some (.ref t), none] [] (sh, d, g, r) (fun v μ => v = none ∧ μ = (sh, up4 d t (d s 0) (d s 1) (d s 2) (d s 3), g, r)) := by
  refine wp_iconst (v := 0) (by decide) q53_ok d53_0 ?_
  refine wp_istore_n (j := 2) (Nat.le_of_ble_eq_true rfl) (rfl : _ = [_, _, _]) q53_ok d53_1 ?_
  refine wp_aload_n (j := 1) rfl q53_ok d53_2 ?_
  refine wp_ifnull q53_ok d53_3 ?_
  refine wp_iload_n (j := 2) rfl q53_ok d53_6 ?_
  refine wp_aload_n (j := 0) rfl q53_ok d53_7 ?_
  refine wp_alen q53_ok d53_8 hs.1 (by rw [hs.2]; decide) hsm rfl ?_ (shK hsh)
  refine wp_icmp_ge q53_ok d53_9 (t := 30) rfl (fun h9 => ?_) (fun h9 => ?_)
  · exact absurd h9 (by decide)
  · refine wp_iload_n (j := 2) rfl q53_ok d53_12 ?_
    refine wp_aload_n (j := 1) rfl q53_ok d53_13 ?_
    refine wp_alen q53_ok d53_14 ht.1 (by rw [ht.2]; decide) htm rfl ?_ (shK hsh)
    refine wp_icmp_ge q53_ok d53_15 (t := 30) rfl (fun h15 => ?_) (fun h15 => ?_)
    · exact absurd h15 (by decide)
    · refine wp_aload_n (j := 1) rfl q53_ok d53_18 ?_
      refine wp_iload_n (j := 2) rfl q53_ok d53_19 ?_
      refine wp_aload_n (j := 0) rfl q53_ok d53_20 ?_
      refine wp_iload_n (j := 2) rfl q53_ok d53_21 ?_
      refine wp_iald q53_ok d53_22 hs hsm ⟨rfl, by decide, by decide⟩ rfl ?_ (shK hsh)
      refine wp_iast q53_ok d53_23 ht htm ⟨rfl, by decide, by decide⟩ ?_
      refine wp_iinc (j := 2) rfl (by first | exact inc1 | rfl) (rfl : _ = [_, _, _]) q53_ok d53_24 ?_
      refine wp_goto (t := 2) rfl q53_ok d53_27 ?_
      refine wp_aload_n (j := 1) rfl q53_ok d53_2 ?_
      refine wp_ifnull q53_ok d53_3 ?_
      refine wp_iload_n (j := 2) rfl q53_ok d53_6 ?_
      refine wp_aload_n (j := 0) rfl q53_ok d53_7 ?_
      refine wp_alen q53_ok d53_8 hs.1 (by rw [hs.2]; decide) hsm rfl ?_ (shK hsh)
      refine wp_icmp_ge q53_ok d53_9 (t := 30) rfl (fun h9 => ?_) (fun h9 => ?_)
      · exact absurd h9 (by decide)
      · refine wp_iload_n (j := 2) rfl q53_ok d53_12 ?_
        refine wp_aload_n (j := 1) rfl q53_ok d53_13 ?_
        refine wp_alen q53_ok d53_14 ht.1 (by rw [ht.2]; decide) htm rfl ?_ (shK hsh)
        refine wp_icmp_ge q53_ok d53_15 (t := 30) rfl (fun h15 => ?_) (fun h15 => ?_)
        · exact absurd h15 (by decide)
        · refine wp_aload_n (j := 1) rfl q53_ok d53_18 ?_
          refine wp_iload_n (j := 2) rfl q53_ok d53_19 ?_
          refine wp_aload_n (j := 0) rfl q53_ok d53_20 ?_
          refine wp_iload_n (j := 2) rfl q53_ok d53_21 ?_
          refine wp_iald q53_ok d53_22 hs hsm ⟨rfl, by decide, by decide⟩ (congrFun ((mm_up_ne hne)) _) ?_ (shK hsh)
          refine wp_iast q53_ok d53_23 ht htm ⟨rfl, by decide, by decide⟩ ?_
          refine wp_iinc (j := 2) rfl (by first | exact inc1 | rfl) (rfl : _ = [_, _, _]) q53_ok d53_24 ?_
          refine wp_goto (t := 2) rfl q53_ok d53_27 ?_
          refine wp_aload_n (j := 1) rfl q53_ok d53_2 ?_
          refine wp_ifnull q53_ok d53_3 ?_
          refine wp_iload_n (j := 2) rfl q53_ok d53_6 ?_
          refine wp_aload_n (j := 0) rfl q53_ok d53_7 ?_
          refine wp_alen q53_ok d53_8 hs.1 (by rw [hs.2]; decide) hsm rfl ?_ (shK hsh)
          refine wp_icmp_ge q53_ok d53_9 (t := 30) rfl (fun h9 => ?_) (fun h9 => ?_)
          · exact absurd h9 (by decide)
          · refine wp_iload_n (j := 2) rfl q53_ok d53_12 ?_
            refine wp_aload_n (j := 1) rfl q53_ok d53_13 ?_
            refine wp_alen q53_ok d53_14 ht.1 (by rw [ht.2]; decide) htm rfl ?_ (shK hsh)
            refine wp_icmp_ge q53_ok d53_15 (t := 30) rfl (fun h15 => ?_) (fun h15 => ?_)
            · exact absurd h15 (by decide)
            · refine wp_aload_n (j := 1) rfl q53_ok d53_18 ?_
              refine wp_iload_n (j := 2) rfl q53_ok d53_19 ?_
              refine wp_aload_n (j := 0) rfl q53_ok d53_20 ?_
              refine wp_iload_n (j := 2) rfl q53_ok d53_21 ?_
              refine wp_iald q53_ok d53_22 hs hsm ⟨rfl, by decide, by decide⟩ (congrFun ((mm_up_ne hne).trans ((mm_up_ne hne))) _) ?_ (shK hsh)
              refine wp_iast q53_ok d53_23 ht htm ⟨rfl, by decide, by decide⟩ ?_
              refine wp_iinc (j := 2) rfl (by first | exact inc1 | rfl) (rfl : _ = [_, _, _]) q53_ok d53_24 ?_
              refine wp_goto (t := 2) rfl q53_ok d53_27 ?_
              refine wp_aload_n (j := 1) rfl q53_ok d53_2 ?_
              refine wp_ifnull q53_ok d53_3 ?_
              refine wp_iload_n (j := 2) rfl q53_ok d53_6 ?_
              refine wp_aload_n (j := 0) rfl q53_ok d53_7 ?_
              refine wp_alen q53_ok d53_8 hs.1 (by rw [hs.2]; decide) hsm rfl ?_ (shK hsh)
              refine wp_icmp_ge q53_ok d53_9 (t := 30) rfl (fun h9 => ?_) (fun h9 => ?_)
              · exact absurd h9 (by decide)
              · refine wp_iload_n (j := 2) rfl q53_ok d53_12 ?_
                refine wp_aload_n (j := 1) rfl q53_ok d53_13 ?_
                refine wp_alen q53_ok d53_14 ht.1 (by rw [ht.2]; decide) htm rfl ?_ (shK hsh)
                refine wp_icmp_ge q53_ok d53_15 (t := 30) rfl (fun h15 => ?_) (fun h15 => ?_)
                · exact absurd h15 (by decide)
                · refine wp_aload_n (j := 1) rfl q53_ok d53_18 ?_
                  refine wp_iload_n (j := 2) rfl q53_ok d53_19 ?_
                  refine wp_aload_n (j := 0) rfl q53_ok d53_20 ?_
                  refine wp_iload_n (j := 2) rfl q53_ok d53_21 ?_
                  refine wp_iald q53_ok d53_22 hs hsm ⟨rfl, by decide, by decide⟩ (congrFun ((mm_up_ne hne).trans ((mm_up_ne hne).trans ((mm_up_ne hne)))) _) ?_ (shK hsh)
                  refine wp_iast q53_ok d53_23 ht htm ⟨rfl, by decide, by decide⟩ ?_
                  refine wp_iinc (j := 2) rfl (by first | exact inc1 | rfl) (rfl : _ = [_, _, _]) q53_ok d53_24 ?_
                  refine wp_goto (t := 2) rfl q53_ok d53_27 ?_
                  refine wp_aload_n (j := 1) rfl q53_ok d53_2 ?_
                  refine wp_ifnull q53_ok d53_3 ?_
                  refine wp_iload_n (j := 2) rfl q53_ok d53_6 ?_
                  refine wp_aload_n (j := 0) rfl q53_ok d53_7 ?_
                  refine wp_alen q53_ok d53_8 hs.1 (by rw [hs.2]; decide) hsm rfl ?_ (shK hsh)
                  refine wp_icmp_ge q53_ok d53_9 (t := 30) rfl (fun h9 => ?_) (fun h9 => ?_)
                  · refine wp_vret q53_ok d53_30 rfl ?_
                    exact ⟨rfl, rfl⟩
                  · exact absurd (by decide) h9
theorem c_copyRow3 {xs : List Int32} {ext : mm_X} {n : Nat} {sh : mm_S} {d : mm_D} {g : mm_G} {r : mm_R} {s t : Nat} (hsh : shp sh) (hne : s ≠ t) (hs : so sh s 20) (hsm : (sh.2.2.2 s).2 = 3) (ht : so sh t 20) (htm : (sh.2.2.2 t).2 = 3) : wp xs ext (n + 0) 53 0 [some (.ref s), some (.ref t), none] [] (sh, d, g, r) (fun v μ => v = none ∧ μ = (sh, up3 d t (d s 0) (d s 1) (d s 2), g, r)) := by
  refine wp_iconst (v := 0) (by decide) q53_ok d53_0 ?_
  refine wp_istore_n (j := 2) (Nat.le_of_ble_eq_true rfl) (rfl : _ = [_, _, _]) q53_ok d53_1 ?_
  refine wp_aload_n (j := 1) rfl q53_ok d53_2 ?_
  refine wp_ifnull q53_ok d53_3 ?_
  refine wp_iload_n (j := 2) rfl q53_ok d53_6 ?_
  refine wp_aload_n (j := 0) rfl q53_ok d53_7 ?_
  refine wp_alen q53_ok d53_8 hs.1 (by rw [hs.2]; decide) hsm rfl ?_ (shK hsh)
  refine wp_icmp_ge q53_ok d53_9 (t := 30) rfl (fun h9 => ?_) (fun h9 => ?_)
  · exact absurd h9 (by decide)
  · refine wp_iload_n (j := 2) rfl q53_ok d53_12 ?_
    refine wp_aload_n (j := 1) rfl q53_ok d53_13 ?_
    refine wp_alen q53_ok d53_14 ht.1 (by rw [ht.2]; decide) htm rfl ?_ (shK hsh)
    refine wp_icmp_ge q53_ok d53_15 (t := 30) rfl (fun h15 => ?_) (fun h15 => ?_)
    · exact absurd h15 (by decide)
    · refine wp_aload_n (j := 1) rfl q53_ok d53_18 ?_
      refine wp_iload_n (j := 2) rfl q53_ok d53_19 ?_
      refine wp_aload_n (j := 0) rfl q53_ok d53_20 ?_
      refine wp_iload_n (j := 2) rfl q53_ok d53_21 ?_
      refine wp_iald q53_ok d53_22 hs hsm ⟨rfl, by decide, by decide⟩ rfl ?_ (shK hsh)
      refine wp_iast q53_ok d53_23 ht htm ⟨rfl, by decide, by decide⟩ ?_
      refine wp_iinc (j := 2) rfl (by first | exact inc1 | rfl) (rfl : _ = [_, _, _]) q53_ok d53_24 ?_
      refine wp_goto (t := 2) rfl q53_ok d53_27 ?_
      refine wp_aload_n (j := 1) rfl q53_ok d53_2 ?_
      refine wp_ifnull q53_ok d53_3 ?_
      refine wp_iload_n (j := 2) rfl q53_ok d53_6 ?_
      refine wp_aload_n (j := 0) rfl q53_ok d53_7 ?_
      refine wp_alen q53_ok d53_8 hs.1 (by rw [hs.2]; decide) hsm rfl ?_ (shK hsh)
      refine wp_icmp_ge q53_ok d53_9 (t := 30) rfl (fun h9 => ?_) (fun h9 => ?_)
      · exact absurd h9 (by decide)
      · refine wp_iload_n (j := 2) rfl q53_ok d53_12 ?_
        refine wp_aload_n (j := 1) rfl q53_ok d53_13 ?_
        refine wp_alen q53_ok d53_14 ht.1 (by rw [ht.2]; decide) htm rfl ?_ (shK hsh)
        refine wp_icmp_ge q53_ok d53_15 (t := 30) rfl (fun h15 => ?_) (fun h15 => ?_)
        · exact absurd h15 (by decide)
        · refine wp_aload_n (j := 1) rfl q53_ok d53_18 ?_
          refine wp_iload_n (j := 2) rfl q53_ok d53_19 ?_
          refine wp_aload_n (j := 0) rfl q53_ok d53_20 ?_
          refine wp_iload_n (j := 2) rfl q53_ok d53_21 ?_
          refine wp_iald q53_ok d53_22 hs hsm ⟨rfl, by decide, by decide⟩ (congrFun ((mm_up_ne hne)) _) ?_ (shK hsh)
          refine wp_iast q53_ok d53_23 ht htm ⟨rfl, by decide, by decide⟩ ?_
          refine wp_iinc (j := 2) rfl (by first | exact inc1 | rfl) (rfl : _ = [_, _, _]) q53_ok d53_24 ?_
          refine wp_goto (t := 2) rfl q53_ok d53_27 ?_
          refine wp_aload_n (j := 1) rfl q53_ok d53_2 ?_
          refine wp_ifnull q53_ok d53_3 ?_
          refine wp_iload_n (j := 2) rfl q53_ok d53_6 ?_
          refine wp_aload_n (j := 0) rfl q53_ok d53_7 ?_
          refine wp_alen q53_ok d53_8 hs.1 (by rw [hs.2]; decide) hsm rfl ?_ (shK hsh)
          refine wp_icmp_ge q53_ok d53_9 (t := 30) rfl (fun h9 => ?_) (fun h9 => ?_)
          · exact absurd h9 (by decide)
          · refine wp_iload_n (j := 2) rfl q53_ok d53_12 ?_
            refine wp_aload_n (j := 1) rfl q53_ok d53_13 ?_
            refine wp_alen q53_ok d53_14 ht.1 (by rw [ht.2]; decide) htm rfl ?_ (shK hsh)
            refine wp_icmp_ge q53_ok d53_15 (t := 30) rfl (fun h15 => ?_) (fun h15 => ?_)
            · exact absurd h15 (by decide)
            · refine wp_aload_n (j := 1) rfl q53_ok d53_18 ?_
              refine wp_iload_n (j := 2) rfl q53_ok d53_19 ?_
              refine wp_aload_n (j := 0) rfl q53_ok d53_20 ?_
              refine wp_iload_n (j := 2) rfl q53_ok d53_21 ?_
              refine wp_iald q53_ok d53_22 hs hsm ⟨rfl, by decide, by decide⟩ (congrFun ((mm_up_ne hne).trans ((mm_up_ne hne))) _) ?_ (shK hsh)
              refine wp_iast q53_ok d53_23 ht htm ⟨rfl, by decide, by decide⟩ ?_
              refine wp_iinc (j := 2) rfl (by first | exact inc1 | rfl) (rfl : _ = [_, _, _]) q53_ok d53_24 ?_
              refine wp_goto (t := 2) rfl q53_ok d53_27 ?_
              refine wp_aload_n (j := 1) rfl q53_ok d53_2 ?_
              refine wp_ifnull q53_ok d53_3 ?_
              refine wp_iload_n (j := 2) rfl q53_ok d53_6 ?_
              refine wp_aload_n (j := 0) rfl q53_ok d53_7 ?_
              refine wp_alen q53_ok d53_8 hs.1 (by rw [hs.2]; decide) hsm rfl ?_ (shK hsh)
              refine wp_icmp_ge q53_ok d53_9 (t := 30) rfl (fun h9 => ?_) (fun h9 => ?_)
              · refine wp_vret q53_ok d53_30 rfl ?_
                exact ⟨rfl, rfl⟩
              · exact absurd (by decide) h9
/-- so much of the town W stands in the town's own cells -/
def cpR (d d1 : mm_D) (W : wo_W) (k b : Nat) (f : Int32) : Prop := d1 4 5 = nI k ∧ d1 4 6 = nI b ∧ d1 4 7 = f ∧ (∀ p, p < k → ∀ j, j < 4 → d1 (6 + p) j = wper W p j) ∧ (∀ p, p < b → ∀ j, j < 3 → d1 (14 + p) j = wbel W p j) ∧ ∀ a, ¬ (4 ≤ a ∧ a < 17) → d1 a = d a
theorem c_copy3 {xs : List Int32} {ext : mm_X} {n : Nat} {sh : mm_S} {d : mm_D} {g : mm_G} {r : mm_R} (hsh : shp sh) (hr : rfx r) {W : wo_W} (hT : rpT d 18 W) {d1 : mm_D} (u : Int32) (h : cpR d d1 W (wnp W) (wnb W) 0) : wp xs ext (n + 2) 52 73 [some (.ref 4), some (.ref 18), some (.int u)] [] (sh, d1, g, r) (fun v μ => v = none ∧ ∃ d2, μ = (sh, d2, g, r) ∧ cpR d d2 W (wnp W) (wnb W) (if wfg W = true then 1 else 0) ∧ (wfg W = true → ∀ j, j < 4 → d2 16 j = wvl W j)) := by
  obtain ⟨a1, a2, a3, a4, a5, a6⟩ := h
  have e18 : d1 18 7 = (if wfg W = true then 1 else 0) := by rw [a6 18 (by omega)]; exact hT.2.2.2.2.2.2.1
  refine wp_aload_n (j := 1) rfl q52_ok d52_73 ?_
  refine wp_getZ q52_ok d52_74 fl_7_39 rfl (by first | assumption | exact so0 hsh rfl) e18 ?_
  refine wp_if_eq q52_ok d52_77 (t := 91) rfl (fun h77 => ?_) (fun h77 => ?_)
  · have hf : ¬ wfg W = true := fun q => by rw [if_pos q] at h77; exact absurd h77 (by decide)
    rw [if_neg hf]
    refine wp_vret q52_ok d52_91 rfl ?_
    exact ⟨rfl, d1, rfl, ⟨a1, a2, a3, a4, a5, a6⟩, fun q => absurd q hf⟩
  · have hf : wfg W = true := Classical.byContradiction (fun q => h77 (if_neg q))
    refine wp_aload_n (j := 1) rfl q52_ok d52_80 ?_
    refine wp_getR q52_ok d52_81 fl_7_25 rfl (by first | assumption | exact so0 hsh rfl) (by first | assumption | exact hr _ _ _ rfl) ?_
    refine wp_aload_n (j := 0) rfl q52_ok d52_84 ?_
    refine wp_cV q52_ok d52_85 ml_7_57 rfl q56_ok (u := 7) rfl (by first | assumption | exact so0 hsh rfl) rfl (Nat.le_of_ble_eq_true rfl) (Nat.le_of_ble_eq_true rfl) (c_addFog4 (n := n) hsh hr a3) (fun v85 μ85 hc => ?_)
    obtain ⟨t1, t2⟩ := hc
    refine ⟨(Decidable.byCases (fun q => by rw [(t1 q).2]; exact mm_le_same rfl) (fun q => by rw [(t2 q).2]; exact mm_le_same rfl)), ?_⟩
    obtain ⟨rfl, rfl⟩ := t1 rfl
    rw [if_pos hf]
    refine wp_cS q52_ok d52_88 ml_7_50 rfl q53_ok rfl rfl rfl (Nat.le_of_ble_eq_true rfl) (Nat.le_of_ble_eq_true rfl) (c_copyRow4 (s := 30) (t := 16) hsh (by decide) (so0 hsh rfl) (shl hsh (Nat.le_of_ble_eq_true rfl) rfl) (so0 hsh rfl) (shl hsh (Nat.le_of_ble_eq_true rfl) rfl)) (fun v88 μ88 hc => ?_)
    obtain ⟨rfl, rfl⟩ := hc
    refine ⟨mm_le_same rfl, ?_⟩
    refine wp_vret q52_ok d52_91 rfl ?_
    have e30 : up4 (mm_up d1 4 7 1) 16 0 10 60 0 30 = d 30 := by rw [up4_ne (by decide), mm_up_ne (by decide)]; exact a6 30 (by omega)
    have ev := hT.2.2.2.2.2.2.2 hf
    have er : ∀ a, a ≠ 4 → a ≠ 16 → up4 (up4 (mm_up d1 4 7 1) 16 0 10 60 0) 16 (up4 (mm_up d1 4 7 1) 16 0 10 60 0 30 0) (up4 (mm_up d1 4 7 1) 16 0 10 60 0 30 1) (up4 (mm_up d1 4 7 1) 16 0 10 60 0 30 2) (up4 (mm_up d1 4 7 1) 16 0 10 60 0 30 3) a = d1 a := fun a h1 h2 => by rw [up4_ne h2, up4_ne h2, mm_up_ne h1]
    refine ⟨rfl, _, rfl, ⟨?_, ?_, ?_, fun p hp => ?_, fun p hp => ?_, fun a ha => ?_⟩, fun _ j hj => ?_⟩
    · rw [up4_ne (by decide), up4_ne (by decide), mm_up_at, if_neg (by decide)]; exact a1
    · rw [up4_ne (by decide), up4_ne (by decide), mm_up_at, if_neg (by decide)]; exact a2
    · rw [up4_ne (by decide), up4_ne (by decide), mm_up_at, if_pos rfl]
    · have := hT.2.1
      rw [er _ (by omega) (by omega)]; exact a4 p hp
    · have := hT.2.2.2.1
      rw [er _ (by omega) (by omega)]; exact a5 p hp
    · rw [er _ (by omega) (by omega)]; exact a6 a ha
    · rw [up4_at hj, e30]
      have := ev j hj
      have h4 : j = 0 ∨ j = 1 ∨ j = 2 ∨ j = 3 := by omega
      rcases h4 with rfl | rfl | rfl | rfl <;> exact this
theorem c_copy2 {xs : List Int32} {ext : mm_X} {n : Nat} {sh : mm_S} {d : mm_D} {g : mm_G} {r : mm_R} (hsh : shp sh) (hr : rfx r) {W : wo_W} (hT : rpT d 18 W) : ∀ (z k : Nat) (d1 : mm_D), z + k = wnb W → cpR d d1 W (wnp W) k 0 → wp xs ext (n + 2) 52 41 [some (.ref 4), some (.ref 18), some (.int (nI k))] [] (sh, d1, g, r) (fun v μ => v = none ∧ ∃ d2, μ = (sh, d2, g, r) ∧ cpR d d2 W (wnp W) (wnb W) (if wfg W = true then 1 else 0) ∧ (wfg W = true → ∀ j, j < 4 → d2 16 j = wvl W j)) := by
  have hmx : wnb W ≤ 2 := hT.2.2.2.1
  intro z
  induction z with
  | zero =>
    intro k d1 hm h
    have hvb : k = wnb W := by omega
    subst hvb
    have e18 : d1 18 6 = nI (wnb W) := by rw [h.2.2.2.2.2 18 (by omega)]; exact hT.2.2.1
    refine wp_iload_n (j := 2) rfl q52_ok d52_41 ?_
    refine wp_aload_n (j := 1) rfl q52_ok d52_42 ?_
    refine wp_getI q52_ok d52_43 fl_7_36 rfl (by first | assumption | exact so0 hsh rfl) e18 ?_
    refine wp_icmp_ge q52_ok d52_46 (t := 73) rfl (fun h46 => ?_) (fun h46 => ?_)
    · exact c_copy3 hsh hr hT _ h
    · exact absurd (nI_le (Nat.le_refl _) (by omega)) h46
  | succ z ih =>
    intro k d1 hm h
    have hlt : k < wnb W := by omega
    have hk2 : k < 2 := by omega
    have e18 : d1 18 6 = nI (wnb W) := by rw [h.2.2.2.2.2 18 (by omega)]; exact hT.2.2.1
    obtain ⟨a1, a2, a3, a4, a5, a6⟩ := h
    refine wp_iload_n (j := 2) rfl q52_ok d52_41 ?_
    refine wp_aload_n (j := 1) rfl q52_ok d52_42 ?_
    refine wp_getI q52_ok d52_43 fl_7_36 rfl (by first | assumption | exact so0 hsh rfl) e18 ?_
    refine wp_icmp_ge q52_ok d52_46 (t := 73) rfl (fun h46 => ?_) (fun h46 => ?_)
    · exact absurd h46 (nI_ge hlt (by omega))
    · refine wp_iload_n (j := 2) rfl q52_ok d52_49 ?_
      refine wp_iconst (v := 2) (by decide) q52_ok d52_50 ?_
      refine wp_icmp_ge q52_ok d52_51 (t := 73) rfl (fun h51 => ?_) (fun h51 => ?_)
      · exact absurd h51 (nI_ge hk2 (by decide))
      · refine wp_aload_n (j := 1) rfl q52_ok d52_54 ?_
        refine wp_getR q52_ok d52_55 fl_7_22 rfl (by first | assumption | exact so0 hsh rfl) (by first | assumption | exact hr _ _ _ rfl) ?_
        refine wp_iload_n (j := 2) rfl q52_ok d52_58 ?_
        refine wp_aald (m := 2) q52_ok d52_59 (t := 25) (by decide) (by first | assumption | exact so0 hsh rfl) (by first | assumption | exact shl hsh (Nat.le_of_ble_eq_true rfl) rfl) (ixn_nI hk2) (r27 hr hk2) ?_
        refine wp_aload_n (j := 0) rfl q52_ok d52_60 ?_
        refine wp_cV q52_ok d52_61 ml_7_54 rfl q55_ok (u := 7) rfl (by first | assumption | exact so0 hsh rfl) rfl (Nat.le_of_ble_eq_true rfl) (Nat.le_of_ble_eq_true rfl) (c_addBell4 (n := n) hsh hr a2 (by omega)) (fun v61 μ61 hc => ?_)
        obtain ⟨t1, t2⟩ := hc
        refine ⟨(Decidable.byCases (fun q => by rw [(t1 q).2]; exact mm_le_same rfl) (fun q => by rw [(t2 q).2]; exact mm_le_same rfl)), ?_⟩
        obtain ⟨rfl, rfl⟩ := t1 hk2
        refine wp_cS q52_ok d52_64 ml_7_50 rfl q53_ok rfl rfl rfl (Nat.le_of_ble_eq_true rfl) (Nat.le_of_ble_eq_true rfl) (c_copyRow3 (s := 28 + k) (t := 14 + k) hsh (by omega) (s28 hsh hk2).1 (s28 hsh hk2).2 (s14 hsh hk2).1 (s14 hsh hk2).2) (fun v64 μ64 hc => ?_)
        obtain ⟨rfl, rfl⟩ := hc
        refine ⟨mm_le_same rfl, ?_⟩
        refine wp_iinc (j := 2) rfl (by first | exact inc1 | rfl) (rfl : _ = [_, _, _]) q52_ok d52_67 ?_
        refine wp_goto (t := 41) rfl q52_ok d52_70 ?_
        have eS : ∀ j, (up3 (mm_up d1 4 6 (nI (k + 1))) (14 + k) 20 0 9) (28 + k) j = d (28 + k) j := fun j => by rw [up3_ne (by omega), mm_up_ne (by omega), a6 _ (by omega)]
        have er : ∀ a, a ≠ 4 → a ≠ 14 + k → up3 (up3 (mm_up d1 4 6 (nI (k + 1))) (14 + k) 20 0 9) (14 + k) ((up3 (mm_up d1 4 6 (nI (k + 1))) (14 + k) 20 0 9) (28 + k) 0) ((up3 (mm_up d1 4 6 (nI (k + 1))) (14 + k) 20 0 9) (28 + k) 1) ((up3 (mm_up d1 4 6 (nI (k + 1))) (14 + k) 20 0 9) (28 + k) 2) a = d1 a := fun a h1 h2 => by rw [up3_ne h2, up3_ne h2, mm_up_ne h1]
        have e4 : ∀ j, up3 (up3 (mm_up d1 4 6 (nI (k + 1))) (14 + k) 20 0 9) (14 + k) ((up3 (mm_up d1 4 6 (nI (k + 1))) (14 + k) 20 0 9) (28 + k) 0) ((up3 (mm_up d1 4 6 (nI (k + 1))) (14 + k) 20 0 9) (28 + k) 1) ((up3 (mm_up d1 4 6 (nI (k + 1))) (14 + k) 20 0 9) (28 + k) 2) 4 j = if j = 6 then nI (k + 1) else d1 4 j := fun j => by rw [up3_ne (by omega), up3_ne (by omega), mm_up_at]
        refine ih (k + 1) _ (by omega) ⟨?_, ?_, ?_, fun p hp j hj => ?_, fun p hp j hj => ?_, fun a ha => ?_⟩
        · rw [e4, if_neg (by decide)]; exact a1
        · rw [e4, if_pos rfl]
        · rw [e4, if_neg (by decide)]; exact a3
        · exact (by have := hT.2.1; rw [er _ (by omega) (by omega)]; exact a4 p hp j hj)
        · exact Decidable.byCases (fun q : p = k => by rw [q, up3_at hj, eS, eS, eS]; have := hT.2.2.2.2.2.1 k hlt j hj; have h4 : j = 0 ∨ j = 1 ∨ j = 2 := (by omega); rcases h4 with rfl | rfl | rfl <;> exact this) (fun q => by rw [er _ (by omega) (by omega)]; exact a5 p (by omega) j hj)
        · rw [er a (by omega) (by omega)]; exact a6 a ha
theorem c_copy1 {xs : List Int32} {ext : mm_X} {n : Nat} {sh : mm_S} {d : mm_D} {g : mm_G} {r : mm_R} (hsh : shp sh) (hr : rfx r) {W : wo_W} (hT : rpT d 18 W) : ∀ (z k : Nat) (d1 : mm_D), z + k = wnp W → cpR d d1 W k 0 0 → wp xs ext (n + 2) 52 6 [some (.ref 4), some (.ref 18), some (.int (nI k))] [] (sh, d1, g, r) (fun v μ => v = none ∧ ∃ d2, μ = (sh, d2, g, r) ∧ cpR d d2 W (wnp W) (wnb W) (if wfg W = true then 1 else 0) ∧ (wfg W = true → ∀ j, j < 4 → d2 16 j = wvl W j)) := by
  have hmx : wnp W ≤ 6 := hT.2.1
  intro z
  induction z with
  | zero =>
    intro k d1 hm h
    have hvb : k = wnp W := by omega
    subst hvb
    have e18 : d1 18 5 = nI (wnp W) := by rw [h.2.2.2.2.2 18 (by omega)]; exact hT.1
    refine wp_iload_n (j := 2) rfl q52_ok d52_6 ?_
    refine wp_aload_n (j := 1) rfl q52_ok d52_7 ?_
    refine wp_getI q52_ok d52_8 fl_7_32 rfl (by first | assumption | exact so0 hsh rfl) e18 ?_
    refine wp_icmp_ge q52_ok d52_11 (t := 39) rfl (fun h11 => ?_) (fun h11 => ?_)
    · refine wp_iconst (v := 0) (by decide) q52_ok d52_39 ?_
      refine wp_istore_n (j := 2) (Nat.le_of_ble_eq_true rfl) (rfl : _ = [_, _, _]) q52_ok d52_40 ?_
      exact c_copy2 hsh hr hT (wnb W) 0 d1 (by omega) h
    · exact absurd (nI_le (Nat.le_refl _) (by omega)) h11
  | succ z ih =>
    intro k d1 hm h
    have hlt : k < wnp W := by omega
    have hk6 : k < 6 := by omega
    have e18 : d1 18 5 = nI (wnp W) := by rw [h.2.2.2.2.2 18 (by omega)]; exact hT.1
    obtain ⟨a1, a2, a3, a4, a5, a6⟩ := h
    refine wp_iload_n (j := 2) rfl q52_ok d52_6 ?_
    refine wp_aload_n (j := 1) rfl q52_ok d52_7 ?_
    refine wp_getI q52_ok d52_8 fl_7_32 rfl (by first | assumption | exact so0 hsh rfl) e18 ?_
    refine wp_icmp_ge q52_ok d52_11 (t := 39) rfl (fun h11 => ?_) (fun h11 => ?_)
    · exact absurd h11 (nI_ge hlt (by omega))
    · refine wp_iload_n (j := 2) rfl q52_ok d52_14 ?_
      refine wp_bipush (v := 6) (by decide) q52_ok d52_15 ?_
      refine wp_icmp_ge q52_ok d52_17 (t := 39) rfl (fun h17 => ?_) (fun h17 => ?_)
      · exact absurd h17 (nI_ge hk6 (by decide))
      · refine wp_aload_n (j := 1) rfl q52_ok d52_20 ?_
        refine wp_getR q52_ok d52_21 fl_7_11 rfl (by first | assumption | exact so0 hsh rfl) (by first | assumption | exact hr _ _ _ rfl) ?_
        refine wp_iload_n (j := 2) rfl q52_ok d52_24 ?_
        refine wp_aald (m := 6) q52_ok d52_25 (t := 25) (by decide) (by first | assumption | exact so0 hsh rfl) (by first | assumption | exact shl hsh (Nat.le_of_ble_eq_true rfl) rfl) (ixn_nI hk6) (r19 hr hk6) ?_
        refine wp_aload_n (j := 0) rfl q52_ok d52_26 ?_
        refine wp_cV q52_ok d52_27 ml_7_46 rfl q54_ok (u := 7) rfl (by first | assumption | exact so0 hsh rfl) rfl (Nat.le_of_ble_eq_true rfl) (Nat.le_of_ble_eq_true rfl) (c_addPerson4 (n := n) hsh hr a1 (by omega)) (fun v27 μ27 hc => ?_)
        obtain ⟨t1, t2⟩ := hc
        refine ⟨(Decidable.byCases (fun q => by rw [(t1 q).2]; exact mm_le_same rfl) (fun q => by rw [(t2 q).2]; exact mm_le_same rfl)), ?_⟩
        obtain ⟨rfl, rfl⟩ := t1 hk6
        refine wp_cS q52_ok d52_30 ml_7_50 rfl q53_ok rfl rfl rfl (Nat.le_of_ble_eq_true rfl) (Nat.le_of_ble_eq_true rfl) (c_copyRow4 (s := 20 + k) (t := 6 + k) hsh (by omega) (s20 hsh hk6).1 (s20 hsh hk6).2 (s6 hsh hk6).1 (s6 hsh hk6).2) (fun v30 μ30 hc => ?_)
        obtain ⟨rfl, rfl⟩ := hc
        refine ⟨mm_le_same rfl, ?_⟩
        refine wp_iinc (j := 2) rfl (by first | exact inc1 | rfl) (rfl : _ = [_, _, _]) q52_ok d52_33 ?_
        refine wp_goto (t := 6) rfl q52_ok d52_36 ?_
        have eS : ∀ j, (up4 (mm_up d1 4 5 (nI (k + 1))) (6 + k) 0 5 20 1) (20 + k) j = d (20 + k) j := fun j => by rw [up4_ne (by omega), mm_up_ne (by omega), a6 _ (by omega)]
        have er : ∀ a, a ≠ 4 → a ≠ 6 + k → up4 (up4 (mm_up d1 4 5 (nI (k + 1))) (6 + k) 0 5 20 1) (6 + k) ((up4 (mm_up d1 4 5 (nI (k + 1))) (6 + k) 0 5 20 1) (20 + k) 0) ((up4 (mm_up d1 4 5 (nI (k + 1))) (6 + k) 0 5 20 1) (20 + k) 1) ((up4 (mm_up d1 4 5 (nI (k + 1))) (6 + k) 0 5 20 1) (20 + k) 2) ((up4 (mm_up d1 4 5 (nI (k + 1))) (6 + k) 0 5 20 1) (20 + k) 3) a = d1 a := fun a h1 h2 => by rw [up4_ne h2, up4_ne h2, mm_up_ne h1]
        have e4 : ∀ j, up4 (up4 (mm_up d1 4 5 (nI (k + 1))) (6 + k) 0 5 20 1) (6 + k) ((up4 (mm_up d1 4 5 (nI (k + 1))) (6 + k) 0 5 20 1) (20 + k) 0) ((up4 (mm_up d1 4 5 (nI (k + 1))) (6 + k) 0 5 20 1) (20 + k) 1) ((up4 (mm_up d1 4 5 (nI (k + 1))) (6 + k) 0 5 20 1) (20 + k) 2) ((up4 (mm_up d1 4 5 (nI (k + 1))) (6 + k) 0 5 20 1) (20 + k) 3) 4 j = if j = 5 then nI (k + 1) else d1 4 j := fun j => by rw [up4_ne (by omega), up4_ne (by omega), mm_up_at]
        refine ih (k + 1) _ (by omega) ⟨?_, ?_, ?_, fun p hp j hj => ?_, fun p hp j hj => ?_, fun a ha => ?_⟩
        · rw [e4, if_pos rfl]
        · rw [e4, if_neg (by decide)]; exact a2
        · rw [e4, if_neg (by decide)]; exact a3
        · exact Decidable.byCases (fun q : p = k => by rw [q, up4_at hj, eS, eS, eS, eS]; have := hT.2.2.2.2.1 k hlt j hj; have h4 : j = 0 ∨ j = 1 ∨ j = 2 ∨ j = 3 := (by omega); rcases h4 with rfl | rfl | rfl | rfl <;> exact this) (fun q => by rw [er _ (by omega) (by omega)]; exact a4 p (by omega) j hj)
        · exact absurd hp (Nat.not_lt_zero _)
        · rw [er a (by omega) (by omega)]; exact a6 a ha
theorem c_tcopy4 {xs : List Int32} {ext : mm_X} {n : Nat} {sh : mm_S} {d : mm_D} {g : mm_G} {r : mm_R} (hsh : shp sh) (hr : rfx r) {W : wo_W} (hT : rpT d 18 W) : wp xs ext (n + 2) 52 0 [some (.ref 4), some (.ref 18), none] [] (sh, d, g, r) (fun v μ => v = none ∧ ∃ d2 r2, μ = (sh, d2, g, r2) ∧ rfx r2 ∧ (∀ c, c ≠ 12 → r2 c = r c) ∧ (∀ i, i < 6 → r2 12 i = none) ∧ cpR d d2 W (wnp W) (wnb W) (if wfg W = true then 1 else 0) ∧ (wfg W = true → ∀ j, j < 4 → d2 16 j = wvl W j)) := by
  refine wp_aload_n (j := 0) rfl q52_ok d52_0 ?_
  refine wp_cV q52_ok d52_1 ml_7_43 rfl q51_ok (u := 7) rfl (by first | assumption | exact so0 hsh rfl) rfl (Nat.le_of_ble_eq_true rfl) (Nat.le_of_ble_eq_true rfl) (c_clear4 hsh hr) (fun v1 μ1 hc => ?_)
  obtain ⟨rfl, r2, rfl, hr2, e12, n12, _⟩ := hc
  refine ⟨mm_le_same rfl, ?_⟩
  refine wp_iconst (v := 0) (by decide) q52_ok d52_4 ?_
  refine wp_istore_n (j := 2) (Nat.le_of_ble_eq_true rfl) (rfl : _ = [_, _, _]) q52_ok d52_5 ?_
  have hd : ∀ a, a ≠ 4 → mm_up (mm_up (mm_up d 4 5 0) 4 6 0) 4 7 0 a = d a := fun a h => by rw [mm_up_ne h, mm_up_ne h, mm_up_ne h]
  have hT' : rpT (mm_up (mm_up (mm_up d 4 5 0) 4 6 0) 4 7 0) 18 W := by
    obtain ⟨a1, a2, a3, a4, a5, a6, a7, a8⟩ := hT
    unfold rpT
    rw [hd 18 (by decide), hd (18 + 12) (by decide)]
    exact ⟨a1, a2, a3, a4, fun p hp j hj => by rw [hd _ (by omega)]; exact a5 p hp j hj, fun b hb j hj => by rw [hd _ (by omega)]; exact a6 b hb j hj, a7, a8⟩
  refine wp_post (c_copy1 hsh hr2 hT' (wnp W) 0 _ (by omega) ⟨?_, ?_, (mm_up_at 7).trans (if_pos rfl), fun p hp => absurd hp (Nat.not_lt_zero _), fun p hp => absurd hp (Nat.not_lt_zero _), fun _ _ => rfl⟩) (fun v μ hc => ?_)
  · rw [mm_up_at, if_neg (by decide), mm_up_at, if_neg (by decide), mm_up_at, if_pos rfl]
    rfl
  · rw [mm_up_at, if_neg (by decide), mm_up_at, if_pos rfl]
    rfl
  · obtain ⟨rfl, d2, rfl, ⟨b1, b2, b3, b4, b5, b6⟩, k2⟩ := hc
    exact ⟨rfl, d2, r2, rfl, hr2, e12, n12, ⟨b1, b2, b3, b4, b5, fun a ha => (b6 a ha).trans (hd a (by omega))⟩, k2⟩
