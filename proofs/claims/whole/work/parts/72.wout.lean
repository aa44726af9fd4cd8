/-! ===== the model works clauses out ===== -/
theorem mm_up_row {d : mm_D} {c k : Nat} {v : Int32} : mm_up d c k v c = rup (d c) k v := funext (fun i => mm_up_at i)
theorem nI_340 (n f : Nat) : (340 : Int32) * nI n + nI f = nI (340 * n + f) := by
  show Int32.ofNat 340 * Int32.ofNat n + Int32.ofNat f = Int32.ofNat _
  rw [Int32.ofNat_add, Int32.ofNat_mul]
/-- only the stack of the model -/
def kf (d d2 : mm_D) : Prop := ∀ c, c ≠ 260 → d2 c = d c
theorem seg_kf {d d2 : mm_D} (h : kf d d2) : ∀ {cs : List Int32} {a : Nat}, segM d a cs → segM d2 a cs
  | [], _, _ => trivial
  | c :: cs, a, hs => by
    refine ⟨?_, seg_kf h hs.2⟩
    have h1 := hs.1
    unfold tokR at h1 ⊢
    rw [h 252 (by decide), h 253 (by decide)]
    exact h1
theorem opM_ne {c : Int32} (h : isTru c ∨ isNum c) : ¬ opM c = 0 ∧ ¬ opM c = 1 ∧ ¬ opM c = 9 := by
  rcases h with h | h
  · rcases h with rfl | rfl | rfl | rfl | rfl <;> decide
  · rcases h with rfl | rfl | rfl | rfl <;> decide
theorem m_wo_l {xs : List Int32} {ext : mm_X} {n : Nat} {sh : mm_S} {d : mm_D} {g : mm_G} {r : mm_R} (hsh : shp sh) (hr : rfx r) {w f e : Nat} {b : Bool} (hw : w < 5) (he : e ≤ 340) : ∀ (cs : List Int32) (k : Nat) (t : List Bool) (st : List Int32) (d1 : mm_D), tyC cs t = some [b] → tyV st t → t.length ≤ 32 → segM d k cs → repY (d1 260) st → kf d d1 → k + cs.length = 340 * w + e → wp xs ext (n + 3) 164 12 [some (.ref 250), some (.int (nI w)), some (.int (nI f)), some (.int (nI e)), some (.int (nI t.length)), some (.int (nI k))] [] (sh, d1, g, r) (fun v μ => v = some (.int ((evC (d 259) cs st).headD 0)) ∧ ∃ d2, μ = (sh, d2, g, r) ∧ kf d d2) := by
  intro cs
  induction cs with
  | nil =>
    intro k t st d1 ht hv h32t hs hy hf hk
    have hke : k = 340 * w + e := by simpa using hk
    subst hke
    cases ht
    have h0 := one_head (tyV_len hv) hy
    refine wp_iload (j := 5) rfl q164_ok d164_12 ?_
    refine wp_sipush (v := 340) (by decide) q164_ok d164_14 ?_
    refine wp_iload_n (j := 1) rfl q164_ok d164_17 ?_
    refine wp_imul rfl q164_ok d164_18 ?_
    refine wp_iload_n (j := 3) rfl q164_ok d164_19 ?_
    refine wp_iadd (nI_340 w e) q164_ok d164_20 ?_
    refine wp_icmp_ge q164_ok d164_21 (t := 171) rfl (fun h21 => ?_) (fun h21 => ?_)
    · refine wp_aload_n (j := 0) rfl q164_ok d164_171 ?_
      refine wp_getR q164_ok d164_172 fl_11_37 rfl (by first | assumption | exact so0 hsh rfl) (by first | assumption | exact hr _ _ _ rfl) ?_
      refine wp_iconst (v := 0) (by decide) q164_ok d164_175 ?_
      refine wp_iald (m := 80) q164_ok d164_176 (by first | assumption | exact so0 hsh rfl) (by first | assumption | exact shl hsh (Nat.le_of_ble_eq_true rfl) rfl) (ixn_nI (j := 0) (Nat.le_of_ble_eq_true rfl)) h0 ?_ (shK hsh)
      refine wp_iret q164_ok d164_177 rfl ?_
      exact ⟨rfl, d1, rfl, hf⟩
    · exact absurd (nI_le (Nat.le_refl _) (by omega)) h21
  | cons c cs ih =>
    intro k t st d1 ht hv h32t hs hy hf hk
    have hk2 : k + 1 + cs.length = 340 * w + e := by rw [List.length_cons] at hk; omega
    have hlt : k < 340 * w + e := by omega
    have hk17 : k < 1700 := by omega
    rw [tyC] at ht
    cases et : ty1 c t with
    | none => rw [et] at ht; cases ht
    | some t1 =>
      rw [et] at ht
      have hv1 := ev1_ty (L := d 259) et hv
      have hlv := tyV_len hv
      obtain ⟨⟨tk1, tk2, tk3⟩, hs2⟩ := hs
      have e252 : d1 252 = d 252 := hf _ (by decide)
      have e253 : d1 253 = d 253 := hf _ (by decide)
      have e259 : d1 259 = d 259 := hf _ (by decide)
      by_cases h0 : 0 ≤ c
      · obtain ⟨hcode, hval⟩ := tk1 h0
        have het : t.length < 32 ∧ t1 = false :: t := by
          unfold ty1 at et
          rw [if_pos (Or.inl h0)] at et
          split at et
          · cases et; exact ⟨by assumption, rfl⟩
          · cases et
        obtain ⟨h32, rfl⟩ := het
        refine wp_iload (j := 5) rfl q164_ok d164_12 ?_
        refine wp_sipush (v := 340) (by decide) q164_ok d164_14 ?_
        refine wp_iload_n (j := 1) rfl q164_ok d164_17 ?_
        refine wp_imul rfl q164_ok d164_18 ?_
        refine wp_iload_n (j := 3) rfl q164_ok d164_19 ?_
        refine wp_iadd (nI_340 w e) q164_ok d164_20 ?_
        refine wp_icmp_ge q164_ok d164_21 (t := 171) rfl (fun h21 => ?_) (fun h21 => ?_)
        · exact absurd h21 (nI_ge hlt (by omega))
        · refine wp_aload_n (j := 0) rfl q164_ok d164_24 ?_
          refine wp_getR q164_ok d164_25 fl_11_13 rfl (by first | assumption | exact so0 hsh rfl) (by first | assumption | exact hr _ _ _ rfl) ?_
          refine wp_iload (j := 5) rfl q164_ok d164_28 ?_
          refine wp_iald (m := 1700) q164_ok d164_30 (by first | assumption | exact so0 hsh rfl) (shl hsh (m := 1700) (Nat.le_of_ble_eq_true rfl) rfl) (ixn_nI hk17) (show d1 252 k = 0 from by rw [e252]; exact hcode) ?_ (shK hsh)
          refine wp_if_eq q164_ok d164_31 (t := 45) rfl (fun h31 => ?_) (fun h31 => ?_)
          · refine wp_aload_n (j := 0) rfl q164_ok d164_45 ?_
            refine wp_getR q164_ok d164_46 fl_11_37 rfl (by first | assumption | exact so0 hsh rfl) (by first | assumption | exact hr _ _ _ rfl) ?_
            refine wp_iload (j := 4) rfl q164_ok d164_49 ?_
            refine wp_aload_n (j := 0) rfl q164_ok d164_51 ?_
            refine wp_getR q164_ok d164_52 fl_11_13 rfl (by first | assumption | exact so0 hsh rfl) (by first | assumption | exact hr _ _ _ rfl) ?_
            refine wp_iload (j := 5) rfl q164_ok d164_55 ?_
            refine wp_iald (m := 1700) q164_ok d164_57 (by first | assumption | exact so0 hsh rfl) (shl hsh (m := 1700) (Nat.le_of_ble_eq_true rfl) rfl) (ixn_nI hk17) (show d1 252 k = 0 from by rw [e252]; exact hcode) ?_ (shK hsh)
            refine wp_if_ne q164_ok d164_58 (t := 71) rfl (fun h58 => ?_) (fun h58 => ?_)
            · exact absurd rfl h58
            · have h58 := Classical.not_not.mp h58
              refine wp_aload_n (j := 0) rfl q164_ok d164_61 ?_
              refine wp_getR q164_ok d164_62 fl_11_16 rfl (by first | assumption | exact so0 hsh rfl) (by first | assumption | exact hr _ _ _ rfl) ?_
              refine wp_iload (j := 5) rfl q164_ok d164_65 ?_
              refine wp_iald (m := 1700) q164_ok d164_67 (by first | assumption | exact so0 hsh rfl) (shl hsh (m := 1700) (Nat.le_of_ble_eq_true rfl) rfl) (ixn_nI hk17) (show d1 253 k = c from by rw [e253]; exact hval) ?_ (shK hsh)
              refine wp_goto (t := 83) rfl q164_ok d164_68 ?_
              refine wp_iast (m := 80) q164_ok d164_83 (by first | assumption | exact so0 hsh rfl) (shl hsh (m := 80) (Nat.le_of_ble_eq_true rfl) rfl) (ixn_nI (show t.length < 80 by omega)) ?_
              refine wp_iinc (j := 4) rfl (by first | exact inc1 | rfl) (rfl : _ = [_, _, _, _, _, _]) q164_ok d164_84 ?_
              refine wp_goto (t := 165) rfl q164_ok d164_87 ?_
              refine wp_iinc (j := 5) rfl (by first | exact inc1 | rfl) (rfl : _ = [_, _, _, _, _, _]) q164_ok d164_165 ?_
              refine wp_goto (t := 12) rfl q164_ok d164_168 ?_
              exact ih (k + 1) _ (ev1 (d 259) c st) (mm_up d1 260 t.length c) ht hv1 (show t.length + 1 ≤ 32 by omega) hs2 (by unfold ev1; rw [if_pos h0, mm_up_row]; refine ⟨?_, repY_up hy (by omega)⟩; unfold rup; rw [if_pos hlv]) (fun a ha => (mm_up_ne ha).trans (hf a ha)) hk2
          · exact absurd rfl h31
      · by_cases h1 : isLet c
        · obtain ⟨hcode, hval⟩ := tk2 h0 h1
          have het : t.length < 32 ∧ t1 = false :: t := by
            unfold ty1 at et
            rw [if_pos (Or.inr h1)] at et
            split at et
            · cases et; exact ⟨by assumption, rfl⟩
            · cases et
          obtain ⟨h32, rfl⟩ := het
          refine wp_iload (j := 5) rfl q164_ok d164_12 ?_
          refine wp_sipush (v := 340) (by decide) q164_ok d164_14 ?_
          refine wp_iload_n (j := 1) rfl q164_ok d164_17 ?_
          refine wp_imul rfl q164_ok d164_18 ?_
          refine wp_iload_n (j := 3) rfl q164_ok d164_19 ?_
          refine wp_iadd (nI_340 w e) q164_ok d164_20 ?_
          refine wp_icmp_ge q164_ok d164_21 (t := 171) rfl (fun h21 => ?_) (fun h21 => ?_)
          · exact absurd h21 (nI_ge hlt (by omega))
          · refine wp_aload_n (j := 0) rfl q164_ok d164_24 ?_
            refine wp_getR q164_ok d164_25 fl_11_13 rfl (by first | assumption | exact so0 hsh rfl) (by first | assumption | exact hr _ _ _ rfl) ?_
            refine wp_iload (j := 5) rfl q164_ok d164_28 ?_
            refine wp_iald (m := 1700) q164_ok d164_30 (by first | assumption | exact so0 hsh rfl) (shl hsh (m := 1700) (Nat.le_of_ble_eq_true rfl) rfl) (ixn_nI hk17) (show d1 252 k = 1 from by rw [e252]; exact hcode) ?_ (shK hsh)
            refine wp_if_eq q164_ok d164_31 (t := 45) rfl (fun h31 => ?_) (fun h31 => ?_)
            · exact absurd h31 (by decide)
            · refine wp_aload_n (j := 0) rfl q164_ok d164_34 ?_
              refine wp_getR q164_ok d164_35 fl_11_13 rfl (by first | assumption | exact so0 hsh rfl) (by first | assumption | exact hr _ _ _ rfl) ?_
              refine wp_iload (j := 5) rfl q164_ok d164_38 ?_
              refine wp_iald (m := 1700) q164_ok d164_40 (by first | assumption | exact so0 hsh rfl) (shl hsh (m := 1700) (Nat.le_of_ble_eq_true rfl) rfl) (ixn_nI hk17) (show d1 252 k = 1 from by rw [e252]; exact hcode) ?_ (shK hsh)
              refine wp_iconst (v := 1) (by decide) q164_ok d164_41 ?_
              refine wp_icmp_ne q164_ok d164_42 (t := 90) rfl (fun h42 => ?_) (fun h42 => ?_)
              · exact absurd rfl h42
              · have h42 := Classical.not_not.mp h42
                refine wp_aload_n (j := 0) rfl q164_ok d164_45 ?_
                refine wp_getR q164_ok d164_46 fl_11_37 rfl (by first | assumption | exact so0 hsh rfl) (by first | assumption | exact hr _ _ _ rfl) ?_
                refine wp_iload (j := 4) rfl q164_ok d164_49 ?_
                refine wp_aload_n (j := 0) rfl q164_ok d164_51 ?_
                refine wp_getR q164_ok d164_52 fl_11_13 rfl (by first | assumption | exact so0 hsh rfl) (by first | assumption | exact hr _ _ _ rfl) ?_
                refine wp_iload (j := 5) rfl q164_ok d164_55 ?_
                refine wp_iald (m := 1700) q164_ok d164_57 (by first | assumption | exact so0 hsh rfl) (shl hsh (m := 1700) (Nat.le_of_ble_eq_true rfl) rfl) (ixn_nI hk17) (show d1 252 k = 1 from by rw [e252]; exact hcode) ?_ (shK hsh)
                refine wp_if_ne q164_ok d164_58 (t := 71) rfl (fun h58 => ?_) (fun h58 => ?_)
                · refine wp_aload_n (j := 0) rfl q164_ok d164_71 ?_
                  refine wp_getR q164_ok d164_72 fl_11_34 rfl (by first | assumption | exact so0 hsh rfl) (by first | assumption | exact hr _ _ _ rfl) ?_
                  refine wp_aload_n (j := 0) rfl q164_ok d164_75 ?_
                  refine wp_getR q164_ok d164_76 fl_11_16 rfl (by first | assumption | exact so0 hsh rfl) (by first | assumption | exact hr _ _ _ rfl) ?_
                  refine wp_iload (j := 5) rfl q164_ok d164_79 ?_
                  refine wp_iald (m := 1700) q164_ok d164_81 (by first | assumption | exact so0 hsh rfl) (shl hsh (m := 1700) (Nat.le_of_ble_eq_true rfl) rfl) (ixn_nI hk17) (show d1 253 k = -2 - c from by rw [e253]; exact hval) ?_ (shK hsh)
                  refine wp_iald (m := 6) q164_ok d164_82 (by first | assumption | exact so0 hsh rfl) (shl hsh (m := 6) (Nat.le_of_ble_eq_true rfl) rfl) (ixn_of (fun q => h1 (Or.inl q)) (fun q => h1 (Or.inr q))) (congrFun e259 _) ?_ (shK hsh)
                  refine wp_iast (m := 80) q164_ok d164_83 (by first | assumption | exact so0 hsh rfl) (shl hsh (m := 80) (Nat.le_of_ble_eq_true rfl) rfl) (ixn_nI (show t.length < 80 by omega)) ?_
                  refine wp_iinc (j := 4) rfl (by first | exact inc1 | rfl) (rfl : _ = [_, _, _, _, _, _]) q164_ok d164_84 ?_
                  refine wp_goto (t := 165) rfl q164_ok d164_87 ?_
                  refine wp_iinc (j := 5) rfl (by first | exact inc1 | rfl) (rfl : _ = [_, _, _, _, _, _]) q164_ok d164_165 ?_
                  refine wp_goto (t := 12) rfl q164_ok d164_168 ?_
                  exact ih (k + 1) _ (ev1 (d 259) c st) (mm_up d1 260 t.length (d 259 (-2 - c).toNatClampNeg)) ht hv1 (show t.length + 1 ≤ 32 by omega) hs2 (by unfold ev1; rw [if_neg h0, if_pos h1, mm_up_row]; refine ⟨?_, repY_up hy (by omega)⟩; unfold rup; rw [if_pos hlv]) (fun a ha => (mm_up_ne ha).trans (hf a ha)) hk2
                · have h58 := Classical.not_not.mp h58
                  exact absurd h58 (by decide)
        · have hcode := tk3 h0 h1
          have e0 := et
          unfold ty1 at e0
          rw [if_neg (fun q => q.elim h0 h1)] at e0
          by_cases h2 : c = -14
          · rw [if_pos h2] at e0
            have hop : opM c = 9 := by rw [h2]; rfl
            rw [hop] at hcode
            obtain ⟨t0, rfl, rfl⟩ : ∃ t0, t = true :: t0 ∧ t1 = true :: t0 := by
              cases t with
              | nil => cases e0
              | cons b t =>
                cases b with
                | false => cases e0
                | true => cases e0; exact ⟨t, rfl, rfl⟩
            obtain ⟨x, s0, rfl⟩ : ∃ x s0, st = x :: s0 := by
              cases st with
              | nil => exact hv.elim
              | cons x s0 => exact ⟨x, s0, rfl⟩
            have hl0 : s0.length = t0.length := tyV_len hv.2
            have hx := hv.1 rfl
            have h79 : t0.length < 79 := by have : t0.length + 1 ≤ 32 := h32t; omega
            have hrd : d1 260 t0.length = x := by rw [← hl0]; exact hy.1
            refine wp_iload (j := 5) rfl q164_ok d164_12 ?_
            refine wp_sipush (v := 340) (by decide) q164_ok d164_14 ?_
            refine wp_iload_n (j := 1) rfl q164_ok d164_17 ?_
            refine wp_imul rfl q164_ok d164_18 ?_
            refine wp_iload_n (j := 3) rfl q164_ok d164_19 ?_
            refine wp_iadd (nI_340 w e) q164_ok d164_20 ?_
            refine wp_icmp_ge q164_ok d164_21 (t := 171) rfl (fun h21 => ?_) (fun h21 => ?_)
            · exact absurd h21 (nI_ge hlt (by omega))
            · refine wp_aload_n (j := 0) rfl q164_ok d164_24 ?_
              refine wp_getR q164_ok d164_25 fl_11_13 rfl (by first | assumption | exact so0 hsh rfl) (by first | assumption | exact hr _ _ _ rfl) ?_
              refine wp_iload (j := 5) rfl q164_ok d164_28 ?_
              refine wp_iald (m := 1700) q164_ok d164_30 (by first | assumption | exact so0 hsh rfl) (shl hsh (m := 1700) (Nat.le_of_ble_eq_true rfl) rfl) (ixn_nI hk17) (show d1 252 k = 9 from by rw [e252]; exact hcode) ?_ (shK hsh)
              refine wp_if_eq q164_ok d164_31 (t := 45) rfl (fun h31 => ?_) (fun h31 => ?_)
              · exact absurd h31 (by decide)
              · refine wp_aload_n (j := 0) rfl q164_ok d164_34 ?_
                refine wp_getR q164_ok d164_35 fl_11_13 rfl (by first | assumption | exact so0 hsh rfl) (by first | assumption | exact hr _ _ _ rfl) ?_
                refine wp_iload (j := 5) rfl q164_ok d164_38 ?_
                refine wp_iald (m := 1700) q164_ok d164_40 (by first | assumption | exact so0 hsh rfl) (shl hsh (m := 1700) (Nat.le_of_ble_eq_true rfl) rfl) (ixn_nI hk17) (show d1 252 k = 9 from by rw [e252]; exact hcode) ?_ (shK hsh)
                refine wp_iconst (v := 1) (by decide) q164_ok d164_41 ?_
                refine wp_icmp_ne q164_ok d164_42 (t := 90) rfl (fun h42 => ?_) (fun h42 => ?_)
                · refine wp_aload_n (j := 0) rfl q164_ok d164_90 ?_
                  refine wp_getR q164_ok d164_91 fl_11_13 rfl (by first | assumption | exact so0 hsh rfl) (by first | assumption | exact hr _ _ _ rfl) ?_
                  refine wp_iload (j := 5) rfl q164_ok d164_94 ?_
                  refine wp_iald (m := 1700) q164_ok d164_96 (by first | assumption | exact so0 hsh rfl) (shl hsh (m := 1700) (Nat.le_of_ble_eq_true rfl) rfl) (ixn_nI hk17) (show d1 252 k = 9 from by rw [e252]; exact hcode) ?_ (shK hsh)
                  refine wp_bipush (v := 9) (by decide) q164_ok d164_97 ?_
                  refine wp_icmp_ne q164_ok d164_99 (t := 125) rfl (fun h99 => ?_) (fun h99 => ?_)
                  · exact absurd rfl h99
                  · have h99 := Classical.not_not.mp h99
                    refine wp_aload_n (j := 0) rfl q164_ok d164_102 ?_
                    refine wp_getR q164_ok d164_103 fl_11_37 rfl (by first | assumption | exact so0 hsh rfl) (by first | assumption | exact hr _ _ _ rfl) ?_
                    refine wp_iload (j := 4) rfl q164_ok d164_106 ?_
                    refine wp_iconst (v := 1) (by decide) q164_ok d164_108 ?_
                    refine wp_isub (show nI (true :: t0).length - 1 = nI t0.length from nI_sub1 (t := t0.length + 1) (by omega)) q164_ok d164_109 ?_
                    refine wp_iconst (v := 1) (by decide) q164_ok d164_110 ?_
                    refine wp_aload_n (j := 0) rfl q164_ok d164_111 ?_
                    refine wp_getR q164_ok d164_112 fl_11_37 rfl (by first | assumption | exact so0 hsh rfl) (by first | assumption | exact hr _ _ _ rfl) ?_
                    refine wp_iload (j := 4) rfl q164_ok d164_115 ?_
                    refine wp_iconst (v := 1) (by decide) q164_ok d164_117 ?_
                    refine wp_isub (show nI (true :: t0).length - 1 = nI t0.length from nI_sub1 (t := t0.length + 1) (by omega)) q164_ok d164_118 ?_
                    refine wp_iald (m := 80) q164_ok d164_119 (by first | assumption | exact so0 hsh rfl) (shl hsh (m := 80) (Nat.le_of_ble_eq_true rfl) rfl) (ixn_nI (show t0.length < 80 by omega)) hrd ?_ (shK hsh)
                    refine wp_isub rfl q164_ok d164_120 ?_
                    refine wp_iast (m := 80) q164_ok d164_121 (by first | assumption | exact so0 hsh rfl) (shl hsh (m := 80) (Nat.le_of_ble_eq_true rfl) rfl) (ixn_nI (show t0.length < 80 by omega)) ?_
                    refine wp_goto (t := 165) rfl q164_ok d164_122 ?_
                    refine wp_iinc (j := 5) rfl (by first | exact inc1 | rfl) (rfl : _ = [_, _, _, _, _, _]) q164_ok d164_165 ?_
                    refine wp_goto (t := 12) rfl q164_ok d164_168 ?_
                    refine ih (k + 1) (true :: t0) (ev1 (d 259) c (x :: s0)) _ ht hv1 h32t hs2 ?_ (fun a ha => (mm_up_ne ha).trans (hf a ha)) hk2
                    unfold ev1
                    rw [if_neg h0, if_neg h1, if_pos h2, mm_up_row]
                    refine ⟨?_, repY_up hy.2 (by omega)⟩
                    unfold rup
                    rw [if_pos hl0]
                    rcases hx with rfl | rfl <;> rfl
                · have h42 := Classical.not_not.mp h42
                  exact absurd h42 (by decide)
          · rw [if_neg h2] at e0
            have hopk : (isTru c ∨ isNum c) ∧ ∃ bb, two bb t = some t1 := by
              by_cases h3 : isTru c
              · rw [if_pos h3] at e0; exact ⟨Or.inl h3, true, e0⟩
              · rw [if_neg h3] at e0
                by_cases h4 : isNum c
                · rw [if_pos h4] at e0; exact ⟨Or.inr h4, false, e0⟩
                · rw [if_neg h4] at e0; cases e0
            obtain ⟨hop, bb, e2⟩ := hopk
            obtain ⟨on0, on1, on9⟩ := opM_ne hop
            obtain ⟨b1, b2, t0, rfl, rfl⟩ : ∃ b1 b2 t0, t = b1 :: b2 :: t0 ∧ t1 = bb :: t0 := by
              cases t with
              | nil => cases e2
              | cons b1 t =>
                cases t with
                | nil => cases e2
                | cons b2 t => cases e2; exact ⟨b1, b2, t, rfl, rfl⟩
            obtain ⟨y, x, s0, rfl⟩ : ∃ y x s0, st = y :: x :: s0 := by
              cases st with
              | nil => exact hv.elim
              | cons y s =>
                cases s with
                | nil => exact hv.2.elim
                | cons x s => exact ⟨y, x, s, rfl⟩
            have hl0 : s0.length = t0.length := tyV_len hv.2.2
            have h79 : t0.length + 1 < 79 := by have : t0.length + 1 + 1 ≤ 32 := h32t; omega
            have hrd : d1 260 t0.length = x := by rw [← hl0]; exact hy.2.1
            have hrd1 : d1 260 (t0.length + 1) = y := by rw [← hl0]; exact hy.1
            have hd1 : nI (b1 :: b2 :: t0).length + Int32.ofInt (-1) = nI (t0.length + 1) := nI_dec (t := t0.length + 2) (by omega)
            have hs1 : nI (t0.length + 1) - 1 = nI t0.length := nI_sub1 (t := t0.length + 1) (by omega)
            refine wp_iload (j := 5) rfl q164_ok d164_12 ?_
            refine wp_sipush (v := 340) (by decide) q164_ok d164_14 ?_
            refine wp_iload_n (j := 1) rfl q164_ok d164_17 ?_
            refine wp_imul rfl q164_ok d164_18 ?_
            refine wp_iload_n (j := 3) rfl q164_ok d164_19 ?_
            refine wp_iadd (nI_340 w e) q164_ok d164_20 ?_
            refine wp_icmp_ge q164_ok d164_21 (t := 171) rfl (fun h21 => ?_) (fun h21 => ?_)
            · exact absurd h21 (nI_ge hlt (by omega))
            · refine wp_aload_n (j := 0) rfl q164_ok d164_24 ?_
              refine wp_getR q164_ok d164_25 fl_11_13 rfl (by first | assumption | exact so0 hsh rfl) (by first | assumption | exact hr _ _ _ rfl) ?_
              refine wp_iload (j := 5) rfl q164_ok d164_28 ?_
              refine wp_iald (m := 1700) q164_ok d164_30 (by first | assumption | exact so0 hsh rfl) (shl hsh (m := 1700) (Nat.le_of_ble_eq_true rfl) rfl) (ixn_nI hk17) (show d1 252 k = opM c from by rw [e252]; exact hcode) ?_ (shK hsh)
              refine wp_if_eq q164_ok d164_31 (t := 45) rfl (fun h31 => ?_) (fun h31 => ?_)
              · exact absurd h31 on0
              · refine wp_aload_n (j := 0) rfl q164_ok d164_34 ?_
                refine wp_getR q164_ok d164_35 fl_11_13 rfl (by first | assumption | exact so0 hsh rfl) (by first | assumption | exact hr _ _ _ rfl) ?_
                refine wp_iload (j := 5) rfl q164_ok d164_38 ?_
                refine wp_iald (m := 1700) q164_ok d164_40 (by first | assumption | exact so0 hsh rfl) (shl hsh (m := 1700) (Nat.le_of_ble_eq_true rfl) rfl) (ixn_nI hk17) (show d1 252 k = opM c from by rw [e252]; exact hcode) ?_ (shK hsh)
                refine wp_iconst (v := 1) (by decide) q164_ok d164_41 ?_
                refine wp_icmp_ne q164_ok d164_42 (t := 90) rfl (fun h42 => ?_) (fun h42 => ?_)
                · refine wp_aload_n (j := 0) rfl q164_ok d164_90 ?_
                  refine wp_getR q164_ok d164_91 fl_11_13 rfl (by first | assumption | exact so0 hsh rfl) (by first | assumption | exact hr _ _ _ rfl) ?_
                  refine wp_iload (j := 5) rfl q164_ok d164_94 ?_
                  refine wp_iald (m := 1700) q164_ok d164_96 (by first | assumption | exact so0 hsh rfl) (shl hsh (m := 1700) (Nat.le_of_ble_eq_true rfl) rfl) (ixn_nI hk17) (show d1 252 k = opM c from by rw [e252]; exact hcode) ?_ (shK hsh)
                  refine wp_bipush (v := 9) (by decide) q164_ok d164_97 ?_
                  refine wp_icmp_ne q164_ok d164_99 (t := 125) rfl (fun h99 => ?_) (fun h99 => ?_)
                  · refine wp_iinc (j := 4) rfl hd1 (rfl : _ = [_, _, _, _, _, _]) q164_ok d164_125 ?_
                    refine wp_aload_n (j := 0) rfl q164_ok d164_128 ?_
                    refine wp_getR q164_ok d164_129 fl_11_37 rfl (by first | assumption | exact so0 hsh rfl) (by first | assumption | exact hr _ _ _ rfl) ?_
                    refine wp_iload (j := 4) rfl q164_ok d164_132 ?_
                    refine wp_iconst (v := 1) (by decide) q164_ok d164_134 ?_
                    refine wp_isub hs1 q164_ok d164_135 ?_
                    refine wp_aload_n (j := 0) rfl q164_ok d164_136 ?_
                    refine wp_getR q164_ok d164_137 fl_11_13 rfl (by first | assumption | exact so0 hsh rfl) (by first | assumption | exact hr _ _ _ rfl) ?_
                    refine wp_iload (j := 5) rfl q164_ok d164_140 ?_
                    refine wp_iald (m := 1700) q164_ok d164_142 (by first | assumption | exact so0 hsh rfl) (shl hsh (m := 1700) (Nat.le_of_ble_eq_true rfl) rfl) (ixn_nI hk17) (show d1 252 k = opM c from by rw [e252]; exact hcode) ?_ (shK hsh)
                    refine wp_aload_n (j := 0) rfl q164_ok d164_143 ?_
                    refine wp_getR q164_ok d164_144 fl_11_37 rfl (by first | assumption | exact so0 hsh rfl) (by first | assumption | exact hr _ _ _ rfl) ?_
                    refine wp_iload (j := 4) rfl q164_ok d164_147 ?_
                    refine wp_iconst (v := 1) (by decide) q164_ok d164_149 ?_
                    refine wp_isub hs1 q164_ok d164_150 ?_
                    refine wp_iald (m := 80) q164_ok d164_151 (by first | assumption | exact so0 hsh rfl) (shl hsh (m := 80) (Nat.le_of_ble_eq_true rfl) rfl) (ixn_nI (show t0.length < 80 by omega)) hrd ?_ (shK hsh)
                    refine wp_i2l rfl q164_ok d164_152 ?_
                    refine wp_aload_n (j := 0) rfl q164_ok d164_153 ?_
                    refine wp_getR q164_ok d164_154 fl_11_37 rfl (by first | assumption | exact so0 hsh rfl) (by first | assumption | exact hr _ _ _ rfl) ?_
                    refine wp_iload (j := 4) rfl q164_ok d164_157 ?_
                    refine wp_iald (m := 80) q164_ok d164_159 (by first | assumption | exact so0 hsh rfl) (shl hsh (m := 80) (Nat.le_of_ble_eq_true rfl) rfl) (ixn_nI (show t0.length + 1 < 80 by omega)) hrd1 ?_ (shK hsh)
                    refine wp_i2l rfl q164_ok d164_160 ?_
                    refine wp_cS q164_ok d164_161 ml_11_210 rfl q163_ok rfl rfl rfl (Nat.le_of_ble_eq_true rfl) (Nat.le_of_ble_eq_true rfl) (m_worked hop _ _) (fun v161 μ161 hc => ?_)
                    obtain ⟨rfl, rfl⟩ := hc
                    refine ⟨mm_le_same rfl, ?_⟩
                    refine wp_iast (m := 80) q164_ok d164_164 (by first | assumption | exact so0 hsh rfl) (shl hsh (m := 80) (Nat.le_of_ble_eq_true rfl) rfl) (ixn_nI (show t0.length < 80 by omega)) ?_
                    refine wp_iinc (j := 5) rfl (by first | exact inc1 | rfl) (rfl : _ = [_, _, _, _, _, _]) q164_ok d164_165 ?_
                    refine wp_goto (t := 12) rfl q164_ok d164_168 ?_
                    refine ih (k + 1) (bb :: t0) (ev1 (d 259) c (y :: x :: s0)) _ ht hv1 (show t0.length + 1 ≤ 32 by have : t0.length + 1 + 1 ≤ 32 := h32t; omega) hs2 ?_ (fun a ha => (mm_up_ne ha).trans (hf a ha)) hk2
                    unfold ev1
                    rw [if_neg h0, if_neg h1, if_neg h2, mm_up_row]
                    refine ⟨?_, repY_up hy.2.2 (by omega)⟩
                    unfold rup
                    rw [if_pos hl0]
                  · have h99 := Classical.not_not.mp h99
                    exact absurd h99 on9
                · have h42 := Classical.not_not.mp h42
                  exact absurd h42 on1
