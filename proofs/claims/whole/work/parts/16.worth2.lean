/-! ===== habits: the walk of worth ===== -/
theorem so20 {sh : mm_S} {c : Nat} (h : so sh c 20) : 20 ≤ (sh.2.2.2 c).1 := by rw [h.2]; exact Nat.le_refl _
theorem nI_sub1 {t : Nat} (h : 1 ≤ t) : nI t - 1 = nI (t - 1) := by
  obtain ⟨k, rfl⟩ : ∃ k, t = k + 1 := ⟨t - 1, by omega⟩
  exact nI_pred k
theorem nI_sub2 {t : Nat} (h : 2 ≤ t) : nI (t - 1) - 1 = nI (t - 2) := nI_sub1 (by omega)
theorem nI_dec {t : Nat} (h : 1 ≤ t) : nI t + Int32.ofInt (-1) = nI (t - 1) := by
  rw [← nI_sub1 h, Int32.sub_eq_add_neg]
  rfl
theorem ixn_of {i : Int32} (h1 : ¬ i < 0) (h2 : ¬ (6 : Int32) ≤ i) : ixn i i.toNatClampNeg 6 := by
  have h0 : 0 ≤ i := Int32.not_lt.mp h1
  refine ⟨rfl, h0, ?_⟩
  have a := Int32.le_iff_toInt_le.mp h0
  have b := Int32.lt_iff_toInt_lt.mp (Int32.not_le.mp h2)
  have c : i.toNatClampNeg = i.toInt.toNat := rfl
  rw [c]
  have e0 : (0 : Int32).toInt = 0 := by decide
  have e6 : (6 : Int32).toInt = 6 := by decide
  omega
theorem t_ge {t n : Nat} (h : Int32.ofNat n ≤ nI t) (hn : n < 2 ^ 31) (ht : t < 2 ^ 31) : n ≤ t := (nI_leI hn ht).mp h
theorem t_lt1 {t : Nat} (h : nI t < 1) (ht : t < 2 ^ 31) : t < 1 := (nI_ltI ht (by decide)).mp (show nI t < nI 1 from h)
theorem t_nlt1 {t : Nat} (h : ¬ nI t < 1) (ht : t < 2 ^ 31) : 1 ≤ t := Nat.le_of_not_lt (fun q => h ((nI_ltI ht (by decide)).mpr q))
theorem t_le1 {t : Nat} (h : nI t ≤ 1) (ht : t < 2 ^ 31) : t ≤ 1 := (nI_leI ht (by decide)).mp (show nI t ≤ nI 1 from h)
theorem t_nle1 {t : Nat} (h : ¬ nI t ≤ 1) (ht : t < 2 ^ 31) : 2 ≤ t := Nat.lt_of_not_le (fun q => h ((nI_leI ht (by decide)).mpr q))
theorem c_worth_l {xs : List Int32} {ext : mm_X} {n : Nat} {sh : mm_S} {d : mm_D} {g : mm_G} {r : mm_R} (hsh : shp sh) (hr : rfx r) {h len : Nat} (hh : hb sh r h) (h33 : 33 ≤ h) (hlen : d h 2 = nI len) (hl : len ≤ 160) : ∀ (m a : Nat) (y : Nat → Int32) (top : Nat) (p : Int32) (z5 : Option Value) (z6 : Option Value) (ht : top ≤ 32), m + a = len → wp xs ext (n + 2) 8 7 [some (.ref h), some (.ref 17), some (.int (nI top)), some (.int p), some (.int (nI a)), z5, z6] [] (sh, mm_rowset d (h + 2) y, g, r) (fun v μ => v = some (.int (wrF (d (h + 1)) (d 17) m a y top p)) ∧ ∃ y2, μ = (sh, mm_rowset d (h + 2) y2, g, r)) := by
  obtain ⟨ho1, ho2, ho3, ho4, ho5, ho6, ho7⟩ := hh
  intro m
  induction m with
  | zero =>
    intro a y top p z5 z6 ht hm
    have hvb : len = a := by omega
    subst hvb
    have hlen2 : mm_rowset d (h + 2) y h 2 = nI len := by rw [mm_rs_ne (by omega)]; exact hlen
    have hcode : mm_rowset d (h + 2) y (h + 1) len = d (h + 1) len := by rw [mm_rs_ne (by omega)]
    have hlet : ∀ j, mm_rowset d (h + 2) y 17 j = d 17 j := fun j => by rw [mm_rs_ne (by omega)]
    have hy : ∀ j, mm_rowset d (h + 2) y (h + 2) j = y j := fun j => by rw [mm_rs_at]
    refine wp_iload (j := 4) rfl q8_ok d8_7 ?_
    refine wp_aload_n (j := 0) rfl q8_ok d8_9 ?_
    refine wp_getI q8_ok d8_10 fl_0_22 rfl (by first | assumption | exact so0 hsh rfl) (by first | assumption | rfl) ?_
    refine wp_icmp_ge q8_ok d8_13 (t := 258) rfl (fun h13 => ?_) (fun h13 => ?_)
    · refine wp_iconst (v := 0) (by decide) q8_ok d8_258 ?_
      refine wp_iret q8_ok d8_259 rfl ?_
      exact ⟨rfl, y, rfl⟩
    · exact absurd (nI_le (Nat.le_refl _) (by omega)) h13
  | succ m ih =>
    intro a y top p z5 z6 ht hm
    have hlt : a < len := by omega
    have hlen2 : mm_rowset d (h + 2) y h 2 = nI len := by rw [mm_rs_ne (by omega)]; exact hlen
    have hcode : mm_rowset d (h + 2) y (h + 1) a = d (h + 1) a := by rw [mm_rs_ne (by omega)]
    have hlet : ∀ j, mm_rowset d (h + 2) y 17 j = d 17 j := fun j => by rw [mm_rs_ne (by omega)]
    have hy : ∀ j, mm_rowset d (h + 2) y (h + 2) j = y j := fun j => by rw [mm_rs_at]
    refine wp_iload (j := 4) rfl q8_ok d8_7 ?_
    refine wp_aload_n (j := 0) rfl q8_ok d8_9 ?_
    refine wp_getI q8_ok d8_10 fl_0_22 rfl ho1 (by first | assumption | rfl) ?_
    refine wp_icmp_ge q8_ok d8_13 (t := 258) rfl (fun h13 => ?_) (fun h13 => ?_)
    · exact absurd h13 (nI_ge hlt (by omega))
    · refine wp_iload (j := 4) rfl q8_ok d8_16 ?_
      refine wp_aload_n (j := 0) rfl q8_ok d8_18 ?_
      refine wp_getR q8_ok d8_19 fl_0_9 rfl ho1 ho6 ?_
      refine wp_alen (m := 160) q8_ok d8_22 ho2.1 (so20 ho2) (by first | assumption | exact shl hsh (Nat.le_of_ble_eq_true rfl) rfl) rfl ?_ (shK hsh)
      refine wp_icmp_ge q8_ok d8_23 (t := 258) rfl (fun h23 => ?_) (fun h23 => ?_)
      · exact absurd h23 (nI_ge (show a < 160 by omega) (by decide))
      · refine wp_aload_n (j := 0) rfl q8_ok d8_26 ?_
        refine wp_getR q8_ok d8_27 fl_0_9 rfl ho1 ho6 ?_
        refine wp_iload (j := 4) rfl q8_ok d8_30 ?_
        refine wp_iald (m := 160) q8_ok d8_32 (by first | assumption | exact so0 hsh rfl) (by first | assumption | exact shl hsh (Nat.le_of_ble_eq_true rfl) rfl) (by first | assumption | exact ixn_nI (by omega)) hcode ?_ (shK hsh)
        refine wp_istore (j := 5) (Nat.le_of_ble_eq_true rfl) (rfl : _ = [_, _, _, _, _, _, _]) q8_ok d8_33 ?_
        refine wp_bipush (v := -2) (by decide) q8_ok d8_35 ?_
        refine wp_iload (j := 5) rfl q8_ok d8_37 ?_
        refine wp_isub rfl q8_ok d8_39 ?_
        refine wp_istore (j := 6) (Nat.le_of_ble_eq_true rfl) (rfl : _ = [_, _, _, _, _, _, _]) q8_ok d8_40 ?_
        refine wp_iload_n (j := 3) rfl q8_ok d8_42 ?_
        refine wp_if_eq q8_ok d8_43 (t := 62) rfl (fun h43 => ?_) (fun h43 => ?_)
        · subst h43
          refine wp_iload (j := 5) rfl q8_ok d8_62 ?_
          refine wp_if_ge q8_ok d8_64 (t := 86) rfl (fun h64 => ?_) (fun h64 => ?_)
          · refine wp_iload_n (j := 2) rfl q8_ok d8_86 ?_
            refine wp_aload_n (j := 0) rfl q8_ok d8_87 ?_
            refine wp_getR q8_ok d8_88 fl_0_15 rfl ho1 ho7 ?_
            refine wp_alen (m := 32) q8_ok d8_91 ho4.1 (so20 ho4) ho5 rfl ?_ (shK hsh)
            refine wp_icmp_ge q8_ok d8_92 (t := 252) rfl (fun h92 => ?_) (fun h92 => ?_)
            · refine wp_iinc (j := 4) rfl (by first | exact inc1 | rfl) (rfl : _ = [_, _, _, _, _, _, _]) q8_ok d8_252 ?_
              refine wp_goto (t := 7) rfl q8_ok d8_255 ?_
              refine wp_post (ih (a + 1) y top 0 _ _ (by omega) (by omega)) (fun v μ hv => ?_)
              rw [wrF, if_neg (fun z => z rfl), if_pos h64, if_pos (t_ge h92 (by decide) (by omega))]
              exact hv
            · have ht32 : top < 32 := Nat.lt_of_not_le (fun q => h92 (nI_le q (by omega)))
              refine wp_aload_n (j := 0) rfl q8_ok d8_95 ?_
              refine wp_getR q8_ok d8_96 fl_0_15 rfl ho1 ho7 ?_
              refine wp_iload_n (j := 2) rfl q8_ok d8_99 ?_
              refine wp_iload (j := 5) rfl q8_ok d8_100 ?_
              refine wp_if_lt q8_ok d8_102 (t := 110) rfl (fun h102 => ?_) (fun h102 => ?_)
              · exact absurd h102 (Int32.not_lt.mpr h64)
              · refine wp_iload (j := 5) rfl q8_ok d8_105 ?_
                refine wp_goto (t := 114) rfl q8_ok d8_107 ?_
                refine wp_iast (m := 32) q8_ok d8_114 ho4 ho5 (by first | assumption | exact ixn_nI (by omega)) ?_
                refine wp_iinc (j := 2) rfl (by first | exact inc1 | rfl) (rfl : _ = [_, _, _, _, _, _, _]) q8_ok d8_115 ?_
                refine wp_goto (t := 252) rfl q8_ok d8_118 ?_
                refine wp_iinc (j := 4) rfl (by first | exact inc1 | rfl) (rfl : _ = [_, _, _, _, _, _, _]) q8_ok d8_252 ?_
                refine wp_goto (t := 7) rfl q8_ok d8_255 ?_
                rw [rs_up]
                refine wp_post (ih (a + 1) _ (top + 1) 0 _ _ (by omega) (by omega)) (fun v μ hv => ?_)
                rw [wrF, if_neg (fun z => z rfl), if_pos h64, if_neg (by omega)]
                exact hv
          · refine wp_iload (j := 6) rfl q8_ok d8_67 ?_
            refine wp_if_lt q8_ok d8_69 (t := 121) rfl (fun h69 => ?_) (fun h69 => ?_)
            · refine wp_iload_n (j := 2) rfl q8_ok d8_121 ?_
              refine wp_iconst (v := 1) (by decide) q8_ok d8_122 ?_
              refine wp_icmp_lt q8_ok d8_123 (t := 135) rfl (fun h123 => ?_) (fun h123 => ?_)
              · refine wp_iconst (v := 0) (by decide) q8_ok d8_135 ?_
                refine wp_iret q8_ok d8_136 rfl ?_
                exact ⟨by rw [wrF, if_neg (fun z => z rfl), if_neg h64, if_pos (Or.inl h69), if_pos (t_lt1 h123 (by omega))], y, rfl⟩
              · have h1t : 1 ≤ top := t_nlt1 h123 (by omega)
                refine wp_iload_n (j := 2) rfl q8_ok d8_126 ?_
                refine wp_aload_n (j := 0) rfl q8_ok d8_127 ?_
                refine wp_getR q8_ok d8_128 fl_0_15 rfl ho1 ho7 ?_
                refine wp_alen (m := 32) q8_ok d8_131 ho4.1 (so20 ho4) ho5 rfl ?_ (shK hsh)
                refine wp_icmp_le q8_ok d8_132 (t := 137) rfl (fun h132 => ?_) (fun h132 => ?_)
                · refine wp_iload (j := 5) rfl q8_ok d8_137 ?_
                  refine wp_bipush (v := -10) (by decide) q8_ok d8_139 ?_
                  refine wp_icmp_ne q8_ok d8_141 (t := 153) rfl (fun h141 => ?_) (fun h141 => ?_)
                  · refine wp_iload (j := 5) rfl q8_ok d8_153 ?_
                    refine wp_bipush (v := -14) (by decide) q8_ok d8_155 ?_
                    refine wp_icmp_ne q8_ok d8_157 (t := 187) rfl (fun h157 => ?_) (fun h157 => ?_)
                    · refine wp_iload (j := 5) rfl q8_ok d8_187 ?_
                      refine wp_bipush (v := -11) (by decide) q8_ok d8_189 ?_
                      refine wp_icmp_ne q8_ok d8_191 (t := 215) rfl (fun h191 => ?_) (fun h191 => ?_)
                      · refine wp_iload_n (j := 2) rfl q8_ok d8_215 ?_
                        refine wp_iconst (v := 1) (by decide) q8_ok d8_216 ?_
                        refine wp_icmp_le q8_ok d8_217 (t := 252) rfl (fun h217 => ?_) (fun h217 => ?_)
                        · refine wp_iinc (j := 4) rfl (by first | exact inc1 | rfl) (rfl : _ = [_, _, _, _, _, _, _]) q8_ok d8_252 ?_
                          refine wp_goto (t := 7) rfl q8_ok d8_255 ?_
                          refine wp_post (ih (a + 1) y top 0 _ _ (by omega) (by omega)) (fun v μ hv => ?_)
                          rw [wrF, if_neg (fun z => z rfl), if_neg h64, if_pos (Or.inl h69), if_neg (by omega), if_neg h141, if_neg h157, if_neg h191, if_pos (t_le1 h217 (by omega))]
                          exact hv
                        · have h2t : 2 ≤ top := t_nle1 h217 (by omega)
                          refine wp_iinc (j := 2) rfl (nI_dec h1t) (rfl : _ = [_, _, _, _, _, _, _]) q8_ok d8_220 ?_
                          refine wp_aload_n (j := 0) rfl q8_ok d8_223 ?_
                          refine wp_getR q8_ok d8_224 fl_0_15 rfl ho1 ho7 ?_
                          refine wp_iload_n (j := 2) rfl q8_ok d8_227 ?_
                          refine wp_iconst (v := 1) (by decide) q8_ok d8_228 ?_
                          refine wp_isub (nI_sub2 h2t) q8_ok d8_229 ?_
                          refine wp_iload (j := 5) rfl q8_ok d8_230 ?_
                          refine wp_aload_n (j := 0) rfl q8_ok d8_232 ?_
                          refine wp_getR q8_ok d8_233 fl_0_15 rfl ho1 ho7 ?_
                          refine wp_iload_n (j := 2) rfl q8_ok d8_236 ?_
                          refine wp_iconst (v := 1) (by decide) q8_ok d8_237 ?_
                          refine wp_isub (nI_sub2 h2t) q8_ok d8_238 ?_
                          refine wp_iald (m := 32) q8_ok d8_239 ho4 ho5 (by first | assumption | exact ixn_nI (by omega)) (hy _) ?_ (shK hsh)
                          refine wp_i2l rfl q8_ok d8_240 ?_
                          refine wp_aload_n (j := 0) rfl q8_ok d8_241 ?_
                          refine wp_getR q8_ok d8_242 fl_0_15 rfl ho1 ho7 ?_
                          refine wp_iload_n (j := 2) rfl q8_ok d8_245 ?_
                          refine wp_iald (m := 32) q8_ok d8_246 ho4 ho5 (by first | assumption | exact ixn_nI (by omega)) (hy _) ?_ (shK hsh)
                          refine wp_i2l rfl q8_ok d8_247 ?_
                          refine wp_cS q8_ok d8_248 ml_0_32 rfl q9_ok rfl rfl rfl (Nat.le_of_ble_eq_true rfl) (Nat.le_of_ble_eq_true rfl) (c_joined _ _ _) (fun v248 μ248 hc => ?_)
                          obtain ⟨rfl, rfl⟩ := hc
                          refine ⟨mm_le_same rfl, ?_⟩
                          refine wp_iast (m := 32) q8_ok d8_251 ho4 ho5 (by first | assumption | exact ixn_nI (by omega)) ?_
                          refine wp_iinc (j := 4) rfl (by first | exact inc1 | rfl) (rfl : _ = [_, _, _, _, _, _, _]) q8_ok d8_252 ?_
                          refine wp_goto (t := 7) rfl q8_ok d8_255 ?_
                          rw [rs_up]
                          refine wp_post (ih (a + 1) _ (top - 1) 0 _ _ (by omega) (by omega)) (fun v μ hv => ?_)
                          rw [wrF, if_neg (fun z => z rfl), if_neg h64, if_pos (Or.inl h69), if_neg (by omega), if_neg h141, if_neg h157, if_neg h191, if_neg (by have := t_nle1 h217 (by omega); omega)]
                          exact hv
                      · have h191 := Classical.not_not.mp h191
                        refine wp_iinc (j := 2) rfl (nI_dec h1t) (rfl : _ = [_, _, _, _, _, _, _]) q8_ok d8_194 ?_
                        refine wp_aload_n (j := 0) rfl q8_ok d8_197 ?_
                        refine wp_getR q8_ok d8_198 fl_0_15 rfl ho1 ho7 ?_
                        refine wp_iload_n (j := 2) rfl q8_ok d8_201 ?_
                        refine wp_iald (m := 32) q8_ok d8_202 ho4 ho5 (by first | assumption | exact ixn_nI (by omega)) (hy _) ?_ (shK hsh)
                        refine wp_if_ne q8_ok d8_203 (t := 210) rfl (fun h203 => ?_) (fun h203 => ?_)
                        · refine wp_iconst (v := 0) (by decide) q8_ok d8_210 ?_
                          refine wp_istore_n (j := 3) (Nat.le_of_ble_eq_true rfl) (rfl : _ = [_, _, _, _, _, _, _]) q8_ok d8_211 ?_
                          refine wp_goto (t := 252) rfl q8_ok d8_212 ?_
                          refine wp_iinc (j := 4) rfl (by first | exact inc1 | rfl) (rfl : _ = [_, _, _, _, _, _, _]) q8_ok d8_252 ?_
                          refine wp_goto (t := 7) rfl q8_ok d8_255 ?_
                          refine wp_post (ih (a + 1) y (top - 1) 0 _ _ (by omega) (by omega)) (fun v μ hv => ?_)
                          rw [wrF, if_neg (fun z => z rfl), if_neg h64, if_pos (Or.inl h69), if_neg (by omega), if_neg h141, if_neg h157, if_pos h191, if_neg h203]
                          exact hv
                        · have h203 := Classical.not_not.mp h203
                          refine wp_iconst (v := 1) (by decide) q8_ok d8_206 ?_
                          refine wp_goto (t := 211) rfl q8_ok d8_207 ?_
                          refine wp_istore_n (j := 3) (Nat.le_of_ble_eq_true rfl) (rfl : _ = [_, _, _, _, _, _, _]) q8_ok d8_211 ?_
                          refine wp_goto (t := 252) rfl q8_ok d8_212 ?_
                          refine wp_iinc (j := 4) rfl (by first | exact inc1 | rfl) (rfl : _ = [_, _, _, _, _, _, _]) q8_ok d8_252 ?_
                          refine wp_goto (t := 7) rfl q8_ok d8_255 ?_
                          refine wp_post (ih (a + 1) y (top - 1) 1 _ _ (by omega) (by omega)) (fun v μ hv => ?_)
                          rw [wrF, if_neg (fun z => z rfl), if_neg h64, if_pos (Or.inl h69), if_neg (by omega), if_neg h141, if_neg h157, if_pos h191, if_pos h203]
                          exact hv
                    · have h157 := Classical.not_not.mp h157
                      refine wp_aload_n (j := 0) rfl q8_ok d8_160 ?_
                      refine wp_getR q8_ok d8_161 fl_0_15 rfl ho1 ho7 ?_
                      refine wp_iload_n (j := 2) rfl q8_ok d8_164 ?_
                      refine wp_iconst (v := 1) (by decide) q8_ok d8_165 ?_
                      refine wp_isub (nI_sub1 h1t) q8_ok d8_166 ?_
                      refine wp_aload_n (j := 0) rfl q8_ok d8_167 ?_
                      refine wp_getR q8_ok d8_168 fl_0_15 rfl ho1 ho7 ?_
                      refine wp_iload_n (j := 2) rfl q8_ok d8_171 ?_
                      refine wp_iconst (v := 1) (by decide) q8_ok d8_172 ?_
                      refine wp_isub (nI_sub1 h1t) q8_ok d8_173 ?_
                      refine wp_iald (m := 32) q8_ok d8_174 ho4 ho5 (by first | assumption | exact ixn_nI (by omega)) (hy _) ?_ (shK hsh)
                      refine wp_if_ne q8_ok d8_175 (t := 182) rfl (fun h175 => ?_) (fun h175 => ?_)
                      · refine wp_iconst (v := 0) (by decide) q8_ok d8_182 ?_
                        refine wp_iast (m := 32) q8_ok d8_183 ho4 ho5 (by first | assumption | exact ixn_nI (by omega)) ?_
                        refine wp_goto (t := 252) rfl q8_ok d8_184 ?_
                        refine wp_iinc (j := 4) rfl (by first | exact inc1 | rfl) (rfl : _ = [_, _, _, _, _, _, _]) q8_ok d8_252 ?_
                        refine wp_goto (t := 7) rfl q8_ok d8_255 ?_
                        rw [rs_up]
                        refine wp_post (ih (a + 1) _ top 0 _ _ (by omega) (by omega)) (fun v μ hv => ?_)
                        rw [wrF, if_neg (fun z => z rfl), if_neg h64, if_pos (Or.inl h69), if_neg (by omega), if_neg h141, if_pos h157, if_neg h175]
                        exact hv
                      · have h175 := Classical.not_not.mp h175
                        refine wp_iconst (v := 1) (by decide) q8_ok d8_178 ?_
                        refine wp_goto (t := 183) rfl q8_ok d8_179 ?_
                        refine wp_iast (m := 32) q8_ok d8_183 ho4 ho5 (by first | assumption | exact ixn_nI (by omega)) ?_
                        refine wp_goto (t := 252) rfl q8_ok d8_184 ?_
                        refine wp_iinc (j := 4) rfl (by first | exact inc1 | rfl) (rfl : _ = [_, _, _, _, _, _, _]) q8_ok d8_252 ?_
                        refine wp_goto (t := 7) rfl q8_ok d8_255 ?_
                        rw [rs_up]
                        refine wp_post (ih (a + 1) _ top 0 _ _ (by omega) (by omega)) (fun v μ hv => ?_)
                        rw [wrF, if_neg (fun z => z rfl), if_neg h64, if_pos (Or.inl h69), if_neg (by omega), if_neg h141, if_pos h157, if_pos h175]
                        exact hv
                  · have h141 := Classical.not_not.mp h141
                    refine wp_aload_n (j := 0) rfl q8_ok d8_144 ?_
                    refine wp_getR q8_ok d8_145 fl_0_15 rfl ho1 ho7 ?_
                    refine wp_iload_n (j := 2) rfl q8_ok d8_148 ?_
                    refine wp_iconst (v := 1) (by decide) q8_ok d8_149 ?_
                    refine wp_isub (nI_sub1 h1t) q8_ok d8_150 ?_
                    refine wp_iald (m := 32) q8_ok d8_151 ho4 ho5 (by first | assumption | exact ixn_nI (by omega)) (hy _) ?_ (shK hsh)
                    refine wp_iret q8_ok d8_152 rfl ?_
                    exact ⟨by rw [wrF, if_neg (fun z => z rfl), if_neg h64, if_pos (Or.inl h69), if_neg (by omega), if_pos h141], y, rfl⟩
                · exact absurd (nI_le (show top ≤ 32 by omega) (by omega)) h132
            · refine wp_iload (j := 6) rfl q8_ok d8_72 ?_
              refine wp_bipush (v := 6) (by decide) q8_ok d8_74 ?_
              refine wp_icmp_ge q8_ok d8_76 (t := 121) rfl (fun h76 => ?_) (fun h76 => ?_)
              · refine wp_iload_n (j := 2) rfl q8_ok d8_121 ?_
                refine wp_iconst (v := 1) (by decide) q8_ok d8_122 ?_
                refine wp_icmp_lt q8_ok d8_123 (t := 135) rfl (fun h123 => ?_) (fun h123 => ?_)
                · refine wp_iconst (v := 0) (by decide) q8_ok d8_135 ?_
                  refine wp_iret q8_ok d8_136 rfl ?_
                  exact ⟨by rw [wrF, if_neg (fun z => z rfl), if_neg h64, if_pos (Or.inr h76), if_pos (t_lt1 h123 (by omega))], y, rfl⟩
                · have h1t : 1 ≤ top := t_nlt1 h123 (by omega)
                  refine wp_iload_n (j := 2) rfl q8_ok d8_126 ?_
                  refine wp_aload_n (j := 0) rfl q8_ok d8_127 ?_
                  refine wp_getR q8_ok d8_128 fl_0_15 rfl ho1 ho7 ?_
                  refine wp_alen (m := 32) q8_ok d8_131 ho4.1 (so20 ho4) ho5 rfl ?_ (shK hsh)
                  refine wp_icmp_le q8_ok d8_132 (t := 137) rfl (fun h132 => ?_) (fun h132 => ?_)
                  · refine wp_iload (j := 5) rfl q8_ok d8_137 ?_
                    refine wp_bipush (v := -10) (by decide) q8_ok d8_139 ?_
                    refine wp_icmp_ne q8_ok d8_141 (t := 153) rfl (fun h141 => ?_) (fun h141 => ?_)
                    · refine wp_iload (j := 5) rfl q8_ok d8_153 ?_
                      refine wp_bipush (v := -14) (by decide) q8_ok d8_155 ?_
                      refine wp_icmp_ne q8_ok d8_157 (t := 187) rfl (fun h157 => ?_) (fun h157 => ?_)
                      · refine wp_iload (j := 5) rfl q8_ok d8_187 ?_
                        refine wp_bipush (v := -11) (by decide) q8_ok d8_189 ?_
                        refine wp_icmp_ne q8_ok d8_191 (t := 215) rfl (fun h191 => ?_) (fun h191 => ?_)
                        · refine wp_iload_n (j := 2) rfl q8_ok d8_215 ?_
                          refine wp_iconst (v := 1) (by decide) q8_ok d8_216 ?_
                          refine wp_icmp_le q8_ok d8_217 (t := 252) rfl (fun h217 => ?_) (fun h217 => ?_)
                          · refine wp_iinc (j := 4) rfl (by first | exact inc1 | rfl) (rfl : _ = [_, _, _, _, _, _, _]) q8_ok d8_252 ?_
                            refine wp_goto (t := 7) rfl q8_ok d8_255 ?_
                            refine wp_post (ih (a + 1) y top 0 _ _ (by omega) (by omega)) (fun v μ hv => ?_)
                            rw [wrF, if_neg (fun z => z rfl), if_neg h64, if_pos (Or.inr h76), if_neg (by omega), if_neg h141, if_neg h157, if_neg h191, if_pos (t_le1 h217 (by omega))]
                            exact hv
                          · have h2t : 2 ≤ top := t_nle1 h217 (by omega)
                            refine wp_iinc (j := 2) rfl (nI_dec h1t) (rfl : _ = [_, _, _, _, _, _, _]) q8_ok d8_220 ?_
                            refine wp_aload_n (j := 0) rfl q8_ok d8_223 ?_
                            refine wp_getR q8_ok d8_224 fl_0_15 rfl ho1 ho7 ?_
                            refine wp_iload_n (j := 2) rfl q8_ok d8_227 ?_
                            refine wp_iconst (v := 1) (by decide) q8_ok d8_228 ?_
                            refine wp_isub (nI_sub2 h2t) q8_ok d8_229 ?_
                            refine wp_iload (j := 5) rfl q8_ok d8_230 ?_
                            refine wp_aload_n (j := 0) rfl q8_ok d8_232 ?_
                            refine wp_getR q8_ok d8_233 fl_0_15 rfl ho1 ho7 ?_
                            refine wp_iload_n (j := 2) rfl q8_ok d8_236 ?_
                            refine wp_iconst (v := 1) (by decide) q8_ok d8_237 ?_
                            refine wp_isub (nI_sub2 h2t) q8_ok d8_238 ?_
                            refine wp_iald (m := 32) q8_ok d8_239 ho4 ho5 (by first | assumption | exact ixn_nI (by omega)) (hy _) ?_ (shK hsh)
                            refine wp_i2l rfl q8_ok d8_240 ?_
                            refine wp_aload_n (j := 0) rfl q8_ok d8_241 ?_
                            refine wp_getR q8_ok d8_242 fl_0_15 rfl ho1 ho7 ?_
                            refine wp_iload_n (j := 2) rfl q8_ok d8_245 ?_
                            refine wp_iald (m := 32) q8_ok d8_246 ho4 ho5 (by first | assumption | exact ixn_nI (by omega)) (hy _) ?_ (shK hsh)
                            refine wp_i2l rfl q8_ok d8_247 ?_
                            refine wp_cS q8_ok d8_248 ml_0_32 rfl q9_ok rfl rfl rfl (Nat.le_of_ble_eq_true rfl) (Nat.le_of_ble_eq_true rfl) (c_joined _ _ _) (fun v248 μ248 hc => ?_)
                            obtain ⟨rfl, rfl⟩ := hc
                            refine ⟨mm_le_same rfl, ?_⟩
                            refine wp_iast (m := 32) q8_ok d8_251 ho4 ho5 (by first | assumption | exact ixn_nI (by omega)) ?_
                            refine wp_iinc (j := 4) rfl (by first | exact inc1 | rfl) (rfl : _ = [_, _, _, _, _, _, _]) q8_ok d8_252 ?_
                            refine wp_goto (t := 7) rfl q8_ok d8_255 ?_
                            rw [rs_up]
                            refine wp_post (ih (a + 1) _ (top - 1) 0 _ _ (by omega) (by omega)) (fun v μ hv => ?_)
                            rw [wrF, if_neg (fun z => z rfl), if_neg h64, if_pos (Or.inr h76), if_neg (by omega), if_neg h141, if_neg h157, if_neg h191, if_neg (by have := t_nle1 h217 (by omega); omega)]
                            exact hv
                        · have h191 := Classical.not_not.mp h191
                          refine wp_iinc (j := 2) rfl (nI_dec h1t) (rfl : _ = [_, _, _, _, _, _, _]) q8_ok d8_194 ?_
                          refine wp_aload_n (j := 0) rfl q8_ok d8_197 ?_
                          refine wp_getR q8_ok d8_198 fl_0_15 rfl ho1 ho7 ?_
                          refine wp_iload_n (j := 2) rfl q8_ok d8_201 ?_
                          refine wp_iald (m := 32) q8_ok d8_202 ho4 ho5 (by first | assumption | exact ixn_nI (by omega)) (hy _) ?_ (shK hsh)
                          refine wp_if_ne q8_ok d8_203 (t := 210) rfl (fun h203 => ?_) (fun h203 => ?_)
                          · refine wp_iconst (v := 0) (by decide) q8_ok d8_210 ?_
                            refine wp_istore_n (j := 3) (Nat.le_of_ble_eq_true rfl) (rfl : _ = [_, _, _, _, _, _, _]) q8_ok d8_211 ?_
                            refine wp_goto (t := 252) rfl q8_ok d8_212 ?_
                            refine wp_iinc (j := 4) rfl (by first | exact inc1 | rfl) (rfl : _ = [_, _, _, _, _, _, _]) q8_ok d8_252 ?_
                            refine wp_goto (t := 7) rfl q8_ok d8_255 ?_
                            refine wp_post (ih (a + 1) y (top - 1) 0 _ _ (by omega) (by omega)) (fun v μ hv => ?_)
                            rw [wrF, if_neg (fun z => z rfl), if_neg h64, if_pos (Or.inr h76), if_neg (by omega), if_neg h141, if_neg h157, if_pos h191, if_neg h203]
                            exact hv
                          · have h203 := Classical.not_not.mp h203
                            refine wp_iconst (v := 1) (by decide) q8_ok d8_206 ?_
                            refine wp_goto (t := 211) rfl q8_ok d8_207 ?_
                            refine wp_istore_n (j := 3) (Nat.le_of_ble_eq_true rfl) (rfl : _ = [_, _, _, _, _, _, _]) q8_ok d8_211 ?_
                            refine wp_goto (t := 252) rfl q8_ok d8_212 ?_
                            refine wp_iinc (j := 4) rfl (by first | exact inc1 | rfl) (rfl : _ = [_, _, _, _, _, _, _]) q8_ok d8_252 ?_
                            refine wp_goto (t := 7) rfl q8_ok d8_255 ?_
                            refine wp_post (ih (a + 1) y (top - 1) 1 _ _ (by omega) (by omega)) (fun v μ hv => ?_)
                            rw [wrF, if_neg (fun z => z rfl), if_neg h64, if_pos (Or.inr h76), if_neg (by omega), if_neg h141, if_neg h157, if_pos h191, if_pos h203]
                            exact hv
                      · have h157 := Classical.not_not.mp h157
                        refine wp_aload_n (j := 0) rfl q8_ok d8_160 ?_
                        refine wp_getR q8_ok d8_161 fl_0_15 rfl ho1 ho7 ?_
                        refine wp_iload_n (j := 2) rfl q8_ok d8_164 ?_
                        refine wp_iconst (v := 1) (by decide) q8_ok d8_165 ?_
                        refine wp_isub (nI_sub1 h1t) q8_ok d8_166 ?_
                        refine wp_aload_n (j := 0) rfl q8_ok d8_167 ?_
                        refine wp_getR q8_ok d8_168 fl_0_15 rfl ho1 ho7 ?_
                        refine wp_iload_n (j := 2) rfl q8_ok d8_171 ?_
                        refine wp_iconst (v := 1) (by decide) q8_ok d8_172 ?_
                        refine wp_isub (nI_sub1 h1t) q8_ok d8_173 ?_
                        refine wp_iald (m := 32) q8_ok d8_174 ho4 ho5 (by first | assumption | exact ixn_nI (by omega)) (hy _) ?_ (shK hsh)
                        refine wp_if_ne q8_ok d8_175 (t := 182) rfl (fun h175 => ?_) (fun h175 => ?_)
                        · refine wp_iconst (v := 0) (by decide) q8_ok d8_182 ?_
                          refine wp_iast (m := 32) q8_ok d8_183 ho4 ho5 (by first | assumption | exact ixn_nI (by omega)) ?_
                          refine wp_goto (t := 252) rfl q8_ok d8_184 ?_
                          refine wp_iinc (j := 4) rfl (by first | exact inc1 | rfl) (rfl : _ = [_, _, _, _, _, _, _]) q8_ok d8_252 ?_
                          refine wp_goto (t := 7) rfl q8_ok d8_255 ?_
                          rw [rs_up]
                          refine wp_post (ih (a + 1) _ top 0 _ _ (by omega) (by omega)) (fun v μ hv => ?_)
                          rw [wrF, if_neg (fun z => z rfl), if_neg h64, if_pos (Or.inr h76), if_neg (by omega), if_neg h141, if_pos h157, if_neg h175]
                          exact hv
                        · have h175 := Classical.not_not.mp h175
                          refine wp_iconst (v := 1) (by decide) q8_ok d8_178 ?_
                          refine wp_goto (t := 183) rfl q8_ok d8_179 ?_
                          refine wp_iast (m := 32) q8_ok d8_183 ho4 ho5 (by first | assumption | exact ixn_nI (by omega)) ?_
                          refine wp_goto (t := 252) rfl q8_ok d8_184 ?_
                          refine wp_iinc (j := 4) rfl (by first | exact inc1 | rfl) (rfl : _ = [_, _, _, _, _, _, _]) q8_ok d8_252 ?_
                          refine wp_goto (t := 7) rfl q8_ok d8_255 ?_
                          rw [rs_up]
                          refine wp_post (ih (a + 1) _ top 0 _ _ (by omega) (by omega)) (fun v μ hv => ?_)
                          rw [wrF, if_neg (fun z => z rfl), if_neg h64, if_pos (Or.inr h76), if_neg (by omega), if_neg h141, if_pos h157, if_pos h175]
                          exact hv
                    · have h141 := Classical.not_not.mp h141
                      refine wp_aload_n (j := 0) rfl q8_ok d8_144 ?_
                      refine wp_getR q8_ok d8_145 fl_0_15 rfl ho1 ho7 ?_
                      refine wp_iload_n (j := 2) rfl q8_ok d8_148 ?_
                      refine wp_iconst (v := 1) (by decide) q8_ok d8_149 ?_
                      refine wp_isub (nI_sub1 h1t) q8_ok d8_150 ?_
                      refine wp_iald (m := 32) q8_ok d8_151 ho4 ho5 (by first | assumption | exact ixn_nI (by omega)) (hy _) ?_ (shK hsh)
                      refine wp_iret q8_ok d8_152 rfl ?_
                      exact ⟨by rw [wrF, if_neg (fun z => z rfl), if_neg h64, if_pos (Or.inr h76), if_neg (by omega), if_pos h141], y, rfl⟩
                  · exact absurd (nI_le (show top ≤ 32 by omega) (by omega)) h132
              · refine wp_iload (j := 6) rfl q8_ok d8_79 ?_
                refine wp_aload_n (j := 1) rfl q8_ok d8_81 ?_
                refine wp_alen (m := 6) q8_ok d8_82 (shlt hsh (Nat.le_of_ble_eq_true rfl)) (sht hsh (Nat.le_of_ble_eq_true rfl) (Nat.le_of_ble_eq_true rfl)) (by first | assumption | exact shl hsh (Nat.le_of_ble_eq_true rfl) rfl) rfl ?_ (shK hsh)
                refine wp_icmp_ge q8_ok d8_83 (t := 121) rfl (fun h83 => ?_) (fun h83 => ?_)
                · exact absurd h83 h76
                · refine wp_iload_n (j := 2) rfl q8_ok d8_86 ?_
                  refine wp_aload_n (j := 0) rfl q8_ok d8_87 ?_
                  refine wp_getR q8_ok d8_88 fl_0_15 rfl ho1 ho7 ?_
                  refine wp_alen (m := 32) q8_ok d8_91 ho4.1 (so20 ho4) ho5 rfl ?_ (shK hsh)
                  refine wp_icmp_ge q8_ok d8_92 (t := 252) rfl (fun h92 => ?_) (fun h92 => ?_)
                  · refine wp_iinc (j := 4) rfl (by first | exact inc1 | rfl) (rfl : _ = [_, _, _, _, _, _, _]) q8_ok d8_252 ?_
                    refine wp_goto (t := 7) rfl q8_ok d8_255 ?_
                    refine wp_post (ih (a + 1) y top 0 _ _ (by omega) (by omega)) (fun v μ hv => ?_)
                    rw [wrF, if_neg (fun z => z rfl), if_neg h64, if_neg (fun z => z.elim h69 h76), if_pos (t_ge h92 (by decide) (by omega))]
                    exact hv
                  · have ht32 : top < 32 := Nat.lt_of_not_le (fun q => h92 (nI_le q (by omega)))
                    refine wp_aload_n (j := 0) rfl q8_ok d8_95 ?_
                    refine wp_getR q8_ok d8_96 fl_0_15 rfl ho1 ho7 ?_
                    refine wp_iload_n (j := 2) rfl q8_ok d8_99 ?_
                    refine wp_iload (j := 5) rfl q8_ok d8_100 ?_
                    refine wp_if_lt q8_ok d8_102 (t := 110) rfl (fun h102 => ?_) (fun h102 => ?_)
                    · refine wp_aload_n (j := 1) rfl q8_ok d8_110 ?_
                      refine wp_iload (j := 6) rfl q8_ok d8_111 ?_
                      refine wp_iald (m := 6) q8_ok d8_113 (by first | assumption | exact so0 hsh rfl) (by first | assumption | exact shl hsh (Nat.le_of_ble_eq_true rfl) rfl) (ixn_of h69 h76) (hlet _) ?_ (shK hsh)
                      refine wp_iast (m := 32) q8_ok d8_114 ho4 ho5 (by first | assumption | exact ixn_nI (by omega)) ?_
                      refine wp_iinc (j := 2) rfl (by first | exact inc1 | rfl) (rfl : _ = [_, _, _, _, _, _, _]) q8_ok d8_115 ?_
                      refine wp_goto (t := 252) rfl q8_ok d8_118 ?_
                      refine wp_iinc (j := 4) rfl (by first | exact inc1 | rfl) (rfl : _ = [_, _, _, _, _, _, _]) q8_ok d8_252 ?_
                      refine wp_goto (t := 7) rfl q8_ok d8_255 ?_
                      rw [rs_up]
                      refine wp_post (ih (a + 1) _ (top + 1) 0 _ _ (by omega) (by omega)) (fun v μ hv => ?_)
                      rw [wrF, if_neg (fun z => z rfl), if_neg h64, if_neg (fun z => z.elim h69 h76), if_neg (by omega)]
                      exact hv
                    · exact absurd (Int32.not_lt.mp h102) h64
        · refine wp_iload (j := 5) rfl q8_ok d8_46 ?_
          refine wp_bipush (v := -10) (by decide) q8_ok d8_48 ?_
          refine wp_icmp_eq q8_ok d8_50 (t := 57) rfl (fun h50 => ?_) (fun h50 => ?_)
          · refine wp_iconst (v := 0) (by decide) q8_ok d8_57 ?_
            refine wp_istore_n (j := 3) (Nat.le_of_ble_eq_true rfl) (rfl : _ = [_, _, _, _, _, _, _]) q8_ok d8_58 ?_
            refine wp_goto (t := 252) rfl q8_ok d8_59 ?_
            refine wp_iinc (j := 4) rfl (by first | exact inc1 | rfl) (rfl : _ = [_, _, _, _, _, _, _]) q8_ok d8_252 ?_
            refine wp_goto (t := 7) rfl q8_ok d8_255 ?_
            refine wp_post (ih (a + 1) y top 0 _ _ (by omega) (by omega)) (fun v μ hv => ?_)
            rw [wrF, if_pos h43, if_pos h50]
            exact hv
          · refine wp_iconst (v := 1) (by decide) q8_ok d8_53 ?_
            refine wp_goto (t := 58) rfl q8_ok d8_54 ?_
            refine wp_istore_n (j := 3) (Nat.le_of_ble_eq_true rfl) (rfl : _ = [_, _, _, _, _, _, _]) q8_ok d8_58 ?_
            refine wp_goto (t := 252) rfl q8_ok d8_59 ?_
            refine wp_iinc (j := 4) rfl (by first | exact inc1 | rfl) (rfl : _ = [_, _, _, _, _, _, _]) q8_ok d8_252 ?_
            refine wp_goto (t := 7) rfl q8_ok d8_255 ?_
            refine wp_post (ih (a + 1) y top 1 _ _ (by omega) (by omega)) (fun v μ hv => ?_)
            rw [wrF, if_pos h43, if_neg h50]
            exact hv
theorem c_worth {xs : List Int32} {ext : mm_X} {n : Nat} {sh : mm_S} {d : mm_D} {g : mm_G} {r : mm_R} (hsh : shp sh) (hr : rfx r) {h len : Nat} (hh : hb sh r h) (h33 : 33 ≤ h) (hlen : d h 2 = nI len) (hl : len ≤ 160) : wp xs ext (n + 2) 8 0 [some (.ref h), some (.ref 17), none, none, none, none, none] [] (sh, d, g, r) (fun v μ => v = some (.int (wrF (d (h + 1)) (d 17) len 0 (d (h + 2)) 0 0)) ∧ ∃ y2, μ = (sh, mm_rowset d (h + 2) y2, g, r)) := by
  refine wp_iconst (v := 0) (by decide) q8_ok d8_0 ?_
  refine wp_istore_n (j := 2) (Nat.le_of_ble_eq_true rfl) (rfl : _ = [_, _, _, _, _, _, _]) q8_ok d8_1 ?_
  refine wp_iconst (v := 0) (by decide) q8_ok d8_2 ?_
  refine wp_istore_n (j := 3) (Nat.le_of_ble_eq_true rfl) (rfl : _ = [_, _, _, _, _, _, _]) q8_ok d8_3 ?_
  refine wp_iconst (v := 0) (by decide) q8_ok d8_4 ?_
  refine wp_istore (j := 4) (Nat.le_of_ble_eq_true rfl) (rfl : _ = [_, _, _, _, _, _, _]) q8_ok d8_5 ?_
  have e := c_worth_l (n := n) (xs := xs) (ext := ext) (g := g) hsh hr hh h33 hlen hl len 0 (d (h + 2)) 0 0 none none (by omega) (by omega)
  rw [rs_self] at e
  exact e
