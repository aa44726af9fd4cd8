/-! ===== what the small machine comes to: rules to walk it ===== -/
section MR
variable {xs : List Int32} {ext : mm_X} {f n k pc : Nat} {L : mm_L} {S : List Value} {μ : mm_M} {q : mm_T}
theorem mr_st {i : Instr} {pc' : Nat} {L' : mm_L} {S' : List Value} {μ' : mm_M} (hq : mm_mt[k]? = some q) (hd : mm_dec q pc = some i) (hi : mm_inv i = none) (hr : mm_ret i q.2.2.2.2.1 S = none) (hs : mm_step xs (decide (q.2.1.name = "<init>")) q.1 i pc L S μ = some (pc', L', S', μ')) (hle : mm_le μ μ' = true) : mm_run xs ext (f + 1) n k pc L S μ = mm_run xs ext f n k pc' L' S' μ' := by
  conv => lhs; unfold mm_run
  rw [hq]
  dsimp only
  rw [hd]
  dsimp only
  rw [hi]
  dsimp only
  rw [hr]
  dsimp only
  rw [hs]
  dsimp only
  rw [if_pos hle]
theorem mr_ret {i : Instr} {v : Option Value} (hq : mm_mt[k]? = some q) (hd : mm_dec q pc = some i) (hi : mm_inv i = none) (hr : mm_ret i q.2.2.2.2.1 S = some v) : mm_run xs ext (f + 1) n k pc L S μ = some (v, μ) := by
  conv => lhs; unfold mm_run
  rw [hq]
  dsimp only
  rw [hd]
  dsimp only
  rw [hi]
  dsimp only
  rw [hr]
theorem mr_call {i : Instr} {idx a : Nat} {lk : Nat × Nat} {t : mm_T} {as rest : List Value} {v : Option Value} {μ' : mm_M} (hq : mm_mt[k]? = some q) (hd : mm_dec q pc = some i) (hi : mm_inv i = some (idx, a)) (hlk : mm_ml q.1 idx = some lk) (hL : ¬ L.length ≠ q.2.2.2.1) (h5 : ¬ (lk.2 = 5 ∧ a = 2)) (hf : mm_fits a lk.2 = true) (ht : mm_mt[lk.1]? = some t) (hc : mm_call μ lk t S = some (as, rest))
    (hr : (if lk.2 = 6 then ext n as μ else mm_run xs ext f n lk.1 0 (mm_entry as t.2.2.2.1) [] μ) = some (v, μ')) (hle : mm_le μ μ' = true) : mm_run xs ext (f + 1) (n + 1) k pc L S μ = mm_run xs ext f (n + 1) k (pc + 3) L (v.toList ++ rest) μ' := by
  conv => lhs; unfold mm_run
  rw [hq]
  dsimp only
  rw [hd]
  dsimp only
  rw [hi]
  dsimp only
  rw [hlk]
  dsimp only
  rw [if_neg hL, if_neg h5, if_pos hf, ht]
  dsimp only
  rw [hc]
  dsimp only
  rw [hr]
  dsimp only
  rw [if_pos hle]
theorem mr_obj {i : Instr} {idx a x : Nat} {lk : Nat × Nat} (hq : mm_mt[k]? = some q) (hd : mm_dec q pc = some i) (hi : mm_inv i = some (idx, a)) (hlk : mm_ml q.1 idx = some lk) (hL : ¬ L.length ≠ q.2.2.2.1) (h5 : lk.2 = 5 ∧ a = 2) (hc : mm_cats S ≤ 8) : mm_run xs ext (f + 1) (n + 1) k pc L (.ref x :: S) μ = mm_run xs ext f (n + 1) k (pc + 3) L S μ := by
  conv => lhs; unfold mm_run
  rw [hq]
  dsimp only
  rw [hd]
  dsimp only
  rw [hi]
  dsimp only
  rw [hlk]
  dsimp only
  rw [if_neg hL, if_pos h5, if_pos hc]
end MR
theorem mm_fuel {xs : List Int32} {ext : mm_X} : ∀ (f n k pc : Nat) (L : mm_L) (S : List Value) (μ : mm_M) (r : Option Value × mm_M), mm_run xs ext f n k pc L S μ = some r → mm_run xs ext (f + 1) n k pc L S μ = some r
  | 0, _, _, _, _, _, _, _, h => by cases h
  | f + 1, n, k, pc, L, S, μ, r, h => by
    unfold mm_run at h
    split at h
    · cases h
    · rename_i q hq
      split at h
      · cases h
      · rename_i i hi
        split at h
        · rename_i idx a hinv
          split at h
          · cases h
          · rename_i n'
            split at h
            · cases h
            · rename_i lk hlk
              split at h
              · cases h
              · rename_i hL
                split at h
                · rename_i h5
                  split at h
                  · split at h
                    · rename_i hc
                      rw [mr_obj hq hi hinv hlk hL h5 hc]
                      exact mm_fuel f _ _ _ _ _ _ _ h
                    · cases h
                  · cases h
                · rename_i h5
                  split at h
                  · rename_i hf
                    split at h
                    · cases h
                    · rename_i t ht
                      split at h
                      · cases h
                      · rename_i as rest hcall
                        split at h
                        · cases h
                        · rename_i v μ' hr
                          have hr' : (if lk.2 = 6 then ext n' as μ else mm_run xs ext (f + 1) n' lk.1 0 (mm_entry as t.2.2.2.1) [] μ) = some (v, μ') := by
                            by_cases h6 : lk.2 = 6
                            · rw [if_pos h6] at hr ⊢; exact hr
                            · rw [if_neg h6] at hr ⊢; exact mm_fuel f _ _ _ _ _ _ _ hr
                          split at h
                          · rename_i hle
                            rw [mr_call hq hi hinv hlk hL h5 hf ht hcall hr' hle]
                            exact mm_fuel f _ _ _ _ _ _ _ h
                          · cases h
                  · cases h
        · rename_i hinv
          split at h
          · rename_i v hv
            rw [mr_ret hq hi hinv hv]
            exact h
          · rename_i hv
            split at h
            · cases h
            · rename_i pc' L' S' μ' hs
              split at h
              · rename_i hle
                rw [mr_st hq hi hinv hv hs hle]
                exact mm_fuel f _ _ _ _ _ _ _ h
              · cases h
theorem mm_fuels {xs : List Int32} {ext : mm_X} {f n k pc : Nat} {L : mm_L} {S : List Value} {μ : mm_M} {r : Option Value × mm_M} (h : mm_run xs ext f n k pc L S μ = some r) (e : Nat) : mm_run xs ext (f + e) n k pc L S μ = some r := by
  induction e with
  | zero => exact h
  | succ e ih => exact mm_fuel _ _ _ _ _ _ _ _ ih
def wp (xs : List Int32) (ext : mm_X) (n k pc : Nat) (L : mm_L) (S : List Value) (μ : mm_M) (Q : Option Value → mm_M → Prop) : Prop := ∃ (f : Nat) (v : Option Value) (μ' : mm_M), mm_run xs ext f n k pc L S μ = some (v, μ') ∧ Q v μ'
theorem wp_post {xs : List Int32} {ext : mm_X} {n k pc : Nat} {L : mm_L} {S : List Value} {μ : mm_M} {Q Q' : Option Value → mm_M → Prop} (h : wp xs ext n k pc L S μ Q) (hQ : ∀ v μ', Q v μ' → Q' v μ') : wp xs ext n k pc L S μ Q' := by
  obtain ⟨f, v, μ', h1, h2⟩ := h
  exact ⟨f, v, μ', h1, hQ _ _ h2⟩
def so (sh : mm_S) (x t : Nat) : Prop := x < sh.1 ∧ (sh.2.2.2 x).1 = t
theorem so_is {sh : mm_S} {d : mm_D} {g : mm_G} {r : mm_R} {x t : Nat} (h : so sh x t) : mm_isO (sh, d, g, r) x t = true := by
  unfold mm_isO
  rw [Bool.and_eq_true, decide_eq_true_eq, decide_eq_true_eq]
  exact h
theorem mm_le_rf (μ : mm_M) : mm_le μ μ = true := by
  unfold mm_le
  rw [Bool.and_eq_true, Bool.and_eq_true, decide_eq_true_eq, decide_eq_true_eq, decide_eq_true_eq]
  exact ⟨Nat.le_refl _, Nat.le_refl _, Nat.le_refl _⟩
theorem mm_le_same {μ μ' : mm_M} (h : μ'.1 = μ.1) : mm_le μ μ' = true := by
  unfold mm_le
  rw [h, Bool.and_eq_true, Bool.and_eq_true, decide_eq_true_eq, decide_eq_true_eq, decide_eq_true_eq]
  exact ⟨Nat.le_refl _, Nat.le_refl _, Nat.le_refl _⟩
theorem mm_le_push (μ : mm_M) (t n s : Nat) : mm_le μ (mm_push μ t n s) = true := by
  unfold mm_le
  rw [Bool.and_eq_true, Bool.and_eq_true, decide_eq_true_eq, decide_eq_true_eq, decide_eq_true_eq]
  exact ⟨Nat.le_succ _, Nat.le_succ _, Nat.le_add_right _ _⟩
theorem ix_ok {i : Int32} {j n : Nat} (hj : i.toNatClampNeg = j) (h0 : 0 ≤ i) (hl : j < n) : mm_ix i n = true := by
  unfold mm_ix
  rw [Bool.and_eq_true, decide_eq_true_eq, decide_eq_true_eq]
  exact ⟨h0, by rw [hj]; exact hl⟩
/-- an index: the number j, below n -/
def ixn (i : Int32) (j n : Nat) : Prop := i.toNatClampNeg = j ∧ 0 ≤ i ∧ j < n
theorem ixn_nI {j n : Nat} (h : j < n) (hn : n < 2 ^ 31 := by decide) : ixn (nI j) j n := ⟨nI_clamp (by omega), nI_pos' (by omega), h⟩
section WP
variable {xs : List Int32} {ext : mm_X} {n k pc : Nat} {L : mm_L} {S : List Value} {μ : mm_M} {Q : Option Value → mm_M → Prop} {q : mm_T} {sh : mm_S} {d : mm_D} {g : mm_G} {r : mm_R}
theorem wp_st {i : Instr} {pc' : Nat} {L' : mm_L} {S' : List Value} {μ' : mm_M} (hq : mm_mt[k]? = some q) (hd : mm_dec q pc = some i) (hi : mm_inv i = none) (hr : mm_ret i q.2.2.2.2.1 S = none) (hs : mm_step xs (decide (q.2.1.name = "<init>")) q.1 i pc L S μ = some (pc', L', S', μ')) (hle : mm_le μ μ' = true) (h : wp xs ext n k pc' L' S' μ' Q) : wp xs ext n k pc L S μ Q := by
  obtain ⟨f, v, μ2, h1, h2⟩ := h
  exact ⟨f + 1, v, μ2, (mr_st hq hd hi hr hs hle).trans h1, h2⟩
theorem wp_return {i : Instr} {v : Option Value} (hq : mm_mt[k]? = some q) (hd : mm_dec q pc = some i) (hi : mm_inv i = none) (hr : mm_ret i q.2.2.2.2.1 S = some v) (h : Q v μ) : wp xs ext n k pc L S μ Q := ⟨1, v, μ, mr_ret hq hd hi hr, h⟩
theorem wp_call {i : Instr} {idx a k' kind : Nat} {t : mm_T} {as rest : List Value} (hq : mm_mt[k]? = some q) (hd : mm_dec q pc = some i) (hi : mm_inv i = some (idx, a)) (hlk : mm_ml q.1 idx = some (k', kind)) (hL : L.length = q.2.2.2.1) (h5 : kind < 5) (hf : mm_fits a kind = true) (ht : mm_mt[k']? = some t) (hc : mm_call μ (k', kind) t S = some (as, rest))
    (hcall : wp xs ext n k' 0 (mm_entry as t.2.2.2.1) [] μ (fun v μ' => mm_le μ μ' = true ∧ wp xs ext (n + 1) k (pc + 3) L (v.toList ++ rest) μ' Q)) : wp xs ext (n + 1) k pc L S μ Q := by
  obtain ⟨f, v, μ1, h1, hle, f2, v2, μ2, h3, h4⟩ := hcall
  refine ⟨f + f2 + 1, v2, μ2, ?_, h4⟩
  rw [mr_call hq hd hi hlk (fun h => h hL) (fun h => by have := h.1; dsimp only at this; omega) hf ht hc (by rw [if_neg (by show ¬ kind = 6; omega)]; exact mm_fuels h1 f2) hle, Nat.add_comm f f2]
  exact mm_fuels h3 f
theorem wp_ext {idx : Nat} {t : mm_T} {as rest : List Value} {v : Option Value} {μ1 : mm_M} (hq : mm_mt[k]? = some q) (hd : mm_dec q pc = some (.invokestatic idx)) (hlk : mm_ml q.1 idx = some (1, 6)) (hL : L.length = q.2.2.2.1) (ht : mm_mt[1]? = some t) (hc : mm_call μ (1, 6) t S = some (as, rest)) (he : ext n as μ = some (v, μ1)) (hle : mm_le μ μ1 = true)
    (h : wp xs ext (n + 1) k (pc + 3) L (v.toList ++ rest) μ1 Q) : wp xs ext (n + 1) k pc L S μ Q := by
  obtain ⟨f, v2, μ2, h1, h2⟩ := h
  exact ⟨f + 1, v2, μ2, (mr_call (a := 1) hq hd rfl hlk (fun h => h hL) (fun h => by cases h.2) rfl ht hc (by rw [if_pos rfl]; exact he) hle).trans h1, h2⟩
theorem wp_objinit {idx x k' : Nat} (hq : mm_mt[k]? = some q) (hd : mm_dec q pc = some (.invokespecial idx)) (hlk : mm_ml q.1 idx = some (k', 5)) (hL : L.length = q.2.2.2.1) (hc : mm_cats S ≤ 8) (h : wp xs ext (n + 1) k (pc + 3) L S μ Q) : wp xs ext (n + 1) k pc L (.ref x :: S) μ Q := by
  obtain ⟨f, v2, μ2, h1, h2⟩ := h
  exact ⟨f + 1, v2, μ2, (mr_obj (a := 2) hq hd rfl hlk (fun h => h hL) ⟨rfl, rfl⟩ hc).trans h1, h2⟩
theorem wp_iconst {c : Int} {v : Int32} (hv : Int32.ofInt c = v) (hq : mm_mt[k]? = some q) (hd : mm_dec q pc = some (.iconst c)) (h : wp xs ext n k (pc + 1) L (.int v :: S) μ Q) : wp xs ext n k pc L (S) μ Q :=
  wp_st hq hd rfl rfl (by rw [← hv]; rfl) (mm_le_rf _) h
theorem wp_bipush {c : Int} {v : Int32} (hv : (Int8.ofInt c).toInt32 = v) (hq : mm_mt[k]? = some q) (hd : mm_dec q pc = some (.bipush c)) (h : wp xs ext n k (pc + 2) L (.int v :: S) μ Q) : wp xs ext n k pc L (S) μ Q :=
  wp_st hq hd rfl rfl (by rw [← hv]; rfl) (mm_le_rf _) h
theorem wp_sipush {c : Int} {v : Int32} (hv : (Int16.ofInt c).toInt32 = v) (hq : mm_mt[k]? = some q) (hd : mm_dec q pc = some (.sipush c)) (h : wp xs ext n k (pc + 3) L (.int v :: S) μ Q) : wp xs ext n k pc L (S) μ Q :=
  wp_st hq hd rfl rfl (by rw [← hv]; rfl) (mm_le_rf _) h
theorem wp_lconst {c : Fin 2} {v : Int64} (hv : Int64.ofNat (c : Nat) = v) (hq : mm_mt[k]? = some q) (hd : mm_dec q pc = some (.lconst c)) (h : wp xs ext n k (pc + 1) L (.long v :: S) μ Q) : wp xs ext n k pc L (S) μ Q :=
  wp_st hq hd rfl rfl (by rw [← hv]; rfl) (mm_le_rf _) h
theorem wp_null  (hq : mm_mt[k]? = some q) (hd : mm_dec q pc = some (.aconst_null)) (h : wp xs ext n k (pc + 1) L (.null :: S) μ Q) : wp xs ext n k pc L (S) μ Q :=
  wp_st hq hd rfl rfl rfl (mm_le_rf _) h
theorem wp_ldc {idx : Nat} {v : Int32} (hk : mm_kc q.1 idx = some v) (hq : mm_mt[k]? = some q) (hd : mm_dec q pc = some (.ldc idx)) (h : wp xs ext n k (pc + 2) L (.int v :: S) μ Q) : wp xs ext n k pc L (S) μ Q :=
  wp_st hq hd rfl rfl (by simp only [mm_step, hk]; rfl) (mm_le_rf _) h
theorem wp_ldc_w {idx : Nat} {v : Int32} (hk : mm_kc q.1 idx = some v) (hq : mm_mt[k]? = some q) (hd : mm_dec q pc = some (.ldc_w idx)) (h : wp xs ext n k (pc + 3) L (.int v :: S) μ Q) : wp xs ext n k pc L (S) μ Q :=
  wp_st hq hd rfl rfl (by simp only [mm_step, hk]; rfl) (mm_le_rf _) h
theorem wp_ldc2 {idx : Nat} {v : Int64} (hk : mm_kl q.1 idx = some v) (hq : mm_mt[k]? = some q) (hd : mm_dec q pc = some (.ldc2_w idx)) (h : wp xs ext n k (pc + 3) L (.long v :: S) μ Q) : wp xs ext n k pc L (S) μ Q :=
  wp_st hq hd rfl rfl (by simp only [mm_step, hk]; rfl) (mm_le_rf _) h
theorem wp_iload_n {j : Fin 4} {x : Int32} (hL : L[(j : Nat)]? = some (some (.int x))) (hq : mm_mt[k]? = some q) (hd : mm_dec q pc = some (.iload_n j)) (h : wp xs ext n k (pc + 1) L (.int x :: S) μ Q) : wp xs ext n k pc L (S) μ Q :=
  wp_st hq hd rfl rfl (by simp only [mm_step, mm_ldI]; rw [hL]) (mm_le_rf _) h
theorem wp_lload_n {j : Fin 4} {x : Int64} (hL : L[(j : Nat)]? = some (some (.long x))) (hq : mm_mt[k]? = some q) (hd : mm_dec q pc = some (.lload_n j)) (h : wp xs ext n k (pc + 1) L (.long x :: S) μ Q) : wp xs ext n k pc L (S) μ Q :=
  wp_st hq hd rfl rfl (by simp only [mm_step, mm_ldJ]; rw [hL]) (mm_le_rf _) h
theorem wp_aload_n {j : Fin 4} {x : Nat} (hL : L[(j : Nat)]? = some (some (.ref x))) (hq : mm_mt[k]? = some q) (hd : mm_dec q pc = some (.aload_n j)) (h : wp xs ext n k (pc + 1) L (.ref x :: S) μ Q) : wp xs ext n k pc L (S) μ Q :=
  wp_st hq hd rfl rfl (by simp only [mm_step, mm_ldA]; rw [hL]) (mm_le_rf _) h
theorem wp_aload_nN {j : Fin 4} (hL : L[(j : Nat)]? = some (some .null)) (hq : mm_mt[k]? = some q) (hd : mm_dec q pc = some (.aload_n j)) (h : wp xs ext n k (pc + 1) L (.null :: S) μ Q) : wp xs ext n k pc L (S) μ Q :=
  wp_st hq hd rfl rfl (by simp only [mm_step, mm_ldA]; rw [hL]) (mm_le_rf _) h
theorem wp_istore_n {j : Fin 4} {x : Int32} {L2 : mm_L} (hj : (j : Nat) < L.length) (hL : mm_s1 L j (.int x) = L2) (hq : mm_mt[k]? = some q) (hd : mm_dec q pc = some (.istore_n j)) (h : wp xs ext n k (pc + 1) L2 (S) μ Q) : wp xs ext n k pc L (.int x :: S) μ Q :=
  wp_st hq hd rfl rfl (by subst hL; simp only [mm_step, mm_stI]; rw [if_pos hj]) (mm_le_rf _) h
theorem wp_astore_n {j : Fin 4} {x : Nat} {L2 : mm_L} (hj : (j : Nat) < L.length) (hL : mm_s1 L j (.ref x) = L2) (hq : mm_mt[k]? = some q) (hd : mm_dec q pc = some (.astore_n j)) (h : wp xs ext n k (pc + 1) L2 (S) μ Q) : wp xs ext n k pc L (.ref x :: S) μ Q :=
  wp_st hq hd rfl rfl (by subst hL; simp only [mm_step, mm_stA]; rw [if_pos hj]) (mm_le_rf _) h
theorem wp_astore_nN {j : Fin 4} {L2 : mm_L} (hj : (j : Nat) < L.length) (hL : mm_s1 L j (.null) = L2) (hq : mm_mt[k]? = some q) (hd : mm_dec q pc = some (.astore_n j)) (h : wp xs ext n k (pc + 1) L2 (S) μ Q) : wp xs ext n k pc L (.null :: S) μ Q :=
  wp_st hq hd rfl rfl (by subst hL; simp only [mm_step, mm_stA]; rw [if_pos hj]) (mm_le_rf _) h
theorem wp_lstore_n {j : Fin 4} {x : Int64} {L2 : mm_L} (hj : (j : Nat) + 1 < L.length) (hL : mm_s2 L j (.long x) = L2) (hq : mm_mt[k]? = some q) (hd : mm_dec q pc = some (.lstore_n j)) (h : wp xs ext n k (pc + 1) L2 (S) μ Q) : wp xs ext n k pc L (.long x :: S) μ Q :=
  wp_st hq hd rfl rfl (by subst hL; simp only [mm_step, mm_stJ]; rw [if_pos hj]) (mm_le_rf _) h
theorem wp_iload {j : Nat} {x : Int32} (hL : L[(j : Nat)]? = some (some (.int x))) (hq : mm_mt[k]? = some q) (hd : mm_dec q pc = some (.iload  j)) (h : wp xs ext n k (pc + 2) L (.int x :: S) μ Q) : wp xs ext n k pc L (S) μ Q :=
  wp_st hq hd rfl rfl (by simp only [mm_step, mm_ldI]; rw [hL]) (mm_le_rf _) h
theorem wp_lload {j : Nat} {x : Int64} (hL : L[(j : Nat)]? = some (some (.long x))) (hq : mm_mt[k]? = some q) (hd : mm_dec q pc = some (.lload  j)) (h : wp xs ext n k (pc + 2) L (.long x :: S) μ Q) : wp xs ext n k pc L (S) μ Q :=
  wp_st hq hd rfl rfl (by simp only [mm_step, mm_ldJ]; rw [hL]) (mm_le_rf _) h
theorem wp_aload {j : Nat} {x : Nat} (hL : L[(j : Nat)]? = some (some (.ref x))) (hq : mm_mt[k]? = some q) (hd : mm_dec q pc = some (.aload  j)) (h : wp xs ext n k (pc + 2) L (.ref x :: S) μ Q) : wp xs ext n k pc L (S) μ Q :=
  wp_st hq hd rfl rfl (by simp only [mm_step, mm_ldA]; rw [hL]) (mm_le_rf _) h
theorem wp_aloadN {j : Nat} (hL : L[(j : Nat)]? = some (some .null)) (hq : mm_mt[k]? = some q) (hd : mm_dec q pc = some (.aload  j)) (h : wp xs ext n k (pc + 2) L (.null :: S) μ Q) : wp xs ext n k pc L (S) μ Q :=
  wp_st hq hd rfl rfl (by simp only [mm_step, mm_ldA]; rw [hL]) (mm_le_rf _) h
theorem wp_istore {j : Nat} {x : Int32} {L2 : mm_L} (hj : (j : Nat) < L.length) (hL : mm_s1 L j (.int x) = L2) (hq : mm_mt[k]? = some q) (hd : mm_dec q pc = some (.istore  j)) (h : wp xs ext n k (pc + 2) L2 (S) μ Q) : wp xs ext n k pc L (.int x :: S) μ Q :=
  wp_st hq hd rfl rfl (by subst hL; simp only [mm_step, mm_stI]; rw [if_pos hj]) (mm_le_rf _) h
theorem wp_astore {j : Nat} {x : Nat} {L2 : mm_L} (hj : (j : Nat) < L.length) (hL : mm_s1 L j (.ref x) = L2) (hq : mm_mt[k]? = some q) (hd : mm_dec q pc = some (.astore  j)) (h : wp xs ext n k (pc + 2) L2 (S) μ Q) : wp xs ext n k pc L (.ref x :: S) μ Q :=
  wp_st hq hd rfl rfl (by subst hL; simp only [mm_step, mm_stA]; rw [if_pos hj]) (mm_le_rf _) h
theorem wp_astoreN {j : Nat} {L2 : mm_L} (hj : (j : Nat) < L.length) (hL : mm_s1 L j (.null) = L2) (hq : mm_mt[k]? = some q) (hd : mm_dec q pc = some (.astore  j)) (h : wp xs ext n k (pc + 2) L2 (S) μ Q) : wp xs ext n k pc L (.null :: S) μ Q :=
  wp_st hq hd rfl rfl (by subst hL; simp only [mm_step, mm_stA]; rw [if_pos hj]) (mm_le_rf _) h
theorem wp_lstore {j : Nat} {x : Int64} {L2 : mm_L} (hj : (j : Nat) + 1 < L.length) (hL : mm_s2 L j (.long x) = L2) (hq : mm_mt[k]? = some q) (hd : mm_dec q pc = some (.lstore  j)) (h : wp xs ext n k (pc + 2) L2 (S) μ Q) : wp xs ext n k pc L (.long x :: S) μ Q :=
  wp_st hq hd rfl rfl (by subst hL; simp only [mm_step, mm_stJ]; rw [if_pos hj]) (mm_le_rf _) h
theorem wp_iinc {j : Nat} {c : Int} {x v : Int32} {L2 : mm_L} (hx : L[j]? = some (some (.int x))) (hv : x + Int32.ofInt c = v) (hL : mm_s1 L j (.int v) = L2) (hq : mm_mt[k]? = some q) (hd : mm_dec q pc = some (.iinc j c)) (h : wp xs ext n k (pc + 3) L2 (S) μ Q) : wp xs ext n k pc L (S) μ Q :=
  wp_st hq hd rfl rfl (by subst hL; subst hv; simp only [mm_step]; rw [hx]) (mm_le_rf _) h
theorem wp_iadd {x y v : Int32} (hv : x + y = v) (hq : mm_mt[k]? = some q) (hd : mm_dec q pc = some (.iadd)) (h : wp xs ext n k (pc + 1) L (.int v :: S) μ Q) : wp xs ext n k pc L (.int y :: .int x :: S) μ Q :=
  wp_st hq hd rfl rfl (by subst hv; rfl) (mm_le_rf _) h
theorem wp_isub {x y v : Int32} (hv : x - y = v) (hq : mm_mt[k]? = some q) (hd : mm_dec q pc = some (.isub)) (h : wp xs ext n k (pc + 1) L (.int v :: S) μ Q) : wp xs ext n k pc L (.int y :: .int x :: S) μ Q :=
  wp_st hq hd rfl rfl (by subst hv; rfl) (mm_le_rf _) h
theorem wp_imul {x y v : Int32} (hv : x * y = v) (hq : mm_mt[k]? = some q) (hd : mm_dec q pc = some (.imul)) (h : wp xs ext n k (pc + 1) L (.int v :: S) μ Q) : wp xs ext n k pc L (.int y :: .int x :: S) μ Q :=
  wp_st hq hd rfl rfl (by subst hv; rfl) (mm_le_rf _) h
theorem wp_iand {x y v : Int32} (hv : x &&& y = v) (hq : mm_mt[k]? = some q) (hd : mm_dec q pc = some (.iand)) (h : wp xs ext n k (pc + 1) L (.int v :: S) μ Q) : wp xs ext n k pc L (.int y :: .int x :: S) μ Q :=
  wp_st hq hd rfl rfl (by subst hv; rfl) (mm_le_rf _) h
theorem wp_ior {x y v : Int32} (hv : x ||| y = v) (hq : mm_mt[k]? = some q) (hd : mm_dec q pc = some (.ior)) (h : wp xs ext n k (pc + 1) L (.int v :: S) μ Q) : wp xs ext n k pc L (.int y :: .int x :: S) μ Q :=
  wp_st hq hd rfl rfl (by subst hv; rfl) (mm_le_rf _) h
theorem wp_ixor {x y v : Int32} (hv : x ^^^ y = v) (hq : mm_mt[k]? = some q) (hd : mm_dec q pc = some (.ixor)) (h : wp xs ext n k (pc + 1) L (.int v :: S) μ Q) : wp xs ext n k pc L (.int y :: .int x :: S) μ Q :=
  wp_st hq hd rfl rfl (by subst hv; rfl) (mm_le_rf _) h
theorem wp_ishl {x y v : Int32} (hv : x <<< (y &&& 31) = v) (hq : mm_mt[k]? = some q) (hd : mm_dec q pc = some (.ishl)) (h : wp xs ext n k (pc + 1) L (.int v :: S) μ Q) : wp xs ext n k pc L (.int y :: .int x :: S) μ Q :=
  wp_st hq hd rfl rfl (by subst hv; rfl) (mm_le_rf _) h
theorem wp_ishr {x y v : Int32} (hv : x >>> (y &&& 31) = v) (hq : mm_mt[k]? = some q) (hd : mm_dec q pc = some (.ishr)) (h : wp xs ext n k (pc + 1) L (.int v :: S) μ Q) : wp xs ext n k pc L (.int y :: .int x :: S) μ Q :=
  wp_st hq hd rfl rfl (by subst hv; rfl) (mm_le_rf _) h
theorem wp_iushr {x y v : Int32} (hv : (x.toUInt32 >>> (y.toUInt32 &&& Int32.toUInt32 31)).toInt32 = v) (hq : mm_mt[k]? = some q) (hd : mm_dec q pc = some (.iushr)) (h : wp xs ext n k (pc + 1) L (.int v :: S) μ Q) : wp xs ext n k pc L (.int y :: .int x :: S) μ Q :=
  wp_st hq hd rfl rfl (by subst hv; rfl) (mm_le_rf _) h
theorem wp_ladd {x y v : Int64} (hv : x + y = v) (hq : mm_mt[k]? = some q) (hd : mm_dec q pc = some (.ladd)) (h : wp xs ext n k (pc + 1) L (.long v :: S) μ Q) : wp xs ext n k pc L (.long y :: .long x :: S) μ Q :=
  wp_st hq hd rfl rfl (by subst hv; rfl) (mm_le_rf _) h
theorem wp_lsub {x y v : Int64} (hv : x - y = v) (hq : mm_mt[k]? = some q) (hd : mm_dec q pc = some (.lsub)) (h : wp xs ext n k (pc + 1) L (.long v :: S) μ Q) : wp xs ext n k pc L (.long y :: .long x :: S) μ Q :=
  wp_st hq hd rfl rfl (by subst hv; rfl) (mm_le_rf _) h
theorem wp_lmul {x y v : Int64} (hv : x * y = v) (hq : mm_mt[k]? = some q) (hd : mm_dec q pc = some (.lmul)) (h : wp xs ext n k (pc + 1) L (.long v :: S) μ Q) : wp xs ext n k pc L (.long y :: .long x :: S) μ Q :=
  wp_st hq hd rfl rfl (by subst hv; rfl) (mm_le_rf _) h
theorem wp_land {x y v : Int64} (hv : x &&& y = v) (hq : mm_mt[k]? = some q) (hd : mm_dec q pc = some (.land)) (h : wp xs ext n k (pc + 1) L (.long v :: S) μ Q) : wp xs ext n k pc L (.long y :: .long x :: S) μ Q :=
  wp_st hq hd rfl rfl (by subst hv; rfl) (mm_le_rf _) h
theorem wp_lor {x y v : Int64} (hv : x ||| y = v) (hq : mm_mt[k]? = some q) (hd : mm_dec q pc = some (.lor)) (h : wp xs ext n k (pc + 1) L (.long v :: S) μ Q) : wp xs ext n k pc L (.long y :: .long x :: S) μ Q :=
  wp_st hq hd rfl rfl (by subst hv; rfl) (mm_le_rf _) h
theorem wp_idiv {x y v : Int32} (hne : ¬ y = 0) (hv : x / y = v) (hq : mm_mt[k]? = some q) (hd : mm_dec q pc = some (.idiv)) (h : wp xs ext n k (pc + 1) L (.int v :: S) μ Q) : wp xs ext n k pc L (.int y :: .int x :: S) μ Q :=
  wp_st hq hd rfl rfl (by subst hv; unfold mm_step mm_divI; (try dsimp only); rw [if_neg hne]) (mm_le_rf _) h
theorem wp_irem {x y v : Int32} (hne : ¬ y = 0) (hv : x - (x / y) * y = v) (hq : mm_mt[k]? = some q) (hd : mm_dec q pc = some (.irem)) (h : wp xs ext n k (pc + 1) L (.int v :: S) μ Q) : wp xs ext n k pc L (.int y :: .int x :: S) μ Q :=
  wp_st hq hd rfl rfl (by subst hv; unfold mm_step mm_divI; (try dsimp only); rw [if_neg hne]) (mm_le_rf _) h
theorem wp_ldiv {x y v : Int64} (hne : ¬ y = 0) (hv : x / y = v) (hq : mm_mt[k]? = some q) (hd : mm_dec q pc = some (.ldiv)) (h : wp xs ext n k (pc + 1) L (.long v :: S) μ Q) : wp xs ext n k pc L (.long y :: .long x :: S) μ Q :=
  wp_st hq hd rfl rfl (by subst hv; unfold mm_step mm_divJ; (try dsimp only); rw [if_neg hne]) (mm_le_rf _) h
theorem wp_lrem {x y v : Int64} (hne : ¬ y = 0) (hv : x - (x / y) * y = v) (hq : mm_mt[k]? = some q) (hd : mm_dec q pc = some (.lrem)) (h : wp xs ext n k (pc + 1) L (.long v :: S) μ Q) : wp xs ext n k pc L (.long y :: .long x :: S) μ Q :=
  wp_st hq hd rfl rfl (by subst hv; unfold mm_step mm_divJ; (try dsimp only); rw [if_neg hne]) (mm_le_rf _) h
theorem wp_lushr {x v : Int64} {y : Int32} (hv : (x.toUInt64 >>> (y.toInt64.toUInt64 &&& Int64.toUInt64 63)).toInt64 = v) (hq : mm_mt[k]? = some q) (hd : mm_dec q pc = some (.lushr)) (h : wp xs ext n k (pc + 1) L (.long v :: S) μ Q) : wp xs ext n k pc L (.int y :: .long x :: S) μ Q :=
  wp_st hq hd rfl rfl (by subst hv; rfl) (mm_le_rf _) h
theorem wp_lshl {x v : Int64} {y : Int32} (hv : x <<< (y.toInt64 &&& 63) = v) (hq : mm_mt[k]? = some q) (hd : mm_dec q pc = some (.lshl)) (h : wp xs ext n k (pc + 1) L (.long v :: S) μ Q) : wp xs ext n k pc L (.int y :: .long x :: S) μ Q :=
  wp_st hq hd rfl rfl (by subst hv; rfl) (mm_le_rf _) h
theorem wp_lcmp {x y : Int64} {v : Int32} (hv : lg_cmp x y = v) (hq : mm_mt[k]? = some q) (hd : mm_dec q pc = some (.lcmp)) (h : wp xs ext n k (pc + 1) L (.int v :: S) μ Q) : wp xs ext n k pc L (.long y :: .long x :: S) μ Q :=
  wp_st hq hd rfl rfl (by subst hv; rfl) (mm_le_rf _) h
theorem wp_i2l {x : Int32} {v : Int64} (hv : x.toInt64 = v) (hq : mm_mt[k]? = some q) (hd : mm_dec q pc = some (.i2l)) (h : wp xs ext n k (pc + 1) L (.long v :: S) μ Q) : wp xs ext n k pc L (.int x :: S) μ Q :=
  wp_st hq hd rfl rfl (by subst hv; rfl) (mm_le_rf _) h
theorem wp_l2i {x : Int64} {v : Int32} (hv : x.toInt32 = v) (hq : mm_mt[k]? = some q) (hd : mm_dec q pc = some (.l2i)) (h : wp xs ext n k (pc + 1) L (.int v :: S) μ Q) : wp xs ext n k pc L (.long x :: S) μ Q :=
  wp_st hq hd rfl rfl (by subst hv; rfl) (mm_le_rf _) h
theorem wp_dup {v : Value} (hv : v.category = 1) (hq : mm_mt[k]? = some q) (hd : mm_dec q pc = some (.dup)) (h : wp xs ext n k (pc + 1) L (v :: v :: S) μ Q) : wp xs ext n k pc L (v :: S) μ Q :=
  wp_st hq hd rfl rfl (by unfold mm_step; (try dsimp only); rw [if_pos hv]) (mm_le_rf _) h
theorem wp_pop {v : Value} (hv : v.category = 1) (hq : mm_mt[k]? = some q) (hd : mm_dec q pc = some (.pop)) (h : wp xs ext n k (pc + 1) L (S) μ Q) : wp xs ext n k pc L (v :: S) μ Q :=
  wp_st hq hd rfl rfl (by unfold mm_step; (try dsimp only); rw [if_pos hv]) (mm_le_rf _) h
theorem wp_dup2 {v w : Value} (hv : v.category = 1) (hw : w.category = 1) (hq : mm_mt[k]? = some q) (hd : mm_dec q pc = some (.dup2)) (h : wp xs ext n k (pc + 1) L (v :: w :: v :: w :: S) μ Q) : wp xs ext n k pc L (v :: w :: S) μ Q :=
  wp_st hq hd rfl rfl (by unfold mm_step; (try dsimp only); rw [if_pos ⟨hv, hw⟩]) (mm_le_rf _) h
theorem wp_icmp_eq {x y : Int32} {off : Int} {t : Nat} (hq : mm_mt[k]? = some q) (hd : mm_dec q pc = some (.if_icmp .eq off)) (ht : mm_jmp pc off = some t) (h1 : x = y → wp xs ext n k t L S μ Q) (h2 : ¬ (x = y) → wp xs ext n k (pc + 3) L S μ Q) : wp xs ext n k pc L (.int y :: .int x :: S) μ Q := by
  by_cases hc : x = y
  · exact wp_st hq hd rfl rfl (by unfold mm_step mm_br mm_cnd; (try dsimp only); rw [ht, decide_eq_true hc]; rfl) (mm_le_rf _) (h1 hc)
  · exact wp_st hq hd rfl rfl (by unfold mm_step mm_br mm_cnd; (try dsimp only); rw [ht, decide_eq_false hc]; rfl) (mm_le_rf _) (h2 hc)
theorem wp_if_eq {x : Int32} {off : Int} {t : Nat} (hq : mm_mt[k]? = some q) (hd : mm_dec q pc = some (.ifCond .eq off)) (ht : mm_jmp pc off = some t) (h1 : x = 0 → wp xs ext n k t L S μ Q) (h2 : ¬ (x = 0) → wp xs ext n k (pc + 3) L S μ Q) : wp xs ext n k pc L (.int x :: S) μ Q := by
  by_cases hc : x = 0
  · exact wp_st hq hd rfl rfl (by unfold mm_step mm_br mm_cnd; (try dsimp only); rw [ht, decide_eq_true hc]; rfl) (mm_le_rf _) (h1 hc)
  · exact wp_st hq hd rfl rfl (by unfold mm_step mm_br mm_cnd; (try dsimp only); rw [ht, decide_eq_false hc]; rfl) (mm_le_rf _) (h2 hc)
theorem wp_icmp_ne {x y : Int32} {off : Int} {t : Nat} (hq : mm_mt[k]? = some q) (hd : mm_dec q pc = some (.if_icmp .ne off)) (ht : mm_jmp pc off = some t) (h1 : ¬ x = y → wp xs ext n k t L S μ Q) (h2 : ¬ (¬ x = y) → wp xs ext n k (pc + 3) L S μ Q) : wp xs ext n k pc L (.int y :: .int x :: S) μ Q := by
  by_cases hc : ¬ x = y
  · exact wp_st hq hd rfl rfl (by unfold mm_step mm_br mm_cnd; (try dsimp only); rw [ht, decide_eq_true hc]; rfl) (mm_le_rf _) (h1 hc)
  · exact wp_st hq hd rfl rfl (by unfold mm_step mm_br mm_cnd; (try dsimp only); rw [ht, decide_eq_false hc]; rfl) (mm_le_rf _) (h2 hc)
theorem wp_if_ne {x : Int32} {off : Int} {t : Nat} (hq : mm_mt[k]? = some q) (hd : mm_dec q pc = some (.ifCond .ne off)) (ht : mm_jmp pc off = some t) (h1 : ¬ x = 0 → wp xs ext n k t L S μ Q) (h2 : ¬ (¬ x = 0) → wp xs ext n k (pc + 3) L S μ Q) : wp xs ext n k pc L (.int x :: S) μ Q := by
  by_cases hc : ¬ x = 0
  · exact wp_st hq hd rfl rfl (by unfold mm_step mm_br mm_cnd; (try dsimp only); rw [ht, decide_eq_true hc]; rfl) (mm_le_rf _) (h1 hc)
  · exact wp_st hq hd rfl rfl (by unfold mm_step mm_br mm_cnd; (try dsimp only); rw [ht, decide_eq_false hc]; rfl) (mm_le_rf _) (h2 hc)
theorem wp_icmp_lt {x y : Int32} {off : Int} {t : Nat} (hq : mm_mt[k]? = some q) (hd : mm_dec q pc = some (.if_icmp .lt off)) (ht : mm_jmp pc off = some t) (h1 : x < y → wp xs ext n k t L S μ Q) (h2 : ¬ (x < y) → wp xs ext n k (pc + 3) L S μ Q) : wp xs ext n k pc L (.int y :: .int x :: S) μ Q := by
  by_cases hc : x < y
  · exact wp_st hq hd rfl rfl (by unfold mm_step mm_br mm_cnd; (try dsimp only); rw [ht, decide_eq_true hc]; rfl) (mm_le_rf _) (h1 hc)
  · exact wp_st hq hd rfl rfl (by unfold mm_step mm_br mm_cnd; (try dsimp only); rw [ht, decide_eq_false hc]; rfl) (mm_le_rf _) (h2 hc)
theorem wp_if_lt {x : Int32} {off : Int} {t : Nat} (hq : mm_mt[k]? = some q) (hd : mm_dec q pc = some (.ifCond .lt off)) (ht : mm_jmp pc off = some t) (h1 : x < 0 → wp xs ext n k t L S μ Q) (h2 : ¬ (x < 0) → wp xs ext n k (pc + 3) L S μ Q) : wp xs ext n k pc L (.int x :: S) μ Q := by
  by_cases hc : x < 0
  · exact wp_st hq hd rfl rfl (by unfold mm_step mm_br mm_cnd; (try dsimp only); rw [ht, decide_eq_true hc]; rfl) (mm_le_rf _) (h1 hc)
  · exact wp_st hq hd rfl rfl (by unfold mm_step mm_br mm_cnd; (try dsimp only); rw [ht, decide_eq_false hc]; rfl) (mm_le_rf _) (h2 hc)
theorem wp_icmp_ge {x y : Int32} {off : Int} {t : Nat} (hq : mm_mt[k]? = some q) (hd : mm_dec q pc = some (.if_icmp .ge off)) (ht : mm_jmp pc off = some t) (h1 : y ≤ x → wp xs ext n k t L S μ Q) (h2 : ¬ (y ≤ x) → wp xs ext n k (pc + 3) L S μ Q) : wp xs ext n k pc L (.int y :: .int x :: S) μ Q := by
  by_cases hc : y ≤ x
  · exact wp_st hq hd rfl rfl (by unfold mm_step mm_br mm_cnd; (try dsimp only); rw [ht, decide_eq_true hc]; rfl) (mm_le_rf _) (h1 hc)
  · exact wp_st hq hd rfl rfl (by unfold mm_step mm_br mm_cnd; (try dsimp only); rw [ht, decide_eq_false hc]; rfl) (mm_le_rf _) (h2 hc)
theorem wp_if_ge {x : Int32} {off : Int} {t : Nat} (hq : mm_mt[k]? = some q) (hd : mm_dec q pc = some (.ifCond .ge off)) (ht : mm_jmp pc off = some t) (h1 : 0 ≤ x → wp xs ext n k t L S μ Q) (h2 : ¬ (0 ≤ x) → wp xs ext n k (pc + 3) L S μ Q) : wp xs ext n k pc L (.int x :: S) μ Q := by
  by_cases hc : 0 ≤ x
  · exact wp_st hq hd rfl rfl (by unfold mm_step mm_br mm_cnd; (try dsimp only); rw [ht, decide_eq_true hc]; rfl) (mm_le_rf _) (h1 hc)
  · exact wp_st hq hd rfl rfl (by unfold mm_step mm_br mm_cnd; (try dsimp only); rw [ht, decide_eq_false hc]; rfl) (mm_le_rf _) (h2 hc)
theorem wp_icmp_gt {x y : Int32} {off : Int} {t : Nat} (hq : mm_mt[k]? = some q) (hd : mm_dec q pc = some (.if_icmp .gt off)) (ht : mm_jmp pc off = some t) (h1 : y < x → wp xs ext n k t L S μ Q) (h2 : ¬ (y < x) → wp xs ext n k (pc + 3) L S μ Q) : wp xs ext n k pc L (.int y :: .int x :: S) μ Q := by
  by_cases hc : y < x
  · exact wp_st hq hd rfl rfl (by unfold mm_step mm_br mm_cnd; (try dsimp only); rw [ht, decide_eq_true hc]; rfl) (mm_le_rf _) (h1 hc)
  · exact wp_st hq hd rfl rfl (by unfold mm_step mm_br mm_cnd; (try dsimp only); rw [ht, decide_eq_false hc]; rfl) (mm_le_rf _) (h2 hc)
theorem wp_if_gt {x : Int32} {off : Int} {t : Nat} (hq : mm_mt[k]? = some q) (hd : mm_dec q pc = some (.ifCond .gt off)) (ht : mm_jmp pc off = some t) (h1 : 0 < x → wp xs ext n k t L S μ Q) (h2 : ¬ (0 < x) → wp xs ext n k (pc + 3) L S μ Q) : wp xs ext n k pc L (.int x :: S) μ Q := by
  by_cases hc : 0 < x
  · exact wp_st hq hd rfl rfl (by unfold mm_step mm_br mm_cnd; (try dsimp only); rw [ht, decide_eq_true hc]; rfl) (mm_le_rf _) (h1 hc)
  · exact wp_st hq hd rfl rfl (by unfold mm_step mm_br mm_cnd; (try dsimp only); rw [ht, decide_eq_false hc]; rfl) (mm_le_rf _) (h2 hc)
theorem wp_icmp_le {x y : Int32} {off : Int} {t : Nat} (hq : mm_mt[k]? = some q) (hd : mm_dec q pc = some (.if_icmp .le off)) (ht : mm_jmp pc off = some t) (h1 : x ≤ y → wp xs ext n k t L S μ Q) (h2 : ¬ (x ≤ y) → wp xs ext n k (pc + 3) L S μ Q) : wp xs ext n k pc L (.int y :: .int x :: S) μ Q := by
  by_cases hc : x ≤ y
  · exact wp_st hq hd rfl rfl (by unfold mm_step mm_br mm_cnd; (try dsimp only); rw [ht, decide_eq_true hc]; rfl) (mm_le_rf _) (h1 hc)
  · exact wp_st hq hd rfl rfl (by unfold mm_step mm_br mm_cnd; (try dsimp only); rw [ht, decide_eq_false hc]; rfl) (mm_le_rf _) (h2 hc)
theorem wp_if_le {x : Int32} {off : Int} {t : Nat} (hq : mm_mt[k]? = some q) (hd : mm_dec q pc = some (.ifCond .le off)) (ht : mm_jmp pc off = some t) (h1 : x ≤ 0 → wp xs ext n k t L S μ Q) (h2 : ¬ (x ≤ 0) → wp xs ext n k (pc + 3) L S μ Q) : wp xs ext n k pc L (.int x :: S) μ Q := by
  by_cases hc : x ≤ 0
  · exact wp_st hq hd rfl rfl (by unfold mm_step mm_br mm_cnd; (try dsimp only); rw [ht, decide_eq_true hc]; rfl) (mm_le_rf _) (h1 hc)
  · exact wp_st hq hd rfl rfl (by unfold mm_step mm_br mm_cnd; (try dsimp only); rw [ht, decide_eq_false hc]; rfl) (mm_le_rf _) (h2 hc)
theorem wp_goto {off : Int} {t : Nat} (ht : mm_jmp pc off = some t) (hq : mm_mt[k]? = some q) (hd : mm_dec q pc = some (.goto off)) (h : wp xs ext n k t L (S) μ Q) : wp xs ext n k pc L (S) μ Q :=
  wp_st hq hd rfl rfl (by unfold mm_step; (try dsimp only); rw [ht]; rfl) (mm_le_rf _) h
theorem wp_ifnull {x : Nat} {off : Int} (hq : mm_mt[k]? = some q) (hd : mm_dec q pc = some (.ifnull off)) (h : wp xs ext n k (pc + 3) L (S) μ Q) : wp xs ext n k pc L (.ref x :: S) μ Q :=
  wp_st hq hd rfl rfl rfl (mm_le_rf _) h
theorem wp_ifnonnullN {off : Int} (hq : mm_mt[k]? = some q) (hd : mm_dec q pc = some (.ifnonnull off)) (h : wp xs ext n k (pc + 3) L (S) μ Q) : wp xs ext n k pc L (.null :: S) μ Q :=
  wp_st hq hd rfl rfl rfl (mm_le_rf _) h
theorem wp_ifnonnull {x : Nat} {off : Int} {t : Nat} (ht : mm_jmp pc off = some t) (hq : mm_mt[k]? = some q) (hd : mm_dec q pc = some (.ifnonnull off)) (h : wp xs ext n k t L (S) μ Q) : wp xs ext n k pc L (.ref x :: S) μ Q :=
  wp_st hq hd rfl rfl (by unfold mm_step; (try dsimp only); rw [ht]; rfl) (mm_le_rf _) h
theorem wp_ifnullN {off : Int} {t : Nat} (ht : mm_jmp pc off = some t) (hq : mm_mt[k]? = some q) (hd : mm_dec q pc = some (.ifnull off)) (h : wp xs ext n k t L (S) μ Q) : wp xs ext n k pc L (.null :: S) μ Q :=
  wp_st hq hd rfl rfl (by unfold mm_step; (try dsimp only); rw [ht]; rfl) (mm_le_rf _) h
theorem wp_swO {x : Int32} {dd lo hi : Int} {os : Array Int} {t : Nat} (hq : mm_mt[k]? = some q) (hd : mm_dec q pc = some (.tableswitch dd lo hi os)) (hx : x.toInt < lo ∨ hi < x.toInt) (ht : mm_jmp pc dd = some t) (h : wp xs ext n k t L S μ Q) : wp xs ext n k pc L (.int x :: S) μ Q :=
  wp_st hq hd rfl rfl (by unfold mm_step mm_sw; (try dsimp only); rw [if_pos hx, ht]; rfl) (mm_le_rf _) h
theorem wp_swI {x : Int32} {dd lo hi o : Int} {os : Array Int} {t : Nat} (hq : mm_mt[k]? = some q) (hd : mm_dec q pc = some (.tableswitch dd lo hi os)) (hx : ¬ (x.toInt < lo ∨ hi < x.toInt)) (ho : os[(x.toInt - lo).toNat]? = some o) (ht : mm_jmp pc o = some t) (h : wp xs ext n k t L S μ Q) : wp xs ext n k pc L (.int x :: S) μ Q :=
  wp_st hq hd rfl rfl (by unfold mm_step mm_sw; (try dsimp only); rw [if_neg hx, ho, Option.bind_some, ht]; rfl) (mm_le_rf _) h
theorem wp_getI {t j nest x idx : Nat} {v : Int32} (hq : mm_mt[k]? = some q) (hd : mm_dec q pc = some (.getfield idx)) (hf : mm_fl q.1 idx = some (t, j, nest)) (hk : mm_kd t j = 0) (ho : so sh x t) (hv : d x j = v) (h : wp xs ext n k (pc + 3) L (.int v :: S) (sh, d, g, r) Q) : wp xs ext n k pc L (.ref x :: S) (sh, d, g, r) Q :=
  wp_st hq hd rfl rfl (by unfold mm_step mm_getf; (try dsimp only); rw [hf]; (try dsimp only); rw [if_pos (so_is ho)]; unfold mm_val; simp only [hk, hv]; rfl) (mm_le_rf _) h
theorem wp_getZ {t j nest x idx : Nat} {v : Int32} (hq : mm_mt[k]? = some q) (hd : mm_dec q pc = some (.getfield idx)) (hf : mm_fl q.1 idx = some (t, j, nest)) (hk : mm_kd t j = 3) (ho : so sh x t) (hv : d x j = v) (h : wp xs ext n k (pc + 3) L (.int v :: S) (sh, d, g, r) Q) : wp xs ext n k pc L (.ref x :: S) (sh, d, g, r) Q :=
  wp_st hq hd rfl rfl (by unfold mm_step mm_getf; (try dsimp only); rw [hf]; (try dsimp only); rw [if_pos (so_is ho)]; unfold mm_val; simp only [hk, hv]; rfl) (mm_le_rf _) h
theorem wp_getJ {t j nest x idx : Nat} {v : Int64} (hq : mm_mt[k]? = some q) (hd : mm_dec q pc = some (.getfield idx)) (hf : mm_fl q.1 idx = some (t, j, nest)) (hk : mm_kd t j = 1) (ho : so sh x t) (hv : g x j = v) (h : wp xs ext n k (pc + 3) L (.long v :: S) (sh, d, g, r) Q) : wp xs ext n k pc L (.ref x :: S) (sh, d, g, r) Q :=
  wp_st hq hd rfl rfl (by unfold mm_step mm_getf; (try dsimp only); rw [hf]; (try dsimp only); rw [if_pos (so_is ho)]; unfold mm_val; simp only [hk, hv]; rfl) (mm_le_rf _) h
theorem wp_getR {t j nest x idx : Nat} {y : Nat} (hq : mm_mt[k]? = some q) (hd : mm_dec q pc = some (.getfield idx)) (hf : mm_fl q.1 idx = some (t, j, nest)) (hk : mm_kd t j = 2) (ho : so sh x t) (hv : r x j = some y) (h : wp xs ext n k (pc + 3) L (.ref y :: S) (sh, d, g, r) Q) : wp xs ext n k pc L (.ref x :: S) (sh, d, g, r) Q :=
  wp_st hq hd rfl rfl (by unfold mm_step mm_getf; (try dsimp only); rw [hf]; (try dsimp only); rw [if_pos (so_is ho)]; unfold mm_val; simp only [hk, hv]; rfl) (mm_le_rf _) h
theorem wp_getN {t j nest x idx : Nat}  (hq : mm_mt[k]? = some q) (hd : mm_dec q pc = some (.getfield idx)) (hf : mm_fl q.1 idx = some (t, j, nest)) (hk : mm_kd t j = 2) (ho : so sh x t) (hv : r x j = none) (h : wp xs ext n k (pc + 3) L (.null :: S) (sh, d, g, r) Q) : wp xs ext n k pc L (.ref x :: S) (sh, d, g, r) Q :=
  wp_st hq hd rfl rfl (by unfold mm_step mm_getf; (try dsimp only); rw [hf]; (try dsimp only); rw [if_pos (so_is ho)]; unfold mm_val; simp only [hk, hv]; rfl) (mm_le_rf _) h
theorem wp_putI {t j nest x idx : Nat} {v : Int32} (hq : mm_mt[k]? = some q) (hd : mm_dec q pc = some (.putfield idx)) (hf : mm_fl q.1 idx = some (t, j, nest)) (hk : mm_kd t j = 0) (ho : so sh x t) (hn : ((mm_fld t j).2.2 = false) ∨ (q.2.1.name = "<init>" ∧ t = q.1 ∧ nest = 0)) (h : wp xs ext n k (pc + 3) L S (sh, mm_up d x j v, g, r) Q) : wp xs ext n k pc L (.int v :: .ref x :: S) (sh, d, g, r) Q := by
  refine wp_st hq hd rfl rfl (?_ : mm_step xs (decide (q.2.1.name = "<init>")) q.1 (.putfield idx) pc L (.int v :: .ref x :: S) (sh, d, g, r) = some (pc + 3, L, S, (sh, mm_up d x j v, g, r))) (mm_le_same rfl) h
  unfold mm_step mm_putf
  try dsimp only
  rw [hf]
  try dsimp only
  have hc : (mm_isO (sh, d, g, r) x t && (!(mm_fld t j).2.2 || (decide (q.2.1.name = "<init>") && decide (t = q.1) && decide (nest = 0)))) = true := by
    rw [so_is ho]
    rcases hn with hn | ⟨h1, h2, h3⟩
    · rw [hn]; rfl
    · rw [decide_eq_true h1, decide_eq_true h2, decide_eq_true h3]; simp
  rw [if_pos hc, hk]
  rfl
theorem wp_putZ {t j nest x idx : Nat} {v : Int32} (hq : mm_mt[k]? = some q) (hd : mm_dec q pc = some (.putfield idx)) (hf : mm_fl q.1 idx = some (t, j, nest)) (hk : mm_kd t j = 3) (ho : so sh x t) (hn : ((mm_fld t j).2.2 = false) ∨ (q.2.1.name = "<init>" ∧ t = q.1 ∧ nest = 0)) (h01 : v = 0 ∨ v = 1) (h : wp xs ext n k (pc + 3) L S (sh, mm_up d x j v, g, r) Q) : wp xs ext n k pc L (.int v :: .ref x :: S) (sh, d, g, r) Q := by
  refine wp_st hq hd rfl rfl (?_ : mm_step xs (decide (q.2.1.name = "<init>")) q.1 (.putfield idx) pc L (.int v :: .ref x :: S) (sh, d, g, r) = some (pc + 3, L, S, (sh, mm_up d x j v, g, r))) (mm_le_same rfl) h
  unfold mm_step mm_putf
  try dsimp only
  rw [hf]
  try dsimp only
  have hc : (mm_isO (sh, d, g, r) x t && (!(mm_fld t j).2.2 || (decide (q.2.1.name = "<init>") && decide (t = q.1) && decide (nest = 0)))) = true := by
    rw [so_is ho]
    rcases hn with hn | ⟨h1, h2, h3⟩
    · rw [hn]; rfl
    · rw [decide_eq_true h1, decide_eq_true h2, decide_eq_true h3]; simp
  rw [if_pos hc, hk]
  try dsimp only
  exact if_pos h01
theorem wp_putJ {t j nest x idx : Nat} {v : Int64} (hq : mm_mt[k]? = some q) (hd : mm_dec q pc = some (.putfield idx)) (hf : mm_fl q.1 idx = some (t, j, nest)) (hk : mm_kd t j = 1) (ho : so sh x t) (hn : ((mm_fld t j).2.2 = false) ∨ (q.2.1.name = "<init>" ∧ t = q.1 ∧ nest = 0)) (h : wp xs ext n k (pc + 3) L S (sh, d, mm_up g x j v, r) Q) : wp xs ext n k pc L (.long v :: .ref x :: S) (sh, d, g, r) Q := by
  refine wp_st hq hd rfl rfl (?_ : mm_step xs (decide (q.2.1.name = "<init>")) q.1 (.putfield idx) pc L (.long v :: .ref x :: S) (sh, d, g, r) = some (pc + 3, L, S, (sh, d, mm_up g x j v, r))) (mm_le_same rfl) h
  unfold mm_step mm_putf
  try dsimp only
  rw [hf]
  try dsimp only
  have hc : (mm_isO (sh, d, g, r) x t && (!(mm_fld t j).2.2 || (decide (q.2.1.name = "<init>") && decide (t = q.1) && decide (nest = 0)))) = true := by
    rw [so_is ho]
    rcases hn with hn | ⟨h1, h2, h3⟩
    · rw [hn]; rfl
    · rw [decide_eq_true h1, decide_eq_true h2, decide_eq_true h3]; simp
  rw [if_pos hc, hk]
  rfl
theorem wp_putR {t j nest x idx : Nat} {y : Nat} (hq : mm_mt[k]? = some q) (hd : mm_dec q pc = some (.putfield idx)) (hf : mm_fl q.1 idx = some (t, j, nest)) (hk : mm_kd t j = 2) (ho : so sh x t) (hn : ((mm_fld t j).2.2 = false) ∨ (q.2.1.name = "<init>" ∧ t = q.1 ∧ nest = 0)) (hy : y < sh.1) (h : wp xs ext n k (pc + 3) L S (sh, d, g, mm_up r x j (some y)) Q) : wp xs ext n k pc L (.ref y :: .ref x :: S) (sh, d, g, r) Q := by
  refine wp_st hq hd rfl rfl (?_ : mm_step xs (decide (q.2.1.name = "<init>")) q.1 (.putfield idx) pc L (.ref y :: .ref x :: S) (sh, d, g, r) = some (pc + 3, L, S, (sh, d, g, mm_up r x j (some y)))) (mm_le_same rfl) h
  unfold mm_step mm_putf
  try dsimp only
  rw [hf]
  try dsimp only
  have hc : (mm_isO (sh, d, g, r) x t && (!(mm_fld t j).2.2 || (decide (q.2.1.name = "<init>") && decide (t = q.1) && decide (nest = 0)))) = true := by
    rw [so_is ho]
    rcases hn with hn | ⟨h1, h2, h3⟩
    · rw [hn]; rfl
    · rw [decide_eq_true h1, decide_eq_true h2, decide_eq_true h3]; simp
  rw [if_pos hc, hk]
  try dsimp only
  exact if_pos hy
theorem wp_putN {t j nest x idx : Nat}  (hq : mm_mt[k]? = some q) (hd : mm_dec q pc = some (.putfield idx)) (hf : mm_fl q.1 idx = some (t, j, nest)) (hk : mm_kd t j = 2) (ho : so sh x t) (hn : ((mm_fld t j).2.2 = false) ∨ (q.2.1.name = "<init>" ∧ t = q.1 ∧ nest = 0)) (h : wp xs ext n k (pc + 3) L S (sh, d, g, mm_up r x j none) Q) : wp xs ext n k pc L (.null :: .ref x :: S) (sh, d, g, r) Q := by
  refine wp_st hq hd rfl rfl (?_ : mm_step xs (decide (q.2.1.name = "<init>")) q.1 (.putfield idx) pc L (.null :: .ref x :: S) (sh, d, g, r) = some (pc + 3, L, S, (sh, d, g, mm_up r x j none))) (mm_le_same rfl) h
  unfold mm_step mm_putf
  try dsimp only
  rw [hf]
  try dsimp only
  have hc : (mm_isO (sh, d, g, r) x t && (!(mm_fld t j).2.2 || (decide (q.2.1.name = "<init>") && decide (t = q.1) && decide (nest = 0)))) = true := by
    rw [so_is ho]
    rcases hn with hn | ⟨h1, h2, h3⟩
    · rw [hn]; rfl
    · rw [decide_eq_true h1, decide_eq_true h2, decide_eq_true h3]; simp
  rw [if_pos hc, hk]
  rfl
theorem wp_gets {idx j nest : Nat} (hq : mm_mt[k]? = some q) (hd : mm_dec q pc = some (.getstatic idx)) (hg : mm_gs q.1 idx = some (j, nest)) (h : wp xs ext n k (pc + 3) L (.ref (mm_K + 1 + j) :: S) μ Q) : wp xs ext n k pc L S μ Q :=
  wp_st hq hd rfl rfl (by unfold mm_step; (try dsimp only); rw [hg]; rfl) (mm_le_rf _) h
theorem wp_iald {i v : Int32} {a j m : Nat} (hq : mm_mt[k]? = some q) (hd : mm_dec q pc = some .iaload) (ho : so sh a 20) (hm : (sh.2.2.2 a).2 = m) (hj : ixn i j m) (hv : d a j = v) (h : wp xs ext n k (pc + 1) L (.int v :: S) (sh, d, g, r) Q) (hK : sh.1 ≤ mm_K := by decide) : wp xs ext n k pc L (.int i :: .ref a :: S) (sh, d, g, r) Q := by
  subst hv
  obtain ⟨rfl, h0, hl⟩ := hj
  refine wp_st hq hd rfl rfl ?_ (mm_le_rf _) h
  unfold mm_step mm_iald
  try dsimp only
  have ha := ho.1
  rw [if_neg (by omega), if_pos (by rw [so_is ho]; exact ix_ok rfl h0 (by rw [← hm] at hl; exact hl))]
theorem wp_ialdK {i v : Int32} {a j : Nat} (hq : mm_mt[k]? = some q) (hd : mm_dec q pc = some .iaload) (h1 : mm_K ≤ a) (h2 : a < mm_K + 4) (hj : ixn i j (mm_ca xs a).length) (hv : (mm_ca xs a).getD j 0 = v) (h : wp xs ext n k (pc + 1) L (.int v :: S) μ Q) : wp xs ext n k pc L (.int i :: .ref a :: S) μ Q := by
  subst hv
  obtain ⟨rfl, h0, hl⟩ := hj
  refine wp_st hq hd rfl rfl ?_ (mm_le_rf _) h
  unfold mm_step mm_iald
  try dsimp only
  rw [if_pos h1, if_pos (by rw [decide_eq_true h2, ix_ok rfl h0 hl]; rfl)]
theorem wp_bald {i v : Int32} {a j m : Nat} (hq : mm_mt[k]? = some q) (hd : mm_dec q pc = some .baload) (ho : so sh a 21) (hm : (sh.2.2.2 a).2 = m) (hj : ixn i j m) (hv : d a j = v) (h : wp xs ext n k (pc + 1) L (.int v :: S) (sh, d, g, r) Q) : wp xs ext n k pc L (.int i :: .ref a :: S) (sh, d, g, r) Q := by
  subst hv
  obtain ⟨rfl, h0, hl⟩ := hj
  refine wp_st hq hd rfl rfl ?_ (mm_le_rf _) h
  unfold mm_step mm_bald
  try dsimp only
  rw [if_pos (by rw [so_is ho]; exact ix_ok rfl h0 (by rw [← hm] at hl; exact hl))]
theorem wp_lald {i : Int32} {v : Int64} {a j m : Nat} (hq : mm_mt[k]? = some q) (hd : mm_dec q pc = some .laload) (ho : so sh a 22) (hm : (sh.2.2.2 a).2 = m) (hj : ixn i j m) (hv : g a j = v) (h : wp xs ext n k (pc + 1) L (.long v :: S) (sh, d, g, r) Q) : wp xs ext n k pc L (.int i :: .ref a :: S) (sh, d, g, r) Q := by
  subst hv
  obtain ⟨rfl, h0, hl⟩ := hj
  refine wp_st hq hd rfl rfl ?_ (mm_le_rf _) h
  unfold mm_step mm_lald
  try dsimp only
  rw [if_pos (by rw [so_is ho]; exact ix_ok rfl h0 (by rw [← hm] at hl; exact hl))]
theorem wp_aald {i : Int32} {a j m t y : Nat} (hq : mm_mt[k]? = some q) (hd : mm_dec q pc = some .aaload) (ht : t = 23 ∨ t = 24 ∨ t = 25) (ho : so sh a t) (hm : (sh.2.2.2 a).2 = m) (hj : ixn i j m) (hv : r a j = some y) (h : wp xs ext n k (pc + 1) L (.ref y :: S) (sh, d, g, r) Q) : wp xs ext n k pc L (.int i :: .ref a :: S) (sh, d, g, r) Q := by
  obtain ⟨rfl, h0, hl⟩ := hj
  refine wp_st hq hd rfl rfl (?_ : _ = some (pc + 1, L, va_rf (r a i.toNatClampNeg) :: S, (sh, d, g, r))) (mm_le_rf _) (by rw [hv]; exact h)
  unfold mm_step mm_aald
  try dsimp only
  rw [if_pos]
  rw [ix_ok rfl h0 (by rw [← hm] at hl; exact hl), Bool.and_true]
  rcases ht with rfl | rfl | rfl <;> rw [so_is ho] <;> simp
theorem wp_aaldN {i : Int32} {a j m t : Nat} (hq : mm_mt[k]? = some q) (hd : mm_dec q pc = some .aaload) (ht : t = 23 ∨ t = 24 ∨ t = 25) (ho : so sh a t) (hm : (sh.2.2.2 a).2 = m) (hj : ixn i j m) (hv : r a j = none) (h : wp xs ext n k (pc + 1) L (.null :: S) (sh, d, g, r) Q) : wp xs ext n k pc L (.int i :: .ref a :: S) (sh, d, g, r) Q := by
  obtain ⟨rfl, h0, hl⟩ := hj
  refine wp_st hq hd rfl rfl (?_ : _ = some (pc + 1, L, va_rf (r a i.toNatClampNeg) :: S, (sh, d, g, r))) (mm_le_rf _) (by rw [hv]; exact h)
  unfold mm_step mm_aald
  try dsimp only
  rw [if_pos]
  rw [ix_ok rfl h0 (by rw [← hm] at hl; exact hl), Bool.and_true]
  rcases ht with rfl | rfl | rfl <;> rw [so_is ho] <;> simp
theorem wp_iast {i v : Int32} {a j m : Nat} (hq : mm_mt[k]? = some q) (hd : mm_dec q pc = some .iastore) (ho : so sh a 20) (hm : (sh.2.2.2 a).2 = m) (hj : ixn i j m) (h : wp xs ext n k (pc + 1) L S (sh, mm_up d a j v, g, r) Q) : wp xs ext n k pc L (.int v :: .int i :: .ref a :: S) (sh, d, g, r) Q := by
  obtain ⟨rfl, h0, hl⟩ := hj
  refine wp_st hq hd rfl rfl ?_ (mm_le_same (μ' := (sh, mm_up d a i.toNatClampNeg v, g, r)) rfl) h
  unfold mm_step mm_iast
  try dsimp only
  rw [if_pos (by rw [so_is ho]; exact ix_ok rfl h0 (by rw [← hm] at hl; exact hl))]
theorem wp_bast {i v : Int32} {a j m : Nat} (hq : mm_mt[k]? = some q) (hd : mm_dec q pc = some .bastore) (ho : so sh a 21) (hm : (sh.2.2.2 a).2 = m) (hj : ixn i j m) (h01 : v = 0 ∨ v = 1) (h : wp xs ext n k (pc + 1) L S (sh, mm_up d a j v, g, r) Q) : wp xs ext n k pc L (.int v :: .int i :: .ref a :: S) (sh, d, g, r) Q := by
  obtain ⟨rfl, h0, hl⟩ := hj
  refine wp_st hq hd rfl rfl ?_ (mm_le_same (μ' := (sh, mm_up d a i.toNatClampNeg v, g, r)) rfl) h
  unfold mm_step mm_bast
  try dsimp only
  rw [if_pos (by rw [so_is ho, ix_ok rfl h0 (by rw [← hm] at hl; exact hl)]; rcases h01 with rfl | rfl <;> rfl)]
theorem wp_last {i : Int32} {v : Int64} {a j m : Nat} (hq : mm_mt[k]? = some q) (hd : mm_dec q pc = some .lastore) (ho : so sh a 22) (hm : (sh.2.2.2 a).2 = m) (hj : ixn i j m) (h : wp xs ext n k (pc + 1) L S (sh, d, mm_up g a j v, r) Q) : wp xs ext n k pc L (.long v :: .int i :: .ref a :: S) (sh, d, g, r) Q := by
  obtain ⟨rfl, h0, hl⟩ := hj
  refine wp_st hq hd rfl rfl ?_ (mm_le_same (μ' := (sh, d, mm_up g a i.toNatClampNeg v, r)) rfl) h
  unfold mm_step mm_last
  try dsimp only
  rw [if_pos (by rw [so_is ho]; exact ix_ok rfl h0 (by rw [← hm] at hl; exact hl))]
theorem wp_aast {i : Int32} {a j m t u y : Nat} (hq : mm_mt[k]? = some q) (hd : mm_dec q pc = some .aastore) (ht : (t = 23 ∧ u = 0) ∨ (t = 24 ∧ u = 6)) (ho : so sh a t) (hu : so sh y u) (hm : (sh.2.2.2 a).2 = m) (hj : ixn i j m) (h : wp xs ext n k (pc + 1) L S (sh, d, g, mm_up r a j (some y)) Q) : wp xs ext n k pc L (.ref y :: .int i :: .ref a :: S) (sh, d, g, r) Q := by
  obtain ⟨rfl, h0, hl⟩ := hj
  refine wp_st hq hd rfl rfl ?_ (mm_le_same (μ' := (sh, d, g, mm_up r a i.toNatClampNeg (some y))) rfl) h
  unfold mm_step mm_aast
  try dsimp only
  rw [if_pos]
  rw [ix_ok rfl h0 (by rw [← hm] at hl; exact hl), Bool.and_true]
  rcases ht with ⟨rfl, rfl⟩ | ⟨rfl, rfl⟩ <;> rw [so_is ho, so_is hu] <;> simp
theorem wp_aastN {i : Int32} {a j m t : Nat} (hq : mm_mt[k]? = some q) (hd : mm_dec q pc = some .aastore) (ht : t = 23 ∨ t = 24) (ho : so sh a t) (hm : (sh.2.2.2 a).2 = m) (hj : ixn i j m) (h : wp xs ext n k (pc + 1) L S (sh, d, g, mm_up r a j none) Q) : wp xs ext n k pc L (.null :: .int i :: .ref a :: S) (sh, d, g, r) Q := by
  obtain ⟨rfl, h0, hl⟩ := hj
  refine wp_st hq hd rfl rfl ?_ (mm_le_same (μ' := (sh, d, g, mm_up r a i.toNatClampNeg none)) rfl) h
  unfold mm_step mm_aast
  try dsimp only
  rw [if_pos]
  rw [ix_ok rfl h0 (by rw [← hm] at hl; exact hl), Bool.and_true]
  rcases ht with rfl | rfl <;> rw [so_is ho] <;> simp
theorem wp_alen {a m : Nat} {v : Int32} (hq : mm_mt[k]? = some q) (hd : mm_dec q pc = some .arraylength) (ha : a < sh.1) (ht : 20 ≤ (sh.2.2.2 a).1) (hm : (sh.2.2.2 a).2 = m) (hv : Int32.ofNat m = v) (h : wp xs ext n k (pc + 1) L (.int v :: S) (sh, d, g, r) Q) (hK : sh.1 ≤ mm_K := by decide) : wp xs ext n k pc L (.ref a :: S) (sh, d, g, r) Q := by
  subst hv hm
  refine wp_st hq hd rfl rfl ?_ (mm_le_rf _) h
  unfold mm_step mm_alen
  try dsimp only
  rw [if_neg (by omega), if_pos (by rw [Bool.and_eq_true, decide_eq_true_eq, decide_eq_true_eq]; exact ⟨ha, ht⟩)]
  rfl
theorem wp_alenK {a : Nat} {v : Int32} (hq : mm_mt[k]? = some q) (hd : mm_dec q pc = some .arraylength) (h1 : mm_K ≤ a) (h2 : a < mm_K + 4) (hv : Int32.ofNat (mm_ca xs a).length = v) (h : wp xs ext n k (pc + 1) L (.int v :: S) μ Q) : wp xs ext n k pc L (.ref a :: S) μ Q := by
  subst hv
  refine wp_st hq hd rfl rfl ?_ (mm_le_rf _) h
  unfold mm_step mm_alen
  try dsimp only
  rw [if_pos h1, if_pos h2]
theorem wp_new {t idx : Nat} (hq : mm_mt[k]? = some q) (hd : mm_dec q pc = some (.new idx)) (hk : mm_clk q.1 idx = some t) (hn : mm_next μ < 900000) (h : wp xs ext n k (pc + 3) L (.ref (mm_next μ) :: S) (mm_push μ t 0 (mm_nf t)) Q) : wp xs ext n k pc L S μ Q :=
  wp_st hq hd rfl rfl (by unfold mm_step mm_new; (try dsimp only); rw [hk]; (try dsimp only); rw [if_pos hn]) (mm_le_push _ _ _ _) h
theorem wp_newa {at' : ArrayType} {t : Nat} {c : Int32} {m : Nat} (hq : mm_mt[k]? = some q) (hd : mm_dec q pc = some (.newarray at')) (ht : (at' = .int ∧ t = 20) ∨ (at' = .boolean ∧ t = 21) ∨ (at' = .long ∧ t = 22)) (hc : ixn c m 100000) (hn : mm_next μ < 900000) (h : wp xs ext n k (pc + 2) L (.ref (mm_next μ) :: S) (mm_push μ t m m) Q) : wp xs ext n k pc L (.int c :: S) μ Q := by
  obtain ⟨rfl, h0, hl⟩ := hc
  rcases ht with ⟨rfl, rfl⟩ | ⟨rfl, rfl⟩ | ⟨rfl, rfl⟩ <;> exact wp_st hq hd rfl rfl (by unfold mm_step mm_newa; (try dsimp only); rw [decide_eq_true h0, decide_eq_true hl, decide_eq_true hn]; rfl) (mm_le_push _ _ _ _) h
theorem wp_anew {t idx u : Nat} {c : Int32} {m : Nat} (hq : mm_mt[k]? = some q) (hd : mm_dec q pc = some (.anewarray idx)) (hk : mm_an q.1 idx = some t) (hu : (if t = 0 then 23 else 24) = u) (hc : ixn c m 100000) (hn : mm_next μ < 900000) (h : wp xs ext n k (pc + 3) L (.ref (mm_next μ) :: S) (mm_push μ u m m) Q) : wp xs ext n k pc L (.int c :: S) μ Q := by
  subst hu
  obtain ⟨rfl, h0, hl⟩ := hc
  exact wp_st hq hd rfl rfl (by unfold mm_step mm_anew; (try dsimp only); rw [hk]; (try dsimp only); rw [decide_eq_true h0, decide_eq_true hl, decide_eq_true hn]; rfl) (mm_le_push _ _ _ _) h
theorem wp_iret {v : Int32} (hq : mm_mt[k]? = some q) (hd : mm_dec q pc = some .ireturn) (hr : q.2.2.2.2.1 = some .int) (h : Q (some (.int v)) μ) : wp xs ext n k pc L [.int v] μ Q := wp_return hq hd rfl (by rw [hr]; rfl) h
theorem wp_zret {v : Int32} (hq : mm_mt[k]? = some q) (hd : mm_dec q pc = some .ireturn) (hr : q.2.2.2.2.1 = some .boolean) (h01 : v = 0 ∨ v = 1) (h : Q (some (.int v)) μ) : wp xs ext n k pc L [.int v] μ Q := wp_return hq hd rfl (by rw [hr]; exact if_pos h01) h
theorem wp_lret {v : Int64} (hq : mm_mt[k]? = some q) (hd : mm_dec q pc = some .lreturn) (hr : q.2.2.2.2.1 = some .long) (h : Q (some (.long v)) μ) : wp xs ext n k pc L [.long v] μ Q := wp_return hq hd rfl (by rw [hr]; rfl) h
theorem wp_aret {y : Nat} (hq : mm_mt[k]? = some q) (hd : mm_dec q pc = some .areturn) (hr : q.2.2.2.2.1 = some (.array .int)) (h : Q (some (.ref y)) μ) : wp xs ext n k pc L [.ref y] μ Q := wp_return hq hd rfl (by rw [hr]; rfl) h
theorem wp_aretN (hq : mm_mt[k]? = some q) (hd : mm_dec q pc = some .areturn) (hr : q.2.2.2.2.1 = some (.array .int)) (h : Q (some .null) μ) : wp xs ext n k pc L [.null] μ Q := wp_return hq hd rfl (by rw [hr]; rfl) h
theorem wp_vret (hq : mm_mt[k]? = some q) (hd : mm_dec q pc = some .return_) (hr : q.2.2.2.2.1 = none) (h : Q none μ) : wp xs ext n k pc L [] μ Q := wp_return hq hd rfl (by rw [hr]; rfl) h
end WP
