/-! ===== the model looks ===== -/
def lawM (d : mm_D) (w : Nat) : Nat → List wo_C → Prop
  | _, [] => True
  | i, c :: cl => (∃ tf sf, d 256 (90 * w + i) = nI tf ∧ d 257 (90 * w + i) = nI sf ∧ d 258 (90 * w + i) = nI (sf + c.2.length) ∧ sf = tf + c.1.length ∧ sf + c.2.length ≤ 340 ∧ segM d (340 * w + tf) c.1 ∧ segM d (340 * w + sf) c.2) ∧ lawM d w (i + 1) cl
theorem law_kf {d d2 : mm_D} (h : kf d d2) {w : Nat} : ∀ {cl : List wo_C} {i : Nat}, lawM d w i cl → lawM d2 w i cl
  | [], _, _ => trivial
  | c :: cl, i, ⟨⟨tf, sf, a1, a2, a3, a4, a5, a6, a7⟩, hl⟩ => ⟨⟨tf, sf, by rw [h 256 (by decide)]; exact a1, by rw [h 257 (by decide)]; exact a2, by rw [h 258 (by decide)]; exact a3, a4, a5, seg_kf h a6, seg_kf h a7⟩, law_kf h hl⟩
theorem kf_refl (d : mm_D) : kf d d := fun _ _ => rfl
theorem kf_trans {d d1 d2 : mm_D} (h : kf d d1) (h' : kf d1 d2) : kf d d2 := fun c hc => (h' c hc).trans (h c hc)
theorem m_wo {xs : List Int32} {ext : mm_X} {n : Nat} {sh : mm_S} {d : mm_D} {g : mm_G} {r : mm_R} (hsh : shp sh) (hr : rfx r) {w f e : Nat} {b : Bool} {cs : List Int32} (hw : w < 5) (he : e ≤ 340) (ht : tyC cs [] = some [b]) (hs : segM d (340 * w + f) cs) (hk : f + cs.length = e) : wp xs ext (n + 3) 164 0 [some (.ref 250), some (.int (nI w)), some (.int (nI f)), some (.int (nI e)), none, none] [] (sh, d, g, r) (fun v μ => v = some (.int ((evC (d 259) cs []).headD 0)) ∧ ∃ d2, μ = (sh, d2, g, r) ∧ kf d d2) := by
  refine wp_iconst (v := 0) (by decide) q164_ok d164_0 ?_
  refine wp_istore (j := 4) (Nat.le_of_ble_eq_true rfl) (rfl : _ = [_, _, _, _, _, _]) q164_ok d164_1 ?_
  refine wp_sipush (v := 340) (by decide) q164_ok d164_3 ?_
  refine wp_iload_n (j := 1) rfl q164_ok d164_6 ?_
  refine wp_imul rfl q164_ok d164_7 ?_
  refine wp_iload_n (j := 2) rfl q164_ok d164_8 ?_
  refine wp_iadd (nI_340 w f) q164_ok d164_9 ?_
  refine wp_istore (j := 5) (Nat.le_of_ble_eq_true rfl) (rfl : _ = [_, _, _, _, _, _]) q164_ok d164_10 ?_
  exact m_wo_l hsh hr hw he cs (340 * w + f) [] [] d ht trivial (by decide) hs trivial (kf_refl d) (by omega)
theorem nI_90 (n f : Nat) : (90 : Int32) * nI n + nI f = nI (90 * n + f) := by
  show Int32.ofNat 90 * Int32.ofNat n + Int32.ofNat f = Int32.ofNat _
  rw [Int32.ofNat_add, Int32.ofNat_mul]
theorem m_worth_l {xs : List Int32} {ext : mm_X} {n : Nat} {sh : mm_S} {d : mm_D} {g : mm_G} {r : mm_R} (hsh : shp sh) (hr : rfx r) {w N : Nat} (hw : w < 5) (hN : N ≤ 90) (h255 : d 255 w = nI N) : ∀ (cl : List wo_C) (i : Nat) (d1 : mm_D), i + cl.length = N → (∀ c, c ∈ cl → okC c) → lawM d w i cl → kf d d1 → wp xs ext (n + 4) 165 5 [some (.ref 250), some (.int (nI w)), some (.int (nI (90 * w + i)))] [] (sh, d1, g, r) (fun v μ => v = some (.int (hwV cl (d 259))) ∧ ∃ d2, μ = (sh, d2, g, r) ∧ kf d d2) := by
  intro cl
  induction cl with
  | nil =>
    intro i d1 hi ho hl hf
    have hie : i = N := by simpa using hi
    subst hie
    have e255 : d1 255 w = nI i := by rw [hf 255 (by decide)]; exact h255
    refine wp_iload_n (j := 2) rfl q165_ok d165_5 ?_
    refine wp_bipush (v := 90) (by decide) q165_ok d165_6 ?_
    refine wp_iload_n (j := 1) rfl q165_ok d165_8 ?_
    refine wp_imul rfl q165_ok d165_9 ?_
    refine wp_aload_n (j := 0) rfl q165_ok d165_10 ?_
    refine wp_getR q165_ok d165_11 fl_11_22 rfl (by first | assumption | exact so0 hsh rfl) (by first | assumption | exact hr _ _ _ rfl) ?_
    refine wp_iload_n (j := 1) rfl q165_ok d165_14 ?_
    refine wp_iald (m := 5) q165_ok d165_15 (by first | assumption | exact so0 hsh rfl) (shl hsh (m := 5) (Nat.le_of_ble_eq_true rfl) rfl) (ixn_nI (show w < 5 by omega)) e255 ?_ (shK hsh)
    refine wp_iadd (nI_90 w i) q165_ok d165_16 ?_
    refine wp_icmp_ge q165_ok d165_17 (t := 79) rfl (fun h17 => ?_) (fun h17 => ?_)
    · refine wp_iconst (v := 0) (by decide) q165_ok d165_79 ?_
      refine wp_iret q165_ok d165_80 rfl ?_
      exact ⟨rfl, d1, rfl, hf⟩
    · exact absurd (nI_le (Nat.le_refl _) (by omega)) h17
  | cons c cl ih =>
    intro i d1 hi ho hl hf
    have hlt : i < N := by rw [List.length_cons] at hi; omega
    have hi2 : i + 1 + cl.length = N := by rw [List.length_cons] at hi; omega
    have e255 : d1 255 w = nI N := by rw [hf 255 (by decide)]; exact h255
    obtain ⟨o1, o2⟩ := ho c (List.mem_cons_self ..)
    obtain ⟨⟨tf, sf, a1, a2, a3, a4, a5, a6, a7⟩, hl2⟩ := hl
    have e1 : d1 256 (90 * w + i) = nI tf := by rw [hf 256 (by decide)]; exact a1
    have e2 : d1 257 (90 * w + i) = nI sf := by rw [hf 257 (by decide)]; exact a2
    have e3 : d1 258 (90 * w + i) = nI (sf + c.2.length) := by rw [hf 258 (by decide)]; exact a3
    have e259 : d1 259 = d 259 := hf _ (by decide)
    have hkb : 90 * w + i < 90 * w + N := by omega
    have hk450 : 90 * w + i < 450 := by omega
    refine wp_iload_n (j := 2) rfl q165_ok d165_5 ?_
    refine wp_bipush (v := 90) (by decide) q165_ok d165_6 ?_
    refine wp_iload_n (j := 1) rfl q165_ok d165_8 ?_
    refine wp_imul rfl q165_ok d165_9 ?_
    refine wp_aload_n (j := 0) rfl q165_ok d165_10 ?_
    refine wp_getR q165_ok d165_11 fl_11_22 rfl (by first | assumption | exact so0 hsh rfl) (by first | assumption | exact hr _ _ _ rfl) ?_
    refine wp_iload_n (j := 1) rfl q165_ok d165_14 ?_
    refine wp_iald (m := 5) q165_ok d165_15 (by first | assumption | exact so0 hsh rfl) (shl hsh (m := 5) (Nat.le_of_ble_eq_true rfl) rfl) (ixn_nI (show w < 5 by omega)) e255 ?_ (shK hsh)
    refine wp_iadd (nI_90 w N) q165_ok d165_16 ?_
    refine wp_icmp_ge q165_ok d165_17 (t := 79) rfl (fun h17 => ?_) (fun h17 => ?_)
    · exact absurd h17 (nI_ge hkb (by omega))
    · refine wp_aload_n (j := 0) rfl q165_ok d165_20 ?_
      refine wp_getR q165_ok d165_21 fl_11_25 rfl (by first | assumption | exact so0 hsh rfl) (by first | assumption | exact hr _ _ _ rfl) ?_
      refine wp_iload_n (j := 2) rfl q165_ok d165_24 ?_
      refine wp_iald (m := 450) q165_ok d165_25 (by first | assumption | exact so0 hsh rfl) (shl hsh (m := 450) (Nat.le_of_ble_eq_true rfl) rfl) (ixn_nI hk450) e1 ?_ (shK hsh)
      refine wp_aload_n (j := 0) rfl q165_ok d165_26 ?_
      refine wp_getR q165_ok d165_27 fl_11_28 rfl (by first | assumption | exact so0 hsh rfl) (by first | assumption | exact hr _ _ _ rfl) ?_
      refine wp_iload_n (j := 2) rfl q165_ok d165_30 ?_
      refine wp_iald (m := 450) q165_ok d165_31 (by first | assumption | exact so0 hsh rfl) (shl hsh (m := 450) (Nat.le_of_ble_eq_true rfl) rfl) (ixn_nI hk450) e2 ?_ (shK hsh)
      refine wp_icmp_eq q165_ok d165_32 (t := 55) rfl (fun h32 => ?_) (fun h32 => ?_)
      · have hq : c.1 = [] := by
          have := nI_inj (by omega) (by omega) (show nI tf = nI sf from h32)
          cases hc : c.1 with
          | nil => rfl
          | cons x y => rw [hc, List.length_cons] at a4; omega
        refine wp_aload_n (j := 0) rfl q165_ok d165_55 ?_
        refine wp_iload_n (j := 1) rfl q165_ok d165_56 ?_
        refine wp_aload_n (j := 0) rfl q165_ok d165_57 ?_
        refine wp_getR q165_ok d165_58 fl_11_28 rfl (by first | assumption | exact so0 hsh rfl) (by first | assumption | exact hr _ _ _ rfl) ?_
        refine wp_iload_n (j := 2) rfl q165_ok d165_61 ?_
        refine wp_iald (m := 450) q165_ok d165_62 (by first | assumption | exact so0 hsh rfl) (shl hsh (m := 450) (Nat.le_of_ble_eq_true rfl) rfl) (ixn_nI hk450) e2 ?_ (shK hsh)
        refine wp_aload_n (j := 0) rfl q165_ok d165_63 ?_
        refine wp_getR q165_ok d165_64 fl_11_31 rfl (by first | assumption | exact so0 hsh rfl) (by first | assumption | exact hr _ _ _ rfl) ?_
        refine wp_iload_n (j := 2) rfl q165_ok d165_67 ?_
        refine wp_iald (m := 450) q165_ok d165_68 (by first | assumption | exact so0 hsh rfl) (shl hsh (m := 450) (Nat.le_of_ble_eq_true rfl) rfl) (ixn_nI hk450) e3 ?_ (shK hsh)
        refine wp_cV q165_ok d165_69 ml_11_214 rfl q164_ok (u := 11) rfl (by first | assumption | exact so0 hsh rfl) rfl (Nat.le_of_ble_eq_true rfl) (Nat.le_of_ble_eq_true rfl) (m_wo hsh hr hw a5 o2 (seg_kf hf a7) rfl) (fun v69 μ69 hc => ?_)
        obtain ⟨rfl, d3, rfl, f3⟩ := hc
        refine ⟨mm_le_same rfl, ?_⟩
        refine wp_iret q165_ok d165_72 rfl ?_
        exact ⟨by rw [hwV, if_pos hq, e259], d3, rfl, kf_trans hf f3⟩
      · have hne : ¬ c.1 = [] := fun q => by
          rw [q, List.length_nil, Nat.add_zero] at a4
          exact h32 (by rw [a4])
        refine wp_aload_n (j := 0) rfl q165_ok d165_35 ?_
        refine wp_iload_n (j := 1) rfl q165_ok d165_36 ?_
        refine wp_aload_n (j := 0) rfl q165_ok d165_37 ?_
        refine wp_getR q165_ok d165_38 fl_11_25 rfl (by first | assumption | exact so0 hsh rfl) (by first | assumption | exact hr _ _ _ rfl) ?_
        refine wp_iload_n (j := 2) rfl q165_ok d165_41 ?_
        refine wp_iald (m := 450) q165_ok d165_42 (by first | assumption | exact so0 hsh rfl) (shl hsh (m := 450) (Nat.le_of_ble_eq_true rfl) rfl) (ixn_nI hk450) e1 ?_ (shK hsh)
        refine wp_aload_n (j := 0) rfl q165_ok d165_43 ?_
        refine wp_getR q165_ok d165_44 fl_11_28 rfl (by first | assumption | exact so0 hsh rfl) (by first | assumption | exact hr _ _ _ rfl) ?_
        refine wp_iload_n (j := 2) rfl q165_ok d165_47 ?_
        refine wp_iald (m := 450) q165_ok d165_48 (by first | assumption | exact so0 hsh rfl) (shl hsh (m := 450) (Nat.le_of_ble_eq_true rfl) rfl) (ixn_nI hk450) e2 ?_ (shK hsh)
        refine wp_cV q165_ok d165_49 ml_11_214 rfl q164_ok (u := 11) rfl (by first | assumption | exact so0 hsh rfl) rfl (Nat.le_of_ble_eq_true rfl) (Nat.le_of_ble_eq_true rfl) (m_wo hsh hr hw (show sf ≤ 340 by omega) (o1.resolve_left hne) (seg_kf hf a6) a4.symm) (fun v49 μ49 hc => ?_)
        obtain ⟨rfl, d3, rfl, f3⟩ := hc
        refine ⟨mm_le_same rfl, ?_⟩
        have hf3 := kf_trans hf f3
        have r2 : d3 257 (90 * w + i) = nI sf := by rw [hf3 257 (by decide)]; exact a2
        have r3 : d3 258 (90 * w + i) = nI (sf + c.2.length) := by rw [hf3 258 (by decide)]; exact a3
        rw [e259]
        refine wp_if_eq q165_ok d165_52 (t := 73) rfl (fun h52 => ?_) (fun h52 => ?_)
        · refine wp_iinc (j := 2) rfl (by first | exact inc1 | rfl) (rfl : _ = [_, _, _]) q165_ok d165_73 ?_
          refine wp_goto (t := 5) rfl q165_ok d165_76 ?_
          rw [hwV, if_neg hne, if_pos h52]
          exact ih (i + 1) d3 hi2 (fun x hx => ho x (List.mem_cons_of_mem _ hx)) hl2 hf3
        · refine wp_aload_n (j := 0) rfl q165_ok d165_55 ?_
          refine wp_iload_n (j := 1) rfl q165_ok d165_56 ?_
          refine wp_aload_n (j := 0) rfl q165_ok d165_57 ?_
          refine wp_getR q165_ok d165_58 fl_11_28 rfl (by first | assumption | exact so0 hsh rfl) (by first | assumption | exact hr _ _ _ rfl) ?_
          refine wp_iload_n (j := 2) rfl q165_ok d165_61 ?_
          refine wp_iald (m := 450) q165_ok d165_62 (by first | assumption | exact so0 hsh rfl) (shl hsh (m := 450) (Nat.le_of_ble_eq_true rfl) rfl) (ixn_nI hk450) r2 ?_ (shK hsh)
          refine wp_aload_n (j := 0) rfl q165_ok d165_63 ?_
          refine wp_getR q165_ok d165_64 fl_11_31 rfl (by first | assumption | exact so0 hsh rfl) (by first | assumption | exact hr _ _ _ rfl) ?_
          refine wp_iload_n (j := 2) rfl q165_ok d165_67 ?_
          refine wp_iald (m := 450) q165_ok d165_68 (by first | assumption | exact so0 hsh rfl) (shl hsh (m := 450) (Nat.le_of_ble_eq_true rfl) rfl) (ixn_nI hk450) r3 ?_ (shK hsh)
          refine wp_cV q165_ok d165_69 ml_11_214 rfl q164_ok (u := 11) rfl (by first | assumption | exact so0 hsh rfl) rfl (Nat.le_of_ble_eq_true rfl) (Nat.le_of_ble_eq_true rfl) (m_wo hsh hr hw a5 o2 (seg_kf hf3 a7) rfl) (fun v69 μ69 hc => ?_)
          obtain ⟨rfl, d4, rfl, f4⟩ := hc
          refine ⟨mm_le_same rfl, ?_⟩
          refine wp_iret q165_ok d165_72 rfl ?_
          exact ⟨by rw [hwV, if_neg hne, if_neg h52, hf3 259 (by decide)], d4, rfl, kf_trans hf3 f4⟩
theorem m_worth {xs : List Int32} {ext : mm_X} {n : Nat} {sh : mm_S} {d : mm_D} {g : mm_G} {r : mm_R} (hsh : shp sh) (hr : rfx r) {w : Nat} {cl : List wo_C} (hw : w < 5) (hN : cl.length ≤ 90) (h255 : d 255 w = nI cl.length) (ho : ∀ c, c ∈ cl → okC c) (hl : lawM d w 0 cl) : wp xs ext (n + 4) 165 0 [some (.ref 250), some (.int (nI w)), none] [] (sh, d, g, r) (fun v μ => v = some (.int (hwV cl (d 259))) ∧ ∃ d2, μ = (sh, d2, g, r) ∧ kf d d2) := by
  refine wp_bipush (v := 90) (by decide) q165_ok d165_0 ?_
  refine wp_iload_n (j := 1) rfl q165_ok d165_2 ?_
  refine wp_imul (show (90 : Int32) * nI w = nI (90 * w + 0) from (Int32.add_zero _).symm.trans (nI_90 w 0)) q165_ok d165_3 ?_
  refine wp_istore_n (j := 2) (Nat.le_of_ble_eq_true rfl) (rfl : _ = [_, _, _]) q165_ok d165_4 ?_
  exact m_worth_l hsh hr hw hN h255 cl 0 d (by omega) ho hl (kf_refl d)
theorem ev1_l {L L' : Nat → Int32} (h : ∀ j, j < 6 → L j = L' j) (c : Int32) (st : List Int32) : ev1 L c st = ev1 L' c st := by
  unfold ev1
  by_cases h0 : 0 ≤ c
  · rw [if_pos h0, if_pos h0]
  · by_cases h1 : isLet c
    · rw [if_neg h0, if_neg h0, if_pos h1, if_pos h1, h _ (ixn_of (fun q => h1 (Or.inl q)) (fun q => h1 (Or.inr q))).2.2]
    · rw [if_neg h0, if_neg h0, if_neg h1, if_neg h1]
theorem evC_l {L L' : Nat → Int32} (h : ∀ j, j < 6 → L j = L' j) : ∀ (cs st : List Int32), evC L cs st = evC L' cs st
  | [], _ => rfl
  | c :: cs, st => by rw [evC, evC, ev1_l h, evC_l h cs]
theorem hwV_l {L L' : Nat → Int32} (h : ∀ j, j < 6 → L j = L' j) : ∀ cl, hwV cl L = hwV cl L'
  | [] => rfl
  | c :: cl => by rw [hwV, hwV, evC_l h, evC_l h, hwV_l h cl]
/-- the model's tower -/
def hM (d : mm_D) (B : wo_A) : Prop := d 250 32 = B.1 ∧ ∀ b, b < 2 → d 268 b = B.2.1 b ∧ d 269 b = B.2.2 b
def ltM (d : mm_D) (p : Nat) (m ow : Int32) : Nat → Int32 := fun j => if j = 5 then nI p else if j = 4 then d 264 (4 * p + 3) else if j = 3 then ow else if j = 2 then m - m / d 266 0 * d 266 0 else if j = 1 then m / d 266 0 else m
def mlk (d : mm_D) (p : Nat) (F : Int32 → Int32 → Int32) : Prop := (d 267 p = -1 ∧ 1 ≤ d 264 (4 * p + 2) ∧ ∀ m ow, onC m (d 264 (4 * p)) (d 264 (4 * p + 1)) (d 264 (4 * p + 2)) = F m ow) ∨ ∃ (w : Nat) (cl : List wo_C), w < 5 ∧ d 267 p = nI w ∧ d 255 w = nI cl.length ∧ cl.length ≤ 90 ∧ (∀ c, c ∈ cl → okC c) ∧ lawM d w 0 cl ∧ ∀ m ow, (if hwV cl (ltM d p m ow) ≤ 0 then 0 else 1) = F m ow
def basT (T : wo_T) (o : wo_O) (p : Nat) (m ow : Int32) : Int32 := match o.2.2.1 with
  | none => tlk T p m ow
  | some x => if p = x.1 then tsp T p x.2 m else tlk T p m ow
def MR (d : mm_D) (T : wo_T) (o : wo_O) : Prop := tnp T ≤ 6 ∧ tnb T ≤ 2 ∧ (tnp T ≠ 0 → 0 < tnb T) ∧ d 250 26 = nI (tnp T) ∧ d 250 27 = nI (tnb T) ∧ d 250 35 = o.1 ∧ d 250 36 = o.2.1 ∧ (o.1 = 0 ∨ o.2.1 = 0) ∧ (∀ p, p < tnp T → mlk d p (basT T o p)) ∧ (∀ p, p < tnp T → d 264 (4 * p + 3) = tfar T p) ∧ (∀ b, b < tnb T → d 266 (3 * b) = thr T b ∧ d 266 (3 * b + 1) = tkd T b ∧ d 266 (3 * b + 2) = trc T b ∧ 1 ≤ thr T b) ∧ ((d 250 28 = 0 ∧ ∀ m, tfg T m = 0) ∨ (d 250 28 = 1 ∧ 1 ≤ d 265 2 ∧ (∀ m, onC m (d 265 0) (d 265 1) (d 265 2) = tfg T m) ∧ d 265 3 = o.2.2.2))
/-- only letters and the stack -/
def lf (d d2 : mm_D) : Prop := ∀ c, c ≠ 259 → c ≠ 260 → d2 c = d c
theorem lf_refl (d : mm_D) : lf d d := fun _ _ _ => rfl
theorem lf_trans {d d1 d2 : mm_D} (h : lf d d1) (h' : lf d1 d2) : lf d d2 := fun c h1 h2 => (h' c h1 h2).trans (h c h1 h2)
theorem law_lf {d d2 : mm_D} (h : lf d d2) {w : Nat} : ∀ {cl : List wo_C} {i : Nat}, lawM d w i cl → lawM d2 w i cl := by
  have sg : ∀ {cs : List Int32} {a : Nat}, segM d a cs → segM d2 a cs := by
    intro cs
    induction cs with
    | nil => intro _ _; trivial
    | cons c cs ih =>
      intro a hs
      refine ⟨?_, ih hs.2⟩
      have h1 := hs.1
      unfold tokR at h1 ⊢
      rw [h 252 (by decide) (by decide), h 253 (by decide) (by decide)]
      exact h1
  intro cl
  induction cl with
  | nil => intro _ _; trivial
  | cons c cl ih =>
    intro i hl
    obtain ⟨⟨tf, sf, a1, a2, a3, a4, a5, a6, a7⟩, hl⟩ := hl
    exact ⟨⟨tf, sf, by rw [h 256 (by decide) (by decide)]; exact a1, by rw [h 257 (by decide) (by decide)]; exact a2, by rw [h 258 (by decide) (by decide)]; exact a3, a4, a5, sg a6, sg a7⟩, ih hl⟩
theorem hasB (x : Int32) {p : Nat} (hp : p < 6) : ((x >>> (nI p &&& 31)) &&& 1 = 1) ↔ gb x p = true := by
  rw [bit_val x hp]
  cases gb x p
  · exact ⟨fun q => absurd q (by decide), fun q => by cases q⟩
  · exact ⟨fun _ => rfl, fun _ => rfl⟩
theorem lkO_m {T : wo_T} {o : wo_O} (hd : o.1 = 0 ∨ o.2.1 = 0) (p : Nat) (m ow : Int32) : lkO T o p m ow = if gb o.1 p = true then 1 else if gb o.2.1 p = true then 0 else basT T o p m ow := by
  unfold lkO basT
  rcases hd with e | e
  · rw [e, gb_0]
    by_cases q : gb o.2.1 p = true
    · rw [if_pos q, if_neg (by decide), if_pos q]
    · rw [if_neg q, if_neg (by decide), if_neg (by decide), if_neg q]
      rfl
  · rw [e, gb_0, if_neg (by decide)]
    by_cases q : gb o.1 p = true
    · rw [if_pos q, if_pos q]
    · rw [if_neg q, if_neg q, if_neg (by decide)]
      rfl
theorem m_looks {xs : List Int32} {ext : mm_X} {n : Nat} {sh : mm_S} {d : mm_D} {g : mm_G} {r : mm_R} (hsh : shp sh) (hr : rfx r) {T : wo_T} {o : wo_O} {B : wo_A} {p : Nat} (hR : MR d T o) (hB : hM d B) (hp : p < tnp T) : wp xs ext (n + 5) 180 0 [some (.ref 250), some (.int (nI p))] [] (sh, d, g, r) (fun v μ => v = some (.int (lkO T o p B.1 (B.2.1 0))) ∧ ∃ d2, μ = (sh, d2, g, r) ∧ lf d d2) := by
  obtain ⟨n6, n2, nb0, e26, e27, e35, e36, hdis, hlk, hfar, hbel, hfog⟩ := hR
  have hp6 : p < 6 := by omega
  have hb0 := nb0 (by omega)
  obtain ⟨g0, _, _, g3⟩ := hbel 0 hb0
  have g0' : d 266 0 = thr T 0 := g0
  have hne : ¬ thr T 0 = 0 := fun e => by rw [e] at g3; exact absurd g3 (by decide)
  rw [lkO_m hdis]
  refine wp_aload_n (j := 0) rfl q180_ok d180_0 ?_
  refine wp_getI q180_ok d180_1 fl_11_295 rfl (by first | assumption | exact so0 hsh rfl) e35 ?_
  refine wp_iload_n (j := 1) rfl q180_ok d180_4 ?_
  refine wp_cS q180_ok d180_5 ml_11_229 rfl q134_ok rfl rfl rfl (Nat.le_of_ble_eq_true rfl) (Nat.le_of_ble_eq_true rfl) (m_has _ _) (fun v5 μ5 hc => ?_)
  obtain ⟨rfl, rfl⟩ := hc
  refine ⟨mm_le_same rfl, ?_⟩
  by_cases q35 : gb o.1 p = true
  · rw [if_pos ((hasB _ hp6).mpr q35)]
    refine wp_if_eq q180_ok d180_8 (t := 13) rfl (fun h8 => ?_) (fun h8 => ?_)
    · exact absurd h8 (by decide)
    · refine wp_iconst (v := 1) (by decide) q180_ok d180_11 ?_
      refine wp_zret q180_ok d180_12 rfl (by first | assumption | exact Or.inl rfl | exact Or.inr rfl) ?_
      exact ⟨by rw [if_pos q35], d, rfl, lf_refl d⟩
  · have n35 : ¬ gb o.1 p = true := q35
    rw [if_neg (fun w => q35 ((hasB _ hp6).mp w))]
    refine wp_if_eq q180_ok d180_8 (t := 13) rfl (fun h8 => ?_) (fun h8 => ?_)
    · refine wp_aload_n (j := 0) rfl q180_ok d180_13 ?_
      refine wp_getI q180_ok d180_14 fl_11_298 rfl (by first | assumption | exact so0 hsh rfl) e36 ?_
      refine wp_iload_n (j := 1) rfl q180_ok d180_17 ?_
      refine wp_cS q180_ok d180_18 ml_11_229 rfl q134_ok rfl rfl rfl (Nat.le_of_ble_eq_true rfl) (Nat.le_of_ble_eq_true rfl) (m_has _ _) (fun v18 μ18 hc => ?_)
      obtain ⟨rfl, rfl⟩ := hc
      refine ⟨mm_le_same rfl, ?_⟩
      by_cases q36 : gb o.2.1 p = true
      · rw [if_pos ((hasB _ hp6).mpr q36)]
        refine wp_if_eq q180_ok d180_21 (t := 26) rfl (fun h21 => ?_) (fun h21 => ?_)
        · exact absurd h21 (by decide)
        · refine wp_iconst (v := 0) (by decide) q180_ok d180_24 ?_
          refine wp_zret q180_ok d180_25 rfl (by first | assumption | exact Or.inl rfl | exact Or.inr rfl) ?_
          exact ⟨by rw [if_neg n35, if_pos q36], d, rfl, lf_refl d⟩
      · have n36 : ¬ gb o.2.1 p = true := q36
        rw [if_neg (fun w => q36 ((hasB _ hp6).mp w))]
        refine wp_if_eq q180_ok d180_21 (t := 26) rfl (fun h21 => ?_) (fun h21 => ?_)
        · rcases hlk p hp with ⟨c1, c2, c3⟩ | ⟨w, cl, c0, c1, c2, c3, c4, c5, c6⟩
          · skip
            refine wp_aload_n (j := 0) rfl q180_ok d180_26 ?_
            refine wp_getR q180_ok d180_27 fl_11_58 rfl (by first | assumption | exact so0 hsh rfl) (by first | assumption | exact hr _ _ _ rfl) ?_
            refine wp_iload_n (j := 1) rfl q180_ok d180_30 ?_
            refine wp_iald (m := 6) q180_ok d180_31 (by first | assumption | exact so0 hsh rfl) (shl hsh (m := 6) (Nat.le_of_ble_eq_true rfl) rfl) (ixn_nI hp6) rfl ?_ (shK hsh)
            refine wp_iconst (v := -1) (by decide) q180_ok d180_32 ?_
            refine wp_icmp_ne q180_ok d180_33 (t := 51) rfl (fun h33 => ?_) (fun h33 => ?_)
            · exact absurd c1 h33
            · have h33 := Classical.not_not.mp h33
              refine wp_aload_n (j := 0) rfl q180_ok d180_36 ?_
              refine wp_getR q180_ok d180_37 fl_11_49 rfl (by first | assumption | exact so0 hsh rfl) (by first | assumption | exact hr _ _ _ rfl) ?_
              refine wp_iconst (v := 4) (by decide) q180_ok d180_40 ?_
              refine wp_iload_n (j := 1) rfl q180_ok d180_41 ?_
              refine wp_imul (show (4 : Int32) * nI p = nI (4 * p) from (Int32.ofNat_mul 4 p).symm) q180_ok d180_42 ?_
              refine wp_aload_n (j := 0) rfl q180_ok d180_43 ?_
              refine wp_getI q180_ok d180_44 fl_11_274 rfl (by first | assumption | exact so0 hsh rfl) hB.1 ?_
              refine wp_cS q180_ok d180_47 ml_11_301 rfl q179_ok rfl rfl rfl (Nat.le_of_ble_eq_true rfl) (Nat.le_of_ble_eq_true rfl) (m_isOn (c := 264) (k := 4 * p) hsh hr (so0 hsh rfl) (by rw [shl hsh (m := 24) (Nat.le_of_ble_eq_true rfl) rfl]; omega) (by rw [shl hsh (m := 24) (Nat.le_of_ble_eq_true rfl) rfl]; decide) rfl rfl rfl c2) (fun v47 μ47 hc => ?_)
              obtain ⟨rfl, rfl⟩ := hc
              refine ⟨mm_le_same rfl, ?_⟩
              refine wp_zret q180_ok d180_50 rfl (onC01 _ _ _ _) ?_
              exact ⟨by rw [if_neg n35, if_neg n36, c3 B.1 (B.2.1 0)], d, rfl, lf_refl d⟩
          · skip
            refine wp_aload_n (j := 0) rfl q180_ok d180_26 ?_
            refine wp_getR q180_ok d180_27 fl_11_58 rfl (by first | assumption | exact so0 hsh rfl) (by first | assumption | exact hr _ _ _ rfl) ?_
            refine wp_iload_n (j := 1) rfl q180_ok d180_30 ?_
            refine wp_iald (m := 6) q180_ok d180_31 (by first | assumption | exact so0 hsh rfl) (shl hsh (m := 6) (Nat.le_of_ble_eq_true rfl) rfl) (ixn_nI hp6) c1 ?_ (shK hsh)
            refine wp_iconst (v := -1) (by decide) q180_ok d180_32 ?_
            refine wp_icmp_ne q180_ok d180_33 (t := 51) rfl (fun h33 => ?_) (fun h33 => ?_)
            · refine wp_aload_n (j := 0) rfl q180_ok d180_51 ?_
              refine wp_getR q180_ok d180_52 fl_11_34 rfl (by first | assumption | exact so0 hsh rfl) (by first | assumption | exact hr _ _ _ rfl) ?_
              refine wp_iconst (v := 0) (by decide) q180_ok d180_55 ?_
              refine wp_aload_n (j := 0) rfl q180_ok d180_56 ?_
              refine wp_getI q180_ok d180_57 fl_11_274 rfl (by first | assumption | exact so0 hsh rfl) hB.1 ?_
              refine wp_iast (m := 6) q180_ok d180_60 (by first | assumption | exact so0 hsh rfl) (shl hsh (m := 6) (Nat.le_of_ble_eq_true rfl) rfl) (ixn_nI (j := 0) (by decide)) ?_
              refine wp_aload_n (j := 0) rfl q180_ok d180_61 ?_
              refine wp_getR q180_ok d180_62 fl_11_34 rfl (by first | assumption | exact so0 hsh rfl) (by first | assumption | exact hr _ _ _ rfl) ?_
              refine wp_iconst (v := 1) (by decide) q180_ok d180_65 ?_
              refine wp_aload_n (j := 0) rfl q180_ok d180_66 ?_
              refine wp_getI q180_ok d180_67 fl_11_274 rfl (by first | assumption | exact so0 hsh rfl) (show _ = _ from (congrFun ((mm_up_ne (by decide))) _).trans hB.1) ?_
              refine wp_aload_n (j := 0) rfl q180_ok d180_70 ?_
              refine wp_getR q180_ok d180_71 fl_11_55 rfl (by first | assumption | exact so0 hsh rfl) (by first | assumption | exact hr _ _ _ rfl) ?_
              refine wp_iconst (v := 0) (by decide) q180_ok d180_74 ?_
              refine wp_iald (m := 6) q180_ok d180_75 (by first | assumption | exact so0 hsh rfl) (shl hsh (m := 6) (Nat.le_of_ble_eq_true rfl) rfl) (ixn_nI (j := 0) (by decide)) (show _ = _ from (congrFun ((mm_up_ne (by decide))) _).trans g0') ?_ (shK hsh)
              refine wp_idiv hne rfl q180_ok d180_76 ?_
              refine wp_iast (m := 6) q180_ok d180_77 (by first | assumption | exact so0 hsh rfl) (shl hsh (m := 6) (Nat.le_of_ble_eq_true rfl) rfl) (ixn_nI (j := 1) (by decide)) ?_
              refine wp_aload_n (j := 0) rfl q180_ok d180_78 ?_
              refine wp_getR q180_ok d180_79 fl_11_34 rfl (by first | assumption | exact so0 hsh rfl) (by first | assumption | exact hr _ _ _ rfl) ?_
              refine wp_iconst (v := 2) (by decide) q180_ok d180_82 ?_
              refine wp_aload_n (j := 0) rfl q180_ok d180_83 ?_
              refine wp_getI q180_ok d180_84 fl_11_274 rfl (by first | assumption | exact so0 hsh rfl) (show _ = _ from (congrFun ((mm_up_ne (by decide)).trans ((mm_up_ne (by decide)))) _).trans hB.1) ?_
              refine wp_aload_n (j := 0) rfl q180_ok d180_87 ?_
              refine wp_getR q180_ok d180_88 fl_11_55 rfl (by first | assumption | exact so0 hsh rfl) (by first | assumption | exact hr _ _ _ rfl) ?_
              refine wp_iconst (v := 0) (by decide) q180_ok d180_91 ?_
              refine wp_iald (m := 6) q180_ok d180_92 (by first | assumption | exact so0 hsh rfl) (shl hsh (m := 6) (Nat.le_of_ble_eq_true rfl) rfl) (ixn_nI (j := 0) (by decide)) (show _ = _ from (congrFun ((mm_up_ne (by decide)).trans ((mm_up_ne (by decide)))) _).trans g0') ?_ (shK hsh)
              refine wp_irem hne rfl q180_ok d180_93 ?_
              refine wp_iast (m := 6) q180_ok d180_94 (by first | assumption | exact so0 hsh rfl) (shl hsh (m := 6) (Nat.le_of_ble_eq_true rfl) rfl) (ixn_nI (j := 2) (by decide)) ?_
              refine wp_aload_n (j := 0) rfl q180_ok d180_95 ?_
              refine wp_getR q180_ok d180_96 fl_11_34 rfl (by first | assumption | exact so0 hsh rfl) (by first | assumption | exact hr _ _ _ rfl) ?_
              refine wp_iconst (v := 3) (by decide) q180_ok d180_99 ?_
              refine wp_aload_n (j := 0) rfl q180_ok d180_100 ?_
              refine wp_getR q180_ok d180_101 fl_11_61 rfl (by first | assumption | exact so0 hsh rfl) (by first | assumption | exact hr _ _ _ rfl) ?_
              refine wp_iconst (v := 0) (by decide) q180_ok d180_104 ?_
              refine wp_iald (m := 2) q180_ok d180_105 (by first | assumption | exact so0 hsh rfl) (shl hsh (m := 2) (Nat.le_of_ble_eq_true rfl) rfl) (ixn_nI (j := 0) (by decide)) (show _ = _ from (congrFun ((mm_up_ne (by decide)).trans ((mm_up_ne (by decide)).trans ((mm_up_ne (by decide))))) _).trans (hB.2 0 (by decide)).1) ?_ (shK hsh)
              refine wp_iast (m := 6) q180_ok d180_106 (by first | assumption | exact so0 hsh rfl) (shl hsh (m := 6) (Nat.le_of_ble_eq_true rfl) rfl) (ixn_nI (j := 3) (by decide)) ?_
              refine wp_aload_n (j := 0) rfl q180_ok d180_107 ?_
              refine wp_getR q180_ok d180_108 fl_11_34 rfl (by first | assumption | exact so0 hsh rfl) (by first | assumption | exact hr _ _ _ rfl) ?_
              refine wp_iconst (v := 4) (by decide) q180_ok d180_111 ?_
              refine wp_aload_n (j := 0) rfl q180_ok d180_112 ?_
              refine wp_getR q180_ok d180_113 fl_11_49 rfl (by first | assumption | exact so0 hsh rfl) (by first | assumption | exact hr _ _ _ rfl) ?_
              refine wp_iconst (v := 4) (by decide) q180_ok d180_116 ?_
              refine wp_iload_n (j := 1) rfl q180_ok d180_117 ?_
              refine wp_imul rfl q180_ok d180_118 ?_
              refine wp_iconst (v := 3) (by decide) q180_ok d180_119 ?_
              refine wp_iadd rfl q180_ok d180_120 ?_
              refine wp_iald (m := 24) q180_ok d180_121 (by first | assumption | exact so0 hsh rfl) (shl hsh (m := 24) (Nat.le_of_ble_eq_true rfl) rfl) (show ixn (4 * nI p + 3) (4 * p + 3) 24 from by rw [show (4 : Int32) * nI p + 3 = nI (4 * p + 3) from nI_4 p 3]; exact ixn_nI (by omega)) (show _ = _ from (congrFun ((mm_up_ne (by decide)).trans ((mm_up_ne (by decide)).trans ((mm_up_ne (by decide)).trans ((mm_up_ne (by decide)))))) _).trans rfl) ?_ (shK hsh)
              refine wp_iast (m := 6) q180_ok d180_122 (by first | assumption | exact so0 hsh rfl) (shl hsh (m := 6) (Nat.le_of_ble_eq_true rfl) rfl) (ixn_nI (j := 4) (by decide)) ?_
              refine wp_aload_n (j := 0) rfl q180_ok d180_123 ?_
              refine wp_getR q180_ok d180_124 fl_11_34 rfl (by first | assumption | exact so0 hsh rfl) (by first | assumption | exact hr _ _ _ rfl) ?_
              refine wp_iconst (v := 5) (by decide) q180_ok d180_127 ?_
              refine wp_iload_n (j := 1) rfl q180_ok d180_128 ?_
              refine wp_iast (m := 6) q180_ok d180_129 (by first | assumption | exact so0 hsh rfl) (shl hsh (m := 6) (Nat.le_of_ble_eq_true rfl) rfl) (ixn_nI (j := 5) (by decide)) ?_
              refine wp_aload_n (j := 0) rfl q180_ok d180_130 ?_
              refine wp_aload_n (j := 0) rfl q180_ok d180_131 ?_
              refine wp_getR q180_ok d180_132 fl_11_58 rfl (by first | assumption | exact so0 hsh rfl) (by first | assumption | exact hr _ _ _ rfl) ?_
              refine wp_iload_n (j := 1) rfl q180_ok d180_135 ?_
              refine wp_iald (m := 6) q180_ok d180_136 (by first | assumption | exact so0 hsh rfl) (shl hsh (m := 6) (Nat.le_of_ble_eq_true rfl) rfl) (ixn_nI hp6) (show _ = _ from (congrFun ((mm_up_ne (by decide)).trans ((mm_up_ne (by decide)).trans ((mm_up_ne (by decide)).trans ((mm_up_ne (by decide)).trans ((mm_up_ne (by decide)).trans ((mm_up_ne (by decide)))))))) _).trans c1) ?_ (shK hsh)
              refine wp_cV q180_ok d180_137 ml_11_305 rfl q165_ok (u := 11) rfl (by first | assumption | exact so0 hsh rfl) rfl (Nat.le_of_ble_eq_true rfl) (Nat.le_of_ble_eq_true rfl) (m_worth hsh hr c0 c3 ((congrFun ((mm_up_ne (by decide)).trans ((mm_up_ne (by decide)).trans ((mm_up_ne (by decide)).trans ((mm_up_ne (by decide)).trans ((mm_up_ne (by decide)).trans ((mm_up_ne (by decide)))))))) _).trans c2) c4 (law_lf (fun c h1 _ => by rw [mm_up_ne h1, mm_up_ne h1, mm_up_ne h1, mm_up_ne h1, mm_up_ne h1, mm_up_ne h1]) c5)) (fun v137 μ137 hc => ?_)
              obtain ⟨rfl, d3, rfl, f3⟩ := hc
              refine ⟨mm_le_same rfl, ?_⟩
              have hL : ∀ (D : mm_D), ∀ j, j < 6 → mm_up (mm_up (mm_up (mm_up (mm_up (mm_up D 259 0 B.1) 259 1 (B.1 / thr T 0)) 259 2 (B.1 - B.1 / thr T 0 * thr T 0)) 259 3 (B.2.1 0)) 259 4 (d 264 (4 * p + 3))) 259 5 (nI p) 259 j = ltM d p B.1 (B.2.1 0) j := fun D j hj => by
                unfold ltM
                rw [mm_up_at, mm_up_at, mm_up_at, mm_up_at, mm_up_at, mm_up_at, g0']
                have : j = 0 ∨ j = 1 ∨ j = 2 ∨ j = 3 ∨ j = 4 ∨ j = 5 := by omega
                rcases this with rfl | rfl | rfl | rfl | rfl | rfl <;> rfl
              have hlf : lf d d3 := fun c h1 h2 => by rw [f3 c h2, mm_up_ne h1, mm_up_ne h1, mm_up_ne h1, mm_up_ne h1, mm_up_ne h1, mm_up_ne h1]
              have hw := c6 B.1 (B.2.1 0)
              rw [hwV_l (hL d)]
              refine wp_if_le q180_ok d180_140 (t := 147) rfl (fun h140 => ?_) (fun h140 => ?_)
              · refine wp_iconst (v := 0) (by decide) q180_ok d180_147 ?_
                refine wp_zret q180_ok d180_148 rfl (by first | assumption | exact Or.inl rfl | exact Or.inr rfl) ?_
                exact ⟨by rw [if_neg n35, if_neg n36, ← hw, if_pos h140], d3, rfl, hlf⟩
              · refine wp_iconst (v := 1) (by decide) q180_ok d180_143 ?_
                refine wp_goto (t := 148) rfl q180_ok d180_144 ?_
                refine wp_zret q180_ok d180_148 rfl (by first | assumption | exact Or.inl rfl | exact Or.inr rfl) ?_
                exact ⟨by rw [if_neg n35, if_neg n36, ← hw, if_neg h140], d3, rfl, hlf⟩
            · have h33 := Classical.not_not.mp h33
              exact absurd h33 (nI_nm1 (by omega))
        · exact absurd rfl h21
    · exact absurd rfl h8
