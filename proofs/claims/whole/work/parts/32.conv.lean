/-! ===== what the questions ask, apart from any memory ===== -/
def smC (X : mm_D) (r : mm_R) (T : wo_T) (o : wo_O) (t n : Nat) (A : wo_A) : Prop := t + 2 < 232 ∧ rdy X r T o t n ∧ X 232 6 = 0 ∧ hA X 233 A ∧ hA X t A
theorem sm_A {X : mm_D} {r : mm_R} {T : wo_T} {o : wo_O} {t n : Nat} {A : wo_A} (h : smC X r T o t n A) {k : Nat} (hk : k ≤ n) : hA (stpN X r t (tnp T) (tnb T) k) 233 (aN T o A k) := (sim (by have := h.1; omega) h.2.1 h.2.2.1 h.2.2.2.1 h.2.2.2.2.1.symm k hk).2.2.1
theorem sm_rang {X : mm_D} {r : mm_R} {T : wo_T} {o : wo_O} {t n : Nat} {A : wo_A} (h : smC X r T o t n A) {k j : Nat} (hk : k ≤ n) (hj : j < k) : stpN X r t (tnp T) (tnb T) k 237 j = b01 (rbA T o (aN T o A j) &&& 1) := (sim (by have := h.1; omega) h.2.1 h.2.2.1 h.2.2.2.1 h.2.2.2.2.1.symm k hk).2.2.2 j hj
theorem sm_12 {X : mm_D} {r : mm_R} {T : wo_T} {o : wo_O} {t n : Nat} {A : wo_A} (h : smC X r T o t n A) {k : Nat} (hk : k < n) : stpN X r t (tnp T) (tnb T) (k + 1) 232 12 = loB T o (aN T o A k).1 ((aN T o A k).2.1 0) ∧ stpN X r t (tnp T) (tnb T) (k + 1) 232 13 = seB T o (aN T o A k).1 ((aN T o A k).2.1 0) ∧ stpN X r t (tnp T) (tnb T) (k + 1) 232 14 = rbA T o (aN T o A k) := sim12 (by have := h.1; omega) h.2.1 h.2.2.1 h.2.2.2.1 h.2.2.2.2.1.symm hk
theorem sm_t2 {X : mm_D} {r : mm_R} {T : wo_T} {o : wo_O} {t n : Nat} {A : wo_A} (h : smC X r T o t n A) (k : Nat) {b : Nat} (hb : b < 2) : stpN X r t (tnp T) (tnb T) k (t + 2) b = A.2.2 b := by
  rw [stpN_row (Or.inl h.1)]
  exact (h.2.2.2.2.2 b hb).2
theorem sm_prep {d : mm_D} {r : mm_R} {T : wo_T} {t n : Nat} {A : wo_A} (hT : rpC d r T) (hA0 : hA d t A) (hn : n ≤ 540) (ht : t + 2 < 232) : smC (prepD d r t (tnp T) n) r T (o0 T) t n A := by
  obtain ⟨h1, h2, h3, h4⟩ := rdy_prep hT hn ht
  exact ⟨ht, h1, h2, ⟨h3.1.trans hA0.1, fun b hb => ⟨(h3.2 b hb).1.trans (hA0.2 b hb).1, (h3.2 b hb).2.trans (hA0.2 b hb).2⟩⟩, by rw [h4.1 t (by omega)]; exact hA0.1, fun b hb => by rw [h4.1 (t + 1) (by omega), h4.1 (t + 2) (by omega)]; exact hA0.2 b hb⟩
theorem rgA01 (T : wo_T) (A : wo_A) (s : Int32) (b : Nat) : rgA T A s b = 0 ∨ rgA T A s b = 1 := by
  unfold rgA
  split
  · exact Or.inl rfl
  · exact Or.inr rfl
abbrev belT (T : wo_T) (i : Int32) : Prop := 0 ≤ i ∧ i < nI (tnb T)
abbrev perT (T : wo_T) (i : Int32) : Prop := 0 ≤ i ∧ i < nI (tnp T)
abbrev ahdT (n : Int32) : Prop := 1 ≤ n ∧ n ≤ 240
theorem belC_T {d : mm_D} {r : mm_R} {T : wo_T} (hT : rpC d r T) (i : Int32) : belC d i = 0 ↔ ¬ belT T i := by
  unfold belC belT
  rw [hT.1.2.2.1]
  by_cases h : i < 0
  · rw [if_pos h]
    exact ⟨fun _ q => absurd q.1 (Int32.not_le.mpr h), fun _ => rfl⟩
  · rw [if_neg h]
    by_cases h2 : nI (tnb T) ≤ i
    · rw [if_pos h2]
      exact ⟨fun _ q => absurd q.2 (Int32.not_lt.mpr h2), fun _ => rfl⟩
    · have h3 : ¬ (2 : Int32) ≤ i := fun q => h2 (Int32.le_trans (nI_le hT.1.2.2.2.1 (by decide)) q)
      rw [if_neg h2, if_neg h3]
      exact ⟨fun q => absurd q (by decide), fun q => absurd ⟨Int32.not_lt.mp h, Int32.not_le.mp h2⟩ q⟩
theorem perC_T {d : mm_D} {r : mm_R} {T : wo_T} (hT : rpC d r T) (i : Int32) : perC d i = 0 ↔ ¬ perT T i := by
  unfold perC perT
  rw [hT.1.1]
  by_cases h : i < 0
  · rw [if_pos h]
    exact ⟨fun _ q => absurd q.1 (Int32.not_le.mpr h), fun _ => rfl⟩
  · rw [if_neg h]
    by_cases h2 : nI (tnp T) ≤ i
    · rw [if_pos h2]
      exact ⟨fun _ q => absurd q.2 (Int32.not_lt.mpr h2), fun _ => rfl⟩
    · have h3 : ¬ (6 : Int32) ≤ i := fun q => h2 (Int32.le_trans (nI_le hT.1.2.1 (by decide)) q)
      rw [if_neg h2, if_neg h3]
      exact ⟨fun q => absurd q (by decide), fun q => absurd ⟨Int32.not_lt.mp h, Int32.not_le.mp h2⟩ q⟩
theorem ahd_T (n : Int32) : (if n < 1 then (0 : Int32) else if 240 < n then 0 else 1) = 0 ↔ ¬ ahdT n := by
  unfold ahdT
  by_cases h : n < 1
  · rw [if_pos h]
    exact ⟨fun _ q => absurd q.1 (Int32.not_le.mpr h), fun _ => rfl⟩
  · rw [if_neg h]
    by_cases h2 : 240 < n
    · rw [if_pos h2]
      exact ⟨fun _ q => absurd q.2 (Int32.not_le.mpr h2), fun _ => rfl⟩
    · rw [if_neg h2]
      exact ⟨fun q => absurd q (by decide), fun q => absurd ⟨Int32.not_lt.mp h, Int32.not_lt.mp h2⟩ q⟩
theorem bel_lt {T : wo_T} {i : Int32} (h : belT T i) (h2 : tnb T ≤ 2) : i.toNatClampNeg < tnb T := by
  have e := nI_ofn h.1
  have l := h.2
  rw [e] at l
  refine (nI_ltI ?_ (by omega)).mp l
  have b := Int32.toInt_lt i
  have c : i.toNatClampNeg = i.toInt.toNat := rfl
  omega
theorem per_lt {T : wo_T} {i : Int32} (h : perT T i) (h2 : tnp T ≤ 6) : i.toNatClampNeg < tnp T := by
  have e := nI_ofn h.1
  have l := h.2
  rw [e] at l
  refine (nI_ltI ?_ (by omega)).mp l
  have b := Int32.toInt_lt i
  have c : i.toNatClampNeg = i.toInt.toNat := rfl
  omega
theorem ahd_le {n : Int32} (h : ahdT n) : n.toNatClampNeg ≤ 240 ∧ 1 ≤ n.toNatClampNeg := by
  have a := Int32.le_iff_toInt_le.mp h.1
  have b := Int32.le_iff_toInt_le.mp h.2
  have e1 : (1 : Int32).toInt = 1 := by decide
  have e2 : (240 : Int32).toInt = 240 := by decide
  have c : n.toNatClampNeg = n.toInt.toNat := rfl
  omega
section
variable (T : wo_T) (o : wo_O) (A : wo_A)
def lateA (b : Nat) : Nat → Int32
  | 0 => 0
  | k + 1 => lateA b k + (aN T o A (k + 1)).2.1 b
def rrA (b k : Nat) : Int32 := rgA T (aN T o A k) (snA T o (aN T o A k)) b
def bunKA (b : Nat) : Nat → Int32
  | 0 => 0
  | k + 1 => if rrA T o A b k = 0 then 0 else bunKA b k + 1
def bunBA (b : Nat) : Nat → Int32
  | 0 => 0
  | k + 1 => if bunBA b k < bunKA T o A b (k + 1) then bunKA T o A b (k + 1) else bunBA b k
def earA (p n : Nat) : Nat → Int32
  | 0 => 0
  | b + 1 => earA p n b + (if tfar T p ≤ trc T b then (aN T o A n).2.2 b - A.2.2 b else 0)
def pkMA (b : Nat) : Nat → Int32
  | 0 => -1
  | k + 1 => if (aN T o A (k + 1)).2.1 b ≤ pkMA b k then pkMA b k else (aN T o A (k + 1)).2.1 b
def pkBA (b : Nat) : Nat → Int32
  | 0 => 0
  | k + 1 => if (aN T o A (k + 1)).2.1 b ≤ pkMA T o A b k then pkBA b k else nI k + 1
def strA (b : Nat) (i : Int32) : Nat → Nat → Int32
  | 0, _ => -1
  | z + 1, k => if (aN T o A (k + 1)).2.2 b - A.2.2 b ≤ i then strA b i z (k + 1) else nI k
def freA (b : Nat) : Nat → Nat → Int32
  | 0, _ => -1
  | z + 1, k => if (aN T o A (k + 1)).2.1 b = 0 then nI (k + 1) else freA b z (k + 1)
def ssA (k : Nat) : Int32 := seB T o (aN T o A k).1 ((aN T o A k).2.1 0)
def senBA : Nat → Int32
  | 0 => 0
  | k + 1 => senBA k + if ssA T o A k = 0 then 0 else 1
def senDA : Nat → Int32
  | 0 => 0
  | k + 1 => if ssA T o A k = 0 then senDA k + 1 else 0
def senMA : Nat → Int32
  | 0 => 0
  | k + 1 => if senMA k < senDA T o A (k + 1) then senDA T o A (k + 1) else senMA k
def llA (p k : Nat) : Int32 := lkO T o p (aN T o A k).1 ((aN T o A k).2.1 0)
def lovMA (p q : Nat) : Nat → Int32
  | 0 => 0
  | k + 1 => if llA T o A p k = 0 ∧ llA T o A q k = 0 then lovMA p q k + Int32.ofInt 1 else lovMA p q k
def lovFA (p q : Nat) : Nat → Int32
  | 0 => -1
  | k + 1 => if llA T o A p k = 0 ∧ llA T o A q k = 0 then (if lovMA T o A p q k = 0 then nI k else lovFA p q k) else lovFA p q k
def aloA (p : Nat) : Nat → Int32
  | 0 => 0
  | k + 1 => aloA p k + if ssA T o A k = bitC p then 1 else 0
def houDA (b k : Nat) : Int32 := dueC (thr T b) (aN T o A k).1
def houCA (b : Nat) (i : Int32) : Nat → Int32
  | 0 => 0
  | k + 1 => if houDA T o A b k ≤ 0 then houCA b i k else if i < houCA b i k then houCA b i k else houCA b i k + Int32.ofInt 1
def houSA (b : Nat) (i : Int32) : Nat → Int32
  | 0 => A.2.1 b
  | k + 1 => if houDA T o A b k ≤ 0 then houSA b i k else if i < houCA T o A b i k then houSA b i k else houSA b i k + houDA T o A b k
def houFA (b : Nat) (i : Int32) : Nat → Nat → Int32
  | 0, _ => -1
  | z + 1, k => if houCA T o A b i (k + 1) ≤ i then houFA b i z (k + 1) else if (aN T o A (k + 1)).2.2 b - A.2.2 b < houSA T o A b i (k + 1) then houFA b i z (k + 1) else nI k
end
section
variable {X : mm_D} {r : mm_R} {T : wo_T} {o : wo_O} {t n : Nat} {A : wo_A}
theorem late_c (h : smC X r T o t n A) {b : Nat} (hb : b < 2) : ∀ k, k ≤ n → lateS X r t (tnp T) (tnb T) b k = lateA T o A b k
  | 0, _ => rfl
  | k + 1, hk => by rw [lateS, lateA, late_c h hb k (by omega), ((sm_A h hk).2 b hb).1]
theorem rang_c (h : smC X r T o t n A) {b k : Nat} (hb : b < tnb T) (hk : k < n) : ((stpN X r t (tnp T) (tnb T) (k + 1) 232 14 >>> (nI b &&& 31)) &&& 1 = 0) ↔ rrA T o A b k = 0 := by
  have h2 : tnb T ≤ 2 := h.2.1.1.1.2.2.2.1
  rw [(sm_12 h hk).2.2, gb_sh _ (by omega)]
  unfold rbA
  rw [gb_bts _ _ _ (by omega), decide_eq_true hb]
  unfold rrA
  simp
theorem bunK_c (h : smC X r T o t n A) {b : Nat} (hb : b < tnb T) : ∀ k, k ≤ n → bunK X r t (tnp T) (tnb T) b k = bunKA T o A b k
  | 0, _ => rfl
  | k + 1, hk => by
    rw [bunK, bunKA, bunK_c h hb k (by omega)]
    by_cases q : rrA T o A b k = 0
    · rw [if_pos q, if_pos ((rang_c h hb hk).mpr q)]
    · rw [if_neg q, if_neg (fun e => q ((rang_c h hb hk).mp e))]
theorem bunB_c (h : smC X r T o t n A) {b : Nat} (hb : b < tnb T) : ∀ k, k ≤ n → bunB X r t (tnp T) (tnb T) b k = bunBA T o A b k
  | 0, _ => rfl
  | k + 1, hk => by rw [bunB, bunBA, bunB_c h hb k (by omega), bunK_c h hb (k + 1) hk]
theorem pkM_c (h : smC X r T o t n A) {b : Nat} (hb : b < 2) : ∀ k, k ≤ n → pkM X r t (tnp T) (tnb T) b k = pkMA T o A b k
  | 0, _ => rfl
  | k + 1, hk => by rw [pkM, pkMA, pkM_c h hb k (by omega), ((sm_A h hk).2 b hb).1]
theorem pkB_c (h : smC X r T o t n A) {b : Nat} (hb : b < 2) : ∀ k, k ≤ n → pkB X r t (tnp T) (tnb T) b k = pkBA T o A b k
  | 0, _ => rfl
  | k + 1, hk => by rw [pkB, pkBA, pkB_c h hb k (by omega), pkM_c h hb k (by omega), ((sm_A h hk).2 b hb).1]
theorem str_c (h : smC X r T o t n A) (ht : t = 38) {b : Nat} (hb : b < 2) (i : Int32) : ∀ z k, z + k ≤ n → strF X r t (tnp T) (tnb T) b i z k = strA T o A b i z k
  | 0, _, _ => rfl
  | z + 1, k, hk => by
    have e := sm_t2 h (k + 1) hb
    have ih := str_c h ht hb i z (k + 1) (by omega)
    subst ht
    rw [strF, strA, ih, ((sm_A h (k := k + 1) (by omega)).2 b hb).2, e]
theorem fre_c (h : smC X r T o t n A) {b : Nat} (hb : b < 2) : ∀ z k, z + k ≤ n → freF X r t (tnp T) (tnb T) b z k = freA T o A b z k
  | 0, _, _ => rfl
  | z + 1, k, hk => by rw [freF, freA, fre_c h hb z (k + 1) (by omega), ((sm_A h (k := k + 1) (by omega)).2 b hb).1]
theorem senB_c (h : smC X r T o t n A) : ∀ k, k ≤ n → senB X r t (tnp T) (tnb T) k = senBA T o A k
  | 0, _ => rfl
  | k + 1, hk => by rw [senB, senBA, senB_c h k (by omega), (sm_12 h hk).2.1]; rfl
theorem senD_c (h : smC X r T o t n A) : ∀ k, k ≤ n → senD X r t (tnp T) (tnb T) k = senDA T o A k
  | 0, _ => rfl
  | k + 1, hk => by rw [senD, senDA, senD_c h k (by omega), (sm_12 h hk).2.1]; rfl
theorem senM_c (h : smC X r T o t n A) : ∀ k, k ≤ n → senM X r t (tnp T) (tnb T) k = senMA T o A k
  | 0, _ => rfl
  | k + 1, hk => by rw [senM, senMA, senM_c h k (by omega), senD_c h (k + 1) hk]
theorem lov_c (h : smC X r T o t n A) {p q k : Nat} (hp : p < tnp T) (hq : q < tnp T) (hk : k < n) : (stpN X r t (tnp T) (tnb T) (k + 1) 232 12 &&& (((1 : Int32) <<< (nI p &&& 31)) ||| ((1 : Int32) <<< (nI q &&& 31))) = 0) ↔ (llA T o A p k = 0 ∧ llA T o A q k = 0) := by
  have h6 : tnp T ≤ 6 := h.2.1.1.1.2.1
  rw [(sm_12 h hk).1]
  have gp : ∀ i, gb (loB T o (aN T o A k).1 ((aN T o A k).2.1 0)) i = (decide (i < tnp T) && !decide (llA T o A i k = 0)) := fun i => gb_loB _ _ _ _ h6 i
  constructor
  · intro e
    have g : ∀ i, (gb (loB T o (aN T o A k).1 ((aN T o A k).2.1 0)) i && (gb (bitC p) i || gb (bitC q) i)) = false := fun i => by
      rw [← gb_or, ← gb_and, show bitC p = (1 : Int32) <<< (nI p &&& 31) from rfl, show bitC q = (1 : Int32) <<< (nI q &&& 31) from rfl, e, gb_0]
    have g1 := g p
    have g2 := g q
    rw [gp, gb_bitC (by omega), gb_bitC (by omega)] at g1 g2
    constructor
    · simpa [hp] using g1
    · simpa [hq] using g2
  · intro e
    refine gb_ext (fun i hi => ?_)
    rw [gb_and, gb_or, show (1 : Int32) <<< (nI p &&& 31) = bitC p from rfl, show (1 : Int32) <<< (nI q &&& 31) = bitC q from rfl, gb_bitC (by omega), gb_bitC (by omega), gb_0, gp]
    by_cases e1 : i = p
    · subst e1; simp [e.1]
    · by_cases e2 : i = q
      · subst e2; simp [e.2]
      · simp [e1, e2]
theorem lovM_c (h : smC X r T o t n A) {p q : Nat} (hp : p < tnp T) (hq : q < tnp T) : ∀ k, k ≤ n → lovM X r t (tnp T) (tnb T) (((1 : Int32) <<< (nI p &&& 31)) ||| ((1 : Int32) <<< (nI q &&& 31))) k = lovMA T o A p q k
  | 0, _ => rfl
  | k + 1, hk => by
    rw [lovM, lovMA, lovM_c h hp hq k (by omega)]
    by_cases e : llA T o A p k = 0 ∧ llA T o A q k = 0
    · rw [if_pos e, if_pos ((lov_c h hp hq hk).mpr e)]
    · rw [if_neg e, if_neg (fun w => e ((lov_c h hp hq hk).mp w))]
theorem lovF_c (h : smC X r T o t n A) {p q : Nat} (hp : p < tnp T) (hq : q < tnp T) : ∀ k, k ≤ n → lovF X r t (tnp T) (tnb T) (((1 : Int32) <<< (nI p &&& 31)) ||| ((1 : Int32) <<< (nI q &&& 31))) k = lovFA T o A p q k
  | 0, _ => rfl
  | k + 1, hk => by
    rw [lovF, lovFA, lovF_c h hp hq k (by omega), lovM_c h hp hq k (by omega)]
    by_cases e : llA T o A p k = 0 ∧ llA T o A q k = 0
    · rw [if_pos e, if_pos ((lov_c h hp hq hk).mpr e)]
    · rw [if_neg e, if_neg (fun w => e ((lov_c h hp hq hk).mp w))]
theorem alo_c (h : smC X r T o t n A) (p : Nat) : ∀ k, k ≤ n → aloS X r t (tnp T) (tnb T) ((1 : Int32) <<< (nI p &&& 31)) k = aloA T o A p k
  | 0, _ => rfl
  | k + 1, hk => by rw [aloS, aloA, alo_c h p k (by omega), (sm_12 h hk).2.1]; rfl
theorem houD_c (h : smC X r T o t n A) {b k : Nat} (hb : b < tnb T) (hk : k ≤ n) : houD X r t (tnp T) (tnb T) b k = houDA T o A b k := by
  have h2 : tnb T ≤ 2 := h.2.1.1.1.2.2.2.1
  unfold houD houDA
  rw [(sm_A h hk).1, stpN_row (by omega), (h.2.1.1.2.2.2.2.1 b hb).1]
theorem houC_c (h : smC X r T o t n A) {b : Nat} (hb : b < tnb T) (i : Int32) : ∀ k, k ≤ n → houC X r t (tnp T) (tnb T) b i k = houCA T o A b i k
  | 0, _ => rfl
  | k + 1, hk => by rw [houC, houCA, houC_c h hb i k (by omega), houD_c h hb (by omega)]
theorem houS_c (h : smC X r T o t n A) (ht : t = 38) {b : Nat} (hb : b < tnb T) (i : Int32) : ∀ k, k ≤ n → houS X r t (tnp T) (tnb T) b i k = houSA T o A b i k
  | 0, _ => by
    have h2 : tnb T ≤ 2 := h.2.1.1.1.2.2.2.1
    have e := (h.2.2.2.2.2 b (by omega)).1
    subst ht
    rw [houS, houSA]
    exact e
  | k + 1, hk => by rw [houS, houSA, houC_c h hb i k (by omega), houS_c h ht hb i k (by omega), houD_c h hb (by omega)]
theorem houF_c (h : smC X r T o t n A) (ht : t = 38) {b : Nat} (hb : b < tnb T) (i : Int32) : ∀ z k, z + k ≤ n → houF X r t (tnp T) (tnb T) b i z k = houFA T o A b i z k
  | 0, _, _ => rfl
  | z + 1, k, hk => by
    have h2 : tnb T ≤ 2 := h.2.1.1.1.2.2.2.1
    have e := sm_t2 h (k + 1) (show b < 2 by omega)
    have e2 := houS_c h ht hb i (k + 1) (by omega)
    have ih := houF_c h ht hb i z (k + 1) (by omega)
    subst ht
    rw [houF, houFA, ih, houC_c h hb i (k + 1) (by omega), e2, ((sm_A h (k := k + 1) (by omega)).2 b (by omega)).2, e]
end
