/-! ===== the questions of one pass, asked of the town ===== -/
theorem rpC_38 {d : mm_D} {r : mm_R} {T : wo_T} {t : Nat} (hT : rpC d r T) : rpC d (mm_up r 232 2 (some t)) T := rpC_r (fun _ _ => rfl) (mm_up_ne (by decide)) hT
theorem nI_le0 {n : Nat} (h : n < 2 ^ 31) : nI n ≤ 0 ↔ n = 0 := by
  have e : nI n ≤ nI 0 ↔ n ≤ 0 := nI_leI h (by decide)
  exact ⟨fun q => Nat.le_zero.mp (e.mp q), fun q => e.mpr (Nat.le_of_eq q)⟩
abbrev hasT (T : wo_T) : Prop := ¬ tnp T = 0
theorem has_T {d : mm_D} {r : mm_R} {T : wo_T} (hT : rpC d r T) : (if d 4 5 ≤ 0 then (0 : Int32) else 1) = 0 ↔ ¬ hasT T := by
  have h6 : tnp T ≤ 6 := hT.1.2.1
  rw [hT.1.1]
  by_cases h : nI (tnp T) ≤ 0
  · rw [if_pos h]
    exact ⟨fun _ q => q ((nI_le0 (by omega)).mp h), fun _ => rfl⟩
  · rw [if_neg h]
    exact ⟨fun q => absurd q (by decide), fun q => absurd (fun e => h ((nI_le0 (by omega)).mpr e)) q⟩
abbrev whT (w : Int32) : Prop := 0 ≤ w ∧ w ≤ 1
def lateQ (T : wo_T) (A : wo_A) (i n1 : Int32) : Int32 := if belT T i then if ahdT n1 then lateA T (o0 T) A i.toNatClampNeg n1.toNatClampNeg else -1 else -1
theorem lateR_T {d : mm_D} {r : mm_R} {T : wo_T} {A : wo_A} (hT : rpC d r T) (hA0 : hA d 38 A) (i n1 : Int32) : lateR d r (tnp T) (tnb T) i n1 = lateQ T A i n1 := by
  unfold lateR lateQ
  have hT' := rpC_38 (t := 38) hT
  by_cases h0 : belT T i
  case neg => rw [if_neg h0, if_pos ((belC_T hT i).mpr h0)]
  rw [if_pos h0, if_neg (fun e => (belC_T hT i).mp e h0)]
  by_cases h1 : ahdT n1
  case neg => rw [if_neg h1, if_pos ((ahd_T n1).mpr h1)]
  rw [if_pos h1, if_neg (fun e => (ahd_T n1).mp e h1)]
  have hs := sm_prep (n := n1.toNatClampNeg) hT' hA0 (by have := ahd_le h1; omega) (show 38 + 2 < 232 by decide)
  have hb := bel_lt h0 hT.1.2.2.2.1
  have hb2 : i.toNatClampNeg < 2 := by have := hT.1.2.2.2.1; omega
  exact late_c hs hb2 _ (Nat.le_refl _)
theorem c_lateT {xs : List Int32} {ext : mm_X} {n : Nat} {sh : mm_S} {d : mm_D} {g : mm_G} {r : mm_R} (hsh : shp sh) (hr : rfx r) {T : wo_T} {A : wo_A} (hT : rpC d r T) (hA0 : hA d 38 A) (i n1 : Int32) : wp xs ext (n + 7) 105 0 [some (.ref 0), some (.int i), some (.int n1)] [] (sh, d, g, r) (fun v μ => v = some (.int (lateQ T A i n1)) ∧ ∃ d2 g2 r2, μ = (sh, d2, g2, r2) ∧ fr d g r d2 g2 r2) := by
  rw [← lateR_T hT hA0]
  exact c_lateP hsh hr hT.1 i n1
def bunQ (T : wo_T) (A : wo_A) (i n1 : Int32) : Int32 := if belT T i then if ahdT n1 then bunBA T (o0 T) A i.toNatClampNeg n1.toNatClampNeg else -1 else -1
theorem bunchR_T {d : mm_D} {r : mm_R} {T : wo_T} {A : wo_A} (hT : rpC d r T) (hA0 : hA d 38 A) (i n1 : Int32) : bunchR d r (tnp T) (tnb T) i n1 = bunQ T A i n1 := by
  unfold bunchR bunQ
  have hT' := rpC_38 (t := 38) hT
  by_cases h0 : belT T i
  case neg => rw [if_neg h0, if_pos ((belC_T hT i).mpr h0)]
  rw [if_pos h0, if_neg (fun e => (belC_T hT i).mp e h0)]
  by_cases h1 : ahdT n1
  case neg => rw [if_neg h1, if_pos ((ahd_T n1).mpr h1)]
  rw [if_pos h1, if_neg (fun e => (ahd_T n1).mp e h1)]
  have hs := sm_prep (n := n1.toNatClampNeg) hT' hA0 (by have := ahd_le h1; omega) (show 38 + 2 < 232 by decide)
  have hb := bel_lt h0 hT.1.2.2.2.1
  have hb2 : i.toNatClampNeg < 2 := by have := hT.1.2.2.2.1; omega
  exact bunB_c hs hb _ (Nat.le_refl _)
theorem c_bunchT {xs : List Int32} {ext : mm_X} {n : Nat} {sh : mm_S} {d : mm_D} {g : mm_G} {r : mm_R} (hsh : shp sh) (hr : rfx r) {T : wo_T} {A : wo_A} (hT : rpC d r T) (hA0 : hA d 38 A) (i n1 : Int32) : wp xs ext (n + 7) 106 0 [some (.ref 0), some (.int i), some (.int n1), none, none, none] [] (sh, d, g, r) (fun v μ => v = some (.int (bunQ T A i n1)) ∧ ∃ d2 g2 r2, μ = (sh, d2, g2, r2) ∧ fr d g r d2 g2 r2) := by
  rw [← bunchR_T hT hA0]
  exact c_bunchP hsh hr hT.1 i n1
def peakQ (T : wo_T) (A : wo_A) (i n1 w : Int32) : Int32 := if belT T i then if ahdT n1 then if whT w then if w = 0 then pkMA T (o0 T) A i.toNatClampNeg n1.toNatClampNeg else pkBA T (o0 T) A i.toNatClampNeg n1.toNatClampNeg else -1 else -1 else -1
theorem peakR_T {d : mm_D} {r : mm_R} {T : wo_T} {A : wo_A} (hT : rpC d r T) (hA0 : hA d 38 A) (i n1 w : Int32) : peakR d r (tnp T) (tnb T) i n1 w = peakQ T A i n1 w := by
  unfold peakR peakQ
  have hT' := rpC_38 (t := 38) hT
  by_cases h0 : belT T i
  case neg => rw [if_neg h0, if_pos ((belC_T hT i).mpr h0)]
  rw [if_pos h0, if_neg (fun e => (belC_T hT i).mp e h0)]
  by_cases h1 : ahdT n1
  case neg => rw [if_neg h1, if_pos ((ahd_T n1).mpr h1)]
  rw [if_pos h1, if_neg (fun e => (ahd_T n1).mp e h1)]
  by_cases h2a : w < 0
  case pos => rw [if_pos h2a, if_neg (show ¬ whT w from fun q => absurd q.1 (Int32.not_le.mpr h2a))]
  by_cases h2b : w ≤ 1
  case neg => rw [if_neg h2a, if_neg h2b, if_neg (show ¬ whT w from fun q => h2b q.2)]
  rw [if_neg h2a, if_pos h2b, if_pos (show whT w from ⟨Int32.not_lt.mp h2a, h2b⟩)]
  have hs := sm_prep (n := n1.toNatClampNeg) hT' hA0 (by have := ahd_le h1; omega) (show 38 + 2 < 232 by decide)
  have hb := bel_lt h0 hT.1.2.2.2.1
  have hb2 : i.toNatClampNeg < 2 := by have := hT.1.2.2.2.1; omega
  rw [pkM_c hs hb2 _ (Nat.le_refl _), pkB_c hs hb2 _ (Nat.le_refl _)]
theorem c_peakT {xs : List Int32} {ext : mm_X} {n : Nat} {sh : mm_S} {d : mm_D} {g : mm_G} {r : mm_R} (hsh : shp sh) (hr : rfx r) {T : wo_T} {A : wo_A} (hT : rpC d r T) (hA0 : hA d 38 A) (i n1 w : Int32) : wp xs ext (n + 7) 120 0 [some (.ref 0), some (.int i), some (.int n1), some (.int w), none, none, none] [] (sh, d, g, r) (fun v μ => v = some (.int (peakQ T A i n1 w)) ∧ ∃ d2 g2 r2, μ = (sh, d2, g2, r2) ∧ fr d g r d2 g2 r2) := by
  rw [← peakR_T hT hA0]
  exact c_peakP hsh hr hT.1 i n1 w
def aheadQ (T : wo_T) (A : wo_A) (i n1 w : Int32) : Int32 := if belT T i then if ahdT n1 then if whT w then if w = 0 then (aN T (o0 T) A n1.toNatClampNeg).2.1 i.toNatClampNeg else (aN T (o0 T) A n1.toNatClampNeg).2.2 i.toNatClampNeg - A.2.2 i.toNatClampNeg else -1 else -1 else -1
theorem aheadR_T {d : mm_D} {r : mm_R} {T : wo_T} {A : wo_A} (hT : rpC d r T) (hA0 : hA d 38 A) (i n1 w : Int32) : aheadR d r (tnp T) (tnb T) i n1 w = aheadQ T A i n1 w := by
  unfold aheadR aheadQ
  have hT' := rpC_38 (t := 38) hT
  by_cases h0 : belT T i
  case neg => rw [if_neg h0, if_pos ((belC_T hT i).mpr h0)]
  rw [if_pos h0, if_neg (fun e => (belC_T hT i).mp e h0)]
  by_cases h1 : ahdT n1
  case neg => rw [if_neg h1, if_pos ((ahd_T n1).mpr h1)]
  rw [if_pos h1, if_neg (fun e => (ahd_T n1).mp e h1)]
  by_cases h2a : w < 0
  case pos => rw [if_pos h2a, if_neg (show ¬ whT w from fun q => absurd q.1 (Int32.not_le.mpr h2a))]
  by_cases h2b : w ≤ 1
  case neg => rw [if_neg h2a, if_neg h2b, if_neg (show ¬ whT w from fun q => h2b q.2)]
  rw [if_neg h2a, if_pos h2b, if_pos (show whT w from ⟨Int32.not_lt.mp h2a, h2b⟩)]
  have hs := sm_prep (n := n1.toNatClampNeg) hT' hA0 (by have := ahd_le h1; omega) (show 38 + 2 < 232 by decide)
  have hb := bel_lt h0 hT.1.2.2.2.1
  have hb2 : i.toNatClampNeg < 2 := by have := hT.1.2.2.2.1; omega
  have ha := (sm_A hs (Nat.le_refl _)).2 _ hb2
  rw [ha.1, ha.2, show (40 : Nat) = 38 + 2 from rfl, sm_t2 hs _ hb2]
theorem c_aheadT {xs : List Int32} {ext : mm_X} {n : Nat} {sh : mm_S} {d : mm_D} {g : mm_G} {r : mm_R} (hsh : shp sh) (hr : rfx r) {T : wo_T} {A : wo_A} (hT : rpC d r T) (hA0 : hA d 38 A) (i n1 w : Int32) : wp xs ext (n + 7) 103 0 [some (.ref 0), some (.int i), some (.int n1), some (.int w)] [] (sh, d, g, r) (fun v μ => v = some (.int (aheadQ T A i n1 w)) ∧ ∃ d2 g2 r2, μ = (sh, d2, g2, r2) ∧ fr d g r d2 g2 r2) := by
  rw [← aheadR_T hT hA0]
  exact c_aheadP hsh hr hT.1 i n1 w
def strikeQ (T : wo_T) (A : wo_A) (i n1 : Int32) : Int32 := if belT T i then if 0 ≤ n1 then strA T (o0 T) A i.toNatClampNeg n1 240 0 else -1 else -1
theorem strikeR_T {d : mm_D} {r : mm_R} {T : wo_T} {A : wo_A} (hT : rpC d r T) (hA0 : hA d 38 A) (i n1 : Int32) : strikeR d r (tnp T) (tnb T) i n1 = strikeQ T A i n1 := by
  unfold strikeR strikeQ
  have hT' := rpC_38 (t := 38) hT
  by_cases h0 : belT T i
  case neg => rw [if_neg h0, if_pos ((belC_T hT i).mpr h0)]
  rw [if_pos h0, if_neg (fun e => (belC_T hT i).mp e h0)]
  by_cases h1 : 0 ≤ n1
  case neg => rw [if_neg h1, if_neg h1]
  rw [if_pos h1, if_pos h1]
  have hs := sm_prep (n := 240) hT' hA0 (by decide) (show 38 + 2 < 232 by decide)
  have hb := bel_lt h0 hT.1.2.2.2.1
  have hb2 : i.toNatClampNeg < 2 := by have := hT.1.2.2.2.1; omega
  exact str_c hs rfl hb2 n1 240 0 (by omega)
theorem c_strikeT {xs : List Int32} {ext : mm_X} {n : Nat} {sh : mm_S} {d : mm_D} {g : mm_G} {r : mm_R} (hsh : shp sh) (hr : rfx r) {T : wo_T} {A : wo_A} (hT : rpC d r T) (hA0 : hA d 38 A) (i n1 : Int32) : wp xs ext (n + 7) 104 0 [some (.ref 0), some (.int i), some (.int n1), none] [] (sh, d, g, r) (fun v μ => v = some (.int (strikeQ T A i n1)) ∧ ∃ d2 g2 r2, μ = (sh, d2, g2, r2) ∧ fr d g r d2 g2 r2) := by
  rw [← strikeR_T hT hA0]
  exact c_strikeP hsh hr hT.1 i n1
def freeQ (T : wo_T) (A : wo_A) (i : Int32) : Int32 := if belT T i then freA T (o0 T) A i.toNatClampNeg 240 0 else -1
theorem freeR_T {d : mm_D} {r : mm_R} {T : wo_T} {A : wo_A} (hT : rpC d r T) (hA0 : hA d 38 A) (i : Int32) : freeR d r (tnp T) (tnb T) i = freeQ T A i := by
  unfold freeR freeQ
  have hT' := rpC_38 (t := 38) hT
  by_cases h0 : belT T i
  case neg => rw [if_neg h0, if_pos ((belC_T hT i).mpr h0)]
  rw [if_pos h0, if_neg (fun e => (belC_T hT i).mp e h0)]
  have hs := sm_prep (n := 240) hT' hA0 (by decide) (show 38 + 2 < 232 by decide)
  have hb := bel_lt h0 hT.1.2.2.2.1
  have hb2 : i.toNatClampNeg < 2 := by have := hT.1.2.2.2.1; omega
  exact fre_c hs hb2 240 0 (by omega)
theorem c_freeT {xs : List Int32} {ext : mm_X} {n : Nat} {sh : mm_S} {d : mm_D} {g : mm_G} {r : mm_R} (hsh : shp sh) (hr : rfx r) {T : wo_T} {A : wo_A} (hT : rpC d r T) (hA0 : hA d 38 A) (i : Int32) : wp xs ext (n + 7) 121 0 [some (.ref 0), some (.int i), none] [] (sh, d, g, r) (fun v μ => v = some (.int (freeQ T A i)) ∧ ∃ d2 g2 r2, μ = (sh, d2, g2, r2) ∧ fr d g r d2 g2 r2) := by
  rw [← freeR_T hT hA0]
  exact c_freeP hsh hr hT.1 i
def seenQ (T : wo_T) (A : wo_A) (n1 w : Int32) : Int32 := if hasT T then if ahdT n1 then if whT w then if w = 0 then senBA T (o0 T) A n1.toNatClampNeg else senMA T (o0 T) A n1.toNatClampNeg else -1 else -1 else -1
theorem seenR_T {d : mm_D} {r : mm_R} {T : wo_T} {A : wo_A} (hT : rpC d r T) (hA0 : hA d 38 A) (n1 w : Int32) : seenR d r (tnp T) (tnb T) n1 w = seenQ T A n1 w := by
  unfold seenR seenQ
  have hT' := rpC_38 (t := 38) hT
  by_cases h0 : hasT T
  case neg => rw [if_neg h0, if_pos ((has_T hT).mpr h0)]
  rw [if_pos h0, if_neg (fun e => (has_T hT).mp e h0)]
  by_cases h1 : ahdT n1
  case neg => rw [if_neg h1, if_pos ((ahd_T n1).mpr h1)]
  rw [if_pos h1, if_neg (fun e => (ahd_T n1).mp e h1)]
  by_cases h2a : w < 0
  case pos => rw [if_pos h2a, if_neg (show ¬ whT w from fun q => absurd q.1 (Int32.not_le.mpr h2a))]
  by_cases h2b : w ≤ 1
  case neg => rw [if_neg h2a, if_neg h2b, if_neg (show ¬ whT w from fun q => h2b q.2)]
  rw [if_neg h2a, if_pos h2b, if_pos (show whT w from ⟨Int32.not_lt.mp h2a, h2b⟩)]
  have hs := sm_prep (n := n1.toNatClampNeg) hT' hA0 (by have := ahd_le h1; omega) (show 38 + 2 < 232 by decide)
  rw [senB_c hs _ (Nat.le_refl _), senM_c hs _ (Nat.le_refl _)]
theorem c_seenT {xs : List Int32} {ext : mm_X} {n : Nat} {sh : mm_S} {d : mm_D} {g : mm_G} {r : mm_R} (hsh : shp sh) (hr : rfx r) {T : wo_T} {A : wo_A} (hT : rpC d r T) (hA0 : hA d 38 A) (n1 w : Int32) : wp xs ext (n + 7) 108 0 [some (.ref 0), some (.int n1), some (.int w), none, none, none, none, none] [] (sh, d, g, r) (fun v μ => v = some (.int (seenQ T A n1 w)) ∧ ∃ d2 g2 r2, μ = (sh, d2, g2, r2) ∧ fr d g r d2 g2 r2) := by
  rw [← seenR_T hT hA0]
  exact c_seenP hsh hr hT.1 n1 w
def loversQ (T : wo_T) (A : wo_A) (i j n1 w : Int32) : Int32 := if perT T i then if perT T j then if ¬ i = j then if ahdT n1 then if whT w then if w = 0 then lovFA T (o0 T) A i.toNatClampNeg j.toNatClampNeg n1.toNatClampNeg else lovMA T (o0 T) A i.toNatClampNeg j.toNatClampNeg n1.toNatClampNeg else -1000000 else -1000000 else -1000000 else -1000000 else -1000000
theorem loversR_T {d : mm_D} {r : mm_R} {T : wo_T} {A : wo_A} (hT : rpC d r T) (hA0 : hA d 38 A) (i j n1 w : Int32) : loversR d r (tnp T) (tnb T) i j n1 w = loversQ T A i j n1 w := by
  unfold loversR loversQ
  have hT' := rpC_38 (t := 38) hT
  by_cases h0 : perT T i
  case neg => rw [if_neg h0, if_pos ((perC_T hT i).mpr h0)]
  rw [if_pos h0, if_neg (fun e => (perC_T hT i).mp e h0)]
  by_cases h1 : perT T j
  case neg => rw [if_neg h1, if_pos ((perC_T hT j).mpr h1)]
  rw [if_pos h1, if_neg (fun e => (perC_T hT j).mp e h1)]
  by_cases h2 : i = j
  case pos => rw [if_pos h2, if_neg (fun q => q h2)]
  rw [if_neg h2, if_pos h2]
  by_cases h3 : ahdT n1
  case neg => rw [if_neg h3, if_pos ((ahd_T n1).mpr h3)]
  rw [if_pos h3, if_neg (fun e => (ahd_T n1).mp e h3)]
  by_cases h4a : w < 0
  case pos => rw [if_pos h4a, if_neg (show ¬ whT w from fun q => absurd q.1 (Int32.not_le.mpr h4a))]
  by_cases h4b : w ≤ 1
  case neg => rw [if_neg h4a, if_neg h4b, if_neg (show ¬ whT w from fun q => h4b q.2)]
  rw [if_neg h4a, if_pos h4b, if_pos (show whT w from ⟨Int32.not_lt.mp h4a, h4b⟩)]
  have hs := sm_prep (n := n1.toNatClampNeg) hT' hA0 (by have := ahd_le h3; omega) (show 38 + 2 < 232 by decide)
  have hp := per_lt h0 hT.1.2.1
  have hq := per_lt h1 hT.1.2.1
  have ei := nI_ofn h0.1
  have ej := nI_ofn h1.1
  rw [show i &&& 31 = nI i.toNatClampNeg &&& 31 from congrArg (· &&& 31) ei, show j &&& 31 = nI j.toNatClampNeg &&& 31 from congrArg (· &&& 31) ej, lovF_c hs hp hq _ (Nat.le_refl _), lovM_c hs hp hq _ (Nat.le_refl _)]
theorem c_loversT {xs : List Int32} {ext : mm_X} {n : Nat} {sh : mm_S} {d : mm_D} {g : mm_G} {r : mm_R} (hsh : shp sh) (hr : rfx r) {T : wo_T} {A : wo_A} (hT : rpC d r T) (hA0 : hA d 38 A) (i j n1 w : Int32) : wp xs ext (n + 7) 111 0 [some (.ref 0), some (.int i), some (.int j), some (.int n1), some (.int w), none, none, none, none] [] (sh, d, g, r) (fun v μ => v = some (.int (loversQ T A i j n1 w)) ∧ ∃ d2 g2 r2, μ = (sh, d2, g2, r2) ∧ fr d g r d2 g2 r2) := by
  rw [← loversR_T hT hA0]
  exact c_loversP hsh hr hT.1 i j n1 w
def aloneQ (T : wo_T) (A : wo_A) (i n1 : Int32) : Int32 := if perT T i then if ahdT n1 then aloA T (o0 T) A i.toNatClampNeg n1.toNatClampNeg else -1 else -1
theorem aloneR_T {d : mm_D} {r : mm_R} {T : wo_T} {A : wo_A} (hT : rpC d r T) (hA0 : hA d 38 A) (i n1 : Int32) : aloneR d r (tnp T) (tnb T) i n1 = aloneQ T A i n1 := by
  unfold aloneR aloneQ
  have hT' := rpC_38 (t := 38) hT
  by_cases h0 : perT T i
  case neg => rw [if_neg h0, if_pos ((perC_T hT i).mpr h0)]
  rw [if_pos h0, if_neg (fun e => (perC_T hT i).mp e h0)]
  by_cases h1 : ahdT n1
  case neg => rw [if_neg h1, if_pos ((ahd_T n1).mpr h1)]
  rw [if_pos h1, if_neg (fun e => (ahd_T n1).mp e h1)]
  have hs := sm_prep (n := n1.toNatClampNeg) hT' hA0 (by have := ahd_le h1; omega) (show 38 + 2 < 232 by decide)
  have ei := nI_ofn h0.1
  rw [show i &&& 31 = nI i.toNatClampNeg &&& 31 from congrArg (· &&& 31) ei]
  exact alo_c hs _ _ (Nat.le_refl _)
theorem c_aloneT {xs : List Int32} {ext : mm_X} {n : Nat} {sh : mm_S} {d : mm_D} {g : mm_G} {r : mm_R} (hsh : shp sh) (hr : rfx r) {T : wo_T} {A : wo_A} (hT : rpC d r T) (hA0 : hA d 38 A) (i n1 : Int32) : wp xs ext (n + 7) 122 0 [some (.ref 0), some (.int i), some (.int n1), none, none] [] (sh, d, g, r) (fun v μ => v = some (.int (aloneQ T A i n1)) ∧ ∃ d2 g2 r2, μ = (sh, d2, g2, r2) ∧ fr d g r d2 g2 r2) := by
  rw [← aloneR_T hT hA0]
  exact c_aloneP hsh hr hT.1 i n1
def hourQ (T : wo_T) (A : wo_A) (i n1 : Int32) : Int32 := if belT T i then if 0 ≤ n1 then houFA T (o0 T) A i.toNatClampNeg n1 240 0 else -1 else -1
theorem hourR_T {d : mm_D} {r : mm_R} {T : wo_T} {A : wo_A} (hT : rpC d r T) (hA0 : hA d 38 A) (i n1 : Int32) : hourR d r (tnp T) (tnb T) i n1 = hourQ T A i n1 := by
  unfold hourR hourQ
  have hT' := rpC_38 (t := 38) hT
  by_cases h0 : belT T i
  case neg => rw [if_neg h0, if_pos ((belC_T hT i).mpr h0)]
  rw [if_pos h0, if_neg (fun e => (belC_T hT i).mp e h0)]
  by_cases h1 : 0 ≤ n1
  case neg => rw [if_neg h1, if_neg h1]
  rw [if_pos h1, if_pos h1]
  have hs := sm_prep (n := 240) hT' hA0 (by decide) (show 38 + 2 < 232 by decide)
  have hb := bel_lt h0 hT.1.2.2.2.1
  have hb2 : i.toNatClampNeg < 2 := by have := hT.1.2.2.2.1; omega
  exact houF_c hs rfl hb n1 240 0 (by omega)
theorem c_hourT {xs : List Int32} {ext : mm_X} {n : Nat} {sh : mm_S} {d : mm_D} {g : mm_G} {r : mm_R} (hsh : shp sh) (hr : rfx r) {T : wo_T} {A : wo_A} (hT : rpC d r T) (hA0 : hA d 38 A) (i n1 : Int32) : wp xs ext (n + 7) 123 0 [some (.ref 0), some (.int i), some (.int n1), none, none, none, none] [] (sh, d, g, r) (fun v μ => v = some (.int (hourQ T A i n1)) ∧ ∃ d2 g2 r2, μ = (sh, d2, g2, r2) ∧ fr d g r d2 g2 r2) := by
  rw [← hourR_T hT hA0]
  exact c_hourP hsh hr hT.1 i n1
