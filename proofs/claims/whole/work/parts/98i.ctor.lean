/-! ===== the constructors ===== -/
def slP (n : Nat) : Nat := ((layt.take n).map (fun q => if q.1 < 20 then mm_nf q.1 else q.2)).sum
/-- the first n cells stand -/
def shP (n : Nat) : mm_S := (n, n, slP n, fun c => if c < n then lay c else (0, 0))
def rlC : List (Nat × Nat × Nat) := [(1, 0, 2), (0, 0, 1), (3, 0, 1), (0, 1, 3), (5, 0, 6), (5, 1, 7), (5, 2, 8), (5, 3, 9), (5, 4, 10), (5, 5, 11), (4, 0, 5), (4, 1, 12), (13, 0, 14), (13, 1, 15), (4, 2, 13), (4, 3, 16), (4, 4, 17), (0, 2, 4), (19, 0, 20), (19, 1, 21), (19, 2, 22), (19, 3, 23), (19, 4, 24), (19, 5, 25), (18, 0, 19), (18, 1, 26), (27, 0, 28), (27, 1, 29), (18, 2, 27), (18, 3, 30), (18, 4, 31), (0, 3, 18), (32, 0, 3), (32, 1, 18), (0, 4, 32), (33, 1, 34), (33, 3, 35), (0, 5, 33), (36, 0, 3), (36, 1, 33), (0, 6, 36), (0, 7, 37), (38, 1, 39), (38, 2, 40), (0, 9, 38), (41, 1, 42), (41, 2, 43), (0, 10, 41), (44, 1, 45), (44, 2, 46), (0, 11, 44), (47, 0, 48), (49, 1, 50), (49, 2, 51), (48, 0, 49), (52, 1, 53), (52, 2, 54), (48, 1, 52), (55, 1, 56), (55, 2, 57), (48, 2, 55), (58, 1, 59), (58, 2, 60), (48, 3, 58), (61, 1, 62), (61, 2, 63), (48, 4, 61), (64, 1, 65), (64, 2, 66), (48, 5, 64), (67, 1, 68), (67, 2, 69), (48, 6, 67), (70, 1, 71), (70, 2, 72), (48, 7, 70), (73, 1, 74), (73, 2, 75), (48, 8, 73), (76, 1, 77), (76, 2, 78), (48, 9, 76), (79, 1, 80), (79, 2, 81), (48, 10, 79), (82, 1, 83), (82, 2, 84), (48, 11, 82), (85, 1, 86), (85, 2, 87), (48, 12, 85), (88, 1, 89), (88, 2, 90), (48, 13, 88), (91, 1, 92), (91, 2, 93), (48, 14, 91), (94, 1, 95), (94, 2, 96), (48, 15, 94), (97, 1, 98), (97, 2, 99), (48, 16, 97), (100, 1, 101), (100, 2, 102), (48, 17, 100), (103, 1, 104), (103, 2, 105), (48, 18, 103), (106, 1, 107), (106, 2, 108), (48, 19, 106), (109, 1, 110), (109, 2, 111), (48, 20, 109), (112, 1, 113), (112, 2, 114), (48, 21, 112), (115, 1, 116), (115, 2, 117), (48, 22, 115), (118, 1, 119), (118, 2, 120), (48, 23, 118), (121, 1, 122), (121, 2, 123), (48, 24, 121), (124, 1, 125), (124, 2, 126), (48, 25, 124), (127, 1, 128), (127, 2, 129), (48, 26, 127), (130, 1, 131), (130, 2, 132), (48, 27, 130), (133, 1, 134), (133, 2, 135), (48, 28, 133), (136, 1, 137), (136, 2, 138), (48, 29, 136), (139, 1, 140), (139, 2, 141), (48, 30, 139), (142, 1, 143), (142, 2, 144), (48, 31, 142), (145, 1, 146), (145, 2, 147), (48, 32, 145), (148, 1, 149), (148, 2, 150), (48, 33, 148), (151, 1, 152), (151, 2, 153), (48, 34, 151), (154, 1, 155), (154, 2, 156), (48, 35, 154), (157, 1, 158), (157, 2, 159), (48, 36, 157), (160, 1, 161), (160, 2, 162), (48, 37, 160), (163, 1, 164), (163, 2, 165), (48, 38, 163), (166, 1, 167), (166, 2, 168), (48, 39, 166), (169, 1, 170), (169, 2, 171), (48, 40, 169), (172, 1, 173), (172, 2, 174), (48, 41, 172), (175, 1, 176), (175, 2, 177), (48, 42, 175), (178, 1, 179), (178, 2, 180), (48, 43, 178), (181, 1, 182), (181, 2, 183), (48, 44, 181), (184, 1, 185), (184, 2, 186), (48, 45, 184), (187, 1, 188), (187, 2, 189), (48, 46, 187), (190, 1, 191), (190, 2, 192), (48, 47, 190), (193, 1, 194), (193, 2, 195), (48, 48, 193), (196, 1, 197), (196, 2, 198), (48, 49, 196), (199, 1, 200), (199, 2, 201), (48, 50, 199), (202, 1, 203), (202, 2, 204), (48, 51, 202), (205, 1, 206), (205, 2, 207), (48, 52, 205), (208, 1, 209), (208, 2, 210), (48, 53, 208), (211, 1, 212), (211, 2, 213), (48, 54, 211), (214, 1, 215), (214, 2, 216), (48, 55, 214), (217, 1, 218), (217, 2, 219), (48, 56, 217), (220, 1, 221), (220, 2, 222), (48, 57, 220), (223, 1, 224), (223, 2, 225), (48, 58, 223), (226, 1, 227), (226, 2, 228), (48, 59, 226), (0, 13, 47), (229, 0, 230), (229, 1, 231), (0, 14, 229), (233, 1, 234), (233, 2, 235), (232, 1, 233), (232, 3, 236), (232, 4, 237), (232, 0, 4), (232, 2, 38), (0, 15, 232), (238, 1, 239), (238, 3, 240), (37, 0, 238), (241, 1, 242), (241, 3, 243), (37, 1, 241), (244, 1, 245), (244, 3, 246), (37, 2, 244), (247, 1, 248), (247, 3, 249), (37, 3, 247), (250, 1, 251), (250, 6, 252), (250, 7, 253), (250, 8, 254), (250, 9, 255), (250, 10, 256), (250, 11, 257), (250, 12, 258), (250, 15, 259), (250, 16, 260), (250, 17, 261), (250, 18, 262), (250, 19, 263), (250, 23, 264), (250, 24, 265), (250, 25, 266), (250, 29, 267), (250, 30, 268), (250, 31, 269), (250, 37, 270), (250, 39, 271), (250, 40, 272), (250, 41, 273), (250, 43, 274), (250, 44, 275), (250, 46, 276), (250, 47, 277), (250, 49, 278), (250, 50, 279), (250, 51, 280)]
/-- the first k links are laid -/
def rK (k : Nat) : mm_R := fun c i => ((rlC.take k).reverse.find? (fun q => q.1 == c && q.2.1 == i)).map (fun q => q.2.2)
def gC : mm_G := fun _ _ => 0
def dC0 : mm_D := fun _ _ => 0
def dC1 : mm_D := mm_up dC0 33 0 (-1)
def dC2 : mm_D := mm_up dC1 238 0 (0)
def dC3 : mm_D := mm_up dC2 241 0 (1)
def dC4 : mm_D := mm_up dC3 244 0 (2)
def dC5 : mm_D := mm_up dC4 247 0 (3)
theorem rK_up {k c i y : Nat} (h : rlC[k]? = some (c, i, y)) : mm_up (rK k) c i (some y) = rK (k + 1) := by
  have e : (rlC.take (k + 1)).reverse = (c, i, y) :: (rlC.take k).reverse := by
    rw [List.take_add_one, h, List.reverse_append]
    rfl
  funext a b
  unfold rK
  rw [e, List.find?_cons]
  unfold mm_up
  by_cases q : a = c
  · subst q
    rw [if_pos rfl]
    by_cases w : b = i
    · subst w
      rw [if_pos rfl]
      simp
    · rw [if_neg w]
      have : (a == a && i == b) = false := by simp; exact fun z => w z.symm
      show _ = Option.map (fun q : Nat × Nat × Nat => q.2.2) (match a == a && i == b with | true => some (a, i, y) | false => List.find? (fun q => q.1 == a && q.2.1 == b) (List.take k rlC).reverse)
      rw [this]
  · rw [if_neg q]
    have : (c == a && i == b) = false := by simp; exact fun z => absurd z.symm q
    show _ = Option.map (fun q : Nat × Nat × Nat => q.2.2) (match c == a && i == b with | true => some (c, i, y) | false => List.find? (fun q => q.1 == a && q.2.1 == b) (List.take k rlC).reverse)
    rw [this]
theorem rK_row {k n : Nat} (h : (rlC.take k).all (fun q => q.1 != n) = true) : rK k n = fun _ => none := by
  funext i
  unfold rK
  have : (rlC.take k).reverse.find? (fun q => q.1 == n && q.2.1 == i) = none := by
    rw [List.find?_eq_none]
    intro q hq
    have := List.all_eq_true.mp h q (List.mem_reverse.mp hq)
    simp only [bne_iff_ne, ne_eq] at this
    simp [this]
  rw [this]
  rfl
theorem row_id {α : Type} {f : Nat → α} {n : Nat} {v : α} (h : f n = v) : mm_rowset f n v = f := by
  funext c
  unfold mm_rowset
  by_cases q : c = n
  · rw [if_pos q, q, h]
  · rw [if_neg q]
theorem shP_row (n t m : Nat) (h : lay n = (t, m)) : mm_rowset (shP n).2.2.2 n (t, m) = (shP (n + 1)).2.2.2 := by
  funext c
  show mm_rowset (fun c => if c < n then lay c else (0, 0)) n (t, m) c = if c < n + 1 then lay c else (0, 0)
  unfold mm_rowset
  by_cases q : c = n
  · rw [if_pos q, q, if_pos (Nat.lt_succ_self n), h]
  · rw [if_neg q]
    show (if c < n then lay c else (0, 0)) = if c < n + 1 then lay c else (0, 0)
    by_cases w : c < n
    · rw [if_pos w, if_pos (by omega)]
    · rw [if_neg w, if_neg (by omega)]
theorem pushP {n k t m s : Nat} {d : mm_D} {g : mm_G} (hl : lay n = (t, m)) (hs : slP (n + 1) = slP n + s) (hd : d n = fun _ => 0) (hg : g n = fun _ => 0) (hr : (rlC.take k).all (fun q => q.1 != n) = true) : mm_push (shP n, d, g, rK k) t m s = (shP (n + 1), d, g, rK k) := by
  show ((n + 1, n + 1, slP n + s, mm_rowset (shP n).2.2.2 n (t, m)), mm_rowset d n (fun _ => 0), mm_rowset g n (fun _ => 0), mm_rowset (rK k) n (fun _ => none)) = _
  rw [shP_row n t m hl, row_id hd, row_id hg, row_id (rK_row hr), ← hs]
  rfl
theorem soP {n x t : Nat} (h : (decide (x < n) && decide ((lay x).1 = t)) = true) : so (shP n) x t := by
  rw [Bool.and_eq_true, decide_eq_true_eq, decide_eq_true_eq] at h
  exact ⟨h.1, by show (if x < n then lay x else (0, 0)).1 = t; rw [if_pos h.1]; exact h.2⟩
theorem hmP {n x m : Nat} (hx : x < n) (hm : (lay x).2 = m) : ((shP n).2.2.2 x).2 = m := by
  show (if x < n then lay x else (0, 0)).2 = m
  rw [if_pos hx]; exact hm
theorem mm_le_P {a b k1 k2 : Nat} {d1 d2 : mm_D} {g1 g2 : mm_G} (h : a ≤ b) (hs : slP a ≤ slP b) : mm_le (shP a, d1, g1, rK k1) (shP b, d2, g2, rK k2) = true := by
  unfold mm_le
  rw [Bool.and_eq_true, Bool.and_eq_true, decide_eq_true_eq, decide_eq_true_eq, decide_eq_true_eq]
  exact ⟨h, h, hs⟩
section CTOR
variable {xs : List Int32} {ext : mm_X} {n k pc : Nat} {L : mm_L} {S : List Value} {Q : Option Value → mm_M → Prop} {q : mm_T} {d : mm_D} {g : mm_G} {c kk : Nat}
theorem wp_newP {t idx : Nat} (hq : mm_mt[k]? = some q) (hd : mm_dec q pc = some (.new idx)) (hk : mm_clk q.1 idx = some t) (hn : c < 900000) (hp : mm_push (shP c, d, g, rK kk) t 0 (mm_nf t) = (shP (c + 1), d, g, rK kk)) (h : wp xs ext n k (pc + 3) L (.ref c :: S) (shP (c + 1), d, g, rK kk) Q) : wp xs ext n k pc L S (shP c, d, g, rK kk) Q := wp_new hq hd hk hn (by rw [hp]; exact h)
theorem wp_newaP {at' : ArrayType} {t : Nat} {z : Int32} {m : Nat} (hq : mm_mt[k]? = some q) (hd : mm_dec q pc = some (.newarray at')) (ht : (at' = .int ∧ t = 20) ∨ (at' = .boolean ∧ t = 21) ∨ (at' = .long ∧ t = 22)) (hc : ixn z m 100000) (hn : c < 900000) (hp : mm_push (shP c, d, g, rK kk) t m m = (shP (c + 1), d, g, rK kk)) (h : wp xs ext n k (pc + 2) L (.ref c :: S) (shP (c + 1), d, g, rK kk) Q) : wp xs ext n k pc L (.int z :: S) (shP c, d, g, rK kk) Q := wp_newa hq hd ht hc hn (by rw [hp]; exact h)
theorem wp_anewP {t idx u : Nat} {z : Int32} {m : Nat} (hq : mm_mt[k]? = some q) (hd : mm_dec q pc = some (.anewarray idx)) (hk : mm_an q.1 idx = some t) (hu : (if t = 0 then 23 else 24) = u) (hc : ixn z m 100000) (hn : c < 900000) (hp : mm_push (shP c, d, g, rK kk) u m m = (shP (c + 1), d, g, rK kk)) (h : wp xs ext n k (pc + 3) L (.ref c :: S) (shP (c + 1), d, g, rK kk) Q) : wp xs ext n k pc L (.int z :: S) (shP c, d, g, rK kk) Q := wp_anew hq hd hk hu hc hn (by rw [hp]; exact h)
theorem wp_putRP {t j nest x idx : Nat} {y : Nat} (hq : mm_mt[k]? = some q) (hd : mm_dec q pc = some (.putfield idx)) (hf : mm_fl q.1 idx = some (t, j, nest)) (hk : mm_kd t j = 2) (ho : so (shP c) x t) (hn : ((mm_fld t j).2.2 = false) ∨ (q.2.1.name = "<init>" ∧ t = q.1 ∧ nest = 0)) (hy : y < c) (hr : rlC[kk]? = some (x, j, y)) (h : wp xs ext n k (pc + 3) L S (shP c, d, g, rK (kk + 1)) Q) : wp xs ext n k pc L (.ref y :: .ref x :: S) (shP c, d, g, rK kk) Q := wp_putR hq hd hf hk ho hn hy (by rw [rK_up hr]; exact h)
theorem wp_aastP {i : Int32} {a j m t u y : Nat} (hq : mm_mt[k]? = some q) (hd : mm_dec q pc = some .aastore) (ht : (t = 23 ∧ u = 0) ∨ (t = 24 ∧ u = 6)) (ho : so (shP c) a t) (hu : so (shP c) y u) (hm : ((shP c).2.2.2 a).2 = m) (hj : ixn i j m) (hr : rlC[kk]? = some (a, j, y)) (h : wp xs ext n k (pc + 1) L S (shP c, d, g, rK (kk + 1)) Q) : wp xs ext n k pc L (.ref y :: .int i :: .ref a :: S) (shP c, d, g, rK kk) Q := wp_aast hq hd ht ho hu hm hj (by rw [rK_up hr]; exact h)
theorem rowsP {b s : Nat} (hs : ∀ j, j < s → lay (c + j) = (20, b)) (hsl : ∀ j, j < s → slP (c + j + 1) = slP (c + j) + b) (hd : ∀ j, j < s → d (c + j) = fun _ => 0) (hg : ∀ j, j < s → g (c + j) = fun _ => 0) (hr : ∀ j, j < s → (rlC.take kk).all (fun q => q.1 != c + j) = true) : ∀ z, z ≤ s → mm_rows (shP c, d, g, rK kk) b z = (shP (c + z), d, g, rK kk)
  | 0, _ => rfl
  | z + 1, hz => by
    rw [mm_rows, rowsP hs hsl hd hg hr z (by omega), pushP (hs z (by omega)) (hsl z (by omega)) (hd z (by omega)) (hg z (by omega)) (hr z (by omega))]
    rfl
theorem rowset_links {a : Nat} : ∀ z, z ≤ a → (∀ i, i < a → rlC[kk + i]? = some (c, i, c + 1 + i)) → (rlC.take kk).all (fun q => q.1 != c) = true → mm_rowset (rK kk) c (fun i => if i < z then some (c + 1 + i) else none) = rK (kk + z)
  | 0, _, _, h => by
    have : (fun i => if i < 0 then some (c + 1 + i) else none) = (fun _ : Nat => (none : Option Nat)) := funext (fun i => if_neg (Nat.not_lt_zero i))
    rw [this]
    exact row_id (rK_row h)
  | z + 1, hz, hl, h => by
    rw [← Nat.add_assoc, ← rK_up (hl z (by omega)), ← rowset_links z (by omega) hl h]
    funext x i
    unfold mm_up mm_rowset
    by_cases q : x = c
    · rw [if_pos q, if_pos q]
      show (if i < z + 1 then some (c + 1 + i) else none) = if i = z then some (c + 1 + z) else (if c = c then (fun i => if i < z then some (c + 1 + i) else none) else rK kk c) i
      rw [if_pos (rfl : c = c)]
      show (if i < z + 1 then some (c + 1 + i) else none) = if i = z then some (c + 1 + z) else (if i < z then some (c + 1 + i) else none)
      by_cases w : i = z
      · rw [if_pos w, if_pos (by omega), w]
      · rw [if_neg w]
        by_cases w2 : i < z
        · rw [if_pos w2, if_pos (by omega)]
        · rw [if_neg w2, if_neg (by omega)]
    · rw [if_neg q, if_neg q, if_neg q]
def mnaChk (c kk a b : Nat) : Bool := (List.range a).all (fun j => decide (lay (c + 1 + j) = (20, b)) && (decide (slP (c + 1 + j + 1) = slP (c + 1 + j) + b) && ((rlC.take kk).all (fun q => q.1 != c + 1 + j) && decide (rlC[kk + j]? = some (c, j, c + 1 + j)))))
theorem wp_mnaP {a b : Nat} {za zb : Int32} (hq : mm_mt[k]? = some q) (hd : mm_dec q pc = some (.multianewarray 9 2)) (ha : za = nI a ∧ zb = nI b) (hab : a < 100 ∧ b < 100) (hc : c < 900000) (hown : q.1 = 7 ∧ mm_ret (.multianewarray 9 2) q.2.2.2.2.1 (.int zb :: .int za :: S) = none) (hl : lay c = (25, a) ∧ slP (c + 1) = slP c + a ∧ (rlC.take kk).all (fun q => q.1 != c) = true) (hk : mnaChk c kk a b = true) (hd0 : ∀ j, d (c + j) = fun _ => 0) (hg0 : ∀ j, g (c + j) = fun _ => 0) (h : wp xs ext n k (pc + 4) L (.ref c :: S) (shP (c + 1 + a), d, g, rK (kk + a)) Q) : wp xs ext n k pc L (.int zb :: .int za :: S) (shP c, d, g, rK kk) Q := by
  obtain ⟨rfl, rfl⟩ := ha
  obtain ⟨h1, h2, h3⟩ := hl
  have hK : ∀ j, j < a → lay (c + 1 + j) = (20, b) ∧ slP (c + 1 + j + 1) = slP (c + 1 + j) + b ∧ (rlC.take kk).all (fun q => q.1 != c + 1 + j) = true ∧ rlC[kk + j]? = some (c, j, c + 1 + j) := fun j hj => by
    have := List.all_eq_true.mp hk j (List.mem_range.mpr hj)
    rw [Bool.and_eq_true, Bool.and_eq_true, Bool.and_eq_true, decide_eq_true_eq, decide_eq_true_eq, decide_eq_true_eq] at this
    exact this
  have e1 : mm_push (shP c, d, g, rK kk) 25 a a = (shP (c + 1), d, g, rK kk) := pushP h1 h2 (hd0 0) (hg0 0) h3
  have e2 : mm_rows (mm_push (shP c, d, g, rK kk) 25 a a) b a = (shP (c + 1 + a), d, g, rK kk) := by
    rw [e1]
    exact rowsP (s := a) (fun j hj => (hK j hj).1) (fun j hj => (hK j hj).2.1) (fun j _ => by rw [Nat.add_assoc]; exact hd0 (1 + j)) (fun j _ => by rw [Nat.add_assoc]; exact hg0 (1 + j)) (fun j hj => (hK j hj).2.2.1) a (Nat.le_refl _)
  have e3 : mm_mnaM (shP c, d, g, rK kk) a b = (shP (c + 1 + a), d, g, rK (kk + a)) := by
    unfold mm_mnaM
    rw [e2]
    show (shP (c + 1 + a), d, g, mm_rowset (rK kk) c (fun i => if i < a then some (c + 1 + i) else none)) = _
    rw [rowset_links a (Nat.le_refl _) (fun j hj => (hK j hj).2.2.2) h3]
  refine wp_st hq hd rfl hown.2 (pc' := pc + 4) (L' := L) (S' := .ref c :: S) (μ' := (shP (c + 1 + a), d, g, rK (kk + a))) ?_ ?_ h
  · show mm_mna q.1 9 pc L (.int (nI b) :: .int (nI a) :: S) (shP c, d, g, rK kk) = _
    unfold mm_mna
    rw [hown.1]
    have ca : (nI a).toNatClampNeg = a := nI_clamp (by omega)
    have cb : (nI b).toNatClampNeg = b := nI_clamp (by omega)
    show (if decide (7 = 7) && decide (9 = 9) && (decide (0 ≤ nI a) && decide ((nI a).toNatClampNeg < 100) && decide (0 ≤ nI b) && decide ((nI b).toNatClampNeg < 100)) && decide (mm_next (shP c, d, g, rK kk) < 900000) then some (pc + 4, L, Value.ref (mm_next (shP c, d, g, rK kk)) :: S, mm_mnaM (shP c, d, g, rK kk) (nI a).toNatClampNeg (nI b).toNatClampNeg) else none) = _
    rw [ca, cb, e3, decide_eq_true (show 0 ≤ nI a from nI_pos' (by omega)), decide_eq_true (show 0 ≤ nI b from nI_pos' (by omega)), decide_eq_true hab.1, decide_eq_true hab.2, decide_eq_true (show mm_next (shP c, d, g, rK kk) < 900000 from hc)]
    rfl
  · have hsl : slP c ≤ slP (c + 1 + a) := by
      have key : ∀ z, z ≤ a → slP c ≤ slP (c + 1 + z) := fun z => by
        induction z with
        | zero => intro _; rw [Nat.add_zero, h2]; omega
        | succ z ih =>
          intro hz
          have := ih (by omega)
          have := (hK z (by omega)).2.1
          rw [← Nat.add_assoc, this]
          omega
      exact key a (Nat.le_refl _)
    exact mm_le_P (by omega) hsl
end CTOR
theorem i_42_1 {xs : List Int32} {ext : mm_X} {n : Nat} : wp xs ext (n + 1) 42 0 [some (.ref 1)] [] (shP 2, dC0, gC, rK 0) (fun v μ => v = none ∧ μ = (shP 3, dC0, gC, rK 1)) := by
  refine wp_aload_n (j := 0) rfl q42_ok d42_0 ?_
  refine wp_objinit q42_ok d42_1 ml_5_3 rfl (Nat.le_of_ble_eq_true rfl) ?_
  refine wp_aload_n (j := 0) rfl q42_ok d42_4 ?_
  refine wp_sipush (v := 160) (by decide) q42_ok d42_5 ?_
  refine wp_newaP (t := 20) (m := 160) q42_ok d42_8 (by decide) (ixn_nI (j := 160) (by decide)) (by decide) (pushP (by decide +kernel) (by decide +kernel) rfl rfl (by decide +kernel)) ?_
  refine wp_putRP q42_ok d42_10 fl_5_9 rfl (soP (n := 3) (x := 1) (t := 5) (by decide)) (Or.inr ⟨rfl, rfl, rfl⟩) (by decide) rfl ?_
  refine wp_vret q42_ok d42_13 rfl ?_
  exact ⟨rfl, rfl⟩
theorem i_33_2 {xs : List Int32} {ext : mm_X} {n : Nat} : wp xs ext (n + 1) 33 0 [some (.ref 3), some (.ref 1)] [] (shP 4, dC0, gC, rK 2) (fun v μ => v = none ∧ μ = (shP 4, dC0, gC, rK 3)) := by
  refine wp_aload_n (j := 0) rfl q33_ok d33_0 ?_
  refine wp_objinit q33_ok d33_1 ml_4_3 rfl (Nat.le_of_ble_eq_true rfl) ?_
  refine wp_aload_n (j := 0) rfl q33_ok d33_4 ?_
  refine wp_aload_n (j := 1) rfl q33_ok d33_5 ?_
  refine wp_putRP q33_ok d33_6 fl_4_9 rfl (soP (n := 4) (x := 3) (t := 4) (by decide)) (Or.inr ⟨rfl, rfl, rfl⟩) (by decide) rfl ?_
  refine wp_vret q33_ok d33_9 rfl ?_
  exact ⟨rfl, rfl⟩
theorem i_50_3 {xs : List Int32} {ext : mm_X} {n : Nat} : wp xs ext (n + 1) 50 0 [some (.ref 4)] [] (shP 5, dC0, gC, rK 4) (fun v μ => v = none ∧ μ = (shP 18, dC0, gC, rK 17)) := by
  refine wp_aload_n (j := 0) rfl q50_ok d50_0 ?_
  refine wp_objinit q50_ok d50_1 ml_7_3 rfl (Nat.le_of_ble_eq_true rfl) ?_
  refine wp_aload_n (j := 0) rfl q50_ok d50_4 ?_
  refine wp_bipush (v := 6) (by decide) q50_ok d50_5 ?_
  refine wp_iconst (v := 4) (by decide) q50_ok d50_7 ?_
  refine wp_mnaP (a := 6) (b := 4) (c := 5) (kk := 4) q50_ok d50_8 ⟨rfl, rfl⟩ (by decide) (by decide) ⟨rfl, rfl⟩ ⟨by decide +kernel, by decide +kernel, by decide +kernel⟩ (by decide +kernel) (fun _ => rfl) (fun _ => rfl) ?_
  refine wp_putRP q50_ok d50_12 fl_7_11 rfl (soP (n := 12) (x := 4) (t := 7) (by decide)) (Or.inr ⟨rfl, rfl, rfl⟩) (by decide) rfl ?_
  refine wp_aload_n (j := 0) rfl q50_ok d50_15 ?_
  refine wp_bipush (v := 6) (by decide) q50_ok d50_16 ?_
  refine wp_anewP (t := 0) (m := 6) (u := 23) q50_ok d50_18 (by decide +kernel) rfl (ixn_nI (j := 6) (by decide)) (by decide) (pushP (by decide +kernel) (by decide +kernel) rfl rfl (by decide +kernel)) ?_
  refine wp_putRP q50_ok d50_21 fl_7_18 rfl (soP (n := 13) (x := 4) (t := 7) (by decide)) (Or.inr ⟨rfl, rfl, rfl⟩) (by decide) rfl ?_
  refine wp_aload_n (j := 0) rfl q50_ok d50_24 ?_
  refine wp_iconst (v := 2) (by decide) q50_ok d50_25 ?_
  refine wp_iconst (v := 3) (by decide) q50_ok d50_26 ?_
  refine wp_mnaP (a := 2) (b := 3) (c := 13) (kk := 12) q50_ok d50_27 ⟨rfl, rfl⟩ (by decide) (by decide) ⟨rfl, rfl⟩ ⟨by decide +kernel, by decide +kernel, by decide +kernel⟩ (by decide +kernel) (fun _ => rfl) (fun _ => rfl) ?_
  refine wp_putRP q50_ok d50_31 fl_7_22 rfl (soP (n := 16) (x := 4) (t := 7) (by decide)) (Or.inr ⟨rfl, rfl, rfl⟩) (by decide) rfl ?_
  refine wp_aload_n (j := 0) rfl q50_ok d50_34 ?_
  refine wp_iconst (v := 4) (by decide) q50_ok d50_35 ?_
  refine wp_newaP (t := 20) (m := 4) q50_ok d50_36 (by decide) (ixn_nI (j := 4) (by decide)) (by decide) (pushP (by decide +kernel) (by decide +kernel) rfl rfl (by decide +kernel)) ?_
  refine wp_putRP q50_ok d50_38 fl_7_25 rfl (soP (n := 17) (x := 4) (t := 7) (by decide)) (Or.inr ⟨rfl, rfl, rfl⟩) (by decide) rfl ?_
  refine wp_aload_n (j := 0) rfl q50_ok d50_41 ?_
  refine wp_bipush (v := 6) (by decide) q50_ok d50_42 ?_
  refine wp_newaP (t := 20) (m := 6) q50_ok d50_44 (by decide) (ixn_nI (j := 6) (by decide)) (by decide) (pushP (by decide +kernel) (by decide +kernel) rfl rfl (by decide +kernel)) ?_
  refine wp_putRP q50_ok d50_46 fl_7_29 rfl (soP (n := 18) (x := 4) (t := 7) (by decide)) (Or.inr ⟨rfl, rfl, rfl⟩) (by decide) rfl ?_
  refine wp_vret q50_ok d50_49 rfl ?_
  exact ⟨rfl, rfl⟩
theorem i_50_4 {xs : List Int32} {ext : mm_X} {n : Nat} : wp xs ext (n + 1) 50 0 [some (.ref 18)] [] (shP 19, dC0, gC, rK 18) (fun v μ => v = none ∧ μ = (shP 32, dC0, gC, rK 31)) := by
  refine wp_aload_n (j := 0) rfl q50_ok d50_0 ?_
  refine wp_objinit q50_ok d50_1 ml_7_3 rfl (Nat.le_of_ble_eq_true rfl) ?_
  refine wp_aload_n (j := 0) rfl q50_ok d50_4 ?_
  refine wp_bipush (v := 6) (by decide) q50_ok d50_5 ?_
  refine wp_iconst (v := 4) (by decide) q50_ok d50_7 ?_
  refine wp_mnaP (a := 6) (b := 4) (c := 19) (kk := 18) q50_ok d50_8 ⟨rfl, rfl⟩ (by decide) (by decide) ⟨rfl, rfl⟩ ⟨by decide +kernel, by decide +kernel, by decide +kernel⟩ (by decide +kernel) (fun _ => rfl) (fun _ => rfl) ?_
  refine wp_putRP q50_ok d50_12 fl_7_11 rfl (soP (n := 26) (x := 18) (t := 7) (by decide)) (Or.inr ⟨rfl, rfl, rfl⟩) (by decide) rfl ?_
  refine wp_aload_n (j := 0) rfl q50_ok d50_15 ?_
  refine wp_bipush (v := 6) (by decide) q50_ok d50_16 ?_
  refine wp_anewP (t := 0) (m := 6) (u := 23) q50_ok d50_18 (by decide +kernel) rfl (ixn_nI (j := 6) (by decide)) (by decide) (pushP (by decide +kernel) (by decide +kernel) rfl rfl (by decide +kernel)) ?_
  refine wp_putRP q50_ok d50_21 fl_7_18 rfl (soP (n := 27) (x := 18) (t := 7) (by decide)) (Or.inr ⟨rfl, rfl, rfl⟩) (by decide) rfl ?_
  refine wp_aload_n (j := 0) rfl q50_ok d50_24 ?_
  refine wp_iconst (v := 2) (by decide) q50_ok d50_25 ?_
  refine wp_iconst (v := 3) (by decide) q50_ok d50_26 ?_
  refine wp_mnaP (a := 2) (b := 3) (c := 27) (kk := 26) q50_ok d50_27 ⟨rfl, rfl⟩ (by decide) (by decide) ⟨rfl, rfl⟩ ⟨by decide +kernel, by decide +kernel, by decide +kernel⟩ (by decide +kernel) (fun _ => rfl) (fun _ => rfl) ?_
  refine wp_putRP q50_ok d50_31 fl_7_22 rfl (soP (n := 30) (x := 18) (t := 7) (by decide)) (Or.inr ⟨rfl, rfl, rfl⟩) (by decide) rfl ?_
  refine wp_aload_n (j := 0) rfl q50_ok d50_34 ?_
  refine wp_iconst (v := 4) (by decide) q50_ok d50_35 ?_
  refine wp_newaP (t := 20) (m := 4) q50_ok d50_36 (by decide) (ixn_nI (j := 4) (by decide)) (by decide) (pushP (by decide +kernel) (by decide +kernel) rfl rfl (by decide +kernel)) ?_
  refine wp_putRP q50_ok d50_38 fl_7_25 rfl (soP (n := 31) (x := 18) (t := 7) (by decide)) (Or.inr ⟨rfl, rfl, rfl⟩) (by decide) rfl ?_
  refine wp_aload_n (j := 0) rfl q50_ok d50_41 ?_
  refine wp_bipush (v := 6) (by decide) q50_ok d50_42 ?_
  refine wp_newaP (t := 20) (m := 6) q50_ok d50_44 (by decide) (ixn_nI (j := 6) (by decide)) (by decide) (pushP (by decide +kernel) (by decide +kernel) rfl rfl (by decide +kernel)) ?_
  refine wp_putRP q50_ok d50_46 fl_7_29 rfl (soP (n := 32) (x := 18) (t := 7) (by decide)) (Or.inr ⟨rfl, rfl, rfl⟩) (by decide) rfl ?_
  refine wp_vret q50_ok d50_49 rfl ?_
  exact ⟨rfl, rfl⟩
theorem i_72_5 {xs : List Int32} {ext : mm_X} {n : Nat} : wp xs ext (n + 1) 72 0 [some (.ref 32), some (.ref 3), some (.ref 18)] [] (shP 33, dC0, gC, rK 32) (fun v μ => v = none ∧ μ = (shP 33, dC0, gC, rK 34)) := by
  refine wp_aload_n (j := 0) rfl q72_ok d72_0 ?_
  refine wp_objinit q72_ok d72_1 ml_8_3 rfl (Nat.le_of_ble_eq_true rfl) ?_
  refine wp_aload_n (j := 0) rfl q72_ok d72_4 ?_
  refine wp_aload_n (j := 1) rfl q72_ok d72_5 ?_
  refine wp_putRP q72_ok d72_6 fl_8_9 rfl (soP (n := 33) (x := 32) (t := 8) (by decide)) (Or.inr ⟨rfl, rfl, rfl⟩) (by decide) rfl ?_
  refine wp_aload_n (j := 0) rfl q72_ok d72_9 ?_
  refine wp_aload_n (j := 2) rfl q72_ok d72_10 ?_
  refine wp_putRP q72_ok d72_11 fl_8_15 rfl (soP (n := 33) (x := 32) (t := 8) (by decide)) (Or.inr ⟨rfl, rfl, rfl⟩) (by decide) rfl ?_
  refine wp_vret q72_ok d72_14 rfl ?_
  exact ⟨rfl, rfl⟩
theorem i_2_6 {xs : List Int32} {ext : mm_X} {n : Nat} : wp xs ext (n + 1) 2 0 [some (.ref 33), some (.int (-1))] [] (shP 34, dC0, gC, rK 35) (fun v μ => v = none ∧ μ = (shP 36, dC1, gC, rK 37)) := by
  refine wp_aload_n (j := 0) rfl q2_ok d2_0 ?_
  refine wp_objinit q2_ok d2_1 ml_0_3 rfl (Nat.le_of_ble_eq_true rfl) ?_
  refine wp_aload_n (j := 0) rfl q2_ok d2_4 ?_
  refine wp_sipush (v := 160) (by decide) q2_ok d2_5 ?_
  refine wp_newaP (t := 20) (m := 160) q2_ok d2_8 (by decide) (ixn_nI (j := 160) (by decide)) (by decide) (pushP (by decide +kernel) (by decide +kernel) rfl rfl (by decide +kernel)) ?_
  refine wp_putRP q2_ok d2_10 fl_0_9 rfl (soP (n := 35) (x := 33) (t := 0) (by decide)) (Or.inr ⟨rfl, rfl, rfl⟩) (by decide) rfl ?_
  refine wp_aload_n (j := 0) rfl q2_ok d2_13 ?_
  refine wp_bipush (v := 32) (by decide) q2_ok d2_14 ?_
  refine wp_newaP (t := 20) (m := 32) q2_ok d2_16 (by decide) (ixn_nI (j := 32) (by decide)) (by decide) (pushP (by decide +kernel) (by decide +kernel) rfl rfl (by decide +kernel)) ?_
  refine wp_putRP q2_ok d2_18 fl_0_15 rfl (soP (n := 36) (x := 33) (t := 0) (by decide)) (Or.inr ⟨rfl, rfl, rfl⟩) (by decide) rfl ?_
  refine wp_aload_n (j := 0) rfl q2_ok d2_21 ?_
  refine wp_iload_n (j := 1) rfl q2_ok d2_22 ?_
  refine wp_putI (v := -1) q2_ok d2_23 fl_0_18 rfl (soP (n := 36) (x := 33) (t := 0) (by decide)) (Or.inr ⟨rfl, rfl, rfl⟩) ?_
  show wp _ _ _ _ _ _ _ (shP 36, dC1, gC, rK 37) _
  refine wp_vret q2_ok d2_26 rfl ?_
  exact ⟨rfl, rfl⟩
theorem i_10_7 {xs : List Int32} {ext : mm_X} {n : Nat} : wp xs ext (n + 1) 10 0 [some (.ref 36), some (.ref 3), some (.ref 33)] [] (shP 37, dC1, gC, rK 38) (fun v μ => v = none ∧ μ = (shP 37, dC1, gC, rK 40)) := by
  refine wp_aload_n (j := 0) rfl q10_ok d10_0 ?_
  refine wp_objinit q10_ok d10_1 ml_1_3 rfl (Nat.le_of_ble_eq_true rfl) ?_
  refine wp_aload_n (j := 0) rfl q10_ok d10_4 ?_
  refine wp_aload_n (j := 1) rfl q10_ok d10_5 ?_
  refine wp_putRP q10_ok d10_6 fl_1_9 rfl (soP (n := 37) (x := 36) (t := 1) (by decide)) (Or.inr ⟨rfl, rfl, rfl⟩) (by decide) rfl ?_
  refine wp_aload_n (j := 0) rfl q10_ok d10_9 ?_
  refine wp_aload_n (j := 2) rfl q10_ok d10_10 ?_
  refine wp_putRP q10_ok d10_11 fl_1_15 rfl (soP (n := 37) (x := 36) (t := 1) (by decide)) (Or.inr ⟨rfl, rfl, rfl⟩) (by decide) rfl ?_
  refine wp_vret q10_ok d10_14 rfl ?_
  exact ⟨rfl, rfl⟩
theorem i_45_8 {xs : List Int32} {ext : mm_X} {n : Nat} : wp xs ext (n + 1) 45 0 [some (.ref 38)] [] (shP 39, dC1, gC, rK 42) (fun v μ => v = none ∧ μ = (shP 41, dC1, gC, rK 44)) := by
  refine wp_aload_n (j := 0) rfl q45_ok d45_0 ?_
  refine wp_objinit q45_ok d45_1 ml_6_3 rfl (Nat.le_of_ble_eq_true rfl) ?_
  refine wp_aload_n (j := 0) rfl q45_ok d45_4 ?_
  refine wp_iconst (v := 2) (by decide) q45_ok d45_5 ?_
  refine wp_newaP (t := 20) (m := 2) q45_ok d45_6 (by decide) (ixn_nI (j := 2) (by decide)) (by decide) (pushP (by decide +kernel) (by decide +kernel) rfl rfl (by decide +kernel)) ?_
  refine wp_putRP q45_ok d45_8 fl_6_9 rfl (soP (n := 40) (x := 38) (t := 6) (by decide)) (Or.inr ⟨rfl, rfl, rfl⟩) (by decide) rfl ?_
  refine wp_aload_n (j := 0) rfl q45_ok d45_11 ?_
  refine wp_iconst (v := 2) (by decide) q45_ok d45_12 ?_
  refine wp_newaP (t := 20) (m := 2) q45_ok d45_13 (by decide) (ixn_nI (j := 2) (by decide)) (by decide) (pushP (by decide +kernel) (by decide +kernel) rfl rfl (by decide +kernel)) ?_
  refine wp_putRP q45_ok d45_15 fl_6_15 rfl (soP (n := 41) (x := 38) (t := 6) (by decide)) (Or.inr ⟨rfl, rfl, rfl⟩) (by decide) rfl ?_
  refine wp_vret q45_ok d45_18 rfl ?_
  exact ⟨rfl, rfl⟩
theorem i_45_9 {xs : List Int32} {ext : mm_X} {n : Nat} : wp xs ext (n + 1) 45 0 [some (.ref 41)] [] (shP 42, dC1, gC, rK 45) (fun v μ => v = none ∧ μ = (shP 44, dC1, gC, rK 47)) := by
  refine wp_aload_n (j := 0) rfl q45_ok d45_0 ?_
  refine wp_objinit q45_ok d45_1 ml_6_3 rfl (Nat.le_of_ble_eq_true rfl) ?_
  refine wp_aload_n (j := 0) rfl q45_ok d45_4 ?_
  refine wp_iconst (v := 2) (by decide) q45_ok d45_5 ?_
  refine wp_newaP (t := 20) (m := 2) q45_ok d45_6 (by decide) (ixn_nI (j := 2) (by decide)) (by decide) (pushP (by decide +kernel) (by decide +kernel) rfl rfl (by decide +kernel)) ?_
  refine wp_putRP q45_ok d45_8 fl_6_9 rfl (soP (n := 43) (x := 41) (t := 6) (by decide)) (Or.inr ⟨rfl, rfl, rfl⟩) (by decide) rfl ?_
  refine wp_aload_n (j := 0) rfl q45_ok d45_11 ?_
  refine wp_iconst (v := 2) (by decide) q45_ok d45_12 ?_
  refine wp_newaP (t := 20) (m := 2) q45_ok d45_13 (by decide) (ixn_nI (j := 2) (by decide)) (by decide) (pushP (by decide +kernel) (by decide +kernel) rfl rfl (by decide +kernel)) ?_
  refine wp_putRP q45_ok d45_15 fl_6_15 rfl (soP (n := 44) (x := 41) (t := 6) (by decide)) (Or.inr ⟨rfl, rfl, rfl⟩) (by decide) rfl ?_
  refine wp_vret q45_ok d45_18 rfl ?_
  exact ⟨rfl, rfl⟩
theorem i_45_10 {xs : List Int32} {ext : mm_X} {n : Nat} : wp xs ext (n + 1) 45 0 [some (.ref 44)] [] (shP 45, dC1, gC, rK 48) (fun v μ => v = none ∧ μ = (shP 47, dC1, gC, rK 50)) := by
  refine wp_aload_n (j := 0) rfl q45_ok d45_0 ?_
  refine wp_objinit q45_ok d45_1 ml_6_3 rfl (Nat.le_of_ble_eq_true rfl) ?_
  refine wp_aload_n (j := 0) rfl q45_ok d45_4 ?_
  refine wp_iconst (v := 2) (by decide) q45_ok d45_5 ?_
  refine wp_newaP (t := 20) (m := 2) q45_ok d45_6 (by decide) (ixn_nI (j := 2) (by decide)) (by decide) (pushP (by decide +kernel) (by decide +kernel) rfl rfl (by decide +kernel)) ?_
  refine wp_putRP q45_ok d45_8 fl_6_9 rfl (soP (n := 46) (x := 44) (t := 6) (by decide)) (Or.inr ⟨rfl, rfl, rfl⟩) (by decide) rfl ?_
  refine wp_aload_n (j := 0) rfl q45_ok d45_11 ?_
  refine wp_iconst (v := 2) (by decide) q45_ok d45_12 ?_
  refine wp_newaP (t := 20) (m := 2) q45_ok d45_13 (by decide) (ixn_nI (j := 2) (by decide)) (by decide) (pushP (by decide +kernel) (by decide +kernel) rfl rfl (by decide +kernel)) ?_
  refine wp_putRP q45_ok d45_15 fl_6_15 rfl (soP (n := 47) (x := 44) (t := 6) (by decide)) (Or.inr ⟨rfl, rfl, rfl⟩) (by decide) rfl ?_
  refine wp_vret q45_ok d45_18 rfl ?_
  exact ⟨rfl, rfl⟩
theorem i_45_12 {xs : List Int32} {ext : mm_X} {n : Nat} : wp xs ext (n + 1) 45 0 [some (.ref 49)] [] (shP 50, dC1, gC, rK 52) (fun v μ => v = none ∧ μ = (shP 52, dC1, gC, rK 54)) := by
  refine wp_aload_n (j := 0) rfl q45_ok d45_0 ?_
  refine wp_objinit q45_ok d45_1 ml_6_3 rfl (Nat.le_of_ble_eq_true rfl) ?_
  refine wp_aload_n (j := 0) rfl q45_ok d45_4 ?_
  refine wp_iconst (v := 2) (by decide) q45_ok d45_5 ?_
  refine wp_newaP (t := 20) (m := 2) q45_ok d45_6 (by decide) (ixn_nI (j := 2) (by decide)) (by decide) (pushP (by decide +kernel) (by decide +kernel) rfl rfl (by decide +kernel)) ?_
  refine wp_putRP q45_ok d45_8 fl_6_9 rfl (soP (n := 51) (x := 49) (t := 6) (by decide)) (Or.inr ⟨rfl, rfl, rfl⟩) (by decide) rfl ?_
  refine wp_aload_n (j := 0) rfl q45_ok d45_11 ?_
  refine wp_iconst (v := 2) (by decide) q45_ok d45_12 ?_
  refine wp_newaP (t := 20) (m := 2) q45_ok d45_13 (by decide) (ixn_nI (j := 2) (by decide)) (by decide) (pushP (by decide +kernel) (by decide +kernel) rfl rfl (by decide +kernel)) ?_
  refine wp_putRP q45_ok d45_15 fl_6_15 rfl (soP (n := 52) (x := 49) (t := 6) (by decide)) (Or.inr ⟨rfl, rfl, rfl⟩) (by decide) rfl ?_
  refine wp_vret q45_ok d45_18 rfl ?_
  exact ⟨rfl, rfl⟩
theorem i_45_13 {xs : List Int32} {ext : mm_X} {n : Nat} : wp xs ext (n + 1) 45 0 [some (.ref 52)] [] (shP 53, dC1, gC, rK 55) (fun v μ => v = none ∧ μ = (shP 55, dC1, gC, rK 57)) := by
  refine wp_aload_n (j := 0) rfl q45_ok d45_0 ?_
  refine wp_objinit q45_ok d45_1 ml_6_3 rfl (Nat.le_of_ble_eq_true rfl) ?_
  refine wp_aload_n (j := 0) rfl q45_ok d45_4 ?_
  refine wp_iconst (v := 2) (by decide) q45_ok d45_5 ?_
  refine wp_newaP (t := 20) (m := 2) q45_ok d45_6 (by decide) (ixn_nI (j := 2) (by decide)) (by decide) (pushP (by decide +kernel) (by decide +kernel) rfl rfl (by decide +kernel)) ?_
  refine wp_putRP q45_ok d45_8 fl_6_9 rfl (soP (n := 54) (x := 52) (t := 6) (by decide)) (Or.inr ⟨rfl, rfl, rfl⟩) (by decide) rfl ?_
  refine wp_aload_n (j := 0) rfl q45_ok d45_11 ?_
  refine wp_iconst (v := 2) (by decide) q45_ok d45_12 ?_
  refine wp_newaP (t := 20) (m := 2) q45_ok d45_13 (by decide) (ixn_nI (j := 2) (by decide)) (by decide) (pushP (by decide +kernel) (by decide +kernel) rfl rfl (by decide +kernel)) ?_
  refine wp_putRP q45_ok d45_15 fl_6_15 rfl (soP (n := 55) (x := 52) (t := 6) (by decide)) (Or.inr ⟨rfl, rfl, rfl⟩) (by decide) rfl ?_
  refine wp_vret q45_ok d45_18 rfl ?_
  exact ⟨rfl, rfl⟩
theorem i_45_14 {xs : List Int32} {ext : mm_X} {n : Nat} : wp xs ext (n + 1) 45 0 [some (.ref 55)] [] (shP 56, dC1, gC, rK 58) (fun v μ => v = none ∧ μ = (shP 58, dC1, gC, rK 60)) := by
  refine wp_aload_n (j := 0) rfl q45_ok d45_0 ?_
  refine wp_objinit q45_ok d45_1 ml_6_3 rfl (Nat.le_of_ble_eq_true rfl) ?_
  refine wp_aload_n (j := 0) rfl q45_ok d45_4 ?_
  refine wp_iconst (v := 2) (by decide) q45_ok d45_5 ?_
  refine wp_newaP (t := 20) (m := 2) q45_ok d45_6 (by decide) (ixn_nI (j := 2) (by decide)) (by decide) (pushP (by decide +kernel) (by decide +kernel) rfl rfl (by decide +kernel)) ?_
  refine wp_putRP q45_ok d45_8 fl_6_9 rfl (soP (n := 57) (x := 55) (t := 6) (by decide)) (Or.inr ⟨rfl, rfl, rfl⟩) (by decide) rfl ?_
  refine wp_aload_n (j := 0) rfl q45_ok d45_11 ?_
  refine wp_iconst (v := 2) (by decide) q45_ok d45_12 ?_
  refine wp_newaP (t := 20) (m := 2) q45_ok d45_13 (by decide) (ixn_nI (j := 2) (by decide)) (by decide) (pushP (by decide +kernel) (by decide +kernel) rfl rfl (by decide +kernel)) ?_
  refine wp_putRP q45_ok d45_15 fl_6_15 rfl (soP (n := 58) (x := 55) (t := 6) (by decide)) (Or.inr ⟨rfl, rfl, rfl⟩) (by decide) rfl ?_
  refine wp_vret q45_ok d45_18 rfl ?_
  exact ⟨rfl, rfl⟩
theorem i_45_15 {xs : List Int32} {ext : mm_X} {n : Nat} : wp xs ext (n + 1) 45 0 [some (.ref 58)] [] (shP 59, dC1, gC, rK 61) (fun v μ => v = none ∧ μ = (shP 61, dC1, gC, rK 63)) := by
  refine wp_aload_n (j := 0) rfl q45_ok d45_0 ?_
  refine wp_objinit q45_ok d45_1 ml_6_3 rfl (Nat.le_of_ble_eq_true rfl) ?_
  refine wp_aload_n (j := 0) rfl q45_ok d45_4 ?_
  refine wp_iconst (v := 2) (by decide) q45_ok d45_5 ?_
  refine wp_newaP (t := 20) (m := 2) q45_ok d45_6 (by decide) (ixn_nI (j := 2) (by decide)) (by decide) (pushP (by decide +kernel) (by decide +kernel) rfl rfl (by decide +kernel)) ?_
  refine wp_putRP q45_ok d45_8 fl_6_9 rfl (soP (n := 60) (x := 58) (t := 6) (by decide)) (Or.inr ⟨rfl, rfl, rfl⟩) (by decide) rfl ?_
  refine wp_aload_n (j := 0) rfl q45_ok d45_11 ?_
  refine wp_iconst (v := 2) (by decide) q45_ok d45_12 ?_
  refine wp_newaP (t := 20) (m := 2) q45_ok d45_13 (by decide) (ixn_nI (j := 2) (by decide)) (by decide) (pushP (by decide +kernel) (by decide +kernel) rfl rfl (by decide +kernel)) ?_
  refine wp_putRP q45_ok d45_15 fl_6_15 rfl (soP (n := 61) (x := 58) (t := 6) (by decide)) (Or.inr ⟨rfl, rfl, rfl⟩) (by decide) rfl ?_
  refine wp_vret q45_ok d45_18 rfl ?_
  exact ⟨rfl, rfl⟩
theorem i_45_16 {xs : List Int32} {ext : mm_X} {n : Nat} : wp xs ext (n + 1) 45 0 [some (.ref 61)] [] (shP 62, dC1, gC, rK 64) (fun v μ => v = none ∧ μ = (shP 64, dC1, gC, rK 66)) := by
  refine wp_aload_n (j := 0) rfl q45_ok d45_0 ?_
  refine wp_objinit q45_ok d45_1 ml_6_3 rfl (Nat.le_of_ble_eq_true rfl) ?_
  refine wp_aload_n (j := 0) rfl q45_ok d45_4 ?_
  refine wp_iconst (v := 2) (by decide) q45_ok d45_5 ?_
  refine wp_newaP (t := 20) (m := 2) q45_ok d45_6 (by decide) (ixn_nI (j := 2) (by decide)) (by decide) (pushP (by decide +kernel) (by decide +kernel) rfl rfl (by decide +kernel)) ?_
  refine wp_putRP q45_ok d45_8 fl_6_9 rfl (soP (n := 63) (x := 61) (t := 6) (by decide)) (Or.inr ⟨rfl, rfl, rfl⟩) (by decide) rfl ?_
  refine wp_aload_n (j := 0) rfl q45_ok d45_11 ?_
  refine wp_iconst (v := 2) (by decide) q45_ok d45_12 ?_
  refine wp_newaP (t := 20) (m := 2) q45_ok d45_13 (by decide) (ixn_nI (j := 2) (by decide)) (by decide) (pushP (by decide +kernel) (by decide +kernel) rfl rfl (by decide +kernel)) ?_
  refine wp_putRP q45_ok d45_15 fl_6_15 rfl (soP (n := 64) (x := 61) (t := 6) (by decide)) (Or.inr ⟨rfl, rfl, rfl⟩) (by decide) rfl ?_
  refine wp_vret q45_ok d45_18 rfl ?_
  exact ⟨rfl, rfl⟩
theorem i_45_17 {xs : List Int32} {ext : mm_X} {n : Nat} : wp xs ext (n + 1) 45 0 [some (.ref 64)] [] (shP 65, dC1, gC, rK 67) (fun v μ => v = none ∧ μ = (shP 67, dC1, gC, rK 69)) := by
  refine wp_aload_n (j := 0) rfl q45_ok d45_0 ?_
  refine wp_objinit q45_ok d45_1 ml_6_3 rfl (Nat.le_of_ble_eq_true rfl) ?_
  refine wp_aload_n (j := 0) rfl q45_ok d45_4 ?_
  refine wp_iconst (v := 2) (by decide) q45_ok d45_5 ?_
  refine wp_newaP (t := 20) (m := 2) q45_ok d45_6 (by decide) (ixn_nI (j := 2) (by decide)) (by decide) (pushP (by decide +kernel) (by decide +kernel) rfl rfl (by decide +kernel)) ?_
  refine wp_putRP q45_ok d45_8 fl_6_9 rfl (soP (n := 66) (x := 64) (t := 6) (by decide)) (Or.inr ⟨rfl, rfl, rfl⟩) (by decide) rfl ?_
  refine wp_aload_n (j := 0) rfl q45_ok d45_11 ?_
  refine wp_iconst (v := 2) (by decide) q45_ok d45_12 ?_
  refine wp_newaP (t := 20) (m := 2) q45_ok d45_13 (by decide) (ixn_nI (j := 2) (by decide)) (by decide) (pushP (by decide +kernel) (by decide +kernel) rfl rfl (by decide +kernel)) ?_
  refine wp_putRP q45_ok d45_15 fl_6_15 rfl (soP (n := 67) (x := 64) (t := 6) (by decide)) (Or.inr ⟨rfl, rfl, rfl⟩) (by decide) rfl ?_
  refine wp_vret q45_ok d45_18 rfl ?_
  exact ⟨rfl, rfl⟩
theorem i_45_18 {xs : List Int32} {ext : mm_X} {n : Nat} : wp xs ext (n + 1) 45 0 [some (.ref 67)] [] (shP 68, dC1, gC, rK 70) (fun v μ => v = none ∧ μ = (shP 70, dC1, gC, rK 72)) := by
  refine wp_aload_n (j := 0) rfl q45_ok d45_0 ?_
  refine wp_objinit q45_ok d45_1 ml_6_3 rfl (Nat.le_of_ble_eq_true rfl) ?_
  refine wp_aload_n (j := 0) rfl q45_ok d45_4 ?_
  refine wp_iconst (v := 2) (by decide) q45_ok d45_5 ?_
  refine wp_newaP (t := 20) (m := 2) q45_ok d45_6 (by decide) (ixn_nI (j := 2) (by decide)) (by decide) (pushP (by decide +kernel) (by decide +kernel) rfl rfl (by decide +kernel)) ?_
  refine wp_putRP q45_ok d45_8 fl_6_9 rfl (soP (n := 69) (x := 67) (t := 6) (by decide)) (Or.inr ⟨rfl, rfl, rfl⟩) (by decide) rfl ?_
  refine wp_aload_n (j := 0) rfl q45_ok d45_11 ?_
  refine wp_iconst (v := 2) (by decide) q45_ok d45_12 ?_
  refine wp_newaP (t := 20) (m := 2) q45_ok d45_13 (by decide) (ixn_nI (j := 2) (by decide)) (by decide) (pushP (by decide +kernel) (by decide +kernel) rfl rfl (by decide +kernel)) ?_
  refine wp_putRP q45_ok d45_15 fl_6_15 rfl (soP (n := 70) (x := 67) (t := 6) (by decide)) (Or.inr ⟨rfl, rfl, rfl⟩) (by decide) rfl ?_
  refine wp_vret q45_ok d45_18 rfl ?_
  exact ⟨rfl, rfl⟩
theorem i_45_19 {xs : List Int32} {ext : mm_X} {n : Nat} : wp xs ext (n + 1) 45 0 [some (.ref 70)] [] (shP 71, dC1, gC, rK 73) (fun v μ => v = none ∧ μ = (shP 73, dC1, gC, rK 75)) := by
  refine wp_aload_n (j := 0) rfl q45_ok d45_0 ?_
  refine wp_objinit q45_ok d45_1 ml_6_3 rfl (Nat.le_of_ble_eq_true rfl) ?_
  refine wp_aload_n (j := 0) rfl q45_ok d45_4 ?_
  refine wp_iconst (v := 2) (by decide) q45_ok d45_5 ?_
  refine wp_newaP (t := 20) (m := 2) q45_ok d45_6 (by decide) (ixn_nI (j := 2) (by decide)) (by decide) (pushP (by decide +kernel) (by decide +kernel) rfl rfl (by decide +kernel)) ?_
  refine wp_putRP q45_ok d45_8 fl_6_9 rfl (soP (n := 72) (x := 70) (t := 6) (by decide)) (Or.inr ⟨rfl, rfl, rfl⟩) (by decide) rfl ?_
  refine wp_aload_n (j := 0) rfl q45_ok d45_11 ?_
  refine wp_iconst (v := 2) (by decide) q45_ok d45_12 ?_
  refine wp_newaP (t := 20) (m := 2) q45_ok d45_13 (by decide) (ixn_nI (j := 2) (by decide)) (by decide) (pushP (by decide +kernel) (by decide +kernel) rfl rfl (by decide +kernel)) ?_
  refine wp_putRP q45_ok d45_15 fl_6_15 rfl (soP (n := 73) (x := 70) (t := 6) (by decide)) (Or.inr ⟨rfl, rfl, rfl⟩) (by decide) rfl ?_
  refine wp_vret q45_ok d45_18 rfl ?_
  exact ⟨rfl, rfl⟩
theorem i_45_20 {xs : List Int32} {ext : mm_X} {n : Nat} : wp xs ext (n + 1) 45 0 [some (.ref 73)] [] (shP 74, dC1, gC, rK 76) (fun v μ => v = none ∧ μ = (shP 76, dC1, gC, rK 78)) := by
  refine wp_aload_n (j := 0) rfl q45_ok d45_0 ?_
  refine wp_objinit q45_ok d45_1 ml_6_3 rfl (Nat.le_of_ble_eq_true rfl) ?_
  refine wp_aload_n (j := 0) rfl q45_ok d45_4 ?_
  refine wp_iconst (v := 2) (by decide) q45_ok d45_5 ?_
  refine wp_newaP (t := 20) (m := 2) q45_ok d45_6 (by decide) (ixn_nI (j := 2) (by decide)) (by decide) (pushP (by decide +kernel) (by decide +kernel) rfl rfl (by decide +kernel)) ?_
  refine wp_putRP q45_ok d45_8 fl_6_9 rfl (soP (n := 75) (x := 73) (t := 6) (by decide)) (Or.inr ⟨rfl, rfl, rfl⟩) (by decide) rfl ?_
  refine wp_aload_n (j := 0) rfl q45_ok d45_11 ?_
  refine wp_iconst (v := 2) (by decide) q45_ok d45_12 ?_
  refine wp_newaP (t := 20) (m := 2) q45_ok d45_13 (by decide) (ixn_nI (j := 2) (by decide)) (by decide) (pushP (by decide +kernel) (by decide +kernel) rfl rfl (by decide +kernel)) ?_
  refine wp_putRP q45_ok d45_15 fl_6_15 rfl (soP (n := 76) (x := 73) (t := 6) (by decide)) (Or.inr ⟨rfl, rfl, rfl⟩) (by decide) rfl ?_
  refine wp_vret q45_ok d45_18 rfl ?_
  exact ⟨rfl, rfl⟩
theorem i_45_21 {xs : List Int32} {ext : mm_X} {n : Nat} : wp xs ext (n + 1) 45 0 [some (.ref 76)] [] (shP 77, dC1, gC, rK 79) (fun v μ => v = none ∧ μ = (shP 79, dC1, gC, rK 81)) := by
  refine wp_aload_n (j := 0) rfl q45_ok d45_0 ?_
  refine wp_objinit q45_ok d45_1 ml_6_3 rfl (Nat.le_of_ble_eq_true rfl) ?_
  refine wp_aload_n (j := 0) rfl q45_ok d45_4 ?_
  refine wp_iconst (v := 2) (by decide) q45_ok d45_5 ?_
  refine wp_newaP (t := 20) (m := 2) q45_ok d45_6 (by decide) (ixn_nI (j := 2) (by decide)) (by decide) (pushP (by decide +kernel) (by decide +kernel) rfl rfl (by decide +kernel)) ?_
  refine wp_putRP q45_ok d45_8 fl_6_9 rfl (soP (n := 78) (x := 76) (t := 6) (by decide)) (Or.inr ⟨rfl, rfl, rfl⟩) (by decide) rfl ?_
  refine wp_aload_n (j := 0) rfl q45_ok d45_11 ?_
  refine wp_iconst (v := 2) (by decide) q45_ok d45_12 ?_
  refine wp_newaP (t := 20) (m := 2) q45_ok d45_13 (by decide) (ixn_nI (j := 2) (by decide)) (by decide) (pushP (by decide +kernel) (by decide +kernel) rfl rfl (by decide +kernel)) ?_
  refine wp_putRP q45_ok d45_15 fl_6_15 rfl (soP (n := 79) (x := 76) (t := 6) (by decide)) (Or.inr ⟨rfl, rfl, rfl⟩) (by decide) rfl ?_
  refine wp_vret q45_ok d45_18 rfl ?_
  exact ⟨rfl, rfl⟩
theorem i_45_22 {xs : List Int32} {ext : mm_X} {n : Nat} : wp xs ext (n + 1) 45 0 [some (.ref 79)] [] (shP 80, dC1, gC, rK 82) (fun v μ => v = none ∧ μ = (shP 82, dC1, gC, rK 84)) := by
  refine wp_aload_n (j := 0) rfl q45_ok d45_0 ?_
  refine wp_objinit q45_ok d45_1 ml_6_3 rfl (Nat.le_of_ble_eq_true rfl) ?_
  refine wp_aload_n (j := 0) rfl q45_ok d45_4 ?_
  refine wp_iconst (v := 2) (by decide) q45_ok d45_5 ?_
  refine wp_newaP (t := 20) (m := 2) q45_ok d45_6 (by decide) (ixn_nI (j := 2) (by decide)) (by decide) (pushP (by decide +kernel) (by decide +kernel) rfl rfl (by decide +kernel)) ?_
  refine wp_putRP q45_ok d45_8 fl_6_9 rfl (soP (n := 81) (x := 79) (t := 6) (by decide)) (Or.inr ⟨rfl, rfl, rfl⟩) (by decide) rfl ?_
  refine wp_aload_n (j := 0) rfl q45_ok d45_11 ?_
  refine wp_iconst (v := 2) (by decide) q45_ok d45_12 ?_
  refine wp_newaP (t := 20) (m := 2) q45_ok d45_13 (by decide) (ixn_nI (j := 2) (by decide)) (by decide) (pushP (by decide +kernel) (by decide +kernel) rfl rfl (by decide +kernel)) ?_
  refine wp_putRP q45_ok d45_15 fl_6_15 rfl (soP (n := 82) (x := 79) (t := 6) (by decide)) (Or.inr ⟨rfl, rfl, rfl⟩) (by decide) rfl ?_
  refine wp_vret q45_ok d45_18 rfl ?_
  exact ⟨rfl, rfl⟩
theorem i_45_23 {xs : List Int32} {ext : mm_X} {n : Nat} : wp xs ext (n + 1) 45 0 [some (.ref 82)] [] (shP 83, dC1, gC, rK 85) (fun v μ => v = none ∧ μ = (shP 85, dC1, gC, rK 87)) := by
  refine wp_aload_n (j := 0) rfl q45_ok d45_0 ?_
  refine wp_objinit q45_ok d45_1 ml_6_3 rfl (Nat.le_of_ble_eq_true rfl) ?_
  refine wp_aload_n (j := 0) rfl q45_ok d45_4 ?_
  refine wp_iconst (v := 2) (by decide) q45_ok d45_5 ?_
  refine wp_newaP (t := 20) (m := 2) q45_ok d45_6 (by decide) (ixn_nI (j := 2) (by decide)) (by decide) (pushP (by decide +kernel) (by decide +kernel) rfl rfl (by decide +kernel)) ?_
  refine wp_putRP q45_ok d45_8 fl_6_9 rfl (soP (n := 84) (x := 82) (t := 6) (by decide)) (Or.inr ⟨rfl, rfl, rfl⟩) (by decide) rfl ?_
  refine wp_aload_n (j := 0) rfl q45_ok d45_11 ?_
  refine wp_iconst (v := 2) (by decide) q45_ok d45_12 ?_
  refine wp_newaP (t := 20) (m := 2) q45_ok d45_13 (by decide) (ixn_nI (j := 2) (by decide)) (by decide) (pushP (by decide +kernel) (by decide +kernel) rfl rfl (by decide +kernel)) ?_
  refine wp_putRP q45_ok d45_15 fl_6_15 rfl (soP (n := 85) (x := 82) (t := 6) (by decide)) (Or.inr ⟨rfl, rfl, rfl⟩) (by decide) rfl ?_
  refine wp_vret q45_ok d45_18 rfl ?_
  exact ⟨rfl, rfl⟩
theorem i_45_24 {xs : List Int32} {ext : mm_X} {n : Nat} : wp xs ext (n + 1) 45 0 [some (.ref 85)] [] (shP 86, dC1, gC, rK 88) (fun v μ => v = none ∧ μ = (shP 88, dC1, gC, rK 90)) := by
  refine wp_aload_n (j := 0) rfl q45_ok d45_0 ?_
  refine wp_objinit q45_ok d45_1 ml_6_3 rfl (Nat.le_of_ble_eq_true rfl) ?_
  refine wp_aload_n (j := 0) rfl q45_ok d45_4 ?_
  refine wp_iconst (v := 2) (by decide) q45_ok d45_5 ?_
  refine wp_newaP (t := 20) (m := 2) q45_ok d45_6 (by decide) (ixn_nI (j := 2) (by decide)) (by decide) (pushP (by decide +kernel) (by decide +kernel) rfl rfl (by decide +kernel)) ?_
  refine wp_putRP q45_ok d45_8 fl_6_9 rfl (soP (n := 87) (x := 85) (t := 6) (by decide)) (Or.inr ⟨rfl, rfl, rfl⟩) (by decide) rfl ?_
  refine wp_aload_n (j := 0) rfl q45_ok d45_11 ?_
  refine wp_iconst (v := 2) (by decide) q45_ok d45_12 ?_
  refine wp_newaP (t := 20) (m := 2) q45_ok d45_13 (by decide) (ixn_nI (j := 2) (by decide)) (by decide) (pushP (by decide +kernel) (by decide +kernel) rfl rfl (by decide +kernel)) ?_
  refine wp_putRP q45_ok d45_15 fl_6_15 rfl (soP (n := 88) (x := 85) (t := 6) (by decide)) (Or.inr ⟨rfl, rfl, rfl⟩) (by decide) rfl ?_
  refine wp_vret q45_ok d45_18 rfl ?_
  exact ⟨rfl, rfl⟩
theorem i_45_25 {xs : List Int32} {ext : mm_X} {n : Nat} : wp xs ext (n + 1) 45 0 [some (.ref 88)] [] (shP 89, dC1, gC, rK 91) (fun v μ => v = none ∧ μ = (shP 91, dC1, gC, rK 93)) := by
  refine wp_aload_n (j := 0) rfl q45_ok d45_0 ?_
  refine wp_objinit q45_ok d45_1 ml_6_3 rfl (Nat.le_of_ble_eq_true rfl) ?_
  refine wp_aload_n (j := 0) rfl q45_ok d45_4 ?_
  refine wp_iconst (v := 2) (by decide) q45_ok d45_5 ?_
  refine wp_newaP (t := 20) (m := 2) q45_ok d45_6 (by decide) (ixn_nI (j := 2) (by decide)) (by decide) (pushP (by decide +kernel) (by decide +kernel) rfl rfl (by decide +kernel)) ?_
  refine wp_putRP q45_ok d45_8 fl_6_9 rfl (soP (n := 90) (x := 88) (t := 6) (by decide)) (Or.inr ⟨rfl, rfl, rfl⟩) (by decide) rfl ?_
  refine wp_aload_n (j := 0) rfl q45_ok d45_11 ?_
  refine wp_iconst (v := 2) (by decide) q45_ok d45_12 ?_
  refine wp_newaP (t := 20) (m := 2) q45_ok d45_13 (by decide) (ixn_nI (j := 2) (by decide)) (by decide) (pushP (by decide +kernel) (by decide +kernel) rfl rfl (by decide +kernel)) ?_
  refine wp_putRP q45_ok d45_15 fl_6_15 rfl (soP (n := 91) (x := 88) (t := 6) (by decide)) (Or.inr ⟨rfl, rfl, rfl⟩) (by decide) rfl ?_
  refine wp_vret q45_ok d45_18 rfl ?_
  exact ⟨rfl, rfl⟩
theorem i_45_26 {xs : List Int32} {ext : mm_X} {n : Nat} : wp xs ext (n + 1) 45 0 [some (.ref 91)] [] (shP 92, dC1, gC, rK 94) (fun v μ => v = none ∧ μ = (shP 94, dC1, gC, rK 96)) := by
  refine wp_aload_n (j := 0) rfl q45_ok d45_0 ?_
  refine wp_objinit q45_ok d45_1 ml_6_3 rfl (Nat.le_of_ble_eq_true rfl) ?_
  refine wp_aload_n (j := 0) rfl q45_ok d45_4 ?_
  refine wp_iconst (v := 2) (by decide) q45_ok d45_5 ?_
  refine wp_newaP (t := 20) (m := 2) q45_ok d45_6 (by decide) (ixn_nI (j := 2) (by decide)) (by decide) (pushP (by decide +kernel) (by decide +kernel) rfl rfl (by decide +kernel)) ?_
  refine wp_putRP q45_ok d45_8 fl_6_9 rfl (soP (n := 93) (x := 91) (t := 6) (by decide)) (Or.inr ⟨rfl, rfl, rfl⟩) (by decide) rfl ?_
  refine wp_aload_n (j := 0) rfl q45_ok d45_11 ?_
  refine wp_iconst (v := 2) (by decide) q45_ok d45_12 ?_
  refine wp_newaP (t := 20) (m := 2) q45_ok d45_13 (by decide) (ixn_nI (j := 2) (by decide)) (by decide) (pushP (by decide +kernel) (by decide +kernel) rfl rfl (by decide +kernel)) ?_
  refine wp_putRP q45_ok d45_15 fl_6_15 rfl (soP (n := 94) (x := 91) (t := 6) (by decide)) (Or.inr ⟨rfl, rfl, rfl⟩) (by decide) rfl ?_
  refine wp_vret q45_ok d45_18 rfl ?_
  exact ⟨rfl, rfl⟩
theorem i_45_27 {xs : List Int32} {ext : mm_X} {n : Nat} : wp xs ext (n + 1) 45 0 [some (.ref 94)] [] (shP 95, dC1, gC, rK 97) (fun v μ => v = none ∧ μ = (shP 97, dC1, gC, rK 99)) := by
  refine wp_aload_n (j := 0) rfl q45_ok d45_0 ?_
  refine wp_objinit q45_ok d45_1 ml_6_3 rfl (Nat.le_of_ble_eq_true rfl) ?_
  refine wp_aload_n (j := 0) rfl q45_ok d45_4 ?_
  refine wp_iconst (v := 2) (by decide) q45_ok d45_5 ?_
  refine wp_newaP (t := 20) (m := 2) q45_ok d45_6 (by decide) (ixn_nI (j := 2) (by decide)) (by decide) (pushP (by decide +kernel) (by decide +kernel) rfl rfl (by decide +kernel)) ?_
  refine wp_putRP q45_ok d45_8 fl_6_9 rfl (soP (n := 96) (x := 94) (t := 6) (by decide)) (Or.inr ⟨rfl, rfl, rfl⟩) (by decide) rfl ?_
  refine wp_aload_n (j := 0) rfl q45_ok d45_11 ?_
  refine wp_iconst (v := 2) (by decide) q45_ok d45_12 ?_
  refine wp_newaP (t := 20) (m := 2) q45_ok d45_13 (by decide) (ixn_nI (j := 2) (by decide)) (by decide) (pushP (by decide +kernel) (by decide +kernel) rfl rfl (by decide +kernel)) ?_
  refine wp_putRP q45_ok d45_15 fl_6_15 rfl (soP (n := 97) (x := 94) (t := 6) (by decide)) (Or.inr ⟨rfl, rfl, rfl⟩) (by decide) rfl ?_
  refine wp_vret q45_ok d45_18 rfl ?_
  exact ⟨rfl, rfl⟩
theorem i_45_28 {xs : List Int32} {ext : mm_X} {n : Nat} : wp xs ext (n + 1) 45 0 [some (.ref 97)] [] (shP 98, dC1, gC, rK 100) (fun v μ => v = none ∧ μ = (shP 100, dC1, gC, rK 102)) := by
  refine wp_aload_n (j := 0) rfl q45_ok d45_0 ?_
  refine wp_objinit q45_ok d45_1 ml_6_3 rfl (Nat.le_of_ble_eq_true rfl) ?_
  refine wp_aload_n (j := 0) rfl q45_ok d45_4 ?_
  refine wp_iconst (v := 2) (by decide) q45_ok d45_5 ?_
  refine wp_newaP (t := 20) (m := 2) q45_ok d45_6 (by decide) (ixn_nI (j := 2) (by decide)) (by decide) (pushP (by decide +kernel) (by decide +kernel) rfl rfl (by decide +kernel)) ?_
  refine wp_putRP q45_ok d45_8 fl_6_9 rfl (soP (n := 99) (x := 97) (t := 6) (by decide)) (Or.inr ⟨rfl, rfl, rfl⟩) (by decide) rfl ?_
  refine wp_aload_n (j := 0) rfl q45_ok d45_11 ?_
  refine wp_iconst (v := 2) (by decide) q45_ok d45_12 ?_
  refine wp_newaP (t := 20) (m := 2) q45_ok d45_13 (by decide) (ixn_nI (j := 2) (by decide)) (by decide) (pushP (by decide +kernel) (by decide +kernel) rfl rfl (by decide +kernel)) ?_
  refine wp_putRP q45_ok d45_15 fl_6_15 rfl (soP (n := 100) (x := 97) (t := 6) (by decide)) (Or.inr ⟨rfl, rfl, rfl⟩) (by decide) rfl ?_
  refine wp_vret q45_ok d45_18 rfl ?_
  exact ⟨rfl, rfl⟩
theorem i_45_29 {xs : List Int32} {ext : mm_X} {n : Nat} : wp xs ext (n + 1) 45 0 [some (.ref 100)] [] (shP 101, dC1, gC, rK 103) (fun v μ => v = none ∧ μ = (shP 103, dC1, gC, rK 105)) := by
  refine wp_aload_n (j := 0) rfl q45_ok d45_0 ?_
  refine wp_objinit q45_ok d45_1 ml_6_3 rfl (Nat.le_of_ble_eq_true rfl) ?_
  refine wp_aload_n (j := 0) rfl q45_ok d45_4 ?_
  refine wp_iconst (v := 2) (by decide) q45_ok d45_5 ?_
  refine wp_newaP (t := 20) (m := 2) q45_ok d45_6 (by decide) (ixn_nI (j := 2) (by decide)) (by decide) (pushP (by decide +kernel) (by decide +kernel) rfl rfl (by decide +kernel)) ?_
  refine wp_putRP q45_ok d45_8 fl_6_9 rfl (soP (n := 102) (x := 100) (t := 6) (by decide)) (Or.inr ⟨rfl, rfl, rfl⟩) (by decide) rfl ?_
  refine wp_aload_n (j := 0) rfl q45_ok d45_11 ?_
  refine wp_iconst (v := 2) (by decide) q45_ok d45_12 ?_
  refine wp_newaP (t := 20) (m := 2) q45_ok d45_13 (by decide) (ixn_nI (j := 2) (by decide)) (by decide) (pushP (by decide +kernel) (by decide +kernel) rfl rfl (by decide +kernel)) ?_
  refine wp_putRP q45_ok d45_15 fl_6_15 rfl (soP (n := 103) (x := 100) (t := 6) (by decide)) (Or.inr ⟨rfl, rfl, rfl⟩) (by decide) rfl ?_
  refine wp_vret q45_ok d45_18 rfl ?_
  exact ⟨rfl, rfl⟩
theorem i_45_30 {xs : List Int32} {ext : mm_X} {n : Nat} : wp xs ext (n + 1) 45 0 [some (.ref 103)] [] (shP 104, dC1, gC, rK 106) (fun v μ => v = none ∧ μ = (shP 106, dC1, gC, rK 108)) := by
  refine wp_aload_n (j := 0) rfl q45_ok d45_0 ?_
  refine wp_objinit q45_ok d45_1 ml_6_3 rfl (Nat.le_of_ble_eq_true rfl) ?_
  refine wp_aload_n (j := 0) rfl q45_ok d45_4 ?_
  refine wp_iconst (v := 2) (by decide) q45_ok d45_5 ?_
  refine wp_newaP (t := 20) (m := 2) q45_ok d45_6 (by decide) (ixn_nI (j := 2) (by decide)) (by decide) (pushP (by decide +kernel) (by decide +kernel) rfl rfl (by decide +kernel)) ?_
  refine wp_putRP q45_ok d45_8 fl_6_9 rfl (soP (n := 105) (x := 103) (t := 6) (by decide)) (Or.inr ⟨rfl, rfl, rfl⟩) (by decide) rfl ?_
  refine wp_aload_n (j := 0) rfl q45_ok d45_11 ?_
  refine wp_iconst (v := 2) (by decide) q45_ok d45_12 ?_
  refine wp_newaP (t := 20) (m := 2) q45_ok d45_13 (by decide) (ixn_nI (j := 2) (by decide)) (by decide) (pushP (by decide +kernel) (by decide +kernel) rfl rfl (by decide +kernel)) ?_
  refine wp_putRP q45_ok d45_15 fl_6_15 rfl (soP (n := 106) (x := 103) (t := 6) (by decide)) (Or.inr ⟨rfl, rfl, rfl⟩) (by decide) rfl ?_
  refine wp_vret q45_ok d45_18 rfl ?_
  exact ⟨rfl, rfl⟩
theorem i_45_31 {xs : List Int32} {ext : mm_X} {n : Nat} : wp xs ext (n + 1) 45 0 [some (.ref 106)] [] (shP 107, dC1, gC, rK 109) (fun v μ => v = none ∧ μ = (shP 109, dC1, gC, rK 111)) := by
  refine wp_aload_n (j := 0) rfl q45_ok d45_0 ?_
  refine wp_objinit q45_ok d45_1 ml_6_3 rfl (Nat.le_of_ble_eq_true rfl) ?_
  refine wp_aload_n (j := 0) rfl q45_ok d45_4 ?_
  refine wp_iconst (v := 2) (by decide) q45_ok d45_5 ?_
  refine wp_newaP (t := 20) (m := 2) q45_ok d45_6 (by decide) (ixn_nI (j := 2) (by decide)) (by decide) (pushP (by decide +kernel) (by decide +kernel) rfl rfl (by decide +kernel)) ?_
  refine wp_putRP q45_ok d45_8 fl_6_9 rfl (soP (n := 108) (x := 106) (t := 6) (by decide)) (Or.inr ⟨rfl, rfl, rfl⟩) (by decide) rfl ?_
  refine wp_aload_n (j := 0) rfl q45_ok d45_11 ?_
  refine wp_iconst (v := 2) (by decide) q45_ok d45_12 ?_
  refine wp_newaP (t := 20) (m := 2) q45_ok d45_13 (by decide) (ixn_nI (j := 2) (by decide)) (by decide) (pushP (by decide +kernel) (by decide +kernel) rfl rfl (by decide +kernel)) ?_
  refine wp_putRP q45_ok d45_15 fl_6_15 rfl (soP (n := 109) (x := 106) (t := 6) (by decide)) (Or.inr ⟨rfl, rfl, rfl⟩) (by decide) rfl ?_
  refine wp_vret q45_ok d45_18 rfl ?_
  exact ⟨rfl, rfl⟩
theorem i_45_32 {xs : List Int32} {ext : mm_X} {n : Nat} : wp xs ext (n + 1) 45 0 [some (.ref 109)] [] (shP 110, dC1, gC, rK 112) (fun v μ => v = none ∧ μ = (shP 112, dC1, gC, rK 114)) := by
  refine wp_aload_n (j := 0) rfl q45_ok d45_0 ?_
  refine wp_objinit q45_ok d45_1 ml_6_3 rfl (Nat.le_of_ble_eq_true rfl) ?_
  refine wp_aload_n (j := 0) rfl q45_ok d45_4 ?_
  refine wp_iconst (v := 2) (by decide) q45_ok d45_5 ?_
  refine wp_newaP (t := 20) (m := 2) q45_ok d45_6 (by decide) (ixn_nI (j := 2) (by decide)) (by decide) (pushP (by decide +kernel) (by decide +kernel) rfl rfl (by decide +kernel)) ?_
  refine wp_putRP q45_ok d45_8 fl_6_9 rfl (soP (n := 111) (x := 109) (t := 6) (by decide)) (Or.inr ⟨rfl, rfl, rfl⟩) (by decide) rfl ?_
  refine wp_aload_n (j := 0) rfl q45_ok d45_11 ?_
  refine wp_iconst (v := 2) (by decide) q45_ok d45_12 ?_
  refine wp_newaP (t := 20) (m := 2) q45_ok d45_13 (by decide) (ixn_nI (j := 2) (by decide)) (by decide) (pushP (by decide +kernel) (by decide +kernel) rfl rfl (by decide +kernel)) ?_
  refine wp_putRP q45_ok d45_15 fl_6_15 rfl (soP (n := 112) (x := 109) (t := 6) (by decide)) (Or.inr ⟨rfl, rfl, rfl⟩) (by decide) rfl ?_
  refine wp_vret q45_ok d45_18 rfl ?_
  exact ⟨rfl, rfl⟩
theorem i_45_33 {xs : List Int32} {ext : mm_X} {n : Nat} : wp xs ext (n + 1) 45 0 [some (.ref 112)] [] (shP 113, dC1, gC, rK 115) (fun v μ => v = none ∧ μ = (shP 115, dC1, gC, rK 117)) := by
  refine wp_aload_n (j := 0) rfl q45_ok d45_0 ?_
  refine wp_objinit q45_ok d45_1 ml_6_3 rfl (Nat.le_of_ble_eq_true rfl) ?_
  refine wp_aload_n (j := 0) rfl q45_ok d45_4 ?_
  refine wp_iconst (v := 2) (by decide) q45_ok d45_5 ?_
  refine wp_newaP (t := 20) (m := 2) q45_ok d45_6 (by decide) (ixn_nI (j := 2) (by decide)) (by decide) (pushP (by decide +kernel) (by decide +kernel) rfl rfl (by decide +kernel)) ?_
  refine wp_putRP q45_ok d45_8 fl_6_9 rfl (soP (n := 114) (x := 112) (t := 6) (by decide)) (Or.inr ⟨rfl, rfl, rfl⟩) (by decide) rfl ?_
  refine wp_aload_n (j := 0) rfl q45_ok d45_11 ?_
  refine wp_iconst (v := 2) (by decide) q45_ok d45_12 ?_
  refine wp_newaP (t := 20) (m := 2) q45_ok d45_13 (by decide) (ixn_nI (j := 2) (by decide)) (by decide) (pushP (by decide +kernel) (by decide +kernel) rfl rfl (by decide +kernel)) ?_
  refine wp_putRP q45_ok d45_15 fl_6_15 rfl (soP (n := 115) (x := 112) (t := 6) (by decide)) (Or.inr ⟨rfl, rfl, rfl⟩) (by decide) rfl ?_
  refine wp_vret q45_ok d45_18 rfl ?_
  exact ⟨rfl, rfl⟩
theorem i_45_34 {xs : List Int32} {ext : mm_X} {n : Nat} : wp xs ext (n + 1) 45 0 [some (.ref 115)] [] (shP 116, dC1, gC, rK 118) (fun v μ => v = none ∧ μ = (shP 118, dC1, gC, rK 120)) := by
  refine wp_aload_n (j := 0) rfl q45_ok d45_0 ?_
  refine wp_objinit q45_ok d45_1 ml_6_3 rfl (Nat.le_of_ble_eq_true rfl) ?_
  refine wp_aload_n (j := 0) rfl q45_ok d45_4 ?_
  refine wp_iconst (v := 2) (by decide) q45_ok d45_5 ?_
  refine wp_newaP (t := 20) (m := 2) q45_ok d45_6 (by decide) (ixn_nI (j := 2) (by decide)) (by decide) (pushP (by decide +kernel) (by decide +kernel) rfl rfl (by decide +kernel)) ?_
  refine wp_putRP q45_ok d45_8 fl_6_9 rfl (soP (n := 117) (x := 115) (t := 6) (by decide)) (Or.inr ⟨rfl, rfl, rfl⟩) (by decide) rfl ?_
  refine wp_aload_n (j := 0) rfl q45_ok d45_11 ?_
  refine wp_iconst (v := 2) (by decide) q45_ok d45_12 ?_
  refine wp_newaP (t := 20) (m := 2) q45_ok d45_13 (by decide) (ixn_nI (j := 2) (by decide)) (by decide) (pushP (by decide +kernel) (by decide +kernel) rfl rfl (by decide +kernel)) ?_
  refine wp_putRP q45_ok d45_15 fl_6_15 rfl (soP (n := 118) (x := 115) (t := 6) (by decide)) (Or.inr ⟨rfl, rfl, rfl⟩) (by decide) rfl ?_
  refine wp_vret q45_ok d45_18 rfl ?_
  exact ⟨rfl, rfl⟩
theorem i_45_35 {xs : List Int32} {ext : mm_X} {n : Nat} : wp xs ext (n + 1) 45 0 [some (.ref 118)] [] (shP 119, dC1, gC, rK 121) (fun v μ => v = none ∧ μ = (shP 121, dC1, gC, rK 123)) := by
  refine wp_aload_n (j := 0) rfl q45_ok d45_0 ?_
  refine wp_objinit q45_ok d45_1 ml_6_3 rfl (Nat.le_of_ble_eq_true rfl) ?_
  refine wp_aload_n (j := 0) rfl q45_ok d45_4 ?_
  refine wp_iconst (v := 2) (by decide) q45_ok d45_5 ?_
  refine wp_newaP (t := 20) (m := 2) q45_ok d45_6 (by decide) (ixn_nI (j := 2) (by decide)) (by decide) (pushP (by decide +kernel) (by decide +kernel) rfl rfl (by decide +kernel)) ?_
  refine wp_putRP q45_ok d45_8 fl_6_9 rfl (soP (n := 120) (x := 118) (t := 6) (by decide)) (Or.inr ⟨rfl, rfl, rfl⟩) (by decide) rfl ?_
  refine wp_aload_n (j := 0) rfl q45_ok d45_11 ?_
  refine wp_iconst (v := 2) (by decide) q45_ok d45_12 ?_
  refine wp_newaP (t := 20) (m := 2) q45_ok d45_13 (by decide) (ixn_nI (j := 2) (by decide)) (by decide) (pushP (by decide +kernel) (by decide +kernel) rfl rfl (by decide +kernel)) ?_
  refine wp_putRP q45_ok d45_15 fl_6_15 rfl (soP (n := 121) (x := 118) (t := 6) (by decide)) (Or.inr ⟨rfl, rfl, rfl⟩) (by decide) rfl ?_
  refine wp_vret q45_ok d45_18 rfl ?_
  exact ⟨rfl, rfl⟩
theorem i_45_36 {xs : List Int32} {ext : mm_X} {n : Nat} : wp xs ext (n + 1) 45 0 [some (.ref 121)] [] (shP 122, dC1, gC, rK 124) (fun v μ => v = none ∧ μ = (shP 124, dC1, gC, rK 126)) := by
  refine wp_aload_n (j := 0) rfl q45_ok d45_0 ?_
  refine wp_objinit q45_ok d45_1 ml_6_3 rfl (Nat.le_of_ble_eq_true rfl) ?_
  refine wp_aload_n (j := 0) rfl q45_ok d45_4 ?_
  refine wp_iconst (v := 2) (by decide) q45_ok d45_5 ?_
  refine wp_newaP (t := 20) (m := 2) q45_ok d45_6 (by decide) (ixn_nI (j := 2) (by decide)) (by decide) (pushP (by decide +kernel) (by decide +kernel) rfl rfl (by decide +kernel)) ?_
  refine wp_putRP q45_ok d45_8 fl_6_9 rfl (soP (n := 123) (x := 121) (t := 6) (by decide)) (Or.inr ⟨rfl, rfl, rfl⟩) (by decide) rfl ?_
  refine wp_aload_n (j := 0) rfl q45_ok d45_11 ?_
  refine wp_iconst (v := 2) (by decide) q45_ok d45_12 ?_
  refine wp_newaP (t := 20) (m := 2) q45_ok d45_13 (by decide) (ixn_nI (j := 2) (by decide)) (by decide) (pushP (by decide +kernel) (by decide +kernel) rfl rfl (by decide +kernel)) ?_
  refine wp_putRP q45_ok d45_15 fl_6_15 rfl (soP (n := 124) (x := 121) (t := 6) (by decide)) (Or.inr ⟨rfl, rfl, rfl⟩) (by decide) rfl ?_
  refine wp_vret q45_ok d45_18 rfl ?_
  exact ⟨rfl, rfl⟩
theorem i_45_37 {xs : List Int32} {ext : mm_X} {n : Nat} : wp xs ext (n + 1) 45 0 [some (.ref 124)] [] (shP 125, dC1, gC, rK 127) (fun v μ => v = none ∧ μ = (shP 127, dC1, gC, rK 129)) := by
  refine wp_aload_n (j := 0) rfl q45_ok d45_0 ?_
  refine wp_objinit q45_ok d45_1 ml_6_3 rfl (Nat.le_of_ble_eq_true rfl) ?_
  refine wp_aload_n (j := 0) rfl q45_ok d45_4 ?_
  refine wp_iconst (v := 2) (by decide) q45_ok d45_5 ?_
  refine wp_newaP (t := 20) (m := 2) q45_ok d45_6 (by decide) (ixn_nI (j := 2) (by decide)) (by decide) (pushP (by decide +kernel) (by decide +kernel) rfl rfl (by decide +kernel)) ?_
  refine wp_putRP q45_ok d45_8 fl_6_9 rfl (soP (n := 126) (x := 124) (t := 6) (by decide)) (Or.inr ⟨rfl, rfl, rfl⟩) (by decide) rfl ?_
  refine wp_aload_n (j := 0) rfl q45_ok d45_11 ?_
  refine wp_iconst (v := 2) (by decide) q45_ok d45_12 ?_
  refine wp_newaP (t := 20) (m := 2) q45_ok d45_13 (by decide) (ixn_nI (j := 2) (by decide)) (by decide) (pushP (by decide +kernel) (by decide +kernel) rfl rfl (by decide +kernel)) ?_
  refine wp_putRP q45_ok d45_15 fl_6_15 rfl (soP (n := 127) (x := 124) (t := 6) (by decide)) (Or.inr ⟨rfl, rfl, rfl⟩) (by decide) rfl ?_
  refine wp_vret q45_ok d45_18 rfl ?_
  exact ⟨rfl, rfl⟩
theorem i_45_38 {xs : List Int32} {ext : mm_X} {n : Nat} : wp xs ext (n + 1) 45 0 [some (.ref 127)] [] (shP 128, dC1, gC, rK 130) (fun v μ => v = none ∧ μ = (shP 130, dC1, gC, rK 132)) := by
  refine wp_aload_n (j := 0) rfl q45_ok d45_0 ?_
  refine wp_objinit q45_ok d45_1 ml_6_3 rfl (Nat.le_of_ble_eq_true rfl) ?_
  refine wp_aload_n (j := 0) rfl q45_ok d45_4 ?_
  refine wp_iconst (v := 2) (by decide) q45_ok d45_5 ?_
  refine wp_newaP (t := 20) (m := 2) q45_ok d45_6 (by decide) (ixn_nI (j := 2) (by decide)) (by decide) (pushP (by decide +kernel) (by decide +kernel) rfl rfl (by decide +kernel)) ?_
  refine wp_putRP q45_ok d45_8 fl_6_9 rfl (soP (n := 129) (x := 127) (t := 6) (by decide)) (Or.inr ⟨rfl, rfl, rfl⟩) (by decide) rfl ?_
  refine wp_aload_n (j := 0) rfl q45_ok d45_11 ?_
  refine wp_iconst (v := 2) (by decide) q45_ok d45_12 ?_
  refine wp_newaP (t := 20) (m := 2) q45_ok d45_13 (by decide) (ixn_nI (j := 2) (by decide)) (by decide) (pushP (by decide +kernel) (by decide +kernel) rfl rfl (by decide +kernel)) ?_
  refine wp_putRP q45_ok d45_15 fl_6_15 rfl (soP (n := 130) (x := 127) (t := 6) (by decide)) (Or.inr ⟨rfl, rfl, rfl⟩) (by decide) rfl ?_
  refine wp_vret q45_ok d45_18 rfl ?_
  exact ⟨rfl, rfl⟩
theorem i_45_39 {xs : List Int32} {ext : mm_X} {n : Nat} : wp xs ext (n + 1) 45 0 [some (.ref 130)] [] (shP 131, dC1, gC, rK 133) (fun v μ => v = none ∧ μ = (shP 133, dC1, gC, rK 135)) := by
  refine wp_aload_n (j := 0) rfl q45_ok d45_0 ?_
  refine wp_objinit q45_ok d45_1 ml_6_3 rfl (Nat.le_of_ble_eq_true rfl) ?_
  refine wp_aload_n (j := 0) rfl q45_ok d45_4 ?_
  refine wp_iconst (v := 2) (by decide) q45_ok d45_5 ?_
  refine wp_newaP (t := 20) (m := 2) q45_ok d45_6 (by decide) (ixn_nI (j := 2) (by decide)) (by decide) (pushP (by decide +kernel) (by decide +kernel) rfl rfl (by decide +kernel)) ?_
  refine wp_putRP q45_ok d45_8 fl_6_9 rfl (soP (n := 132) (x := 130) (t := 6) (by decide)) (Or.inr ⟨rfl, rfl, rfl⟩) (by decide) rfl ?_
  refine wp_aload_n (j := 0) rfl q45_ok d45_11 ?_
  refine wp_iconst (v := 2) (by decide) q45_ok d45_12 ?_
  refine wp_newaP (t := 20) (m := 2) q45_ok d45_13 (by decide) (ixn_nI (j := 2) (by decide)) (by decide) (pushP (by decide +kernel) (by decide +kernel) rfl rfl (by decide +kernel)) ?_
  refine wp_putRP q45_ok d45_15 fl_6_15 rfl (soP (n := 133) (x := 130) (t := 6) (by decide)) (Or.inr ⟨rfl, rfl, rfl⟩) (by decide) rfl ?_
  refine wp_vret q45_ok d45_18 rfl ?_
  exact ⟨rfl, rfl⟩
theorem i_45_40 {xs : List Int32} {ext : mm_X} {n : Nat} : wp xs ext (n + 1) 45 0 [some (.ref 133)] [] (shP 134, dC1, gC, rK 136) (fun v μ => v = none ∧ μ = (shP 136, dC1, gC, rK 138)) := by
  refine wp_aload_n (j := 0) rfl q45_ok d45_0 ?_
  refine wp_objinit q45_ok d45_1 ml_6_3 rfl (Nat.le_of_ble_eq_true rfl) ?_
  refine wp_aload_n (j := 0) rfl q45_ok d45_4 ?_
  refine wp_iconst (v := 2) (by decide) q45_ok d45_5 ?_
  refine wp_newaP (t := 20) (m := 2) q45_ok d45_6 (by decide) (ixn_nI (j := 2) (by decide)) (by decide) (pushP (by decide +kernel) (by decide +kernel) rfl rfl (by decide +kernel)) ?_
  refine wp_putRP q45_ok d45_8 fl_6_9 rfl (soP (n := 135) (x := 133) (t := 6) (by decide)) (Or.inr ⟨rfl, rfl, rfl⟩) (by decide) rfl ?_
  refine wp_aload_n (j := 0) rfl q45_ok d45_11 ?_
  refine wp_iconst (v := 2) (by decide) q45_ok d45_12 ?_
  refine wp_newaP (t := 20) (m := 2) q45_ok d45_13 (by decide) (ixn_nI (j := 2) (by decide)) (by decide) (pushP (by decide +kernel) (by decide +kernel) rfl rfl (by decide +kernel)) ?_
  refine wp_putRP q45_ok d45_15 fl_6_15 rfl (soP (n := 136) (x := 133) (t := 6) (by decide)) (Or.inr ⟨rfl, rfl, rfl⟩) (by decide) rfl ?_
  refine wp_vret q45_ok d45_18 rfl ?_
  exact ⟨rfl, rfl⟩
theorem i_45_41 {xs : List Int32} {ext : mm_X} {n : Nat} : wp xs ext (n + 1) 45 0 [some (.ref 136)] [] (shP 137, dC1, gC, rK 139) (fun v μ => v = none ∧ μ = (shP 139, dC1, gC, rK 141)) := by
  refine wp_aload_n (j := 0) rfl q45_ok d45_0 ?_
  refine wp_objinit q45_ok d45_1 ml_6_3 rfl (Nat.le_of_ble_eq_true rfl) ?_
  refine wp_aload_n (j := 0) rfl q45_ok d45_4 ?_
  refine wp_iconst (v := 2) (by decide) q45_ok d45_5 ?_
  refine wp_newaP (t := 20) (m := 2) q45_ok d45_6 (by decide) (ixn_nI (j := 2) (by decide)) (by decide) (pushP (by decide +kernel) (by decide +kernel) rfl rfl (by decide +kernel)) ?_
  refine wp_putRP q45_ok d45_8 fl_6_9 rfl (soP (n := 138) (x := 136) (t := 6) (by decide)) (Or.inr ⟨rfl, rfl, rfl⟩) (by decide) rfl ?_
  refine wp_aload_n (j := 0) rfl q45_ok d45_11 ?_
  refine wp_iconst (v := 2) (by decide) q45_ok d45_12 ?_
  refine wp_newaP (t := 20) (m := 2) q45_ok d45_13 (by decide) (ixn_nI (j := 2) (by decide)) (by decide) (pushP (by decide +kernel) (by decide +kernel) rfl rfl (by decide +kernel)) ?_
  refine wp_putRP q45_ok d45_15 fl_6_15 rfl (soP (n := 139) (x := 136) (t := 6) (by decide)) (Or.inr ⟨rfl, rfl, rfl⟩) (by decide) rfl ?_
  refine wp_vret q45_ok d45_18 rfl ?_
  exact ⟨rfl, rfl⟩
theorem i_45_42 {xs : List Int32} {ext : mm_X} {n : Nat} : wp xs ext (n + 1) 45 0 [some (.ref 139)] [] (shP 140, dC1, gC, rK 142) (fun v μ => v = none ∧ μ = (shP 142, dC1, gC, rK 144)) := by
  refine wp_aload_n (j := 0) rfl q45_ok d45_0 ?_
  refine wp_objinit q45_ok d45_1 ml_6_3 rfl (Nat.le_of_ble_eq_true rfl) ?_
  refine wp_aload_n (j := 0) rfl q45_ok d45_4 ?_
  refine wp_iconst (v := 2) (by decide) q45_ok d45_5 ?_
  refine wp_newaP (t := 20) (m := 2) q45_ok d45_6 (by decide) (ixn_nI (j := 2) (by decide)) (by decide) (pushP (by decide +kernel) (by decide +kernel) rfl rfl (by decide +kernel)) ?_
  refine wp_putRP q45_ok d45_8 fl_6_9 rfl (soP (n := 141) (x := 139) (t := 6) (by decide)) (Or.inr ⟨rfl, rfl, rfl⟩) (by decide) rfl ?_
  refine wp_aload_n (j := 0) rfl q45_ok d45_11 ?_
  refine wp_iconst (v := 2) (by decide) q45_ok d45_12 ?_
  refine wp_newaP (t := 20) (m := 2) q45_ok d45_13 (by decide) (ixn_nI (j := 2) (by decide)) (by decide) (pushP (by decide +kernel) (by decide +kernel) rfl rfl (by decide +kernel)) ?_
  refine wp_putRP q45_ok d45_15 fl_6_15 rfl (soP (n := 142) (x := 139) (t := 6) (by decide)) (Or.inr ⟨rfl, rfl, rfl⟩) (by decide) rfl ?_
  refine wp_vret q45_ok d45_18 rfl ?_
  exact ⟨rfl, rfl⟩
theorem i_45_43 {xs : List Int32} {ext : mm_X} {n : Nat} : wp xs ext (n + 1) 45 0 [some (.ref 142)] [] (shP 143, dC1, gC, rK 145) (fun v μ => v = none ∧ μ = (shP 145, dC1, gC, rK 147)) := by
  refine wp_aload_n (j := 0) rfl q45_ok d45_0 ?_
  refine wp_objinit q45_ok d45_1 ml_6_3 rfl (Nat.le_of_ble_eq_true rfl) ?_
  refine wp_aload_n (j := 0) rfl q45_ok d45_4 ?_
  refine wp_iconst (v := 2) (by decide) q45_ok d45_5 ?_
  refine wp_newaP (t := 20) (m := 2) q45_ok d45_6 (by decide) (ixn_nI (j := 2) (by decide)) (by decide) (pushP (by decide +kernel) (by decide +kernel) rfl rfl (by decide +kernel)) ?_
  refine wp_putRP q45_ok d45_8 fl_6_9 rfl (soP (n := 144) (x := 142) (t := 6) (by decide)) (Or.inr ⟨rfl, rfl, rfl⟩) (by decide) rfl ?_
  refine wp_aload_n (j := 0) rfl q45_ok d45_11 ?_
  refine wp_iconst (v := 2) (by decide) q45_ok d45_12 ?_
  refine wp_newaP (t := 20) (m := 2) q45_ok d45_13 (by decide) (ixn_nI (j := 2) (by decide)) (by decide) (pushP (by decide +kernel) (by decide +kernel) rfl rfl (by decide +kernel)) ?_
  refine wp_putRP q45_ok d45_15 fl_6_15 rfl (soP (n := 145) (x := 142) (t := 6) (by decide)) (Or.inr ⟨rfl, rfl, rfl⟩) (by decide) rfl ?_
  refine wp_vret q45_ok d45_18 rfl ?_
  exact ⟨rfl, rfl⟩
theorem i_45_44 {xs : List Int32} {ext : mm_X} {n : Nat} : wp xs ext (n + 1) 45 0 [some (.ref 145)] [] (shP 146, dC1, gC, rK 148) (fun v μ => v = none ∧ μ = (shP 148, dC1, gC, rK 150)) := by
  refine wp_aload_n (j := 0) rfl q45_ok d45_0 ?_
  refine wp_objinit q45_ok d45_1 ml_6_3 rfl (Nat.le_of_ble_eq_true rfl) ?_
  refine wp_aload_n (j := 0) rfl q45_ok d45_4 ?_
  refine wp_iconst (v := 2) (by decide) q45_ok d45_5 ?_
  refine wp_newaP (t := 20) (m := 2) q45_ok d45_6 (by decide) (ixn_nI (j := 2) (by decide)) (by decide) (pushP (by decide +kernel) (by decide +kernel) rfl rfl (by decide +kernel)) ?_
  refine wp_putRP q45_ok d45_8 fl_6_9 rfl (soP (n := 147) (x := 145) (t := 6) (by decide)) (Or.inr ⟨rfl, rfl, rfl⟩) (by decide) rfl ?_
  refine wp_aload_n (j := 0) rfl q45_ok d45_11 ?_
  refine wp_iconst (v := 2) (by decide) q45_ok d45_12 ?_
  refine wp_newaP (t := 20) (m := 2) q45_ok d45_13 (by decide) (ixn_nI (j := 2) (by decide)) (by decide) (pushP (by decide +kernel) (by decide +kernel) rfl rfl (by decide +kernel)) ?_
  refine wp_putRP q45_ok d45_15 fl_6_15 rfl (soP (n := 148) (x := 145) (t := 6) (by decide)) (Or.inr ⟨rfl, rfl, rfl⟩) (by decide) rfl ?_
  refine wp_vret q45_ok d45_18 rfl ?_
  exact ⟨rfl, rfl⟩
theorem i_45_45 {xs : List Int32} {ext : mm_X} {n : Nat} : wp xs ext (n + 1) 45 0 [some (.ref 148)] [] (shP 149, dC1, gC, rK 151) (fun v μ => v = none ∧ μ = (shP 151, dC1, gC, rK 153)) := by
  refine wp_aload_n (j := 0) rfl q45_ok d45_0 ?_
  refine wp_objinit q45_ok d45_1 ml_6_3 rfl (Nat.le_of_ble_eq_true rfl) ?_
  refine wp_aload_n (j := 0) rfl q45_ok d45_4 ?_
  refine wp_iconst (v := 2) (by decide) q45_ok d45_5 ?_
  refine wp_newaP (t := 20) (m := 2) q45_ok d45_6 (by decide) (ixn_nI (j := 2) (by decide)) (by decide) (pushP (by decide +kernel) (by decide +kernel) rfl rfl (by decide +kernel)) ?_
  refine wp_putRP q45_ok d45_8 fl_6_9 rfl (soP (n := 150) (x := 148) (t := 6) (by decide)) (Or.inr ⟨rfl, rfl, rfl⟩) (by decide) rfl ?_
  refine wp_aload_n (j := 0) rfl q45_ok d45_11 ?_
  refine wp_iconst (v := 2) (by decide) q45_ok d45_12 ?_
  refine wp_newaP (t := 20) (m := 2) q45_ok d45_13 (by decide) (ixn_nI (j := 2) (by decide)) (by decide) (pushP (by decide +kernel) (by decide +kernel) rfl rfl (by decide +kernel)) ?_
  refine wp_putRP q45_ok d45_15 fl_6_15 rfl (soP (n := 151) (x := 148) (t := 6) (by decide)) (Or.inr ⟨rfl, rfl, rfl⟩) (by decide) rfl ?_
  refine wp_vret q45_ok d45_18 rfl ?_
  exact ⟨rfl, rfl⟩
theorem i_45_46 {xs : List Int32} {ext : mm_X} {n : Nat} : wp xs ext (n + 1) 45 0 [some (.ref 151)] [] (shP 152, dC1, gC, rK 154) (fun v μ => v = none ∧ μ = (shP 154, dC1, gC, rK 156)) := by
  refine wp_aload_n (j := 0) rfl q45_ok d45_0 ?_
  refine wp_objinit q45_ok d45_1 ml_6_3 rfl (Nat.le_of_ble_eq_true rfl) ?_
  refine wp_aload_n (j := 0) rfl q45_ok d45_4 ?_
  refine wp_iconst (v := 2) (by decide) q45_ok d45_5 ?_
  refine wp_newaP (t := 20) (m := 2) q45_ok d45_6 (by decide) (ixn_nI (j := 2) (by decide)) (by decide) (pushP (by decide +kernel) (by decide +kernel) rfl rfl (by decide +kernel)) ?_
  refine wp_putRP q45_ok d45_8 fl_6_9 rfl (soP (n := 153) (x := 151) (t := 6) (by decide)) (Or.inr ⟨rfl, rfl, rfl⟩) (by decide) rfl ?_
  refine wp_aload_n (j := 0) rfl q45_ok d45_11 ?_
  refine wp_iconst (v := 2) (by decide) q45_ok d45_12 ?_
  refine wp_newaP (t := 20) (m := 2) q45_ok d45_13 (by decide) (ixn_nI (j := 2) (by decide)) (by decide) (pushP (by decide +kernel) (by decide +kernel) rfl rfl (by decide +kernel)) ?_
  refine wp_putRP q45_ok d45_15 fl_6_15 rfl (soP (n := 154) (x := 151) (t := 6) (by decide)) (Or.inr ⟨rfl, rfl, rfl⟩) (by decide) rfl ?_
  refine wp_vret q45_ok d45_18 rfl ?_
  exact ⟨rfl, rfl⟩
theorem i_45_47 {xs : List Int32} {ext : mm_X} {n : Nat} : wp xs ext (n + 1) 45 0 [some (.ref 154)] [] (shP 155, dC1, gC, rK 157) (fun v μ => v = none ∧ μ = (shP 157, dC1, gC, rK 159)) := by
  refine wp_aload_n (j := 0) rfl q45_ok d45_0 ?_
  refine wp_objinit q45_ok d45_1 ml_6_3 rfl (Nat.le_of_ble_eq_true rfl) ?_
  refine wp_aload_n (j := 0) rfl q45_ok d45_4 ?_
  refine wp_iconst (v := 2) (by decide) q45_ok d45_5 ?_
  refine wp_newaP (t := 20) (m := 2) q45_ok d45_6 (by decide) (ixn_nI (j := 2) (by decide)) (by decide) (pushP (by decide +kernel) (by decide +kernel) rfl rfl (by decide +kernel)) ?_
  refine wp_putRP q45_ok d45_8 fl_6_9 rfl (soP (n := 156) (x := 154) (t := 6) (by decide)) (Or.inr ⟨rfl, rfl, rfl⟩) (by decide) rfl ?_
  refine wp_aload_n (j := 0) rfl q45_ok d45_11 ?_
  refine wp_iconst (v := 2) (by decide) q45_ok d45_12 ?_
  refine wp_newaP (t := 20) (m := 2) q45_ok d45_13 (by decide) (ixn_nI (j := 2) (by decide)) (by decide) (pushP (by decide +kernel) (by decide +kernel) rfl rfl (by decide +kernel)) ?_
  refine wp_putRP q45_ok d45_15 fl_6_15 rfl (soP (n := 157) (x := 154) (t := 6) (by decide)) (Or.inr ⟨rfl, rfl, rfl⟩) (by decide) rfl ?_
  refine wp_vret q45_ok d45_18 rfl ?_
  exact ⟨rfl, rfl⟩
theorem i_45_48 {xs : List Int32} {ext : mm_X} {n : Nat} : wp xs ext (n + 1) 45 0 [some (.ref 157)] [] (shP 158, dC1, gC, rK 160) (fun v μ => v = none ∧ μ = (shP 160, dC1, gC, rK 162)) := by
  refine wp_aload_n (j := 0) rfl q45_ok d45_0 ?_
  refine wp_objinit q45_ok d45_1 ml_6_3 rfl (Nat.le_of_ble_eq_true rfl) ?_
  refine wp_aload_n (j := 0) rfl q45_ok d45_4 ?_
  refine wp_iconst (v := 2) (by decide) q45_ok d45_5 ?_
  refine wp_newaP (t := 20) (m := 2) q45_ok d45_6 (by decide) (ixn_nI (j := 2) (by decide)) (by decide) (pushP (by decide +kernel) (by decide +kernel) rfl rfl (by decide +kernel)) ?_
  refine wp_putRP q45_ok d45_8 fl_6_9 rfl (soP (n := 159) (x := 157) (t := 6) (by decide)) (Or.inr ⟨rfl, rfl, rfl⟩) (by decide) rfl ?_
  refine wp_aload_n (j := 0) rfl q45_ok d45_11 ?_
  refine wp_iconst (v := 2) (by decide) q45_ok d45_12 ?_
  refine wp_newaP (t := 20) (m := 2) q45_ok d45_13 (by decide) (ixn_nI (j := 2) (by decide)) (by decide) (pushP (by decide +kernel) (by decide +kernel) rfl rfl (by decide +kernel)) ?_
  refine wp_putRP q45_ok d45_15 fl_6_15 rfl (soP (n := 160) (x := 157) (t := 6) (by decide)) (Or.inr ⟨rfl, rfl, rfl⟩) (by decide) rfl ?_
  refine wp_vret q45_ok d45_18 rfl ?_
  exact ⟨rfl, rfl⟩
theorem i_45_49 {xs : List Int32} {ext : mm_X} {n : Nat} : wp xs ext (n + 1) 45 0 [some (.ref 160)] [] (shP 161, dC1, gC, rK 163) (fun v μ => v = none ∧ μ = (shP 163, dC1, gC, rK 165)) := by
  refine wp_aload_n (j := 0) rfl q45_ok d45_0 ?_
  refine wp_objinit q45_ok d45_1 ml_6_3 rfl (Nat.le_of_ble_eq_true rfl) ?_
  refine wp_aload_n (j := 0) rfl q45_ok d45_4 ?_
  refine wp_iconst (v := 2) (by decide) q45_ok d45_5 ?_
  refine wp_newaP (t := 20) (m := 2) q45_ok d45_6 (by decide) (ixn_nI (j := 2) (by decide)) (by decide) (pushP (by decide +kernel) (by decide +kernel) rfl rfl (by decide +kernel)) ?_
  refine wp_putRP q45_ok d45_8 fl_6_9 rfl (soP (n := 162) (x := 160) (t := 6) (by decide)) (Or.inr ⟨rfl, rfl, rfl⟩) (by decide) rfl ?_
  refine wp_aload_n (j := 0) rfl q45_ok d45_11 ?_
  refine wp_iconst (v := 2) (by decide) q45_ok d45_12 ?_
  refine wp_newaP (t := 20) (m := 2) q45_ok d45_13 (by decide) (ixn_nI (j := 2) (by decide)) (by decide) (pushP (by decide +kernel) (by decide +kernel) rfl rfl (by decide +kernel)) ?_
  refine wp_putRP q45_ok d45_15 fl_6_15 rfl (soP (n := 163) (x := 160) (t := 6) (by decide)) (Or.inr ⟨rfl, rfl, rfl⟩) (by decide) rfl ?_
  refine wp_vret q45_ok d45_18 rfl ?_
  exact ⟨rfl, rfl⟩
theorem i_45_50 {xs : List Int32} {ext : mm_X} {n : Nat} : wp xs ext (n + 1) 45 0 [some (.ref 163)] [] (shP 164, dC1, gC, rK 166) (fun v μ => v = none ∧ μ = (shP 166, dC1, gC, rK 168)) := by
  refine wp_aload_n (j := 0) rfl q45_ok d45_0 ?_
  refine wp_objinit q45_ok d45_1 ml_6_3 rfl (Nat.le_of_ble_eq_true rfl) ?_
  refine wp_aload_n (j := 0) rfl q45_ok d45_4 ?_
  refine wp_iconst (v := 2) (by decide) q45_ok d45_5 ?_
  refine wp_newaP (t := 20) (m := 2) q45_ok d45_6 (by decide) (ixn_nI (j := 2) (by decide)) (by decide) (pushP (by decide +kernel) (by decide +kernel) rfl rfl (by decide +kernel)) ?_
  refine wp_putRP q45_ok d45_8 fl_6_9 rfl (soP (n := 165) (x := 163) (t := 6) (by decide)) (Or.inr ⟨rfl, rfl, rfl⟩) (by decide) rfl ?_
  refine wp_aload_n (j := 0) rfl q45_ok d45_11 ?_
  refine wp_iconst (v := 2) (by decide) q45_ok d45_12 ?_
  refine wp_newaP (t := 20) (m := 2) q45_ok d45_13 (by decide) (ixn_nI (j := 2) (by decide)) (by decide) (pushP (by decide +kernel) (by decide +kernel) rfl rfl (by decide +kernel)) ?_
  refine wp_putRP q45_ok d45_15 fl_6_15 rfl (soP (n := 166) (x := 163) (t := 6) (by decide)) (Or.inr ⟨rfl, rfl, rfl⟩) (by decide) rfl ?_
  refine wp_vret q45_ok d45_18 rfl ?_
  exact ⟨rfl, rfl⟩
theorem i_45_51 {xs : List Int32} {ext : mm_X} {n : Nat} : wp xs ext (n + 1) 45 0 [some (.ref 166)] [] (shP 167, dC1, gC, rK 169) (fun v μ => v = none ∧ μ = (shP 169, dC1, gC, rK 171)) := by
  refine wp_aload_n (j := 0) rfl q45_ok d45_0 ?_
  refine wp_objinit q45_ok d45_1 ml_6_3 rfl (Nat.le_of_ble_eq_true rfl) ?_
  refine wp_aload_n (j := 0) rfl q45_ok d45_4 ?_
  refine wp_iconst (v := 2) (by decide) q45_ok d45_5 ?_
  refine wp_newaP (t := 20) (m := 2) q45_ok d45_6 (by decide) (ixn_nI (j := 2) (by decide)) (by decide) (pushP (by decide +kernel) (by decide +kernel) rfl rfl (by decide +kernel)) ?_
  refine wp_putRP q45_ok d45_8 fl_6_9 rfl (soP (n := 168) (x := 166) (t := 6) (by decide)) (Or.inr ⟨rfl, rfl, rfl⟩) (by decide) rfl ?_
  refine wp_aload_n (j := 0) rfl q45_ok d45_11 ?_
  refine wp_iconst (v := 2) (by decide) q45_ok d45_12 ?_
  refine wp_newaP (t := 20) (m := 2) q45_ok d45_13 (by decide) (ixn_nI (j := 2) (by decide)) (by decide) (pushP (by decide +kernel) (by decide +kernel) rfl rfl (by decide +kernel)) ?_
  refine wp_putRP q45_ok d45_15 fl_6_15 rfl (soP (n := 169) (x := 166) (t := 6) (by decide)) (Or.inr ⟨rfl, rfl, rfl⟩) (by decide) rfl ?_
  refine wp_vret q45_ok d45_18 rfl ?_
  exact ⟨rfl, rfl⟩
theorem i_45_52 {xs : List Int32} {ext : mm_X} {n : Nat} : wp xs ext (n + 1) 45 0 [some (.ref 169)] [] (shP 170, dC1, gC, rK 172) (fun v μ => v = none ∧ μ = (shP 172, dC1, gC, rK 174)) := by
  refine wp_aload_n (j := 0) rfl q45_ok d45_0 ?_
  refine wp_objinit q45_ok d45_1 ml_6_3 rfl (Nat.le_of_ble_eq_true rfl) ?_
  refine wp_aload_n (j := 0) rfl q45_ok d45_4 ?_
  refine wp_iconst (v := 2) (by decide) q45_ok d45_5 ?_
  refine wp_newaP (t := 20) (m := 2) q45_ok d45_6 (by decide) (ixn_nI (j := 2) (by decide)) (by decide) (pushP (by decide +kernel) (by decide +kernel) rfl rfl (by decide +kernel)) ?_
  refine wp_putRP q45_ok d45_8 fl_6_9 rfl (soP (n := 171) (x := 169) (t := 6) (by decide)) (Or.inr ⟨rfl, rfl, rfl⟩) (by decide) rfl ?_
  refine wp_aload_n (j := 0) rfl q45_ok d45_11 ?_
  refine wp_iconst (v := 2) (by decide) q45_ok d45_12 ?_
  refine wp_newaP (t := 20) (m := 2) q45_ok d45_13 (by decide) (ixn_nI (j := 2) (by decide)) (by decide) (pushP (by decide +kernel) (by decide +kernel) rfl rfl (by decide +kernel)) ?_
  refine wp_putRP q45_ok d45_15 fl_6_15 rfl (soP (n := 172) (x := 169) (t := 6) (by decide)) (Or.inr ⟨rfl, rfl, rfl⟩) (by decide) rfl ?_
  refine wp_vret q45_ok d45_18 rfl ?_
  exact ⟨rfl, rfl⟩
theorem i_45_53 {xs : List Int32} {ext : mm_X} {n : Nat} : wp xs ext (n + 1) 45 0 [some (.ref 172)] [] (shP 173, dC1, gC, rK 175) (fun v μ => v = none ∧ μ = (shP 175, dC1, gC, rK 177)) := by
  refine wp_aload_n (j := 0) rfl q45_ok d45_0 ?_
  refine wp_objinit q45_ok d45_1 ml_6_3 rfl (Nat.le_of_ble_eq_true rfl) ?_
  refine wp_aload_n (j := 0) rfl q45_ok d45_4 ?_
  refine wp_iconst (v := 2) (by decide) q45_ok d45_5 ?_
  refine wp_newaP (t := 20) (m := 2) q45_ok d45_6 (by decide) (ixn_nI (j := 2) (by decide)) (by decide) (pushP (by decide +kernel) (by decide +kernel) rfl rfl (by decide +kernel)) ?_
  refine wp_putRP q45_ok d45_8 fl_6_9 rfl (soP (n := 174) (x := 172) (t := 6) (by decide)) (Or.inr ⟨rfl, rfl, rfl⟩) (by decide) rfl ?_
  refine wp_aload_n (j := 0) rfl q45_ok d45_11 ?_
  refine wp_iconst (v := 2) (by decide) q45_ok d45_12 ?_
  refine wp_newaP (t := 20) (m := 2) q45_ok d45_13 (by decide) (ixn_nI (j := 2) (by decide)) (by decide) (pushP (by decide +kernel) (by decide +kernel) rfl rfl (by decide +kernel)) ?_
  refine wp_putRP q45_ok d45_15 fl_6_15 rfl (soP (n := 175) (x := 172) (t := 6) (by decide)) (Or.inr ⟨rfl, rfl, rfl⟩) (by decide) rfl ?_
  refine wp_vret q45_ok d45_18 rfl ?_
  exact ⟨rfl, rfl⟩
theorem i_45_54 {xs : List Int32} {ext : mm_X} {n : Nat} : wp xs ext (n + 1) 45 0 [some (.ref 175)] [] (shP 176, dC1, gC, rK 178) (fun v μ => v = none ∧ μ = (shP 178, dC1, gC, rK 180)) := by
  refine wp_aload_n (j := 0) rfl q45_ok d45_0 ?_
  refine wp_objinit q45_ok d45_1 ml_6_3 rfl (Nat.le_of_ble_eq_true rfl) ?_
  refine wp_aload_n (j := 0) rfl q45_ok d45_4 ?_
  refine wp_iconst (v := 2) (by decide) q45_ok d45_5 ?_
  refine wp_newaP (t := 20) (m := 2) q45_ok d45_6 (by decide) (ixn_nI (j := 2) (by decide)) (by decide) (pushP (by decide +kernel) (by decide +kernel) rfl rfl (by decide +kernel)) ?_
  refine wp_putRP q45_ok d45_8 fl_6_9 rfl (soP (n := 177) (x := 175) (t := 6) (by decide)) (Or.inr ⟨rfl, rfl, rfl⟩) (by decide) rfl ?_
  refine wp_aload_n (j := 0) rfl q45_ok d45_11 ?_
  refine wp_iconst (v := 2) (by decide) q45_ok d45_12 ?_
  refine wp_newaP (t := 20) (m := 2) q45_ok d45_13 (by decide) (ixn_nI (j := 2) (by decide)) (by decide) (pushP (by decide +kernel) (by decide +kernel) rfl rfl (by decide +kernel)) ?_
  refine wp_putRP q45_ok d45_15 fl_6_15 rfl (soP (n := 178) (x := 175) (t := 6) (by decide)) (Or.inr ⟨rfl, rfl, rfl⟩) (by decide) rfl ?_
  refine wp_vret q45_ok d45_18 rfl ?_
  exact ⟨rfl, rfl⟩
theorem i_45_55 {xs : List Int32} {ext : mm_X} {n : Nat} : wp xs ext (n + 1) 45 0 [some (.ref 178)] [] (shP 179, dC1, gC, rK 181) (fun v μ => v = none ∧ μ = (shP 181, dC1, gC, rK 183)) := by
  refine wp_aload_n (j := 0) rfl q45_ok d45_0 ?_
  refine wp_objinit q45_ok d45_1 ml_6_3 rfl (Nat.le_of_ble_eq_true rfl) ?_
  refine wp_aload_n (j := 0) rfl q45_ok d45_4 ?_
  refine wp_iconst (v := 2) (by decide) q45_ok d45_5 ?_
  refine wp_newaP (t := 20) (m := 2) q45_ok d45_6 (by decide) (ixn_nI (j := 2) (by decide)) (by decide) (pushP (by decide +kernel) (by decide +kernel) rfl rfl (by decide +kernel)) ?_
  refine wp_putRP q45_ok d45_8 fl_6_9 rfl (soP (n := 180) (x := 178) (t := 6) (by decide)) (Or.inr ⟨rfl, rfl, rfl⟩) (by decide) rfl ?_
  refine wp_aload_n (j := 0) rfl q45_ok d45_11 ?_
  refine wp_iconst (v := 2) (by decide) q45_ok d45_12 ?_
  refine wp_newaP (t := 20) (m := 2) q45_ok d45_13 (by decide) (ixn_nI (j := 2) (by decide)) (by decide) (pushP (by decide +kernel) (by decide +kernel) rfl rfl (by decide +kernel)) ?_
  refine wp_putRP q45_ok d45_15 fl_6_15 rfl (soP (n := 181) (x := 178) (t := 6) (by decide)) (Or.inr ⟨rfl, rfl, rfl⟩) (by decide) rfl ?_
  refine wp_vret q45_ok d45_18 rfl ?_
  exact ⟨rfl, rfl⟩
theorem i_45_56 {xs : List Int32} {ext : mm_X} {n : Nat} : wp xs ext (n + 1) 45 0 [some (.ref 181)] [] (shP 182, dC1, gC, rK 184) (fun v μ => v = none ∧ μ = (shP 184, dC1, gC, rK 186)) := by
  refine wp_aload_n (j := 0) rfl q45_ok d45_0 ?_
  refine wp_objinit q45_ok d45_1 ml_6_3 rfl (Nat.le_of_ble_eq_true rfl) ?_
  refine wp_aload_n (j := 0) rfl q45_ok d45_4 ?_
  refine wp_iconst (v := 2) (by decide) q45_ok d45_5 ?_
  refine wp_newaP (t := 20) (m := 2) q45_ok d45_6 (by decide) (ixn_nI (j := 2) (by decide)) (by decide) (pushP (by decide +kernel) (by decide +kernel) rfl rfl (by decide +kernel)) ?_
  refine wp_putRP q45_ok d45_8 fl_6_9 rfl (soP (n := 183) (x := 181) (t := 6) (by decide)) (Or.inr ⟨rfl, rfl, rfl⟩) (by decide) rfl ?_
  refine wp_aload_n (j := 0) rfl q45_ok d45_11 ?_
  refine wp_iconst (v := 2) (by decide) q45_ok d45_12 ?_
  refine wp_newaP (t := 20) (m := 2) q45_ok d45_13 (by decide) (ixn_nI (j := 2) (by decide)) (by decide) (pushP (by decide +kernel) (by decide +kernel) rfl rfl (by decide +kernel)) ?_
  refine wp_putRP q45_ok d45_15 fl_6_15 rfl (soP (n := 184) (x := 181) (t := 6) (by decide)) (Or.inr ⟨rfl, rfl, rfl⟩) (by decide) rfl ?_
  refine wp_vret q45_ok d45_18 rfl ?_
  exact ⟨rfl, rfl⟩
theorem i_45_57 {xs : List Int32} {ext : mm_X} {n : Nat} : wp xs ext (n + 1) 45 0 [some (.ref 184)] [] (shP 185, dC1, gC, rK 187) (fun v μ => v = none ∧ μ = (shP 187, dC1, gC, rK 189)) := by
  refine wp_aload_n (j := 0) rfl q45_ok d45_0 ?_
  refine wp_objinit q45_ok d45_1 ml_6_3 rfl (Nat.le_of_ble_eq_true rfl) ?_
  refine wp_aload_n (j := 0) rfl q45_ok d45_4 ?_
  refine wp_iconst (v := 2) (by decide) q45_ok d45_5 ?_
  refine wp_newaP (t := 20) (m := 2) q45_ok d45_6 (by decide) (ixn_nI (j := 2) (by decide)) (by decide) (pushP (by decide +kernel) (by decide +kernel) rfl rfl (by decide +kernel)) ?_
  refine wp_putRP q45_ok d45_8 fl_6_9 rfl (soP (n := 186) (x := 184) (t := 6) (by decide)) (Or.inr ⟨rfl, rfl, rfl⟩) (by decide) rfl ?_
  refine wp_aload_n (j := 0) rfl q45_ok d45_11 ?_
  refine wp_iconst (v := 2) (by decide) q45_ok d45_12 ?_
  refine wp_newaP (t := 20) (m := 2) q45_ok d45_13 (by decide) (ixn_nI (j := 2) (by decide)) (by decide) (pushP (by decide +kernel) (by decide +kernel) rfl rfl (by decide +kernel)) ?_
  refine wp_putRP q45_ok d45_15 fl_6_15 rfl (soP (n := 187) (x := 184) (t := 6) (by decide)) (Or.inr ⟨rfl, rfl, rfl⟩) (by decide) rfl ?_
  refine wp_vret q45_ok d45_18 rfl ?_
  exact ⟨rfl, rfl⟩
theorem i_45_58 {xs : List Int32} {ext : mm_X} {n : Nat} : wp xs ext (n + 1) 45 0 [some (.ref 187)] [] (shP 188, dC1, gC, rK 190) (fun v μ => v = none ∧ μ = (shP 190, dC1, gC, rK 192)) := by
  refine wp_aload_n (j := 0) rfl q45_ok d45_0 ?_
  refine wp_objinit q45_ok d45_1 ml_6_3 rfl (Nat.le_of_ble_eq_true rfl) ?_
  refine wp_aload_n (j := 0) rfl q45_ok d45_4 ?_
  refine wp_iconst (v := 2) (by decide) q45_ok d45_5 ?_
  refine wp_newaP (t := 20) (m := 2) q45_ok d45_6 (by decide) (ixn_nI (j := 2) (by decide)) (by decide) (pushP (by decide +kernel) (by decide +kernel) rfl rfl (by decide +kernel)) ?_
  refine wp_putRP q45_ok d45_8 fl_6_9 rfl (soP (n := 189) (x := 187) (t := 6) (by decide)) (Or.inr ⟨rfl, rfl, rfl⟩) (by decide) rfl ?_
  refine wp_aload_n (j := 0) rfl q45_ok d45_11 ?_
  refine wp_iconst (v := 2) (by decide) q45_ok d45_12 ?_
  refine wp_newaP (t := 20) (m := 2) q45_ok d45_13 (by decide) (ixn_nI (j := 2) (by decide)) (by decide) (pushP (by decide +kernel) (by decide +kernel) rfl rfl (by decide +kernel)) ?_
  refine wp_putRP q45_ok d45_15 fl_6_15 rfl (soP (n := 190) (x := 187) (t := 6) (by decide)) (Or.inr ⟨rfl, rfl, rfl⟩) (by decide) rfl ?_
  refine wp_vret q45_ok d45_18 rfl ?_
  exact ⟨rfl, rfl⟩
theorem i_45_59 {xs : List Int32} {ext : mm_X} {n : Nat} : wp xs ext (n + 1) 45 0 [some (.ref 190)] [] (shP 191, dC1, gC, rK 193) (fun v μ => v = none ∧ μ = (shP 193, dC1, gC, rK 195)) := by
  refine wp_aload_n (j := 0) rfl q45_ok d45_0 ?_
  refine wp_objinit q45_ok d45_1 ml_6_3 rfl (Nat.le_of_ble_eq_true rfl) ?_
  refine wp_aload_n (j := 0) rfl q45_ok d45_4 ?_
  refine wp_iconst (v := 2) (by decide) q45_ok d45_5 ?_
  refine wp_newaP (t := 20) (m := 2) q45_ok d45_6 (by decide) (ixn_nI (j := 2) (by decide)) (by decide) (pushP (by decide +kernel) (by decide +kernel) rfl rfl (by decide +kernel)) ?_
  refine wp_putRP q45_ok d45_8 fl_6_9 rfl (soP (n := 192) (x := 190) (t := 6) (by decide)) (Or.inr ⟨rfl, rfl, rfl⟩) (by decide) rfl ?_
  refine wp_aload_n (j := 0) rfl q45_ok d45_11 ?_
  refine wp_iconst (v := 2) (by decide) q45_ok d45_12 ?_
  refine wp_newaP (t := 20) (m := 2) q45_ok d45_13 (by decide) (ixn_nI (j := 2) (by decide)) (by decide) (pushP (by decide +kernel) (by decide +kernel) rfl rfl (by decide +kernel)) ?_
  refine wp_putRP q45_ok d45_15 fl_6_15 rfl (soP (n := 193) (x := 190) (t := 6) (by decide)) (Or.inr ⟨rfl, rfl, rfl⟩) (by decide) rfl ?_
  refine wp_vret q45_ok d45_18 rfl ?_
  exact ⟨rfl, rfl⟩
theorem i_45_60 {xs : List Int32} {ext : mm_X} {n : Nat} : wp xs ext (n + 1) 45 0 [some (.ref 193)] [] (shP 194, dC1, gC, rK 196) (fun v μ => v = none ∧ μ = (shP 196, dC1, gC, rK 198)) := by
  refine wp_aload_n (j := 0) rfl q45_ok d45_0 ?_
  refine wp_objinit q45_ok d45_1 ml_6_3 rfl (Nat.le_of_ble_eq_true rfl) ?_
  refine wp_aload_n (j := 0) rfl q45_ok d45_4 ?_
  refine wp_iconst (v := 2) (by decide) q45_ok d45_5 ?_
  refine wp_newaP (t := 20) (m := 2) q45_ok d45_6 (by decide) (ixn_nI (j := 2) (by decide)) (by decide) (pushP (by decide +kernel) (by decide +kernel) rfl rfl (by decide +kernel)) ?_
  refine wp_putRP q45_ok d45_8 fl_6_9 rfl (soP (n := 195) (x := 193) (t := 6) (by decide)) (Or.inr ⟨rfl, rfl, rfl⟩) (by decide) rfl ?_
  refine wp_aload_n (j := 0) rfl q45_ok d45_11 ?_
  refine wp_iconst (v := 2) (by decide) q45_ok d45_12 ?_
  refine wp_newaP (t := 20) (m := 2) q45_ok d45_13 (by decide) (ixn_nI (j := 2) (by decide)) (by decide) (pushP (by decide +kernel) (by decide +kernel) rfl rfl (by decide +kernel)) ?_
  refine wp_putRP q45_ok d45_15 fl_6_15 rfl (soP (n := 196) (x := 193) (t := 6) (by decide)) (Or.inr ⟨rfl, rfl, rfl⟩) (by decide) rfl ?_
  refine wp_vret q45_ok d45_18 rfl ?_
  exact ⟨rfl, rfl⟩
theorem i_45_61 {xs : List Int32} {ext : mm_X} {n : Nat} : wp xs ext (n + 1) 45 0 [some (.ref 196)] [] (shP 197, dC1, gC, rK 199) (fun v μ => v = none ∧ μ = (shP 199, dC1, gC, rK 201)) := by
  refine wp_aload_n (j := 0) rfl q45_ok d45_0 ?_
  refine wp_objinit q45_ok d45_1 ml_6_3 rfl (Nat.le_of_ble_eq_true rfl) ?_
  refine wp_aload_n (j := 0) rfl q45_ok d45_4 ?_
  refine wp_iconst (v := 2) (by decide) q45_ok d45_5 ?_
  refine wp_newaP (t := 20) (m := 2) q45_ok d45_6 (by decide) (ixn_nI (j := 2) (by decide)) (by decide) (pushP (by decide +kernel) (by decide +kernel) rfl rfl (by decide +kernel)) ?_
  refine wp_putRP q45_ok d45_8 fl_6_9 rfl (soP (n := 198) (x := 196) (t := 6) (by decide)) (Or.inr ⟨rfl, rfl, rfl⟩) (by decide) rfl ?_
  refine wp_aload_n (j := 0) rfl q45_ok d45_11 ?_
  refine wp_iconst (v := 2) (by decide) q45_ok d45_12 ?_
  refine wp_newaP (t := 20) (m := 2) q45_ok d45_13 (by decide) (ixn_nI (j := 2) (by decide)) (by decide) (pushP (by decide +kernel) (by decide +kernel) rfl rfl (by decide +kernel)) ?_
  refine wp_putRP q45_ok d45_15 fl_6_15 rfl (soP (n := 199) (x := 196) (t := 6) (by decide)) (Or.inr ⟨rfl, rfl, rfl⟩) (by decide) rfl ?_
  refine wp_vret q45_ok d45_18 rfl ?_
  exact ⟨rfl, rfl⟩
theorem i_45_62 {xs : List Int32} {ext : mm_X} {n : Nat} : wp xs ext (n + 1) 45 0 [some (.ref 199)] [] (shP 200, dC1, gC, rK 202) (fun v μ => v = none ∧ μ = (shP 202, dC1, gC, rK 204)) := by
  refine wp_aload_n (j := 0) rfl q45_ok d45_0 ?_
  refine wp_objinit q45_ok d45_1 ml_6_3 rfl (Nat.le_of_ble_eq_true rfl) ?_
  refine wp_aload_n (j := 0) rfl q45_ok d45_4 ?_
  refine wp_iconst (v := 2) (by decide) q45_ok d45_5 ?_
  refine wp_newaP (t := 20) (m := 2) q45_ok d45_6 (by decide) (ixn_nI (j := 2) (by decide)) (by decide) (pushP (by decide +kernel) (by decide +kernel) rfl rfl (by decide +kernel)) ?_
  refine wp_putRP q45_ok d45_8 fl_6_9 rfl (soP (n := 201) (x := 199) (t := 6) (by decide)) (Or.inr ⟨rfl, rfl, rfl⟩) (by decide) rfl ?_
  refine wp_aload_n (j := 0) rfl q45_ok d45_11 ?_
  refine wp_iconst (v := 2) (by decide) q45_ok d45_12 ?_
  refine wp_newaP (t := 20) (m := 2) q45_ok d45_13 (by decide) (ixn_nI (j := 2) (by decide)) (by decide) (pushP (by decide +kernel) (by decide +kernel) rfl rfl (by decide +kernel)) ?_
  refine wp_putRP q45_ok d45_15 fl_6_15 rfl (soP (n := 202) (x := 199) (t := 6) (by decide)) (Or.inr ⟨rfl, rfl, rfl⟩) (by decide) rfl ?_
  refine wp_vret q45_ok d45_18 rfl ?_
  exact ⟨rfl, rfl⟩
theorem i_45_63 {xs : List Int32} {ext : mm_X} {n : Nat} : wp xs ext (n + 1) 45 0 [some (.ref 202)] [] (shP 203, dC1, gC, rK 205) (fun v μ => v = none ∧ μ = (shP 205, dC1, gC, rK 207)) := by
  refine wp_aload_n (j := 0) rfl q45_ok d45_0 ?_
  refine wp_objinit q45_ok d45_1 ml_6_3 rfl (Nat.le_of_ble_eq_true rfl) ?_
  refine wp_aload_n (j := 0) rfl q45_ok d45_4 ?_
  refine wp_iconst (v := 2) (by decide) q45_ok d45_5 ?_
  refine wp_newaP (t := 20) (m := 2) q45_ok d45_6 (by decide) (ixn_nI (j := 2) (by decide)) (by decide) (pushP (by decide +kernel) (by decide +kernel) rfl rfl (by decide +kernel)) ?_
  refine wp_putRP q45_ok d45_8 fl_6_9 rfl (soP (n := 204) (x := 202) (t := 6) (by decide)) (Or.inr ⟨rfl, rfl, rfl⟩) (by decide) rfl ?_
  refine wp_aload_n (j := 0) rfl q45_ok d45_11 ?_
  refine wp_iconst (v := 2) (by decide) q45_ok d45_12 ?_
  refine wp_newaP (t := 20) (m := 2) q45_ok d45_13 (by decide) (ixn_nI (j := 2) (by decide)) (by decide) (pushP (by decide +kernel) (by decide +kernel) rfl rfl (by decide +kernel)) ?_
  refine wp_putRP q45_ok d45_15 fl_6_15 rfl (soP (n := 205) (x := 202) (t := 6) (by decide)) (Or.inr ⟨rfl, rfl, rfl⟩) (by decide) rfl ?_
  refine wp_vret q45_ok d45_18 rfl ?_
  exact ⟨rfl, rfl⟩
theorem i_45_64 {xs : List Int32} {ext : mm_X} {n : Nat} : wp xs ext (n + 1) 45 0 [some (.ref 205)] [] (shP 206, dC1, gC, rK 208) (fun v μ => v = none ∧ μ = (shP 208, dC1, gC, rK 210)) := by
  refine wp_aload_n (j := 0) rfl q45_ok d45_0 ?_
  refine wp_objinit q45_ok d45_1 ml_6_3 rfl (Nat.le_of_ble_eq_true rfl) ?_
  refine wp_aload_n (j := 0) rfl q45_ok d45_4 ?_
  refine wp_iconst (v := 2) (by decide) q45_ok d45_5 ?_
  refine wp_newaP (t := 20) (m := 2) q45_ok d45_6 (by decide) (ixn_nI (j := 2) (by decide)) (by decide) (pushP (by decide +kernel) (by decide +kernel) rfl rfl (by decide +kernel)) ?_
  refine wp_putRP q45_ok d45_8 fl_6_9 rfl (soP (n := 207) (x := 205) (t := 6) (by decide)) (Or.inr ⟨rfl, rfl, rfl⟩) (by decide) rfl ?_
  refine wp_aload_n (j := 0) rfl q45_ok d45_11 ?_
  refine wp_iconst (v := 2) (by decide) q45_ok d45_12 ?_
  refine wp_newaP (t := 20) (m := 2) q45_ok d45_13 (by decide) (ixn_nI (j := 2) (by decide)) (by decide) (pushP (by decide +kernel) (by decide +kernel) rfl rfl (by decide +kernel)) ?_
  refine wp_putRP q45_ok d45_15 fl_6_15 rfl (soP (n := 208) (x := 205) (t := 6) (by decide)) (Or.inr ⟨rfl, rfl, rfl⟩) (by decide) rfl ?_
  refine wp_vret q45_ok d45_18 rfl ?_
  exact ⟨rfl, rfl⟩
theorem i_45_65 {xs : List Int32} {ext : mm_X} {n : Nat} : wp xs ext (n + 1) 45 0 [some (.ref 208)] [] (shP 209, dC1, gC, rK 211) (fun v μ => v = none ∧ μ = (shP 211, dC1, gC, rK 213)) := by
  refine wp_aload_n (j := 0) rfl q45_ok d45_0 ?_
  refine wp_objinit q45_ok d45_1 ml_6_3 rfl (Nat.le_of_ble_eq_true rfl) ?_
  refine wp_aload_n (j := 0) rfl q45_ok d45_4 ?_
  refine wp_iconst (v := 2) (by decide) q45_ok d45_5 ?_
  refine wp_newaP (t := 20) (m := 2) q45_ok d45_6 (by decide) (ixn_nI (j := 2) (by decide)) (by decide) (pushP (by decide +kernel) (by decide +kernel) rfl rfl (by decide +kernel)) ?_
  refine wp_putRP q45_ok d45_8 fl_6_9 rfl (soP (n := 210) (x := 208) (t := 6) (by decide)) (Or.inr ⟨rfl, rfl, rfl⟩) (by decide) rfl ?_
  refine wp_aload_n (j := 0) rfl q45_ok d45_11 ?_
  refine wp_iconst (v := 2) (by decide) q45_ok d45_12 ?_
  refine wp_newaP (t := 20) (m := 2) q45_ok d45_13 (by decide) (ixn_nI (j := 2) (by decide)) (by decide) (pushP (by decide +kernel) (by decide +kernel) rfl rfl (by decide +kernel)) ?_
  refine wp_putRP q45_ok d45_15 fl_6_15 rfl (soP (n := 211) (x := 208) (t := 6) (by decide)) (Or.inr ⟨rfl, rfl, rfl⟩) (by decide) rfl ?_
  refine wp_vret q45_ok d45_18 rfl ?_
  exact ⟨rfl, rfl⟩
theorem i_45_66 {xs : List Int32} {ext : mm_X} {n : Nat} : wp xs ext (n + 1) 45 0 [some (.ref 211)] [] (shP 212, dC1, gC, rK 214) (fun v μ => v = none ∧ μ = (shP 214, dC1, gC, rK 216)) := by
  refine wp_aload_n (j := 0) rfl q45_ok d45_0 ?_
  refine wp_objinit q45_ok d45_1 ml_6_3 rfl (Nat.le_of_ble_eq_true rfl) ?_
  refine wp_aload_n (j := 0) rfl q45_ok d45_4 ?_
  refine wp_iconst (v := 2) (by decide) q45_ok d45_5 ?_
  refine wp_newaP (t := 20) (m := 2) q45_ok d45_6 (by decide) (ixn_nI (j := 2) (by decide)) (by decide) (pushP (by decide +kernel) (by decide +kernel) rfl rfl (by decide +kernel)) ?_
  refine wp_putRP q45_ok d45_8 fl_6_9 rfl (soP (n := 213) (x := 211) (t := 6) (by decide)) (Or.inr ⟨rfl, rfl, rfl⟩) (by decide) rfl ?_
  refine wp_aload_n (j := 0) rfl q45_ok d45_11 ?_
  refine wp_iconst (v := 2) (by decide) q45_ok d45_12 ?_
  refine wp_newaP (t := 20) (m := 2) q45_ok d45_13 (by decide) (ixn_nI (j := 2) (by decide)) (by decide) (pushP (by decide +kernel) (by decide +kernel) rfl rfl (by decide +kernel)) ?_
  refine wp_putRP q45_ok d45_15 fl_6_15 rfl (soP (n := 214) (x := 211) (t := 6) (by decide)) (Or.inr ⟨rfl, rfl, rfl⟩) (by decide) rfl ?_
  refine wp_vret q45_ok d45_18 rfl ?_
  exact ⟨rfl, rfl⟩
theorem i_45_67 {xs : List Int32} {ext : mm_X} {n : Nat} : wp xs ext (n + 1) 45 0 [some (.ref 214)] [] (shP 215, dC1, gC, rK 217) (fun v μ => v = none ∧ μ = (shP 217, dC1, gC, rK 219)) := by
  refine wp_aload_n (j := 0) rfl q45_ok d45_0 ?_
  refine wp_objinit q45_ok d45_1 ml_6_3 rfl (Nat.le_of_ble_eq_true rfl) ?_
  refine wp_aload_n (j := 0) rfl q45_ok d45_4 ?_
  refine wp_iconst (v := 2) (by decide) q45_ok d45_5 ?_
  refine wp_newaP (t := 20) (m := 2) q45_ok d45_6 (by decide) (ixn_nI (j := 2) (by decide)) (by decide) (pushP (by decide +kernel) (by decide +kernel) rfl rfl (by decide +kernel)) ?_
  refine wp_putRP q45_ok d45_8 fl_6_9 rfl (soP (n := 216) (x := 214) (t := 6) (by decide)) (Or.inr ⟨rfl, rfl, rfl⟩) (by decide) rfl ?_
  refine wp_aload_n (j := 0) rfl q45_ok d45_11 ?_
  refine wp_iconst (v := 2) (by decide) q45_ok d45_12 ?_
  refine wp_newaP (t := 20) (m := 2) q45_ok d45_13 (by decide) (ixn_nI (j := 2) (by decide)) (by decide) (pushP (by decide +kernel) (by decide +kernel) rfl rfl (by decide +kernel)) ?_
  refine wp_putRP q45_ok d45_15 fl_6_15 rfl (soP (n := 217) (x := 214) (t := 6) (by decide)) (Or.inr ⟨rfl, rfl, rfl⟩) (by decide) rfl ?_
  refine wp_vret q45_ok d45_18 rfl ?_
  exact ⟨rfl, rfl⟩
theorem i_45_68 {xs : List Int32} {ext : mm_X} {n : Nat} : wp xs ext (n + 1) 45 0 [some (.ref 217)] [] (shP 218, dC1, gC, rK 220) (fun v μ => v = none ∧ μ = (shP 220, dC1, gC, rK 222)) := by
  refine wp_aload_n (j := 0) rfl q45_ok d45_0 ?_
  refine wp_objinit q45_ok d45_1 ml_6_3 rfl (Nat.le_of_ble_eq_true rfl) ?_
  refine wp_aload_n (j := 0) rfl q45_ok d45_4 ?_
  refine wp_iconst (v := 2) (by decide) q45_ok d45_5 ?_
  refine wp_newaP (t := 20) (m := 2) q45_ok d45_6 (by decide) (ixn_nI (j := 2) (by decide)) (by decide) (pushP (by decide +kernel) (by decide +kernel) rfl rfl (by decide +kernel)) ?_
  refine wp_putRP q45_ok d45_8 fl_6_9 rfl (soP (n := 219) (x := 217) (t := 6) (by decide)) (Or.inr ⟨rfl, rfl, rfl⟩) (by decide) rfl ?_
  refine wp_aload_n (j := 0) rfl q45_ok d45_11 ?_
  refine wp_iconst (v := 2) (by decide) q45_ok d45_12 ?_
  refine wp_newaP (t := 20) (m := 2) q45_ok d45_13 (by decide) (ixn_nI (j := 2) (by decide)) (by decide) (pushP (by decide +kernel) (by decide +kernel) rfl rfl (by decide +kernel)) ?_
  refine wp_putRP q45_ok d45_15 fl_6_15 rfl (soP (n := 220) (x := 217) (t := 6) (by decide)) (Or.inr ⟨rfl, rfl, rfl⟩) (by decide) rfl ?_
  refine wp_vret q45_ok d45_18 rfl ?_
  exact ⟨rfl, rfl⟩
theorem i_45_69 {xs : List Int32} {ext : mm_X} {n : Nat} : wp xs ext (n + 1) 45 0 [some (.ref 220)] [] (shP 221, dC1, gC, rK 223) (fun v μ => v = none ∧ μ = (shP 223, dC1, gC, rK 225)) := by
  refine wp_aload_n (j := 0) rfl q45_ok d45_0 ?_
  refine wp_objinit q45_ok d45_1 ml_6_3 rfl (Nat.le_of_ble_eq_true rfl) ?_
  refine wp_aload_n (j := 0) rfl q45_ok d45_4 ?_
  refine wp_iconst (v := 2) (by decide) q45_ok d45_5 ?_
  refine wp_newaP (t := 20) (m := 2) q45_ok d45_6 (by decide) (ixn_nI (j := 2) (by decide)) (by decide) (pushP (by decide +kernel) (by decide +kernel) rfl rfl (by decide +kernel)) ?_
  refine wp_putRP q45_ok d45_8 fl_6_9 rfl (soP (n := 222) (x := 220) (t := 6) (by decide)) (Or.inr ⟨rfl, rfl, rfl⟩) (by decide) rfl ?_
  refine wp_aload_n (j := 0) rfl q45_ok d45_11 ?_
  refine wp_iconst (v := 2) (by decide) q45_ok d45_12 ?_
  refine wp_newaP (t := 20) (m := 2) q45_ok d45_13 (by decide) (ixn_nI (j := 2) (by decide)) (by decide) (pushP (by decide +kernel) (by decide +kernel) rfl rfl (by decide +kernel)) ?_
  refine wp_putRP q45_ok d45_15 fl_6_15 rfl (soP (n := 223) (x := 220) (t := 6) (by decide)) (Or.inr ⟨rfl, rfl, rfl⟩) (by decide) rfl ?_
  refine wp_vret q45_ok d45_18 rfl ?_
  exact ⟨rfl, rfl⟩
theorem i_45_70 {xs : List Int32} {ext : mm_X} {n : Nat} : wp xs ext (n + 1) 45 0 [some (.ref 223)] [] (shP 224, dC1, gC, rK 226) (fun v μ => v = none ∧ μ = (shP 226, dC1, gC, rK 228)) := by
  refine wp_aload_n (j := 0) rfl q45_ok d45_0 ?_
  refine wp_objinit q45_ok d45_1 ml_6_3 rfl (Nat.le_of_ble_eq_true rfl) ?_
  refine wp_aload_n (j := 0) rfl q45_ok d45_4 ?_
  refine wp_iconst (v := 2) (by decide) q45_ok d45_5 ?_
  refine wp_newaP (t := 20) (m := 2) q45_ok d45_6 (by decide) (ixn_nI (j := 2) (by decide)) (by decide) (pushP (by decide +kernel) (by decide +kernel) rfl rfl (by decide +kernel)) ?_
  refine wp_putRP q45_ok d45_8 fl_6_9 rfl (soP (n := 225) (x := 223) (t := 6) (by decide)) (Or.inr ⟨rfl, rfl, rfl⟩) (by decide) rfl ?_
  refine wp_aload_n (j := 0) rfl q45_ok d45_11 ?_
  refine wp_iconst (v := 2) (by decide) q45_ok d45_12 ?_
  refine wp_newaP (t := 20) (m := 2) q45_ok d45_13 (by decide) (ixn_nI (j := 2) (by decide)) (by decide) (pushP (by decide +kernel) (by decide +kernel) rfl rfl (by decide +kernel)) ?_
  refine wp_putRP q45_ok d45_15 fl_6_15 rfl (soP (n := 226) (x := 223) (t := 6) (by decide)) (Or.inr ⟨rfl, rfl, rfl⟩) (by decide) rfl ?_
  refine wp_vret q45_ok d45_18 rfl ?_
  exact ⟨rfl, rfl⟩
theorem i_45_71 {xs : List Int32} {ext : mm_X} {n : Nat} : wp xs ext (n + 1) 45 0 [some (.ref 226)] [] (shP 227, dC1, gC, rK 229) (fun v μ => v = none ∧ μ = (shP 229, dC1, gC, rK 231)) := by
  refine wp_aload_n (j := 0) rfl q45_ok d45_0 ?_
  refine wp_objinit q45_ok d45_1 ml_6_3 rfl (Nat.le_of_ble_eq_true rfl) ?_
  refine wp_aload_n (j := 0) rfl q45_ok d45_4 ?_
  refine wp_iconst (v := 2) (by decide) q45_ok d45_5 ?_
  refine wp_newaP (t := 20) (m := 2) q45_ok d45_6 (by decide) (ixn_nI (j := 2) (by decide)) (by decide) (pushP (by decide +kernel) (by decide +kernel) rfl rfl (by decide +kernel)) ?_
  refine wp_putRP q45_ok d45_8 fl_6_9 rfl (soP (n := 228) (x := 226) (t := 6) (by decide)) (Or.inr ⟨rfl, rfl, rfl⟩) (by decide) rfl ?_
  refine wp_aload_n (j := 0) rfl q45_ok d45_11 ?_
  refine wp_iconst (v := 2) (by decide) q45_ok d45_12 ?_
  refine wp_newaP (t := 20) (m := 2) q45_ok d45_13 (by decide) (ixn_nI (j := 2) (by decide)) (by decide) (pushP (by decide +kernel) (by decide +kernel) rfl rfl (by decide +kernel)) ?_
  refine wp_putRP q45_ok d45_15 fl_6_15 rfl (soP (n := 229) (x := 226) (t := 6) (by decide)) (Or.inr ⟨rfl, rfl, rfl⟩) (by decide) rfl ?_
  refine wp_vret q45_ok d45_18 rfl ?_
  exact ⟨rfl, rfl⟩
theorem i_29_11 {xs : List Int32} {ext : mm_X} {n : Nat} : wp xs ext (n + 2) 29 0 [some (.ref 47), none] [] (shP 48, dC1, gC, rK 51) (fun v μ => v = none ∧ μ = (shP 229, dC1, gC, rK 232)) := by
  refine wp_aload_n (j := 0) rfl q29_ok d29_0 ?_
  refine wp_objinit q29_ok d29_1 ml_3_3 rfl (Nat.le_of_ble_eq_true rfl) ?_
  refine wp_aload_n (j := 0) rfl q29_ok d29_4 ?_
  refine wp_bipush (v := 60) (by decide) q29_ok d29_5 ?_
  refine wp_anewP (t := 6) (m := 60) (u := 24) q29_ok d29_7 (by decide +kernel) rfl (ixn_nI (j := 60) (by decide)) (by decide) (pushP (by decide +kernel) (by decide +kernel) rfl rfl (by decide +kernel)) ?_
  refine wp_putRP q29_ok d29_10 fl_3_11 rfl (soP (n := 49) (x := 47) (t := 3) (by decide)) (Or.inr ⟨rfl, rfl, rfl⟩) (by decide) rfl ?_
  refine wp_iconst (v := 0) (by decide) q29_ok d29_13 ?_
  refine wp_istore_n (j := 1) (Nat.le_of_ble_eq_true rfl) (rfl : _ = [_, _]) q29_ok d29_14 ?_
  refine wp_iload_n (j := 1) rfl q29_ok d29_15 ?_
  refine wp_aload_n (j := 0) rfl q29_ok d29_16 ?_
  refine wp_getR q29_ok d29_17 fl_3_11 rfl (soP (n := 49) (x := 47) (t := 3) (by decide)) (show rK 52 47 0 = some 48 from rfl) ?_
  refine wp_alen (m := 60) q29_ok d29_20 (by decide) (by decide) (hmP (by decide) rfl) (show _ = (60 : Int32) from rfl) ?_ (by decide)
  refine wp_icmp_ge q29_ok d29_21 (t := 43) rfl (fun h => absurd h (by decide)) (fun _ => ?_)
  refine wp_aload_n (j := 0) rfl q29_ok d29_24 ?_
  refine wp_getR q29_ok d29_25 fl_3_11 rfl (soP (n := 49) (x := 47) (t := 3) (by decide)) (show rK 52 47 0 = some 48 from rfl) ?_
  refine wp_iload_n (j := 1) rfl q29_ok d29_28 ?_
  refine wp_newP (t := 6) q29_ok d29_29 (by decide +kernel) (by decide) (pushP (by decide +kernel) (by decide +kernel) rfl rfl (by decide +kernel)) ?_
  refine wp_dup rfl q29_ok d29_32 ?_
  refine wp_cI q29_ok d29_33 ml_3_17 (by decide) rfl q45_ok rfl rfl (Nat.le_of_ble_eq_true rfl) (Nat.le_of_ble_eq_true rfl) (i_45_12 (n := n + 0)) (fun v μ hc => ?_)
  obtain ⟨rfl, rfl⟩ := hc
  refine ⟨mm_le_P (by decide) (by decide +kernel), ?_⟩
  refine wp_aastP (t := 24) (u := 6) (m := 60) (j := 0) q29_ok d29_36 (by decide) (soP (n := 52) (x := 48) (t := 24) (by decide)) (soP (n := 52) (x := 49) (t := 6) (by decide)) (hmP (by decide) rfl) (ixn_nI (j := 0) (by decide)) rfl ?_
  refine wp_iinc (j := 1) (v := 1) rfl (by decide) (rfl : _ = [_, _]) q29_ok d29_37 ?_
  refine wp_goto (t := 15) rfl q29_ok d29_40 ?_
  refine wp_iload_n (j := 1) rfl q29_ok d29_15 ?_
  refine wp_aload_n (j := 0) rfl q29_ok d29_16 ?_
  refine wp_getR q29_ok d29_17 fl_3_11 rfl (soP (n := 52) (x := 47) (t := 3) (by decide)) (show rK 55 47 0 = some 48 from rfl) ?_
  refine wp_alen (m := 60) q29_ok d29_20 (by decide) (by decide) (hmP (by decide) rfl) (show _ = (60 : Int32) from rfl) ?_ (by decide)
  refine wp_icmp_ge q29_ok d29_21 (t := 43) rfl (fun h => absurd h (by decide)) (fun _ => ?_)
  refine wp_aload_n (j := 0) rfl q29_ok d29_24 ?_
  refine wp_getR q29_ok d29_25 fl_3_11 rfl (soP (n := 52) (x := 47) (t := 3) (by decide)) (show rK 55 47 0 = some 48 from rfl) ?_
  refine wp_iload_n (j := 1) rfl q29_ok d29_28 ?_
  refine wp_newP (t := 6) q29_ok d29_29 (by decide +kernel) (by decide) (pushP (by decide +kernel) (by decide +kernel) rfl rfl (by decide +kernel)) ?_
  refine wp_dup rfl q29_ok d29_32 ?_
  refine wp_cI q29_ok d29_33 ml_3_17 (by decide) rfl q45_ok rfl rfl (Nat.le_of_ble_eq_true rfl) (Nat.le_of_ble_eq_true rfl) (i_45_13 (n := n + 0)) (fun v μ hc => ?_)
  obtain ⟨rfl, rfl⟩ := hc
  refine ⟨mm_le_P (by decide) (by decide +kernel), ?_⟩
  refine wp_aastP (t := 24) (u := 6) (m := 60) (j := 1) q29_ok d29_36 (by decide) (soP (n := 55) (x := 48) (t := 24) (by decide)) (soP (n := 55) (x := 52) (t := 6) (by decide)) (hmP (by decide) rfl) (ixn_nI (j := 1) (by decide)) rfl ?_
  refine wp_iinc (j := 1) (v := 2) rfl (by decide) (rfl : _ = [_, _]) q29_ok d29_37 ?_
  refine wp_goto (t := 15) rfl q29_ok d29_40 ?_
  refine wp_iload_n (j := 1) rfl q29_ok d29_15 ?_
  refine wp_aload_n (j := 0) rfl q29_ok d29_16 ?_
  refine wp_getR q29_ok d29_17 fl_3_11 rfl (soP (n := 55) (x := 47) (t := 3) (by decide)) (show rK 58 47 0 = some 48 from rfl) ?_
  refine wp_alen (m := 60) q29_ok d29_20 (by decide) (by decide) (hmP (by decide) rfl) (show _ = (60 : Int32) from rfl) ?_ (by decide)
  refine wp_icmp_ge q29_ok d29_21 (t := 43) rfl (fun h => absurd h (by decide)) (fun _ => ?_)
  refine wp_aload_n (j := 0) rfl q29_ok d29_24 ?_
  refine wp_getR q29_ok d29_25 fl_3_11 rfl (soP (n := 55) (x := 47) (t := 3) (by decide)) (show rK 58 47 0 = some 48 from rfl) ?_
  refine wp_iload_n (j := 1) rfl q29_ok d29_28 ?_
  refine wp_newP (t := 6) q29_ok d29_29 (by decide +kernel) (by decide) (pushP (by decide +kernel) (by decide +kernel) rfl rfl (by decide +kernel)) ?_
  refine wp_dup rfl q29_ok d29_32 ?_
  refine wp_cI q29_ok d29_33 ml_3_17 (by decide) rfl q45_ok rfl rfl (Nat.le_of_ble_eq_true rfl) (Nat.le_of_ble_eq_true rfl) (i_45_14 (n := n + 0)) (fun v μ hc => ?_)
  obtain ⟨rfl, rfl⟩ := hc
  refine ⟨mm_le_P (by decide) (by decide +kernel), ?_⟩
  refine wp_aastP (t := 24) (u := 6) (m := 60) (j := 2) q29_ok d29_36 (by decide) (soP (n := 58) (x := 48) (t := 24) (by decide)) (soP (n := 58) (x := 55) (t := 6) (by decide)) (hmP (by decide) rfl) (ixn_nI (j := 2) (by decide)) rfl ?_
  refine wp_iinc (j := 1) (v := 3) rfl (by decide) (rfl : _ = [_, _]) q29_ok d29_37 ?_
  refine wp_goto (t := 15) rfl q29_ok d29_40 ?_
  refine wp_iload_n (j := 1) rfl q29_ok d29_15 ?_
  refine wp_aload_n (j := 0) rfl q29_ok d29_16 ?_
  refine wp_getR q29_ok d29_17 fl_3_11 rfl (soP (n := 58) (x := 47) (t := 3) (by decide)) (show rK 61 47 0 = some 48 from rfl) ?_
  refine wp_alen (m := 60) q29_ok d29_20 (by decide) (by decide) (hmP (by decide) rfl) (show _ = (60 : Int32) from rfl) ?_ (by decide)
  refine wp_icmp_ge q29_ok d29_21 (t := 43) rfl (fun h => absurd h (by decide)) (fun _ => ?_)
  refine wp_aload_n (j := 0) rfl q29_ok d29_24 ?_
  refine wp_getR q29_ok d29_25 fl_3_11 rfl (soP (n := 58) (x := 47) (t := 3) (by decide)) (show rK 61 47 0 = some 48 from rfl) ?_
  refine wp_iload_n (j := 1) rfl q29_ok d29_28 ?_
  refine wp_newP (t := 6) q29_ok d29_29 (by decide +kernel) (by decide) (pushP (by decide +kernel) (by decide +kernel) rfl rfl (by decide +kernel)) ?_
  refine wp_dup rfl q29_ok d29_32 ?_
  refine wp_cI q29_ok d29_33 ml_3_17 (by decide) rfl q45_ok rfl rfl (Nat.le_of_ble_eq_true rfl) (Nat.le_of_ble_eq_true rfl) (i_45_15 (n := n + 0)) (fun v μ hc => ?_)
  obtain ⟨rfl, rfl⟩ := hc
  refine ⟨mm_le_P (by decide) (by decide +kernel), ?_⟩
  refine wp_aastP (t := 24) (u := 6) (m := 60) (j := 3) q29_ok d29_36 (by decide) (soP (n := 61) (x := 48) (t := 24) (by decide)) (soP (n := 61) (x := 58) (t := 6) (by decide)) (hmP (by decide) rfl) (ixn_nI (j := 3) (by decide)) rfl ?_
  refine wp_iinc (j := 1) (v := 4) rfl (by decide) (rfl : _ = [_, _]) q29_ok d29_37 ?_
  refine wp_goto (t := 15) rfl q29_ok d29_40 ?_
  refine wp_iload_n (j := 1) rfl q29_ok d29_15 ?_
  refine wp_aload_n (j := 0) rfl q29_ok d29_16 ?_
  refine wp_getR q29_ok d29_17 fl_3_11 rfl (soP (n := 61) (x := 47) (t := 3) (by decide)) (show rK 64 47 0 = some 48 from rfl) ?_
  refine wp_alen (m := 60) q29_ok d29_20 (by decide) (by decide) (hmP (by decide) rfl) (show _ = (60 : Int32) from rfl) ?_ (by decide)
  refine wp_icmp_ge q29_ok d29_21 (t := 43) rfl (fun h => absurd h (by decide)) (fun _ => ?_)
  refine wp_aload_n (j := 0) rfl q29_ok d29_24 ?_
  refine wp_getR q29_ok d29_25 fl_3_11 rfl (soP (n := 61) (x := 47) (t := 3) (by decide)) (show rK 64 47 0 = some 48 from rfl) ?_
  refine wp_iload_n (j := 1) rfl q29_ok d29_28 ?_
  refine wp_newP (t := 6) q29_ok d29_29 (by decide +kernel) (by decide) (pushP (by decide +kernel) (by decide +kernel) rfl rfl (by decide +kernel)) ?_
  refine wp_dup rfl q29_ok d29_32 ?_
  refine wp_cI q29_ok d29_33 ml_3_17 (by decide) rfl q45_ok rfl rfl (Nat.le_of_ble_eq_true rfl) (Nat.le_of_ble_eq_true rfl) (i_45_16 (n := n + 0)) (fun v μ hc => ?_)
  obtain ⟨rfl, rfl⟩ := hc
  refine ⟨mm_le_P (by decide) (by decide +kernel), ?_⟩
  refine wp_aastP (t := 24) (u := 6) (m := 60) (j := 4) q29_ok d29_36 (by decide) (soP (n := 64) (x := 48) (t := 24) (by decide)) (soP (n := 64) (x := 61) (t := 6) (by decide)) (hmP (by decide) rfl) (ixn_nI (j := 4) (by decide)) rfl ?_
  refine wp_iinc (j := 1) (v := 5) rfl (by decide) (rfl : _ = [_, _]) q29_ok d29_37 ?_
  refine wp_goto (t := 15) rfl q29_ok d29_40 ?_
  refine wp_iload_n (j := 1) rfl q29_ok d29_15 ?_
  refine wp_aload_n (j := 0) rfl q29_ok d29_16 ?_
  refine wp_getR q29_ok d29_17 fl_3_11 rfl (soP (n := 64) (x := 47) (t := 3) (by decide)) (show rK 67 47 0 = some 48 from rfl) ?_
  refine wp_alen (m := 60) q29_ok d29_20 (by decide) (by decide) (hmP (by decide) rfl) (show _ = (60 : Int32) from rfl) ?_ (by decide)
  refine wp_icmp_ge q29_ok d29_21 (t := 43) rfl (fun h => absurd h (by decide)) (fun _ => ?_)
  refine wp_aload_n (j := 0) rfl q29_ok d29_24 ?_
  refine wp_getR q29_ok d29_25 fl_3_11 rfl (soP (n := 64) (x := 47) (t := 3) (by decide)) (show rK 67 47 0 = some 48 from rfl) ?_
  refine wp_iload_n (j := 1) rfl q29_ok d29_28 ?_
  refine wp_newP (t := 6) q29_ok d29_29 (by decide +kernel) (by decide) (pushP (by decide +kernel) (by decide +kernel) rfl rfl (by decide +kernel)) ?_
  refine wp_dup rfl q29_ok d29_32 ?_
  refine wp_cI q29_ok d29_33 ml_3_17 (by decide) rfl q45_ok rfl rfl (Nat.le_of_ble_eq_true rfl) (Nat.le_of_ble_eq_true rfl) (i_45_17 (n := n + 0)) (fun v μ hc => ?_)
  obtain ⟨rfl, rfl⟩ := hc
  refine ⟨mm_le_P (by decide) (by decide +kernel), ?_⟩
  refine wp_aastP (t := 24) (u := 6) (m := 60) (j := 5) q29_ok d29_36 (by decide) (soP (n := 67) (x := 48) (t := 24) (by decide)) (soP (n := 67) (x := 64) (t := 6) (by decide)) (hmP (by decide) rfl) (ixn_nI (j := 5) (by decide)) rfl ?_
  refine wp_iinc (j := 1) (v := 6) rfl (by decide) (rfl : _ = [_, _]) q29_ok d29_37 ?_
  refine wp_goto (t := 15) rfl q29_ok d29_40 ?_
  refine wp_iload_n (j := 1) rfl q29_ok d29_15 ?_
  refine wp_aload_n (j := 0) rfl q29_ok d29_16 ?_
  refine wp_getR q29_ok d29_17 fl_3_11 rfl (soP (n := 67) (x := 47) (t := 3) (by decide)) (show rK 70 47 0 = some 48 from rfl) ?_
  refine wp_alen (m := 60) q29_ok d29_20 (by decide) (by decide) (hmP (by decide) rfl) (show _ = (60 : Int32) from rfl) ?_ (by decide)
  refine wp_icmp_ge q29_ok d29_21 (t := 43) rfl (fun h => absurd h (by decide)) (fun _ => ?_)
  refine wp_aload_n (j := 0) rfl q29_ok d29_24 ?_
  refine wp_getR q29_ok d29_25 fl_3_11 rfl (soP (n := 67) (x := 47) (t := 3) (by decide)) (show rK 70 47 0 = some 48 from rfl) ?_
  refine wp_iload_n (j := 1) rfl q29_ok d29_28 ?_
  refine wp_newP (t := 6) q29_ok d29_29 (by decide +kernel) (by decide) (pushP (by decide +kernel) (by decide +kernel) rfl rfl (by decide +kernel)) ?_
  refine wp_dup rfl q29_ok d29_32 ?_
  refine wp_cI q29_ok d29_33 ml_3_17 (by decide) rfl q45_ok rfl rfl (Nat.le_of_ble_eq_true rfl) (Nat.le_of_ble_eq_true rfl) (i_45_18 (n := n + 0)) (fun v μ hc => ?_)
  obtain ⟨rfl, rfl⟩ := hc
  refine ⟨mm_le_P (by decide) (by decide +kernel), ?_⟩
  refine wp_aastP (t := 24) (u := 6) (m := 60) (j := 6) q29_ok d29_36 (by decide) (soP (n := 70) (x := 48) (t := 24) (by decide)) (soP (n := 70) (x := 67) (t := 6) (by decide)) (hmP (by decide) rfl) (ixn_nI (j := 6) (by decide)) rfl ?_
  refine wp_iinc (j := 1) (v := 7) rfl (by decide) (rfl : _ = [_, _]) q29_ok d29_37 ?_
  refine wp_goto (t := 15) rfl q29_ok d29_40 ?_
  refine wp_iload_n (j := 1) rfl q29_ok d29_15 ?_
  refine wp_aload_n (j := 0) rfl q29_ok d29_16 ?_
  refine wp_getR q29_ok d29_17 fl_3_11 rfl (soP (n := 70) (x := 47) (t := 3) (by decide)) (show rK 73 47 0 = some 48 from rfl) ?_
  refine wp_alen (m := 60) q29_ok d29_20 (by decide) (by decide) (hmP (by decide) rfl) (show _ = (60 : Int32) from rfl) ?_ (by decide)
  refine wp_icmp_ge q29_ok d29_21 (t := 43) rfl (fun h => absurd h (by decide)) (fun _ => ?_)
  refine wp_aload_n (j := 0) rfl q29_ok d29_24 ?_
  refine wp_getR q29_ok d29_25 fl_3_11 rfl (soP (n := 70) (x := 47) (t := 3) (by decide)) (show rK 73 47 0 = some 48 from rfl) ?_
  refine wp_iload_n (j := 1) rfl q29_ok d29_28 ?_
  refine wp_newP (t := 6) q29_ok d29_29 (by decide +kernel) (by decide) (pushP (by decide +kernel) (by decide +kernel) rfl rfl (by decide +kernel)) ?_
  refine wp_dup rfl q29_ok d29_32 ?_
  refine wp_cI q29_ok d29_33 ml_3_17 (by decide) rfl q45_ok rfl rfl (Nat.le_of_ble_eq_true rfl) (Nat.le_of_ble_eq_true rfl) (i_45_19 (n := n + 0)) (fun v μ hc => ?_)
  obtain ⟨rfl, rfl⟩ := hc
  refine ⟨mm_le_P (by decide) (by decide +kernel), ?_⟩
  refine wp_aastP (t := 24) (u := 6) (m := 60) (j := 7) q29_ok d29_36 (by decide) (soP (n := 73) (x := 48) (t := 24) (by decide)) (soP (n := 73) (x := 70) (t := 6) (by decide)) (hmP (by decide) rfl) (ixn_nI (j := 7) (by decide)) rfl ?_
  refine wp_iinc (j := 1) (v := 8) rfl (by decide) (rfl : _ = [_, _]) q29_ok d29_37 ?_
  refine wp_goto (t := 15) rfl q29_ok d29_40 ?_
  refine wp_iload_n (j := 1) rfl q29_ok d29_15 ?_
  refine wp_aload_n (j := 0) rfl q29_ok d29_16 ?_
  refine wp_getR q29_ok d29_17 fl_3_11 rfl (soP (n := 73) (x := 47) (t := 3) (by decide)) (show rK 76 47 0 = some 48 from rfl) ?_
  refine wp_alen (m := 60) q29_ok d29_20 (by decide) (by decide) (hmP (by decide) rfl) (show _ = (60 : Int32) from rfl) ?_ (by decide)
  refine wp_icmp_ge q29_ok d29_21 (t := 43) rfl (fun h => absurd h (by decide)) (fun _ => ?_)
  refine wp_aload_n (j := 0) rfl q29_ok d29_24 ?_
  refine wp_getR q29_ok d29_25 fl_3_11 rfl (soP (n := 73) (x := 47) (t := 3) (by decide)) (show rK 76 47 0 = some 48 from rfl) ?_
  refine wp_iload_n (j := 1) rfl q29_ok d29_28 ?_
  refine wp_newP (t := 6) q29_ok d29_29 (by decide +kernel) (by decide) (pushP (by decide +kernel) (by decide +kernel) rfl rfl (by decide +kernel)) ?_
  refine wp_dup rfl q29_ok d29_32 ?_
  refine wp_cI q29_ok d29_33 ml_3_17 (by decide) rfl q45_ok rfl rfl (Nat.le_of_ble_eq_true rfl) (Nat.le_of_ble_eq_true rfl) (i_45_20 (n := n + 0)) (fun v μ hc => ?_)
  obtain ⟨rfl, rfl⟩ := hc
  refine ⟨mm_le_P (by decide) (by decide +kernel), ?_⟩
  refine wp_aastP (t := 24) (u := 6) (m := 60) (j := 8) q29_ok d29_36 (by decide) (soP (n := 76) (x := 48) (t := 24) (by decide)) (soP (n := 76) (x := 73) (t := 6) (by decide)) (hmP (by decide) rfl) (ixn_nI (j := 8) (by decide)) rfl ?_
  refine wp_iinc (j := 1) (v := 9) rfl (by decide) (rfl : _ = [_, _]) q29_ok d29_37 ?_
  refine wp_goto (t := 15) rfl q29_ok d29_40 ?_
  refine wp_iload_n (j := 1) rfl q29_ok d29_15 ?_
  refine wp_aload_n (j := 0) rfl q29_ok d29_16 ?_
  refine wp_getR q29_ok d29_17 fl_3_11 rfl (soP (n := 76) (x := 47) (t := 3) (by decide)) (show rK 79 47 0 = some 48 from rfl) ?_
  refine wp_alen (m := 60) q29_ok d29_20 (by decide) (by decide) (hmP (by decide) rfl) (show _ = (60 : Int32) from rfl) ?_ (by decide)
  refine wp_icmp_ge q29_ok d29_21 (t := 43) rfl (fun h => absurd h (by decide)) (fun _ => ?_)
  refine wp_aload_n (j := 0) rfl q29_ok d29_24 ?_
  refine wp_getR q29_ok d29_25 fl_3_11 rfl (soP (n := 76) (x := 47) (t := 3) (by decide)) (show rK 79 47 0 = some 48 from rfl) ?_
  refine wp_iload_n (j := 1) rfl q29_ok d29_28 ?_
  refine wp_newP (t := 6) q29_ok d29_29 (by decide +kernel) (by decide) (pushP (by decide +kernel) (by decide +kernel) rfl rfl (by decide +kernel)) ?_
  refine wp_dup rfl q29_ok d29_32 ?_
  refine wp_cI q29_ok d29_33 ml_3_17 (by decide) rfl q45_ok rfl rfl (Nat.le_of_ble_eq_true rfl) (Nat.le_of_ble_eq_true rfl) (i_45_21 (n := n + 0)) (fun v μ hc => ?_)
  obtain ⟨rfl, rfl⟩ := hc
  refine ⟨mm_le_P (by decide) (by decide +kernel), ?_⟩
  refine wp_aastP (t := 24) (u := 6) (m := 60) (j := 9) q29_ok d29_36 (by decide) (soP (n := 79) (x := 48) (t := 24) (by decide)) (soP (n := 79) (x := 76) (t := 6) (by decide)) (hmP (by decide) rfl) (ixn_nI (j := 9) (by decide)) rfl ?_
  refine wp_iinc (j := 1) (v := 10) rfl (by decide) (rfl : _ = [_, _]) q29_ok d29_37 ?_
  refine wp_goto (t := 15) rfl q29_ok d29_40 ?_
  refine wp_iload_n (j := 1) rfl q29_ok d29_15 ?_
  refine wp_aload_n (j := 0) rfl q29_ok d29_16 ?_
  refine wp_getR q29_ok d29_17 fl_3_11 rfl (soP (n := 79) (x := 47) (t := 3) (by decide)) (show rK 82 47 0 = some 48 from rfl) ?_
  refine wp_alen (m := 60) q29_ok d29_20 (by decide) (by decide) (hmP (by decide) rfl) (show _ = (60 : Int32) from rfl) ?_ (by decide)
  refine wp_icmp_ge q29_ok d29_21 (t := 43) rfl (fun h => absurd h (by decide)) (fun _ => ?_)
  refine wp_aload_n (j := 0) rfl q29_ok d29_24 ?_
  refine wp_getR q29_ok d29_25 fl_3_11 rfl (soP (n := 79) (x := 47) (t := 3) (by decide)) (show rK 82 47 0 = some 48 from rfl) ?_
  refine wp_iload_n (j := 1) rfl q29_ok d29_28 ?_
  refine wp_newP (t := 6) q29_ok d29_29 (by decide +kernel) (by decide) (pushP (by decide +kernel) (by decide +kernel) rfl rfl (by decide +kernel)) ?_
  refine wp_dup rfl q29_ok d29_32 ?_
  refine wp_cI q29_ok d29_33 ml_3_17 (by decide) rfl q45_ok rfl rfl (Nat.le_of_ble_eq_true rfl) (Nat.le_of_ble_eq_true rfl) (i_45_22 (n := n + 0)) (fun v μ hc => ?_)
  obtain ⟨rfl, rfl⟩ := hc
  refine ⟨mm_le_P (by decide) (by decide +kernel), ?_⟩
  refine wp_aastP (t := 24) (u := 6) (m := 60) (j := 10) q29_ok d29_36 (by decide) (soP (n := 82) (x := 48) (t := 24) (by decide)) (soP (n := 82) (x := 79) (t := 6) (by decide)) (hmP (by decide) rfl) (ixn_nI (j := 10) (by decide)) rfl ?_
  refine wp_iinc (j := 1) (v := 11) rfl (by decide) (rfl : _ = [_, _]) q29_ok d29_37 ?_
  refine wp_goto (t := 15) rfl q29_ok d29_40 ?_
  refine wp_iload_n (j := 1) rfl q29_ok d29_15 ?_
  refine wp_aload_n (j := 0) rfl q29_ok d29_16 ?_
  refine wp_getR q29_ok d29_17 fl_3_11 rfl (soP (n := 82) (x := 47) (t := 3) (by decide)) (show rK 85 47 0 = some 48 from rfl) ?_
  refine wp_alen (m := 60) q29_ok d29_20 (by decide) (by decide) (hmP (by decide) rfl) (show _ = (60 : Int32) from rfl) ?_ (by decide)
  refine wp_icmp_ge q29_ok d29_21 (t := 43) rfl (fun h => absurd h (by decide)) (fun _ => ?_)
  refine wp_aload_n (j := 0) rfl q29_ok d29_24 ?_
  refine wp_getR q29_ok d29_25 fl_3_11 rfl (soP (n := 82) (x := 47) (t := 3) (by decide)) (show rK 85 47 0 = some 48 from rfl) ?_
  refine wp_iload_n (j := 1) rfl q29_ok d29_28 ?_
  refine wp_newP (t := 6) q29_ok d29_29 (by decide +kernel) (by decide) (pushP (by decide +kernel) (by decide +kernel) rfl rfl (by decide +kernel)) ?_
  refine wp_dup rfl q29_ok d29_32 ?_
  refine wp_cI q29_ok d29_33 ml_3_17 (by decide) rfl q45_ok rfl rfl (Nat.le_of_ble_eq_true rfl) (Nat.le_of_ble_eq_true rfl) (i_45_23 (n := n + 0)) (fun v μ hc => ?_)
  obtain ⟨rfl, rfl⟩ := hc
  refine ⟨mm_le_P (by decide) (by decide +kernel), ?_⟩
  refine wp_aastP (t := 24) (u := 6) (m := 60) (j := 11) q29_ok d29_36 (by decide) (soP (n := 85) (x := 48) (t := 24) (by decide)) (soP (n := 85) (x := 82) (t := 6) (by decide)) (hmP (by decide) rfl) (ixn_nI (j := 11) (by decide)) rfl ?_
  refine wp_iinc (j := 1) (v := 12) rfl (by decide) (rfl : _ = [_, _]) q29_ok d29_37 ?_
  refine wp_goto (t := 15) rfl q29_ok d29_40 ?_
  refine wp_iload_n (j := 1) rfl q29_ok d29_15 ?_
  refine wp_aload_n (j := 0) rfl q29_ok d29_16 ?_
  refine wp_getR q29_ok d29_17 fl_3_11 rfl (soP (n := 85) (x := 47) (t := 3) (by decide)) (show rK 88 47 0 = some 48 from rfl) ?_
  refine wp_alen (m := 60) q29_ok d29_20 (by decide) (by decide) (hmP (by decide) rfl) (show _ = (60 : Int32) from rfl) ?_ (by decide)
  refine wp_icmp_ge q29_ok d29_21 (t := 43) rfl (fun h => absurd h (by decide)) (fun _ => ?_)
  refine wp_aload_n (j := 0) rfl q29_ok d29_24 ?_
  refine wp_getR q29_ok d29_25 fl_3_11 rfl (soP (n := 85) (x := 47) (t := 3) (by decide)) (show rK 88 47 0 = some 48 from rfl) ?_
  refine wp_iload_n (j := 1) rfl q29_ok d29_28 ?_
  refine wp_newP (t := 6) q29_ok d29_29 (by decide +kernel) (by decide) (pushP (by decide +kernel) (by decide +kernel) rfl rfl (by decide +kernel)) ?_
  refine wp_dup rfl q29_ok d29_32 ?_
  refine wp_cI q29_ok d29_33 ml_3_17 (by decide) rfl q45_ok rfl rfl (Nat.le_of_ble_eq_true rfl) (Nat.le_of_ble_eq_true rfl) (i_45_24 (n := n + 0)) (fun v μ hc => ?_)
  obtain ⟨rfl, rfl⟩ := hc
  refine ⟨mm_le_P (by decide) (by decide +kernel), ?_⟩
  refine wp_aastP (t := 24) (u := 6) (m := 60) (j := 12) q29_ok d29_36 (by decide) (soP (n := 88) (x := 48) (t := 24) (by decide)) (soP (n := 88) (x := 85) (t := 6) (by decide)) (hmP (by decide) rfl) (ixn_nI (j := 12) (by decide)) rfl ?_
  refine wp_iinc (j := 1) (v := 13) rfl (by decide) (rfl : _ = [_, _]) q29_ok d29_37 ?_
  refine wp_goto (t := 15) rfl q29_ok d29_40 ?_
  refine wp_iload_n (j := 1) rfl q29_ok d29_15 ?_
  refine wp_aload_n (j := 0) rfl q29_ok d29_16 ?_
  refine wp_getR q29_ok d29_17 fl_3_11 rfl (soP (n := 88) (x := 47) (t := 3) (by decide)) (show rK 91 47 0 = some 48 from rfl) ?_
  refine wp_alen (m := 60) q29_ok d29_20 (by decide) (by decide) (hmP (by decide) rfl) (show _ = (60 : Int32) from rfl) ?_ (by decide)
  refine wp_icmp_ge q29_ok d29_21 (t := 43) rfl (fun h => absurd h (by decide)) (fun _ => ?_)
  refine wp_aload_n (j := 0) rfl q29_ok d29_24 ?_
  refine wp_getR q29_ok d29_25 fl_3_11 rfl (soP (n := 88) (x := 47) (t := 3) (by decide)) (show rK 91 47 0 = some 48 from rfl) ?_
  refine wp_iload_n (j := 1) rfl q29_ok d29_28 ?_
  refine wp_newP (t := 6) q29_ok d29_29 (by decide +kernel) (by decide) (pushP (by decide +kernel) (by decide +kernel) rfl rfl (by decide +kernel)) ?_
  refine wp_dup rfl q29_ok d29_32 ?_
  refine wp_cI q29_ok d29_33 ml_3_17 (by decide) rfl q45_ok rfl rfl (Nat.le_of_ble_eq_true rfl) (Nat.le_of_ble_eq_true rfl) (i_45_25 (n := n + 0)) (fun v μ hc => ?_)
  obtain ⟨rfl, rfl⟩ := hc
  refine ⟨mm_le_P (by decide) (by decide +kernel), ?_⟩
  refine wp_aastP (t := 24) (u := 6) (m := 60) (j := 13) q29_ok d29_36 (by decide) (soP (n := 91) (x := 48) (t := 24) (by decide)) (soP (n := 91) (x := 88) (t := 6) (by decide)) (hmP (by decide) rfl) (ixn_nI (j := 13) (by decide)) rfl ?_
  refine wp_iinc (j := 1) (v := 14) rfl (by decide) (rfl : _ = [_, _]) q29_ok d29_37 ?_
  refine wp_goto (t := 15) rfl q29_ok d29_40 ?_
  refine wp_iload_n (j := 1) rfl q29_ok d29_15 ?_
  refine wp_aload_n (j := 0) rfl q29_ok d29_16 ?_
  refine wp_getR q29_ok d29_17 fl_3_11 rfl (soP (n := 91) (x := 47) (t := 3) (by decide)) (show rK 94 47 0 = some 48 from rfl) ?_
  refine wp_alen (m := 60) q29_ok d29_20 (by decide) (by decide) (hmP (by decide) rfl) (show _ = (60 : Int32) from rfl) ?_ (by decide)
  refine wp_icmp_ge q29_ok d29_21 (t := 43) rfl (fun h => absurd h (by decide)) (fun _ => ?_)
  refine wp_aload_n (j := 0) rfl q29_ok d29_24 ?_
  refine wp_getR q29_ok d29_25 fl_3_11 rfl (soP (n := 91) (x := 47) (t := 3) (by decide)) (show rK 94 47 0 = some 48 from rfl) ?_
  refine wp_iload_n (j := 1) rfl q29_ok d29_28 ?_
  refine wp_newP (t := 6) q29_ok d29_29 (by decide +kernel) (by decide) (pushP (by decide +kernel) (by decide +kernel) rfl rfl (by decide +kernel)) ?_
  refine wp_dup rfl q29_ok d29_32 ?_
  refine wp_cI q29_ok d29_33 ml_3_17 (by decide) rfl q45_ok rfl rfl (Nat.le_of_ble_eq_true rfl) (Nat.le_of_ble_eq_true rfl) (i_45_26 (n := n + 0)) (fun v μ hc => ?_)
  obtain ⟨rfl, rfl⟩ := hc
  refine ⟨mm_le_P (by decide) (by decide +kernel), ?_⟩
  refine wp_aastP (t := 24) (u := 6) (m := 60) (j := 14) q29_ok d29_36 (by decide) (soP (n := 94) (x := 48) (t := 24) (by decide)) (soP (n := 94) (x := 91) (t := 6) (by decide)) (hmP (by decide) rfl) (ixn_nI (j := 14) (by decide)) rfl ?_
  refine wp_iinc (j := 1) (v := 15) rfl (by decide) (rfl : _ = [_, _]) q29_ok d29_37 ?_
  refine wp_goto (t := 15) rfl q29_ok d29_40 ?_
  refine wp_iload_n (j := 1) rfl q29_ok d29_15 ?_
  refine wp_aload_n (j := 0) rfl q29_ok d29_16 ?_
  refine wp_getR q29_ok d29_17 fl_3_11 rfl (soP (n := 94) (x := 47) (t := 3) (by decide)) (show rK 97 47 0 = some 48 from rfl) ?_
  refine wp_alen (m := 60) q29_ok d29_20 (by decide) (by decide) (hmP (by decide) rfl) (show _ = (60 : Int32) from rfl) ?_ (by decide)
  refine wp_icmp_ge q29_ok d29_21 (t := 43) rfl (fun h => absurd h (by decide)) (fun _ => ?_)
  refine wp_aload_n (j := 0) rfl q29_ok d29_24 ?_
  refine wp_getR q29_ok d29_25 fl_3_11 rfl (soP (n := 94) (x := 47) (t := 3) (by decide)) (show rK 97 47 0 = some 48 from rfl) ?_
  refine wp_iload_n (j := 1) rfl q29_ok d29_28 ?_
  refine wp_newP (t := 6) q29_ok d29_29 (by decide +kernel) (by decide) (pushP (by decide +kernel) (by decide +kernel) rfl rfl (by decide +kernel)) ?_
  refine wp_dup rfl q29_ok d29_32 ?_
  refine wp_cI q29_ok d29_33 ml_3_17 (by decide) rfl q45_ok rfl rfl (Nat.le_of_ble_eq_true rfl) (Nat.le_of_ble_eq_true rfl) (i_45_27 (n := n + 0)) (fun v μ hc => ?_)
  obtain ⟨rfl, rfl⟩ := hc
  refine ⟨mm_le_P (by decide) (by decide +kernel), ?_⟩
  refine wp_aastP (t := 24) (u := 6) (m := 60) (j := 15) q29_ok d29_36 (by decide) (soP (n := 97) (x := 48) (t := 24) (by decide)) (soP (n := 97) (x := 94) (t := 6) (by decide)) (hmP (by decide) rfl) (ixn_nI (j := 15) (by decide)) rfl ?_
  refine wp_iinc (j := 1) (v := 16) rfl (by decide) (rfl : _ = [_, _]) q29_ok d29_37 ?_
  refine wp_goto (t := 15) rfl q29_ok d29_40 ?_
  refine wp_iload_n (j := 1) rfl q29_ok d29_15 ?_
  refine wp_aload_n (j := 0) rfl q29_ok d29_16 ?_
  refine wp_getR q29_ok d29_17 fl_3_11 rfl (soP (n := 97) (x := 47) (t := 3) (by decide)) (show rK 100 47 0 = some 48 from rfl) ?_
  refine wp_alen (m := 60) q29_ok d29_20 (by decide) (by decide) (hmP (by decide) rfl) (show _ = (60 : Int32) from rfl) ?_ (by decide)
  refine wp_icmp_ge q29_ok d29_21 (t := 43) rfl (fun h => absurd h (by decide)) (fun _ => ?_)
  refine wp_aload_n (j := 0) rfl q29_ok d29_24 ?_
  refine wp_getR q29_ok d29_25 fl_3_11 rfl (soP (n := 97) (x := 47) (t := 3) (by decide)) (show rK 100 47 0 = some 48 from rfl) ?_
  refine wp_iload_n (j := 1) rfl q29_ok d29_28 ?_
  refine wp_newP (t := 6) q29_ok d29_29 (by decide +kernel) (by decide) (pushP (by decide +kernel) (by decide +kernel) rfl rfl (by decide +kernel)) ?_
  refine wp_dup rfl q29_ok d29_32 ?_
  refine wp_cI q29_ok d29_33 ml_3_17 (by decide) rfl q45_ok rfl rfl (Nat.le_of_ble_eq_true rfl) (Nat.le_of_ble_eq_true rfl) (i_45_28 (n := n + 0)) (fun v μ hc => ?_)
  obtain ⟨rfl, rfl⟩ := hc
  refine ⟨mm_le_P (by decide) (by decide +kernel), ?_⟩
  refine wp_aastP (t := 24) (u := 6) (m := 60) (j := 16) q29_ok d29_36 (by decide) (soP (n := 100) (x := 48) (t := 24) (by decide)) (soP (n := 100) (x := 97) (t := 6) (by decide)) (hmP (by decide) rfl) (ixn_nI (j := 16) (by decide)) rfl ?_
  refine wp_iinc (j := 1) (v := 17) rfl (by decide) (rfl : _ = [_, _]) q29_ok d29_37 ?_
  refine wp_goto (t := 15) rfl q29_ok d29_40 ?_
  refine wp_iload_n (j := 1) rfl q29_ok d29_15 ?_
  refine wp_aload_n (j := 0) rfl q29_ok d29_16 ?_
  refine wp_getR q29_ok d29_17 fl_3_11 rfl (soP (n := 100) (x := 47) (t := 3) (by decide)) (show rK 103 47 0 = some 48 from rfl) ?_
  refine wp_alen (m := 60) q29_ok d29_20 (by decide) (by decide) (hmP (by decide) rfl) (show _ = (60 : Int32) from rfl) ?_ (by decide)
  refine wp_icmp_ge q29_ok d29_21 (t := 43) rfl (fun h => absurd h (by decide)) (fun _ => ?_)
  refine wp_aload_n (j := 0) rfl q29_ok d29_24 ?_
  refine wp_getR q29_ok d29_25 fl_3_11 rfl (soP (n := 100) (x := 47) (t := 3) (by decide)) (show rK 103 47 0 = some 48 from rfl) ?_
  refine wp_iload_n (j := 1) rfl q29_ok d29_28 ?_
  refine wp_newP (t := 6) q29_ok d29_29 (by decide +kernel) (by decide) (pushP (by decide +kernel) (by decide +kernel) rfl rfl (by decide +kernel)) ?_
  refine wp_dup rfl q29_ok d29_32 ?_
  refine wp_cI q29_ok d29_33 ml_3_17 (by decide) rfl q45_ok rfl rfl (Nat.le_of_ble_eq_true rfl) (Nat.le_of_ble_eq_true rfl) (i_45_29 (n := n + 0)) (fun v μ hc => ?_)
  obtain ⟨rfl, rfl⟩ := hc
  refine ⟨mm_le_P (by decide) (by decide +kernel), ?_⟩
  refine wp_aastP (t := 24) (u := 6) (m := 60) (j := 17) q29_ok d29_36 (by decide) (soP (n := 103) (x := 48) (t := 24) (by decide)) (soP (n := 103) (x := 100) (t := 6) (by decide)) (hmP (by decide) rfl) (ixn_nI (j := 17) (by decide)) rfl ?_
  refine wp_iinc (j := 1) (v := 18) rfl (by decide) (rfl : _ = [_, _]) q29_ok d29_37 ?_
  refine wp_goto (t := 15) rfl q29_ok d29_40 ?_
  refine wp_iload_n (j := 1) rfl q29_ok d29_15 ?_
  refine wp_aload_n (j := 0) rfl q29_ok d29_16 ?_
  refine wp_getR q29_ok d29_17 fl_3_11 rfl (soP (n := 103) (x := 47) (t := 3) (by decide)) (show rK 106 47 0 = some 48 from rfl) ?_
  refine wp_alen (m := 60) q29_ok d29_20 (by decide) (by decide) (hmP (by decide) rfl) (show _ = (60 : Int32) from rfl) ?_ (by decide)
  refine wp_icmp_ge q29_ok d29_21 (t := 43) rfl (fun h => absurd h (by decide)) (fun _ => ?_)
  refine wp_aload_n (j := 0) rfl q29_ok d29_24 ?_
  refine wp_getR q29_ok d29_25 fl_3_11 rfl (soP (n := 103) (x := 47) (t := 3) (by decide)) (show rK 106 47 0 = some 48 from rfl) ?_
  refine wp_iload_n (j := 1) rfl q29_ok d29_28 ?_
  refine wp_newP (t := 6) q29_ok d29_29 (by decide +kernel) (by decide) (pushP (by decide +kernel) (by decide +kernel) rfl rfl (by decide +kernel)) ?_
  refine wp_dup rfl q29_ok d29_32 ?_
  refine wp_cI q29_ok d29_33 ml_3_17 (by decide) rfl q45_ok rfl rfl (Nat.le_of_ble_eq_true rfl) (Nat.le_of_ble_eq_true rfl) (i_45_30 (n := n + 0)) (fun v μ hc => ?_)
  obtain ⟨rfl, rfl⟩ := hc
  refine ⟨mm_le_P (by decide) (by decide +kernel), ?_⟩
  refine wp_aastP (t := 24) (u := 6) (m := 60) (j := 18) q29_ok d29_36 (by decide) (soP (n := 106) (x := 48) (t := 24) (by decide)) (soP (n := 106) (x := 103) (t := 6) (by decide)) (hmP (by decide) rfl) (ixn_nI (j := 18) (by decide)) rfl ?_
  refine wp_iinc (j := 1) (v := 19) rfl (by decide) (rfl : _ = [_, _]) q29_ok d29_37 ?_
  refine wp_goto (t := 15) rfl q29_ok d29_40 ?_
  refine wp_iload_n (j := 1) rfl q29_ok d29_15 ?_
  refine wp_aload_n (j := 0) rfl q29_ok d29_16 ?_
  refine wp_getR q29_ok d29_17 fl_3_11 rfl (soP (n := 106) (x := 47) (t := 3) (by decide)) (show rK 109 47 0 = some 48 from rfl) ?_
  refine wp_alen (m := 60) q29_ok d29_20 (by decide) (by decide) (hmP (by decide) rfl) (show _ = (60 : Int32) from rfl) ?_ (by decide)
  refine wp_icmp_ge q29_ok d29_21 (t := 43) rfl (fun h => absurd h (by decide)) (fun _ => ?_)
  refine wp_aload_n (j := 0) rfl q29_ok d29_24 ?_
  refine wp_getR q29_ok d29_25 fl_3_11 rfl (soP (n := 106) (x := 47) (t := 3) (by decide)) (show rK 109 47 0 = some 48 from rfl) ?_
  refine wp_iload_n (j := 1) rfl q29_ok d29_28 ?_
  refine wp_newP (t := 6) q29_ok d29_29 (by decide +kernel) (by decide) (pushP (by decide +kernel) (by decide +kernel) rfl rfl (by decide +kernel)) ?_
  refine wp_dup rfl q29_ok d29_32 ?_
  refine wp_cI q29_ok d29_33 ml_3_17 (by decide) rfl q45_ok rfl rfl (Nat.le_of_ble_eq_true rfl) (Nat.le_of_ble_eq_true rfl) (i_45_31 (n := n + 0)) (fun v μ hc => ?_)
  obtain ⟨rfl, rfl⟩ := hc
  refine ⟨mm_le_P (by decide) (by decide +kernel), ?_⟩
  refine wp_aastP (t := 24) (u := 6) (m := 60) (j := 19) q29_ok d29_36 (by decide) (soP (n := 109) (x := 48) (t := 24) (by decide)) (soP (n := 109) (x := 106) (t := 6) (by decide)) (hmP (by decide) rfl) (ixn_nI (j := 19) (by decide)) rfl ?_
  refine wp_iinc (j := 1) (v := 20) rfl (by decide) (rfl : _ = [_, _]) q29_ok d29_37 ?_
  refine wp_goto (t := 15) rfl q29_ok d29_40 ?_
  refine wp_iload_n (j := 1) rfl q29_ok d29_15 ?_
  refine wp_aload_n (j := 0) rfl q29_ok d29_16 ?_
  refine wp_getR q29_ok d29_17 fl_3_11 rfl (soP (n := 109) (x := 47) (t := 3) (by decide)) (show rK 112 47 0 = some 48 from rfl) ?_
  refine wp_alen (m := 60) q29_ok d29_20 (by decide) (by decide) (hmP (by decide) rfl) (show _ = (60 : Int32) from rfl) ?_ (by decide)
  refine wp_icmp_ge q29_ok d29_21 (t := 43) rfl (fun h => absurd h (by decide)) (fun _ => ?_)
  refine wp_aload_n (j := 0) rfl q29_ok d29_24 ?_
  refine wp_getR q29_ok d29_25 fl_3_11 rfl (soP (n := 109) (x := 47) (t := 3) (by decide)) (show rK 112 47 0 = some 48 from rfl) ?_
  refine wp_iload_n (j := 1) rfl q29_ok d29_28 ?_
  refine wp_newP (t := 6) q29_ok d29_29 (by decide +kernel) (by decide) (pushP (by decide +kernel) (by decide +kernel) rfl rfl (by decide +kernel)) ?_
  refine wp_dup rfl q29_ok d29_32 ?_
  refine wp_cI q29_ok d29_33 ml_3_17 (by decide) rfl q45_ok rfl rfl (Nat.le_of_ble_eq_true rfl) (Nat.le_of_ble_eq_true rfl) (i_45_32 (n := n + 0)) (fun v μ hc => ?_)
  obtain ⟨rfl, rfl⟩ := hc
  refine ⟨mm_le_P (by decide) (by decide +kernel), ?_⟩
  refine wp_aastP (t := 24) (u := 6) (m := 60) (j := 20) q29_ok d29_36 (by decide) (soP (n := 112) (x := 48) (t := 24) (by decide)) (soP (n := 112) (x := 109) (t := 6) (by decide)) (hmP (by decide) rfl) (ixn_nI (j := 20) (by decide)) rfl ?_
  refine wp_iinc (j := 1) (v := 21) rfl (by decide) (rfl : _ = [_, _]) q29_ok d29_37 ?_
  refine wp_goto (t := 15) rfl q29_ok d29_40 ?_
  refine wp_iload_n (j := 1) rfl q29_ok d29_15 ?_
  refine wp_aload_n (j := 0) rfl q29_ok d29_16 ?_
  refine wp_getR q29_ok d29_17 fl_3_11 rfl (soP (n := 112) (x := 47) (t := 3) (by decide)) (show rK 115 47 0 = some 48 from rfl) ?_
  refine wp_alen (m := 60) q29_ok d29_20 (by decide) (by decide) (hmP (by decide) rfl) (show _ = (60 : Int32) from rfl) ?_ (by decide)
  refine wp_icmp_ge q29_ok d29_21 (t := 43) rfl (fun h => absurd h (by decide)) (fun _ => ?_)
  refine wp_aload_n (j := 0) rfl q29_ok d29_24 ?_
  refine wp_getR q29_ok d29_25 fl_3_11 rfl (soP (n := 112) (x := 47) (t := 3) (by decide)) (show rK 115 47 0 = some 48 from rfl) ?_
  refine wp_iload_n (j := 1) rfl q29_ok d29_28 ?_
  refine wp_newP (t := 6) q29_ok d29_29 (by decide +kernel) (by decide) (pushP (by decide +kernel) (by decide +kernel) rfl rfl (by decide +kernel)) ?_
  refine wp_dup rfl q29_ok d29_32 ?_
  refine wp_cI q29_ok d29_33 ml_3_17 (by decide) rfl q45_ok rfl rfl (Nat.le_of_ble_eq_true rfl) (Nat.le_of_ble_eq_true rfl) (i_45_33 (n := n + 0)) (fun v μ hc => ?_)
  obtain ⟨rfl, rfl⟩ := hc
  refine ⟨mm_le_P (by decide) (by decide +kernel), ?_⟩
  refine wp_aastP (t := 24) (u := 6) (m := 60) (j := 21) q29_ok d29_36 (by decide) (soP (n := 115) (x := 48) (t := 24) (by decide)) (soP (n := 115) (x := 112) (t := 6) (by decide)) (hmP (by decide) rfl) (ixn_nI (j := 21) (by decide)) rfl ?_
  refine wp_iinc (j := 1) (v := 22) rfl (by decide) (rfl : _ = [_, _]) q29_ok d29_37 ?_
  refine wp_goto (t := 15) rfl q29_ok d29_40 ?_
  refine wp_iload_n (j := 1) rfl q29_ok d29_15 ?_
  refine wp_aload_n (j := 0) rfl q29_ok d29_16 ?_
  refine wp_getR q29_ok d29_17 fl_3_11 rfl (soP (n := 115) (x := 47) (t := 3) (by decide)) (show rK 118 47 0 = some 48 from rfl) ?_
  refine wp_alen (m := 60) q29_ok d29_20 (by decide) (by decide) (hmP (by decide) rfl) (show _ = (60 : Int32) from rfl) ?_ (by decide)
  refine wp_icmp_ge q29_ok d29_21 (t := 43) rfl (fun h => absurd h (by decide)) (fun _ => ?_)
  refine wp_aload_n (j := 0) rfl q29_ok d29_24 ?_
  refine wp_getR q29_ok d29_25 fl_3_11 rfl (soP (n := 115) (x := 47) (t := 3) (by decide)) (show rK 118 47 0 = some 48 from rfl) ?_
  refine wp_iload_n (j := 1) rfl q29_ok d29_28 ?_
  refine wp_newP (t := 6) q29_ok d29_29 (by decide +kernel) (by decide) (pushP (by decide +kernel) (by decide +kernel) rfl rfl (by decide +kernel)) ?_
  refine wp_dup rfl q29_ok d29_32 ?_
  refine wp_cI q29_ok d29_33 ml_3_17 (by decide) rfl q45_ok rfl rfl (Nat.le_of_ble_eq_true rfl) (Nat.le_of_ble_eq_true rfl) (i_45_34 (n := n + 0)) (fun v μ hc => ?_)
  obtain ⟨rfl, rfl⟩ := hc
  refine ⟨mm_le_P (by decide) (by decide +kernel), ?_⟩
  refine wp_aastP (t := 24) (u := 6) (m := 60) (j := 22) q29_ok d29_36 (by decide) (soP (n := 118) (x := 48) (t := 24) (by decide)) (soP (n := 118) (x := 115) (t := 6) (by decide)) (hmP (by decide) rfl) (ixn_nI (j := 22) (by decide)) rfl ?_
  refine wp_iinc (j := 1) (v := 23) rfl (by decide) (rfl : _ = [_, _]) q29_ok d29_37 ?_
  refine wp_goto (t := 15) rfl q29_ok d29_40 ?_
  refine wp_iload_n (j := 1) rfl q29_ok d29_15 ?_
  refine wp_aload_n (j := 0) rfl q29_ok d29_16 ?_
  refine wp_getR q29_ok d29_17 fl_3_11 rfl (soP (n := 118) (x := 47) (t := 3) (by decide)) (show rK 121 47 0 = some 48 from rfl) ?_
  refine wp_alen (m := 60) q29_ok d29_20 (by decide) (by decide) (hmP (by decide) rfl) (show _ = (60 : Int32) from rfl) ?_ (by decide)
  refine wp_icmp_ge q29_ok d29_21 (t := 43) rfl (fun h => absurd h (by decide)) (fun _ => ?_)
  refine wp_aload_n (j := 0) rfl q29_ok d29_24 ?_
  refine wp_getR q29_ok d29_25 fl_3_11 rfl (soP (n := 118) (x := 47) (t := 3) (by decide)) (show rK 121 47 0 = some 48 from rfl) ?_
  refine wp_iload_n (j := 1) rfl q29_ok d29_28 ?_
  refine wp_newP (t := 6) q29_ok d29_29 (by decide +kernel) (by decide) (pushP (by decide +kernel) (by decide +kernel) rfl rfl (by decide +kernel)) ?_
  refine wp_dup rfl q29_ok d29_32 ?_
  refine wp_cI q29_ok d29_33 ml_3_17 (by decide) rfl q45_ok rfl rfl (Nat.le_of_ble_eq_true rfl) (Nat.le_of_ble_eq_true rfl) (i_45_35 (n := n + 0)) (fun v μ hc => ?_)
  obtain ⟨rfl, rfl⟩ := hc
  refine ⟨mm_le_P (by decide) (by decide +kernel), ?_⟩
  refine wp_aastP (t := 24) (u := 6) (m := 60) (j := 23) q29_ok d29_36 (by decide) (soP (n := 121) (x := 48) (t := 24) (by decide)) (soP (n := 121) (x := 118) (t := 6) (by decide)) (hmP (by decide) rfl) (ixn_nI (j := 23) (by decide)) rfl ?_
  refine wp_iinc (j := 1) (v := 24) rfl (by decide) (rfl : _ = [_, _]) q29_ok d29_37 ?_
  refine wp_goto (t := 15) rfl q29_ok d29_40 ?_
  refine wp_iload_n (j := 1) rfl q29_ok d29_15 ?_
  refine wp_aload_n (j := 0) rfl q29_ok d29_16 ?_
  refine wp_getR q29_ok d29_17 fl_3_11 rfl (soP (n := 121) (x := 47) (t := 3) (by decide)) (show rK 124 47 0 = some 48 from rfl) ?_
  refine wp_alen (m := 60) q29_ok d29_20 (by decide) (by decide) (hmP (by decide) rfl) (show _ = (60 : Int32) from rfl) ?_ (by decide)
  refine wp_icmp_ge q29_ok d29_21 (t := 43) rfl (fun h => absurd h (by decide)) (fun _ => ?_)
  refine wp_aload_n (j := 0) rfl q29_ok d29_24 ?_
  refine wp_getR q29_ok d29_25 fl_3_11 rfl (soP (n := 121) (x := 47) (t := 3) (by decide)) (show rK 124 47 0 = some 48 from rfl) ?_
  refine wp_iload_n (j := 1) rfl q29_ok d29_28 ?_
  refine wp_newP (t := 6) q29_ok d29_29 (by decide +kernel) (by decide) (pushP (by decide +kernel) (by decide +kernel) rfl rfl (by decide +kernel)) ?_
  refine wp_dup rfl q29_ok d29_32 ?_
  refine wp_cI q29_ok d29_33 ml_3_17 (by decide) rfl q45_ok rfl rfl (Nat.le_of_ble_eq_true rfl) (Nat.le_of_ble_eq_true rfl) (i_45_36 (n := n + 0)) (fun v μ hc => ?_)
  obtain ⟨rfl, rfl⟩ := hc
  refine ⟨mm_le_P (by decide) (by decide +kernel), ?_⟩
  refine wp_aastP (t := 24) (u := 6) (m := 60) (j := 24) q29_ok d29_36 (by decide) (soP (n := 124) (x := 48) (t := 24) (by decide)) (soP (n := 124) (x := 121) (t := 6) (by decide)) (hmP (by decide) rfl) (ixn_nI (j := 24) (by decide)) rfl ?_
  refine wp_iinc (j := 1) (v := 25) rfl (by decide) (rfl : _ = [_, _]) q29_ok d29_37 ?_
  refine wp_goto (t := 15) rfl q29_ok d29_40 ?_
  refine wp_iload_n (j := 1) rfl q29_ok d29_15 ?_
  refine wp_aload_n (j := 0) rfl q29_ok d29_16 ?_
  refine wp_getR q29_ok d29_17 fl_3_11 rfl (soP (n := 124) (x := 47) (t := 3) (by decide)) (show rK 127 47 0 = some 48 from rfl) ?_
  refine wp_alen (m := 60) q29_ok d29_20 (by decide) (by decide) (hmP (by decide) rfl) (show _ = (60 : Int32) from rfl) ?_ (by decide)
  refine wp_icmp_ge q29_ok d29_21 (t := 43) rfl (fun h => absurd h (by decide)) (fun _ => ?_)
  refine wp_aload_n (j := 0) rfl q29_ok d29_24 ?_
  refine wp_getR q29_ok d29_25 fl_3_11 rfl (soP (n := 124) (x := 47) (t := 3) (by decide)) (show rK 127 47 0 = some 48 from rfl) ?_
  refine wp_iload_n (j := 1) rfl q29_ok d29_28 ?_
  refine wp_newP (t := 6) q29_ok d29_29 (by decide +kernel) (by decide) (pushP (by decide +kernel) (by decide +kernel) rfl rfl (by decide +kernel)) ?_
  refine wp_dup rfl q29_ok d29_32 ?_
  refine wp_cI q29_ok d29_33 ml_3_17 (by decide) rfl q45_ok rfl rfl (Nat.le_of_ble_eq_true rfl) (Nat.le_of_ble_eq_true rfl) (i_45_37 (n := n + 0)) (fun v μ hc => ?_)
  obtain ⟨rfl, rfl⟩ := hc
  refine ⟨mm_le_P (by decide) (by decide +kernel), ?_⟩
  refine wp_aastP (t := 24) (u := 6) (m := 60) (j := 25) q29_ok d29_36 (by decide) (soP (n := 127) (x := 48) (t := 24) (by decide)) (soP (n := 127) (x := 124) (t := 6) (by decide)) (hmP (by decide) rfl) (ixn_nI (j := 25) (by decide)) rfl ?_
  refine wp_iinc (j := 1) (v := 26) rfl (by decide) (rfl : _ = [_, _]) q29_ok d29_37 ?_
  refine wp_goto (t := 15) rfl q29_ok d29_40 ?_
  refine wp_iload_n (j := 1) rfl q29_ok d29_15 ?_
  refine wp_aload_n (j := 0) rfl q29_ok d29_16 ?_
  refine wp_getR q29_ok d29_17 fl_3_11 rfl (soP (n := 127) (x := 47) (t := 3) (by decide)) (show rK 130 47 0 = some 48 from rfl) ?_
  refine wp_alen (m := 60) q29_ok d29_20 (by decide) (by decide) (hmP (by decide) rfl) (show _ = (60 : Int32) from rfl) ?_ (by decide)
  refine wp_icmp_ge q29_ok d29_21 (t := 43) rfl (fun h => absurd h (by decide)) (fun _ => ?_)
  refine wp_aload_n (j := 0) rfl q29_ok d29_24 ?_
  refine wp_getR q29_ok d29_25 fl_3_11 rfl (soP (n := 127) (x := 47) (t := 3) (by decide)) (show rK 130 47 0 = some 48 from rfl) ?_
  refine wp_iload_n (j := 1) rfl q29_ok d29_28 ?_
  refine wp_newP (t := 6) q29_ok d29_29 (by decide +kernel) (by decide) (pushP (by decide +kernel) (by decide +kernel) rfl rfl (by decide +kernel)) ?_
  refine wp_dup rfl q29_ok d29_32 ?_
  refine wp_cI q29_ok d29_33 ml_3_17 (by decide) rfl q45_ok rfl rfl (Nat.le_of_ble_eq_true rfl) (Nat.le_of_ble_eq_true rfl) (i_45_38 (n := n + 0)) (fun v μ hc => ?_)
  obtain ⟨rfl, rfl⟩ := hc
  refine ⟨mm_le_P (by decide) (by decide +kernel), ?_⟩
  refine wp_aastP (t := 24) (u := 6) (m := 60) (j := 26) q29_ok d29_36 (by decide) (soP (n := 130) (x := 48) (t := 24) (by decide)) (soP (n := 130) (x := 127) (t := 6) (by decide)) (hmP (by decide) rfl) (ixn_nI (j := 26) (by decide)) rfl ?_
  refine wp_iinc (j := 1) (v := 27) rfl (by decide) (rfl : _ = [_, _]) q29_ok d29_37 ?_
  refine wp_goto (t := 15) rfl q29_ok d29_40 ?_
  refine wp_iload_n (j := 1) rfl q29_ok d29_15 ?_
  refine wp_aload_n (j := 0) rfl q29_ok d29_16 ?_
  refine wp_getR q29_ok d29_17 fl_3_11 rfl (soP (n := 130) (x := 47) (t := 3) (by decide)) (show rK 133 47 0 = some 48 from rfl) ?_
  refine wp_alen (m := 60) q29_ok d29_20 (by decide) (by decide) (hmP (by decide) rfl) (show _ = (60 : Int32) from rfl) ?_ (by decide)
  refine wp_icmp_ge q29_ok d29_21 (t := 43) rfl (fun h => absurd h (by decide)) (fun _ => ?_)
  refine wp_aload_n (j := 0) rfl q29_ok d29_24 ?_
  refine wp_getR q29_ok d29_25 fl_3_11 rfl (soP (n := 130) (x := 47) (t := 3) (by decide)) (show rK 133 47 0 = some 48 from rfl) ?_
  refine wp_iload_n (j := 1) rfl q29_ok d29_28 ?_
  refine wp_newP (t := 6) q29_ok d29_29 (by decide +kernel) (by decide) (pushP (by decide +kernel) (by decide +kernel) rfl rfl (by decide +kernel)) ?_
  refine wp_dup rfl q29_ok d29_32 ?_
  refine wp_cI q29_ok d29_33 ml_3_17 (by decide) rfl q45_ok rfl rfl (Nat.le_of_ble_eq_true rfl) (Nat.le_of_ble_eq_true rfl) (i_45_39 (n := n + 0)) (fun v μ hc => ?_)
  obtain ⟨rfl, rfl⟩ := hc
  refine ⟨mm_le_P (by decide) (by decide +kernel), ?_⟩
  refine wp_aastP (t := 24) (u := 6) (m := 60) (j := 27) q29_ok d29_36 (by decide) (soP (n := 133) (x := 48) (t := 24) (by decide)) (soP (n := 133) (x := 130) (t := 6) (by decide)) (hmP (by decide) rfl) (ixn_nI (j := 27) (by decide)) rfl ?_
  refine wp_iinc (j := 1) (v := 28) rfl (by decide) (rfl : _ = [_, _]) q29_ok d29_37 ?_
  refine wp_goto (t := 15) rfl q29_ok d29_40 ?_
  refine wp_iload_n (j := 1) rfl q29_ok d29_15 ?_
  refine wp_aload_n (j := 0) rfl q29_ok d29_16 ?_
  refine wp_getR q29_ok d29_17 fl_3_11 rfl (soP (n := 133) (x := 47) (t := 3) (by decide)) (show rK 136 47 0 = some 48 from rfl) ?_
  refine wp_alen (m := 60) q29_ok d29_20 (by decide) (by decide) (hmP (by decide) rfl) (show _ = (60 : Int32) from rfl) ?_ (by decide)
  refine wp_icmp_ge q29_ok d29_21 (t := 43) rfl (fun h => absurd h (by decide)) (fun _ => ?_)
  refine wp_aload_n (j := 0) rfl q29_ok d29_24 ?_
  refine wp_getR q29_ok d29_25 fl_3_11 rfl (soP (n := 133) (x := 47) (t := 3) (by decide)) (show rK 136 47 0 = some 48 from rfl) ?_
  refine wp_iload_n (j := 1) rfl q29_ok d29_28 ?_
  refine wp_newP (t := 6) q29_ok d29_29 (by decide +kernel) (by decide) (pushP (by decide +kernel) (by decide +kernel) rfl rfl (by decide +kernel)) ?_
  refine wp_dup rfl q29_ok d29_32 ?_
  refine wp_cI q29_ok d29_33 ml_3_17 (by decide) rfl q45_ok rfl rfl (Nat.le_of_ble_eq_true rfl) (Nat.le_of_ble_eq_true rfl) (i_45_40 (n := n + 0)) (fun v μ hc => ?_)
  obtain ⟨rfl, rfl⟩ := hc
  refine ⟨mm_le_P (by decide) (by decide +kernel), ?_⟩
  refine wp_aastP (t := 24) (u := 6) (m := 60) (j := 28) q29_ok d29_36 (by decide) (soP (n := 136) (x := 48) (t := 24) (by decide)) (soP (n := 136) (x := 133) (t := 6) (by decide)) (hmP (by decide) rfl) (ixn_nI (j := 28) (by decide)) rfl ?_
  refine wp_iinc (j := 1) (v := 29) rfl (by decide) (rfl : _ = [_, _]) q29_ok d29_37 ?_
  refine wp_goto (t := 15) rfl q29_ok d29_40 ?_
  refine wp_iload_n (j := 1) rfl q29_ok d29_15 ?_
  refine wp_aload_n (j := 0) rfl q29_ok d29_16 ?_
  refine wp_getR q29_ok d29_17 fl_3_11 rfl (soP (n := 136) (x := 47) (t := 3) (by decide)) (show rK 139 47 0 = some 48 from rfl) ?_
  refine wp_alen (m := 60) q29_ok d29_20 (by decide) (by decide) (hmP (by decide) rfl) (show _ = (60 : Int32) from rfl) ?_ (by decide)
  refine wp_icmp_ge q29_ok d29_21 (t := 43) rfl (fun h => absurd h (by decide)) (fun _ => ?_)
  refine wp_aload_n (j := 0) rfl q29_ok d29_24 ?_
  refine wp_getR q29_ok d29_25 fl_3_11 rfl (soP (n := 136) (x := 47) (t := 3) (by decide)) (show rK 139 47 0 = some 48 from rfl) ?_
  refine wp_iload_n (j := 1) rfl q29_ok d29_28 ?_
  refine wp_newP (t := 6) q29_ok d29_29 (by decide +kernel) (by decide) (pushP (by decide +kernel) (by decide +kernel) rfl rfl (by decide +kernel)) ?_
  refine wp_dup rfl q29_ok d29_32 ?_
  refine wp_cI q29_ok d29_33 ml_3_17 (by decide) rfl q45_ok rfl rfl (Nat.le_of_ble_eq_true rfl) (Nat.le_of_ble_eq_true rfl) (i_45_41 (n := n + 0)) (fun v μ hc => ?_)
  obtain ⟨rfl, rfl⟩ := hc
  refine ⟨mm_le_P (by decide) (by decide +kernel), ?_⟩
  refine wp_aastP (t := 24) (u := 6) (m := 60) (j := 29) q29_ok d29_36 (by decide) (soP (n := 139) (x := 48) (t := 24) (by decide)) (soP (n := 139) (x := 136) (t := 6) (by decide)) (hmP (by decide) rfl) (ixn_nI (j := 29) (by decide)) rfl ?_
  refine wp_iinc (j := 1) (v := 30) rfl (by decide) (rfl : _ = [_, _]) q29_ok d29_37 ?_
  refine wp_goto (t := 15) rfl q29_ok d29_40 ?_
  refine wp_iload_n (j := 1) rfl q29_ok d29_15 ?_
  refine wp_aload_n (j := 0) rfl q29_ok d29_16 ?_
  refine wp_getR q29_ok d29_17 fl_3_11 rfl (soP (n := 139) (x := 47) (t := 3) (by decide)) (show rK 142 47 0 = some 48 from rfl) ?_
  refine wp_alen (m := 60) q29_ok d29_20 (by decide) (by decide) (hmP (by decide) rfl) (show _ = (60 : Int32) from rfl) ?_ (by decide)
  refine wp_icmp_ge q29_ok d29_21 (t := 43) rfl (fun h => absurd h (by decide)) (fun _ => ?_)
  refine wp_aload_n (j := 0) rfl q29_ok d29_24 ?_
  refine wp_getR q29_ok d29_25 fl_3_11 rfl (soP (n := 139) (x := 47) (t := 3) (by decide)) (show rK 142 47 0 = some 48 from rfl) ?_
  refine wp_iload_n (j := 1) rfl q29_ok d29_28 ?_
  refine wp_newP (t := 6) q29_ok d29_29 (by decide +kernel) (by decide) (pushP (by decide +kernel) (by decide +kernel) rfl rfl (by decide +kernel)) ?_
  refine wp_dup rfl q29_ok d29_32 ?_
  refine wp_cI q29_ok d29_33 ml_3_17 (by decide) rfl q45_ok rfl rfl (Nat.le_of_ble_eq_true rfl) (Nat.le_of_ble_eq_true rfl) (i_45_42 (n := n + 0)) (fun v μ hc => ?_)
  obtain ⟨rfl, rfl⟩ := hc
  refine ⟨mm_le_P (by decide) (by decide +kernel), ?_⟩
  refine wp_aastP (t := 24) (u := 6) (m := 60) (j := 30) q29_ok d29_36 (by decide) (soP (n := 142) (x := 48) (t := 24) (by decide)) (soP (n := 142) (x := 139) (t := 6) (by decide)) (hmP (by decide) rfl) (ixn_nI (j := 30) (by decide)) rfl ?_
  refine wp_iinc (j := 1) (v := 31) rfl (by decide) (rfl : _ = [_, _]) q29_ok d29_37 ?_
  refine wp_goto (t := 15) rfl q29_ok d29_40 ?_
  refine wp_iload_n (j := 1) rfl q29_ok d29_15 ?_
  refine wp_aload_n (j := 0) rfl q29_ok d29_16 ?_
  refine wp_getR q29_ok d29_17 fl_3_11 rfl (soP (n := 142) (x := 47) (t := 3) (by decide)) (show rK 145 47 0 = some 48 from rfl) ?_
  refine wp_alen (m := 60) q29_ok d29_20 (by decide) (by decide) (hmP (by decide) rfl) (show _ = (60 : Int32) from rfl) ?_ (by decide)
  refine wp_icmp_ge q29_ok d29_21 (t := 43) rfl (fun h => absurd h (by decide)) (fun _ => ?_)
  refine wp_aload_n (j := 0) rfl q29_ok d29_24 ?_
  refine wp_getR q29_ok d29_25 fl_3_11 rfl (soP (n := 142) (x := 47) (t := 3) (by decide)) (show rK 145 47 0 = some 48 from rfl) ?_
  refine wp_iload_n (j := 1) rfl q29_ok d29_28 ?_
  refine wp_newP (t := 6) q29_ok d29_29 (by decide +kernel) (by decide) (pushP (by decide +kernel) (by decide +kernel) rfl rfl (by decide +kernel)) ?_
  refine wp_dup rfl q29_ok d29_32 ?_
  refine wp_cI q29_ok d29_33 ml_3_17 (by decide) rfl q45_ok rfl rfl (Nat.le_of_ble_eq_true rfl) (Nat.le_of_ble_eq_true rfl) (i_45_43 (n := n + 0)) (fun v μ hc => ?_)
  obtain ⟨rfl, rfl⟩ := hc
  refine ⟨mm_le_P (by decide) (by decide +kernel), ?_⟩
  refine wp_aastP (t := 24) (u := 6) (m := 60) (j := 31) q29_ok d29_36 (by decide) (soP (n := 145) (x := 48) (t := 24) (by decide)) (soP (n := 145) (x := 142) (t := 6) (by decide)) (hmP (by decide) rfl) (ixn_nI (j := 31) (by decide)) rfl ?_
  refine wp_iinc (j := 1) (v := 32) rfl (by decide) (rfl : _ = [_, _]) q29_ok d29_37 ?_
  refine wp_goto (t := 15) rfl q29_ok d29_40 ?_
  refine wp_iload_n (j := 1) rfl q29_ok d29_15 ?_
  refine wp_aload_n (j := 0) rfl q29_ok d29_16 ?_
  refine wp_getR q29_ok d29_17 fl_3_11 rfl (soP (n := 145) (x := 47) (t := 3) (by decide)) (show rK 148 47 0 = some 48 from rfl) ?_
  refine wp_alen (m := 60) q29_ok d29_20 (by decide) (by decide) (hmP (by decide) rfl) (show _ = (60 : Int32) from rfl) ?_ (by decide)
  refine wp_icmp_ge q29_ok d29_21 (t := 43) rfl (fun h => absurd h (by decide)) (fun _ => ?_)
  refine wp_aload_n (j := 0) rfl q29_ok d29_24 ?_
  refine wp_getR q29_ok d29_25 fl_3_11 rfl (soP (n := 145) (x := 47) (t := 3) (by decide)) (show rK 148 47 0 = some 48 from rfl) ?_
  refine wp_iload_n (j := 1) rfl q29_ok d29_28 ?_
  refine wp_newP (t := 6) q29_ok d29_29 (by decide +kernel) (by decide) (pushP (by decide +kernel) (by decide +kernel) rfl rfl (by decide +kernel)) ?_
  refine wp_dup rfl q29_ok d29_32 ?_
  refine wp_cI q29_ok d29_33 ml_3_17 (by decide) rfl q45_ok rfl rfl (Nat.le_of_ble_eq_true rfl) (Nat.le_of_ble_eq_true rfl) (i_45_44 (n := n + 0)) (fun v μ hc => ?_)
  obtain ⟨rfl, rfl⟩ := hc
  refine ⟨mm_le_P (by decide) (by decide +kernel), ?_⟩
  refine wp_aastP (t := 24) (u := 6) (m := 60) (j := 32) q29_ok d29_36 (by decide) (soP (n := 148) (x := 48) (t := 24) (by decide)) (soP (n := 148) (x := 145) (t := 6) (by decide)) (hmP (by decide) rfl) (ixn_nI (j := 32) (by decide)) rfl ?_
  refine wp_iinc (j := 1) (v := 33) rfl (by decide) (rfl : _ = [_, _]) q29_ok d29_37 ?_
  refine wp_goto (t := 15) rfl q29_ok d29_40 ?_
  refine wp_iload_n (j := 1) rfl q29_ok d29_15 ?_
  refine wp_aload_n (j := 0) rfl q29_ok d29_16 ?_
  refine wp_getR q29_ok d29_17 fl_3_11 rfl (soP (n := 148) (x := 47) (t := 3) (by decide)) (show rK 151 47 0 = some 48 from rfl) ?_
  refine wp_alen (m := 60) q29_ok d29_20 (by decide) (by decide) (hmP (by decide) rfl) (show _ = (60 : Int32) from rfl) ?_ (by decide)
  refine wp_icmp_ge q29_ok d29_21 (t := 43) rfl (fun h => absurd h (by decide)) (fun _ => ?_)
  refine wp_aload_n (j := 0) rfl q29_ok d29_24 ?_
  refine wp_getR q29_ok d29_25 fl_3_11 rfl (soP (n := 148) (x := 47) (t := 3) (by decide)) (show rK 151 47 0 = some 48 from rfl) ?_
  refine wp_iload_n (j := 1) rfl q29_ok d29_28 ?_
  refine wp_newP (t := 6) q29_ok d29_29 (by decide +kernel) (by decide) (pushP (by decide +kernel) (by decide +kernel) rfl rfl (by decide +kernel)) ?_
  refine wp_dup rfl q29_ok d29_32 ?_
  refine wp_cI q29_ok d29_33 ml_3_17 (by decide) rfl q45_ok rfl rfl (Nat.le_of_ble_eq_true rfl) (Nat.le_of_ble_eq_true rfl) (i_45_45 (n := n + 0)) (fun v μ hc => ?_)
  obtain ⟨rfl, rfl⟩ := hc
  refine ⟨mm_le_P (by decide) (by decide +kernel), ?_⟩
  refine wp_aastP (t := 24) (u := 6) (m := 60) (j := 33) q29_ok d29_36 (by decide) (soP (n := 151) (x := 48) (t := 24) (by decide)) (soP (n := 151) (x := 148) (t := 6) (by decide)) (hmP (by decide) rfl) (ixn_nI (j := 33) (by decide)) rfl ?_
  refine wp_iinc (j := 1) (v := 34) rfl (by decide) (rfl : _ = [_, _]) q29_ok d29_37 ?_
  refine wp_goto (t := 15) rfl q29_ok d29_40 ?_
  refine wp_iload_n (j := 1) rfl q29_ok d29_15 ?_
  refine wp_aload_n (j := 0) rfl q29_ok d29_16 ?_
  refine wp_getR q29_ok d29_17 fl_3_11 rfl (soP (n := 151) (x := 47) (t := 3) (by decide)) (show rK 154 47 0 = some 48 from rfl) ?_
  refine wp_alen (m := 60) q29_ok d29_20 (by decide) (by decide) (hmP (by decide) rfl) (show _ = (60 : Int32) from rfl) ?_ (by decide)
  refine wp_icmp_ge q29_ok d29_21 (t := 43) rfl (fun h => absurd h (by decide)) (fun _ => ?_)
  refine wp_aload_n (j := 0) rfl q29_ok d29_24 ?_
  refine wp_getR q29_ok d29_25 fl_3_11 rfl (soP (n := 151) (x := 47) (t := 3) (by decide)) (show rK 154 47 0 = some 48 from rfl) ?_
  refine wp_iload_n (j := 1) rfl q29_ok d29_28 ?_
  refine wp_newP (t := 6) q29_ok d29_29 (by decide +kernel) (by decide) (pushP (by decide +kernel) (by decide +kernel) rfl rfl (by decide +kernel)) ?_
  refine wp_dup rfl q29_ok d29_32 ?_
  refine wp_cI q29_ok d29_33 ml_3_17 (by decide) rfl q45_ok rfl rfl (Nat.le_of_ble_eq_true rfl) (Nat.le_of_ble_eq_true rfl) (i_45_46 (n := n + 0)) (fun v μ hc => ?_)
  obtain ⟨rfl, rfl⟩ := hc
  refine ⟨mm_le_P (by decide) (by decide +kernel), ?_⟩
  refine wp_aastP (t := 24) (u := 6) (m := 60) (j := 34) q29_ok d29_36 (by decide) (soP (n := 154) (x := 48) (t := 24) (by decide)) (soP (n := 154) (x := 151) (t := 6) (by decide)) (hmP (by decide) rfl) (ixn_nI (j := 34) (by decide)) rfl ?_
  refine wp_iinc (j := 1) (v := 35) rfl (by decide) (rfl : _ = [_, _]) q29_ok d29_37 ?_
  refine wp_goto (t := 15) rfl q29_ok d29_40 ?_
  refine wp_iload_n (j := 1) rfl q29_ok d29_15 ?_
  refine wp_aload_n (j := 0) rfl q29_ok d29_16 ?_
  refine wp_getR q29_ok d29_17 fl_3_11 rfl (soP (n := 154) (x := 47) (t := 3) (by decide)) (show rK 157 47 0 = some 48 from rfl) ?_
  refine wp_alen (m := 60) q29_ok d29_20 (by decide) (by decide) (hmP (by decide) rfl) (show _ = (60 : Int32) from rfl) ?_ (by decide)
  refine wp_icmp_ge q29_ok d29_21 (t := 43) rfl (fun h => absurd h (by decide)) (fun _ => ?_)
  refine wp_aload_n (j := 0) rfl q29_ok d29_24 ?_
  refine wp_getR q29_ok d29_25 fl_3_11 rfl (soP (n := 154) (x := 47) (t := 3) (by decide)) (show rK 157 47 0 = some 48 from rfl) ?_
  refine wp_iload_n (j := 1) rfl q29_ok d29_28 ?_
  refine wp_newP (t := 6) q29_ok d29_29 (by decide +kernel) (by decide) (pushP (by decide +kernel) (by decide +kernel) rfl rfl (by decide +kernel)) ?_
  refine wp_dup rfl q29_ok d29_32 ?_
  refine wp_cI q29_ok d29_33 ml_3_17 (by decide) rfl q45_ok rfl rfl (Nat.le_of_ble_eq_true rfl) (Nat.le_of_ble_eq_true rfl) (i_45_47 (n := n + 0)) (fun v μ hc => ?_)
  obtain ⟨rfl, rfl⟩ := hc
  refine ⟨mm_le_P (by decide) (by decide +kernel), ?_⟩
  refine wp_aastP (t := 24) (u := 6) (m := 60) (j := 35) q29_ok d29_36 (by decide) (soP (n := 157) (x := 48) (t := 24) (by decide)) (soP (n := 157) (x := 154) (t := 6) (by decide)) (hmP (by decide) rfl) (ixn_nI (j := 35) (by decide)) rfl ?_
  refine wp_iinc (j := 1) (v := 36) rfl (by decide) (rfl : _ = [_, _]) q29_ok d29_37 ?_
  refine wp_goto (t := 15) rfl q29_ok d29_40 ?_
  refine wp_iload_n (j := 1) rfl q29_ok d29_15 ?_
  refine wp_aload_n (j := 0) rfl q29_ok d29_16 ?_
  refine wp_getR q29_ok d29_17 fl_3_11 rfl (soP (n := 157) (x := 47) (t := 3) (by decide)) (show rK 160 47 0 = some 48 from rfl) ?_
  refine wp_alen (m := 60) q29_ok d29_20 (by decide) (by decide) (hmP (by decide) rfl) (show _ = (60 : Int32) from rfl) ?_ (by decide)
  refine wp_icmp_ge q29_ok d29_21 (t := 43) rfl (fun h => absurd h (by decide)) (fun _ => ?_)
  refine wp_aload_n (j := 0) rfl q29_ok d29_24 ?_
  refine wp_getR q29_ok d29_25 fl_3_11 rfl (soP (n := 157) (x := 47) (t := 3) (by decide)) (show rK 160 47 0 = some 48 from rfl) ?_
  refine wp_iload_n (j := 1) rfl q29_ok d29_28 ?_
  refine wp_newP (t := 6) q29_ok d29_29 (by decide +kernel) (by decide) (pushP (by decide +kernel) (by decide +kernel) rfl rfl (by decide +kernel)) ?_
  refine wp_dup rfl q29_ok d29_32 ?_
  refine wp_cI q29_ok d29_33 ml_3_17 (by decide) rfl q45_ok rfl rfl (Nat.le_of_ble_eq_true rfl) (Nat.le_of_ble_eq_true rfl) (i_45_48 (n := n + 0)) (fun v μ hc => ?_)
  obtain ⟨rfl, rfl⟩ := hc
  refine ⟨mm_le_P (by decide) (by decide +kernel), ?_⟩
  refine wp_aastP (t := 24) (u := 6) (m := 60) (j := 36) q29_ok d29_36 (by decide) (soP (n := 160) (x := 48) (t := 24) (by decide)) (soP (n := 160) (x := 157) (t := 6) (by decide)) (hmP (by decide) rfl) (ixn_nI (j := 36) (by decide)) rfl ?_
  refine wp_iinc (j := 1) (v := 37) rfl (by decide) (rfl : _ = [_, _]) q29_ok d29_37 ?_
  refine wp_goto (t := 15) rfl q29_ok d29_40 ?_
  refine wp_iload_n (j := 1) rfl q29_ok d29_15 ?_
  refine wp_aload_n (j := 0) rfl q29_ok d29_16 ?_
  refine wp_getR q29_ok d29_17 fl_3_11 rfl (soP (n := 160) (x := 47) (t := 3) (by decide)) (show rK 163 47 0 = some 48 from rfl) ?_
  refine wp_alen (m := 60) q29_ok d29_20 (by decide) (by decide) (hmP (by decide) rfl) (show _ = (60 : Int32) from rfl) ?_ (by decide)
  refine wp_icmp_ge q29_ok d29_21 (t := 43) rfl (fun h => absurd h (by decide)) (fun _ => ?_)
  refine wp_aload_n (j := 0) rfl q29_ok d29_24 ?_
  refine wp_getR q29_ok d29_25 fl_3_11 rfl (soP (n := 160) (x := 47) (t := 3) (by decide)) (show rK 163 47 0 = some 48 from rfl) ?_
  refine wp_iload_n (j := 1) rfl q29_ok d29_28 ?_
  refine wp_newP (t := 6) q29_ok d29_29 (by decide +kernel) (by decide) (pushP (by decide +kernel) (by decide +kernel) rfl rfl (by decide +kernel)) ?_
  refine wp_dup rfl q29_ok d29_32 ?_
  refine wp_cI q29_ok d29_33 ml_3_17 (by decide) rfl q45_ok rfl rfl (Nat.le_of_ble_eq_true rfl) (Nat.le_of_ble_eq_true rfl) (i_45_49 (n := n + 0)) (fun v μ hc => ?_)
  obtain ⟨rfl, rfl⟩ := hc
  refine ⟨mm_le_P (by decide) (by decide +kernel), ?_⟩
  refine wp_aastP (t := 24) (u := 6) (m := 60) (j := 37) q29_ok d29_36 (by decide) (soP (n := 163) (x := 48) (t := 24) (by decide)) (soP (n := 163) (x := 160) (t := 6) (by decide)) (hmP (by decide) rfl) (ixn_nI (j := 37) (by decide)) rfl ?_
  refine wp_iinc (j := 1) (v := 38) rfl (by decide) (rfl : _ = [_, _]) q29_ok d29_37 ?_
  refine wp_goto (t := 15) rfl q29_ok d29_40 ?_
  refine wp_iload_n (j := 1) rfl q29_ok d29_15 ?_
  refine wp_aload_n (j := 0) rfl q29_ok d29_16 ?_
  refine wp_getR q29_ok d29_17 fl_3_11 rfl (soP (n := 163) (x := 47) (t := 3) (by decide)) (show rK 166 47 0 = some 48 from rfl) ?_
  refine wp_alen (m := 60) q29_ok d29_20 (by decide) (by decide) (hmP (by decide) rfl) (show _ = (60 : Int32) from rfl) ?_ (by decide)
  refine wp_icmp_ge q29_ok d29_21 (t := 43) rfl (fun h => absurd h (by decide)) (fun _ => ?_)
  refine wp_aload_n (j := 0) rfl q29_ok d29_24 ?_
  refine wp_getR q29_ok d29_25 fl_3_11 rfl (soP (n := 163) (x := 47) (t := 3) (by decide)) (show rK 166 47 0 = some 48 from rfl) ?_
  refine wp_iload_n (j := 1) rfl q29_ok d29_28 ?_
  refine wp_newP (t := 6) q29_ok d29_29 (by decide +kernel) (by decide) (pushP (by decide +kernel) (by decide +kernel) rfl rfl (by decide +kernel)) ?_
  refine wp_dup rfl q29_ok d29_32 ?_
  refine wp_cI q29_ok d29_33 ml_3_17 (by decide) rfl q45_ok rfl rfl (Nat.le_of_ble_eq_true rfl) (Nat.le_of_ble_eq_true rfl) (i_45_50 (n := n + 0)) (fun v μ hc => ?_)
  obtain ⟨rfl, rfl⟩ := hc
  refine ⟨mm_le_P (by decide) (by decide +kernel), ?_⟩
  refine wp_aastP (t := 24) (u := 6) (m := 60) (j := 38) q29_ok d29_36 (by decide) (soP (n := 166) (x := 48) (t := 24) (by decide)) (soP (n := 166) (x := 163) (t := 6) (by decide)) (hmP (by decide) rfl) (ixn_nI (j := 38) (by decide)) rfl ?_
  refine wp_iinc (j := 1) (v := 39) rfl (by decide) (rfl : _ = [_, _]) q29_ok d29_37 ?_
  refine wp_goto (t := 15) rfl q29_ok d29_40 ?_
  refine wp_iload_n (j := 1) rfl q29_ok d29_15 ?_
  refine wp_aload_n (j := 0) rfl q29_ok d29_16 ?_
  refine wp_getR q29_ok d29_17 fl_3_11 rfl (soP (n := 166) (x := 47) (t := 3) (by decide)) (show rK 169 47 0 = some 48 from rfl) ?_
  refine wp_alen (m := 60) q29_ok d29_20 (by decide) (by decide) (hmP (by decide) rfl) (show _ = (60 : Int32) from rfl) ?_ (by decide)
  refine wp_icmp_ge q29_ok d29_21 (t := 43) rfl (fun h => absurd h (by decide)) (fun _ => ?_)
  refine wp_aload_n (j := 0) rfl q29_ok d29_24 ?_
  refine wp_getR q29_ok d29_25 fl_3_11 rfl (soP (n := 166) (x := 47) (t := 3) (by decide)) (show rK 169 47 0 = some 48 from rfl) ?_
  refine wp_iload_n (j := 1) rfl q29_ok d29_28 ?_
  refine wp_newP (t := 6) q29_ok d29_29 (by decide +kernel) (by decide) (pushP (by decide +kernel) (by decide +kernel) rfl rfl (by decide +kernel)) ?_
  refine wp_dup rfl q29_ok d29_32 ?_
  refine wp_cI q29_ok d29_33 ml_3_17 (by decide) rfl q45_ok rfl rfl (Nat.le_of_ble_eq_true rfl) (Nat.le_of_ble_eq_true rfl) (i_45_51 (n := n + 0)) (fun v μ hc => ?_)
  obtain ⟨rfl, rfl⟩ := hc
  refine ⟨mm_le_P (by decide) (by decide +kernel), ?_⟩
  refine wp_aastP (t := 24) (u := 6) (m := 60) (j := 39) q29_ok d29_36 (by decide) (soP (n := 169) (x := 48) (t := 24) (by decide)) (soP (n := 169) (x := 166) (t := 6) (by decide)) (hmP (by decide) rfl) (ixn_nI (j := 39) (by decide)) rfl ?_
  refine wp_iinc (j := 1) (v := 40) rfl (by decide) (rfl : _ = [_, _]) q29_ok d29_37 ?_
  refine wp_goto (t := 15) rfl q29_ok d29_40 ?_
  refine wp_iload_n (j := 1) rfl q29_ok d29_15 ?_
  refine wp_aload_n (j := 0) rfl q29_ok d29_16 ?_
  refine wp_getR q29_ok d29_17 fl_3_11 rfl (soP (n := 169) (x := 47) (t := 3) (by decide)) (show rK 172 47 0 = some 48 from rfl) ?_
  refine wp_alen (m := 60) q29_ok d29_20 (by decide) (by decide) (hmP (by decide) rfl) (show _ = (60 : Int32) from rfl) ?_ (by decide)
  refine wp_icmp_ge q29_ok d29_21 (t := 43) rfl (fun h => absurd h (by decide)) (fun _ => ?_)
  refine wp_aload_n (j := 0) rfl q29_ok d29_24 ?_
  refine wp_getR q29_ok d29_25 fl_3_11 rfl (soP (n := 169) (x := 47) (t := 3) (by decide)) (show rK 172 47 0 = some 48 from rfl) ?_
  refine wp_iload_n (j := 1) rfl q29_ok d29_28 ?_
  refine wp_newP (t := 6) q29_ok d29_29 (by decide +kernel) (by decide) (pushP (by decide +kernel) (by decide +kernel) rfl rfl (by decide +kernel)) ?_
  refine wp_dup rfl q29_ok d29_32 ?_
  refine wp_cI q29_ok d29_33 ml_3_17 (by decide) rfl q45_ok rfl rfl (Nat.le_of_ble_eq_true rfl) (Nat.le_of_ble_eq_true rfl) (i_45_52 (n := n + 0)) (fun v μ hc => ?_)
  obtain ⟨rfl, rfl⟩ := hc
  refine ⟨mm_le_P (by decide) (by decide +kernel), ?_⟩
  refine wp_aastP (t := 24) (u := 6) (m := 60) (j := 40) q29_ok d29_36 (by decide) (soP (n := 172) (x := 48) (t := 24) (by decide)) (soP (n := 172) (x := 169) (t := 6) (by decide)) (hmP (by decide) rfl) (ixn_nI (j := 40) (by decide)) rfl ?_
  refine wp_iinc (j := 1) (v := 41) rfl (by decide) (rfl : _ = [_, _]) q29_ok d29_37 ?_
  refine wp_goto (t := 15) rfl q29_ok d29_40 ?_
  refine wp_iload_n (j := 1) rfl q29_ok d29_15 ?_
  refine wp_aload_n (j := 0) rfl q29_ok d29_16 ?_
  refine wp_getR q29_ok d29_17 fl_3_11 rfl (soP (n := 172) (x := 47) (t := 3) (by decide)) (show rK 175 47 0 = some 48 from rfl) ?_
  refine wp_alen (m := 60) q29_ok d29_20 (by decide) (by decide) (hmP (by decide) rfl) (show _ = (60 : Int32) from rfl) ?_ (by decide)
  refine wp_icmp_ge q29_ok d29_21 (t := 43) rfl (fun h => absurd h (by decide)) (fun _ => ?_)
  refine wp_aload_n (j := 0) rfl q29_ok d29_24 ?_
  refine wp_getR q29_ok d29_25 fl_3_11 rfl (soP (n := 172) (x := 47) (t := 3) (by decide)) (show rK 175 47 0 = some 48 from rfl) ?_
  refine wp_iload_n (j := 1) rfl q29_ok d29_28 ?_
  refine wp_newP (t := 6) q29_ok d29_29 (by decide +kernel) (by decide) (pushP (by decide +kernel) (by decide +kernel) rfl rfl (by decide +kernel)) ?_
  refine wp_dup rfl q29_ok d29_32 ?_
  refine wp_cI q29_ok d29_33 ml_3_17 (by decide) rfl q45_ok rfl rfl (Nat.le_of_ble_eq_true rfl) (Nat.le_of_ble_eq_true rfl) (i_45_53 (n := n + 0)) (fun v μ hc => ?_)
  obtain ⟨rfl, rfl⟩ := hc
  refine ⟨mm_le_P (by decide) (by decide +kernel), ?_⟩
  refine wp_aastP (t := 24) (u := 6) (m := 60) (j := 41) q29_ok d29_36 (by decide) (soP (n := 175) (x := 48) (t := 24) (by decide)) (soP (n := 175) (x := 172) (t := 6) (by decide)) (hmP (by decide) rfl) (ixn_nI (j := 41) (by decide)) rfl ?_
  refine wp_iinc (j := 1) (v := 42) rfl (by decide) (rfl : _ = [_, _]) q29_ok d29_37 ?_
  refine wp_goto (t := 15) rfl q29_ok d29_40 ?_
  refine wp_iload_n (j := 1) rfl q29_ok d29_15 ?_
  refine wp_aload_n (j := 0) rfl q29_ok d29_16 ?_
  refine wp_getR q29_ok d29_17 fl_3_11 rfl (soP (n := 175) (x := 47) (t := 3) (by decide)) (show rK 178 47 0 = some 48 from rfl) ?_
  refine wp_alen (m := 60) q29_ok d29_20 (by decide) (by decide) (hmP (by decide) rfl) (show _ = (60 : Int32) from rfl) ?_ (by decide)
  refine wp_icmp_ge q29_ok d29_21 (t := 43) rfl (fun h => absurd h (by decide)) (fun _ => ?_)
  refine wp_aload_n (j := 0) rfl q29_ok d29_24 ?_
  refine wp_getR q29_ok d29_25 fl_3_11 rfl (soP (n := 175) (x := 47) (t := 3) (by decide)) (show rK 178 47 0 = some 48 from rfl) ?_
  refine wp_iload_n (j := 1) rfl q29_ok d29_28 ?_
  refine wp_newP (t := 6) q29_ok d29_29 (by decide +kernel) (by decide) (pushP (by decide +kernel) (by decide +kernel) rfl rfl (by decide +kernel)) ?_
  refine wp_dup rfl q29_ok d29_32 ?_
  refine wp_cI q29_ok d29_33 ml_3_17 (by decide) rfl q45_ok rfl rfl (Nat.le_of_ble_eq_true rfl) (Nat.le_of_ble_eq_true rfl) (i_45_54 (n := n + 0)) (fun v μ hc => ?_)
  obtain ⟨rfl, rfl⟩ := hc
  refine ⟨mm_le_P (by decide) (by decide +kernel), ?_⟩
  refine wp_aastP (t := 24) (u := 6) (m := 60) (j := 42) q29_ok d29_36 (by decide) (soP (n := 178) (x := 48) (t := 24) (by decide)) (soP (n := 178) (x := 175) (t := 6) (by decide)) (hmP (by decide) rfl) (ixn_nI (j := 42) (by decide)) rfl ?_
  refine wp_iinc (j := 1) (v := 43) rfl (by decide) (rfl : _ = [_, _]) q29_ok d29_37 ?_
  refine wp_goto (t := 15) rfl q29_ok d29_40 ?_
  refine wp_iload_n (j := 1) rfl q29_ok d29_15 ?_
  refine wp_aload_n (j := 0) rfl q29_ok d29_16 ?_
  refine wp_getR q29_ok d29_17 fl_3_11 rfl (soP (n := 178) (x := 47) (t := 3) (by decide)) (show rK 181 47 0 = some 48 from rfl) ?_
  refine wp_alen (m := 60) q29_ok d29_20 (by decide) (by decide) (hmP (by decide) rfl) (show _ = (60 : Int32) from rfl) ?_ (by decide)
  refine wp_icmp_ge q29_ok d29_21 (t := 43) rfl (fun h => absurd h (by decide)) (fun _ => ?_)
  refine wp_aload_n (j := 0) rfl q29_ok d29_24 ?_
  refine wp_getR q29_ok d29_25 fl_3_11 rfl (soP (n := 178) (x := 47) (t := 3) (by decide)) (show rK 181 47 0 = some 48 from rfl) ?_
  refine wp_iload_n (j := 1) rfl q29_ok d29_28 ?_
  refine wp_newP (t := 6) q29_ok d29_29 (by decide +kernel) (by decide) (pushP (by decide +kernel) (by decide +kernel) rfl rfl (by decide +kernel)) ?_
  refine wp_dup rfl q29_ok d29_32 ?_
  refine wp_cI q29_ok d29_33 ml_3_17 (by decide) rfl q45_ok rfl rfl (Nat.le_of_ble_eq_true rfl) (Nat.le_of_ble_eq_true rfl) (i_45_55 (n := n + 0)) (fun v μ hc => ?_)
  obtain ⟨rfl, rfl⟩ := hc
  refine ⟨mm_le_P (by decide) (by decide +kernel), ?_⟩
  refine wp_aastP (t := 24) (u := 6) (m := 60) (j := 43) q29_ok d29_36 (by decide) (soP (n := 181) (x := 48) (t := 24) (by decide)) (soP (n := 181) (x := 178) (t := 6) (by decide)) (hmP (by decide) rfl) (ixn_nI (j := 43) (by decide)) rfl ?_
  refine wp_iinc (j := 1) (v := 44) rfl (by decide) (rfl : _ = [_, _]) q29_ok d29_37 ?_
  refine wp_goto (t := 15) rfl q29_ok d29_40 ?_
  refine wp_iload_n (j := 1) rfl q29_ok d29_15 ?_
  refine wp_aload_n (j := 0) rfl q29_ok d29_16 ?_
  refine wp_getR q29_ok d29_17 fl_3_11 rfl (soP (n := 181) (x := 47) (t := 3) (by decide)) (show rK 184 47 0 = some 48 from rfl) ?_
  refine wp_alen (m := 60) q29_ok d29_20 (by decide) (by decide) (hmP (by decide) rfl) (show _ = (60 : Int32) from rfl) ?_ (by decide)
  refine wp_icmp_ge q29_ok d29_21 (t := 43) rfl (fun h => absurd h (by decide)) (fun _ => ?_)
  refine wp_aload_n (j := 0) rfl q29_ok d29_24 ?_
  refine wp_getR q29_ok d29_25 fl_3_11 rfl (soP (n := 181) (x := 47) (t := 3) (by decide)) (show rK 184 47 0 = some 48 from rfl) ?_
  refine wp_iload_n (j := 1) rfl q29_ok d29_28 ?_
  refine wp_newP (t := 6) q29_ok d29_29 (by decide +kernel) (by decide) (pushP (by decide +kernel) (by decide +kernel) rfl rfl (by decide +kernel)) ?_
  refine wp_dup rfl q29_ok d29_32 ?_
  refine wp_cI q29_ok d29_33 ml_3_17 (by decide) rfl q45_ok rfl rfl (Nat.le_of_ble_eq_true rfl) (Nat.le_of_ble_eq_true rfl) (i_45_56 (n := n + 0)) (fun v μ hc => ?_)
  obtain ⟨rfl, rfl⟩ := hc
  refine ⟨mm_le_P (by decide) (by decide +kernel), ?_⟩
  refine wp_aastP (t := 24) (u := 6) (m := 60) (j := 44) q29_ok d29_36 (by decide) (soP (n := 184) (x := 48) (t := 24) (by decide)) (soP (n := 184) (x := 181) (t := 6) (by decide)) (hmP (by decide) rfl) (ixn_nI (j := 44) (by decide)) rfl ?_
  refine wp_iinc (j := 1) (v := 45) rfl (by decide) (rfl : _ = [_, _]) q29_ok d29_37 ?_
  refine wp_goto (t := 15) rfl q29_ok d29_40 ?_
  refine wp_iload_n (j := 1) rfl q29_ok d29_15 ?_
  refine wp_aload_n (j := 0) rfl q29_ok d29_16 ?_
  refine wp_getR q29_ok d29_17 fl_3_11 rfl (soP (n := 184) (x := 47) (t := 3) (by decide)) (show rK 187 47 0 = some 48 from rfl) ?_
  refine wp_alen (m := 60) q29_ok d29_20 (by decide) (by decide) (hmP (by decide) rfl) (show _ = (60 : Int32) from rfl) ?_ (by decide)
  refine wp_icmp_ge q29_ok d29_21 (t := 43) rfl (fun h => absurd h (by decide)) (fun _ => ?_)
  refine wp_aload_n (j := 0) rfl q29_ok d29_24 ?_
  refine wp_getR q29_ok d29_25 fl_3_11 rfl (soP (n := 184) (x := 47) (t := 3) (by decide)) (show rK 187 47 0 = some 48 from rfl) ?_
  refine wp_iload_n (j := 1) rfl q29_ok d29_28 ?_
  refine wp_newP (t := 6) q29_ok d29_29 (by decide +kernel) (by decide) (pushP (by decide +kernel) (by decide +kernel) rfl rfl (by decide +kernel)) ?_
  refine wp_dup rfl q29_ok d29_32 ?_
  refine wp_cI q29_ok d29_33 ml_3_17 (by decide) rfl q45_ok rfl rfl (Nat.le_of_ble_eq_true rfl) (Nat.le_of_ble_eq_true rfl) (i_45_57 (n := n + 0)) (fun v μ hc => ?_)
  obtain ⟨rfl, rfl⟩ := hc
  refine ⟨mm_le_P (by decide) (by decide +kernel), ?_⟩
  refine wp_aastP (t := 24) (u := 6) (m := 60) (j := 45) q29_ok d29_36 (by decide) (soP (n := 187) (x := 48) (t := 24) (by decide)) (soP (n := 187) (x := 184) (t := 6) (by decide)) (hmP (by decide) rfl) (ixn_nI (j := 45) (by decide)) rfl ?_
  refine wp_iinc (j := 1) (v := 46) rfl (by decide) (rfl : _ = [_, _]) q29_ok d29_37 ?_
  refine wp_goto (t := 15) rfl q29_ok d29_40 ?_
  refine wp_iload_n (j := 1) rfl q29_ok d29_15 ?_
  refine wp_aload_n (j := 0) rfl q29_ok d29_16 ?_
  refine wp_getR q29_ok d29_17 fl_3_11 rfl (soP (n := 187) (x := 47) (t := 3) (by decide)) (show rK 190 47 0 = some 48 from rfl) ?_
  refine wp_alen (m := 60) q29_ok d29_20 (by decide) (by decide) (hmP (by decide) rfl) (show _ = (60 : Int32) from rfl) ?_ (by decide)
  refine wp_icmp_ge q29_ok d29_21 (t := 43) rfl (fun h => absurd h (by decide)) (fun _ => ?_)
  refine wp_aload_n (j := 0) rfl q29_ok d29_24 ?_
  refine wp_getR q29_ok d29_25 fl_3_11 rfl (soP (n := 187) (x := 47) (t := 3) (by decide)) (show rK 190 47 0 = some 48 from rfl) ?_
  refine wp_iload_n (j := 1) rfl q29_ok d29_28 ?_
  refine wp_newP (t := 6) q29_ok d29_29 (by decide +kernel) (by decide) (pushP (by decide +kernel) (by decide +kernel) rfl rfl (by decide +kernel)) ?_
  refine wp_dup rfl q29_ok d29_32 ?_
  refine wp_cI q29_ok d29_33 ml_3_17 (by decide) rfl q45_ok rfl rfl (Nat.le_of_ble_eq_true rfl) (Nat.le_of_ble_eq_true rfl) (i_45_58 (n := n + 0)) (fun v μ hc => ?_)
  obtain ⟨rfl, rfl⟩ := hc
  refine ⟨mm_le_P (by decide) (by decide +kernel), ?_⟩
  refine wp_aastP (t := 24) (u := 6) (m := 60) (j := 46) q29_ok d29_36 (by decide) (soP (n := 190) (x := 48) (t := 24) (by decide)) (soP (n := 190) (x := 187) (t := 6) (by decide)) (hmP (by decide) rfl) (ixn_nI (j := 46) (by decide)) rfl ?_
  refine wp_iinc (j := 1) (v := 47) rfl (by decide) (rfl : _ = [_, _]) q29_ok d29_37 ?_
  refine wp_goto (t := 15) rfl q29_ok d29_40 ?_
  refine wp_iload_n (j := 1) rfl q29_ok d29_15 ?_
  refine wp_aload_n (j := 0) rfl q29_ok d29_16 ?_
  refine wp_getR q29_ok d29_17 fl_3_11 rfl (soP (n := 190) (x := 47) (t := 3) (by decide)) (show rK 193 47 0 = some 48 from rfl) ?_
  refine wp_alen (m := 60) q29_ok d29_20 (by decide) (by decide) (hmP (by decide) rfl) (show _ = (60 : Int32) from rfl) ?_ (by decide)
  refine wp_icmp_ge q29_ok d29_21 (t := 43) rfl (fun h => absurd h (by decide)) (fun _ => ?_)
  refine wp_aload_n (j := 0) rfl q29_ok d29_24 ?_
  refine wp_getR q29_ok d29_25 fl_3_11 rfl (soP (n := 190) (x := 47) (t := 3) (by decide)) (show rK 193 47 0 = some 48 from rfl) ?_
  refine wp_iload_n (j := 1) rfl q29_ok d29_28 ?_
  refine wp_newP (t := 6) q29_ok d29_29 (by decide +kernel) (by decide) (pushP (by decide +kernel) (by decide +kernel) rfl rfl (by decide +kernel)) ?_
  refine wp_dup rfl q29_ok d29_32 ?_
  refine wp_cI q29_ok d29_33 ml_3_17 (by decide) rfl q45_ok rfl rfl (Nat.le_of_ble_eq_true rfl) (Nat.le_of_ble_eq_true rfl) (i_45_59 (n := n + 0)) (fun v μ hc => ?_)
  obtain ⟨rfl, rfl⟩ := hc
  refine ⟨mm_le_P (by decide) (by decide +kernel), ?_⟩
  refine wp_aastP (t := 24) (u := 6) (m := 60) (j := 47) q29_ok d29_36 (by decide) (soP (n := 193) (x := 48) (t := 24) (by decide)) (soP (n := 193) (x := 190) (t := 6) (by decide)) (hmP (by decide) rfl) (ixn_nI (j := 47) (by decide)) rfl ?_
  refine wp_iinc (j := 1) (v := 48) rfl (by decide) (rfl : _ = [_, _]) q29_ok d29_37 ?_
  refine wp_goto (t := 15) rfl q29_ok d29_40 ?_
  refine wp_iload_n (j := 1) rfl q29_ok d29_15 ?_
  refine wp_aload_n (j := 0) rfl q29_ok d29_16 ?_
  refine wp_getR q29_ok d29_17 fl_3_11 rfl (soP (n := 193) (x := 47) (t := 3) (by decide)) (show rK 196 47 0 = some 48 from rfl) ?_
  refine wp_alen (m := 60) q29_ok d29_20 (by decide) (by decide) (hmP (by decide) rfl) (show _ = (60 : Int32) from rfl) ?_ (by decide)
  refine wp_icmp_ge q29_ok d29_21 (t := 43) rfl (fun h => absurd h (by decide)) (fun _ => ?_)
  refine wp_aload_n (j := 0) rfl q29_ok d29_24 ?_
  refine wp_getR q29_ok d29_25 fl_3_11 rfl (soP (n := 193) (x := 47) (t := 3) (by decide)) (show rK 196 47 0 = some 48 from rfl) ?_
  refine wp_iload_n (j := 1) rfl q29_ok d29_28 ?_
  refine wp_newP (t := 6) q29_ok d29_29 (by decide +kernel) (by decide) (pushP (by decide +kernel) (by decide +kernel) rfl rfl (by decide +kernel)) ?_
  refine wp_dup rfl q29_ok d29_32 ?_
  refine wp_cI q29_ok d29_33 ml_3_17 (by decide) rfl q45_ok rfl rfl (Nat.le_of_ble_eq_true rfl) (Nat.le_of_ble_eq_true rfl) (i_45_60 (n := n + 0)) (fun v μ hc => ?_)
  obtain ⟨rfl, rfl⟩ := hc
  refine ⟨mm_le_P (by decide) (by decide +kernel), ?_⟩
  refine wp_aastP (t := 24) (u := 6) (m := 60) (j := 48) q29_ok d29_36 (by decide) (soP (n := 196) (x := 48) (t := 24) (by decide)) (soP (n := 196) (x := 193) (t := 6) (by decide)) (hmP (by decide) rfl) (ixn_nI (j := 48) (by decide)) rfl ?_
  refine wp_iinc (j := 1) (v := 49) rfl (by decide) (rfl : _ = [_, _]) q29_ok d29_37 ?_
  refine wp_goto (t := 15) rfl q29_ok d29_40 ?_
  refine wp_iload_n (j := 1) rfl q29_ok d29_15 ?_
  refine wp_aload_n (j := 0) rfl q29_ok d29_16 ?_
  refine wp_getR q29_ok d29_17 fl_3_11 rfl (soP (n := 196) (x := 47) (t := 3) (by decide)) (show rK 199 47 0 = some 48 from rfl) ?_
  refine wp_alen (m := 60) q29_ok d29_20 (by decide) (by decide) (hmP (by decide) rfl) (show _ = (60 : Int32) from rfl) ?_ (by decide)
  refine wp_icmp_ge q29_ok d29_21 (t := 43) rfl (fun h => absurd h (by decide)) (fun _ => ?_)
  refine wp_aload_n (j := 0) rfl q29_ok d29_24 ?_
  refine wp_getR q29_ok d29_25 fl_3_11 rfl (soP (n := 196) (x := 47) (t := 3) (by decide)) (show rK 199 47 0 = some 48 from rfl) ?_
  refine wp_iload_n (j := 1) rfl q29_ok d29_28 ?_
  refine wp_newP (t := 6) q29_ok d29_29 (by decide +kernel) (by decide) (pushP (by decide +kernel) (by decide +kernel) rfl rfl (by decide +kernel)) ?_
  refine wp_dup rfl q29_ok d29_32 ?_
  refine wp_cI q29_ok d29_33 ml_3_17 (by decide) rfl q45_ok rfl rfl (Nat.le_of_ble_eq_true rfl) (Nat.le_of_ble_eq_true rfl) (i_45_61 (n := n + 0)) (fun v μ hc => ?_)
  obtain ⟨rfl, rfl⟩ := hc
  refine ⟨mm_le_P (by decide) (by decide +kernel), ?_⟩
  refine wp_aastP (t := 24) (u := 6) (m := 60) (j := 49) q29_ok d29_36 (by decide) (soP (n := 199) (x := 48) (t := 24) (by decide)) (soP (n := 199) (x := 196) (t := 6) (by decide)) (hmP (by decide) rfl) (ixn_nI (j := 49) (by decide)) rfl ?_
  refine wp_iinc (j := 1) (v := 50) rfl (by decide) (rfl : _ = [_, _]) q29_ok d29_37 ?_
  refine wp_goto (t := 15) rfl q29_ok d29_40 ?_
  refine wp_iload_n (j := 1) rfl q29_ok d29_15 ?_
  refine wp_aload_n (j := 0) rfl q29_ok d29_16 ?_
  refine wp_getR q29_ok d29_17 fl_3_11 rfl (soP (n := 199) (x := 47) (t := 3) (by decide)) (show rK 202 47 0 = some 48 from rfl) ?_
  refine wp_alen (m := 60) q29_ok d29_20 (by decide) (by decide) (hmP (by decide) rfl) (show _ = (60 : Int32) from rfl) ?_ (by decide)
  refine wp_icmp_ge q29_ok d29_21 (t := 43) rfl (fun h => absurd h (by decide)) (fun _ => ?_)
  refine wp_aload_n (j := 0) rfl q29_ok d29_24 ?_
  refine wp_getR q29_ok d29_25 fl_3_11 rfl (soP (n := 199) (x := 47) (t := 3) (by decide)) (show rK 202 47 0 = some 48 from rfl) ?_
  refine wp_iload_n (j := 1) rfl q29_ok d29_28 ?_
  refine wp_newP (t := 6) q29_ok d29_29 (by decide +kernel) (by decide) (pushP (by decide +kernel) (by decide +kernel) rfl rfl (by decide +kernel)) ?_
  refine wp_dup rfl q29_ok d29_32 ?_
  refine wp_cI q29_ok d29_33 ml_3_17 (by decide) rfl q45_ok rfl rfl (Nat.le_of_ble_eq_true rfl) (Nat.le_of_ble_eq_true rfl) (i_45_62 (n := n + 0)) (fun v μ hc => ?_)
  obtain ⟨rfl, rfl⟩ := hc
  refine ⟨mm_le_P (by decide) (by decide +kernel), ?_⟩
  refine wp_aastP (t := 24) (u := 6) (m := 60) (j := 50) q29_ok d29_36 (by decide) (soP (n := 202) (x := 48) (t := 24) (by decide)) (soP (n := 202) (x := 199) (t := 6) (by decide)) (hmP (by decide) rfl) (ixn_nI (j := 50) (by decide)) rfl ?_
  refine wp_iinc (j := 1) (v := 51) rfl (by decide) (rfl : _ = [_, _]) q29_ok d29_37 ?_
  refine wp_goto (t := 15) rfl q29_ok d29_40 ?_
  refine wp_iload_n (j := 1) rfl q29_ok d29_15 ?_
  refine wp_aload_n (j := 0) rfl q29_ok d29_16 ?_
  refine wp_getR q29_ok d29_17 fl_3_11 rfl (soP (n := 202) (x := 47) (t := 3) (by decide)) (show rK 205 47 0 = some 48 from rfl) ?_
  refine wp_alen (m := 60) q29_ok d29_20 (by decide) (by decide) (hmP (by decide) rfl) (show _ = (60 : Int32) from rfl) ?_ (by decide)
  refine wp_icmp_ge q29_ok d29_21 (t := 43) rfl (fun h => absurd h (by decide)) (fun _ => ?_)
  refine wp_aload_n (j := 0) rfl q29_ok d29_24 ?_
  refine wp_getR q29_ok d29_25 fl_3_11 rfl (soP (n := 202) (x := 47) (t := 3) (by decide)) (show rK 205 47 0 = some 48 from rfl) ?_
  refine wp_iload_n (j := 1) rfl q29_ok d29_28 ?_
  refine wp_newP (t := 6) q29_ok d29_29 (by decide +kernel) (by decide) (pushP (by decide +kernel) (by decide +kernel) rfl rfl (by decide +kernel)) ?_
  refine wp_dup rfl q29_ok d29_32 ?_
  refine wp_cI q29_ok d29_33 ml_3_17 (by decide) rfl q45_ok rfl rfl (Nat.le_of_ble_eq_true rfl) (Nat.le_of_ble_eq_true rfl) (i_45_63 (n := n + 0)) (fun v μ hc => ?_)
  obtain ⟨rfl, rfl⟩ := hc
  refine ⟨mm_le_P (by decide) (by decide +kernel), ?_⟩
  refine wp_aastP (t := 24) (u := 6) (m := 60) (j := 51) q29_ok d29_36 (by decide) (soP (n := 205) (x := 48) (t := 24) (by decide)) (soP (n := 205) (x := 202) (t := 6) (by decide)) (hmP (by decide) rfl) (ixn_nI (j := 51) (by decide)) rfl ?_
  refine wp_iinc (j := 1) (v := 52) rfl (by decide) (rfl : _ = [_, _]) q29_ok d29_37 ?_
  refine wp_goto (t := 15) rfl q29_ok d29_40 ?_
  refine wp_iload_n (j := 1) rfl q29_ok d29_15 ?_
  refine wp_aload_n (j := 0) rfl q29_ok d29_16 ?_
  refine wp_getR q29_ok d29_17 fl_3_11 rfl (soP (n := 205) (x := 47) (t := 3) (by decide)) (show rK 208 47 0 = some 48 from rfl) ?_
  refine wp_alen (m := 60) q29_ok d29_20 (by decide) (by decide) (hmP (by decide) rfl) (show _ = (60 : Int32) from rfl) ?_ (by decide)
  refine wp_icmp_ge q29_ok d29_21 (t := 43) rfl (fun h => absurd h (by decide)) (fun _ => ?_)
  refine wp_aload_n (j := 0) rfl q29_ok d29_24 ?_
  refine wp_getR q29_ok d29_25 fl_3_11 rfl (soP (n := 205) (x := 47) (t := 3) (by decide)) (show rK 208 47 0 = some 48 from rfl) ?_
  refine wp_iload_n (j := 1) rfl q29_ok d29_28 ?_
  refine wp_newP (t := 6) q29_ok d29_29 (by decide +kernel) (by decide) (pushP (by decide +kernel) (by decide +kernel) rfl rfl (by decide +kernel)) ?_
  refine wp_dup rfl q29_ok d29_32 ?_
  refine wp_cI q29_ok d29_33 ml_3_17 (by decide) rfl q45_ok rfl rfl (Nat.le_of_ble_eq_true rfl) (Nat.le_of_ble_eq_true rfl) (i_45_64 (n := n + 0)) (fun v μ hc => ?_)
  obtain ⟨rfl, rfl⟩ := hc
  refine ⟨mm_le_P (by decide) (by decide +kernel), ?_⟩
  refine wp_aastP (t := 24) (u := 6) (m := 60) (j := 52) q29_ok d29_36 (by decide) (soP (n := 208) (x := 48) (t := 24) (by decide)) (soP (n := 208) (x := 205) (t := 6) (by decide)) (hmP (by decide) rfl) (ixn_nI (j := 52) (by decide)) rfl ?_
  refine wp_iinc (j := 1) (v := 53) rfl (by decide) (rfl : _ = [_, _]) q29_ok d29_37 ?_
  refine wp_goto (t := 15) rfl q29_ok d29_40 ?_
  refine wp_iload_n (j := 1) rfl q29_ok d29_15 ?_
  refine wp_aload_n (j := 0) rfl q29_ok d29_16 ?_
  refine wp_getR q29_ok d29_17 fl_3_11 rfl (soP (n := 208) (x := 47) (t := 3) (by decide)) (show rK 211 47 0 = some 48 from rfl) ?_
  refine wp_alen (m := 60) q29_ok d29_20 (by decide) (by decide) (hmP (by decide) rfl) (show _ = (60 : Int32) from rfl) ?_ (by decide)
  refine wp_icmp_ge q29_ok d29_21 (t := 43) rfl (fun h => absurd h (by decide)) (fun _ => ?_)
  refine wp_aload_n (j := 0) rfl q29_ok d29_24 ?_
  refine wp_getR q29_ok d29_25 fl_3_11 rfl (soP (n := 208) (x := 47) (t := 3) (by decide)) (show rK 211 47 0 = some 48 from rfl) ?_
  refine wp_iload_n (j := 1) rfl q29_ok d29_28 ?_
  refine wp_newP (t := 6) q29_ok d29_29 (by decide +kernel) (by decide) (pushP (by decide +kernel) (by decide +kernel) rfl rfl (by decide +kernel)) ?_
  refine wp_dup rfl q29_ok d29_32 ?_
  refine wp_cI q29_ok d29_33 ml_3_17 (by decide) rfl q45_ok rfl rfl (Nat.le_of_ble_eq_true rfl) (Nat.le_of_ble_eq_true rfl) (i_45_65 (n := n + 0)) (fun v μ hc => ?_)
  obtain ⟨rfl, rfl⟩ := hc
  refine ⟨mm_le_P (by decide) (by decide +kernel), ?_⟩
  refine wp_aastP (t := 24) (u := 6) (m := 60) (j := 53) q29_ok d29_36 (by decide) (soP (n := 211) (x := 48) (t := 24) (by decide)) (soP (n := 211) (x := 208) (t := 6) (by decide)) (hmP (by decide) rfl) (ixn_nI (j := 53) (by decide)) rfl ?_
  refine wp_iinc (j := 1) (v := 54) rfl (by decide) (rfl : _ = [_, _]) q29_ok d29_37 ?_
  refine wp_goto (t := 15) rfl q29_ok d29_40 ?_
  refine wp_iload_n (j := 1) rfl q29_ok d29_15 ?_
  refine wp_aload_n (j := 0) rfl q29_ok d29_16 ?_
  refine wp_getR q29_ok d29_17 fl_3_11 rfl (soP (n := 211) (x := 47) (t := 3) (by decide)) (show rK 214 47 0 = some 48 from rfl) ?_
  refine wp_alen (m := 60) q29_ok d29_20 (by decide) (by decide) (hmP (by decide) rfl) (show _ = (60 : Int32) from rfl) ?_ (by decide)
  refine wp_icmp_ge q29_ok d29_21 (t := 43) rfl (fun h => absurd h (by decide)) (fun _ => ?_)
  refine wp_aload_n (j := 0) rfl q29_ok d29_24 ?_
  refine wp_getR q29_ok d29_25 fl_3_11 rfl (soP (n := 211) (x := 47) (t := 3) (by decide)) (show rK 214 47 0 = some 48 from rfl) ?_
  refine wp_iload_n (j := 1) rfl q29_ok d29_28 ?_
  refine wp_newP (t := 6) q29_ok d29_29 (by decide +kernel) (by decide) (pushP (by decide +kernel) (by decide +kernel) rfl rfl (by decide +kernel)) ?_
  refine wp_dup rfl q29_ok d29_32 ?_
  refine wp_cI q29_ok d29_33 ml_3_17 (by decide) rfl q45_ok rfl rfl (Nat.le_of_ble_eq_true rfl) (Nat.le_of_ble_eq_true rfl) (i_45_66 (n := n + 0)) (fun v μ hc => ?_)
  obtain ⟨rfl, rfl⟩ := hc
  refine ⟨mm_le_P (by decide) (by decide +kernel), ?_⟩
  refine wp_aastP (t := 24) (u := 6) (m := 60) (j := 54) q29_ok d29_36 (by decide) (soP (n := 214) (x := 48) (t := 24) (by decide)) (soP (n := 214) (x := 211) (t := 6) (by decide)) (hmP (by decide) rfl) (ixn_nI (j := 54) (by decide)) rfl ?_
  refine wp_iinc (j := 1) (v := 55) rfl (by decide) (rfl : _ = [_, _]) q29_ok d29_37 ?_
  refine wp_goto (t := 15) rfl q29_ok d29_40 ?_
  refine wp_iload_n (j := 1) rfl q29_ok d29_15 ?_
  refine wp_aload_n (j := 0) rfl q29_ok d29_16 ?_
  refine wp_getR q29_ok d29_17 fl_3_11 rfl (soP (n := 214) (x := 47) (t := 3) (by decide)) (show rK 217 47 0 = some 48 from rfl) ?_
  refine wp_alen (m := 60) q29_ok d29_20 (by decide) (by decide) (hmP (by decide) rfl) (show _ = (60 : Int32) from rfl) ?_ (by decide)
  refine wp_icmp_ge q29_ok d29_21 (t := 43) rfl (fun h => absurd h (by decide)) (fun _ => ?_)
  refine wp_aload_n (j := 0) rfl q29_ok d29_24 ?_
  refine wp_getR q29_ok d29_25 fl_3_11 rfl (soP (n := 214) (x := 47) (t := 3) (by decide)) (show rK 217 47 0 = some 48 from rfl) ?_
  refine wp_iload_n (j := 1) rfl q29_ok d29_28 ?_
  refine wp_newP (t := 6) q29_ok d29_29 (by decide +kernel) (by decide) (pushP (by decide +kernel) (by decide +kernel) rfl rfl (by decide +kernel)) ?_
  refine wp_dup rfl q29_ok d29_32 ?_
  refine wp_cI q29_ok d29_33 ml_3_17 (by decide) rfl q45_ok rfl rfl (Nat.le_of_ble_eq_true rfl) (Nat.le_of_ble_eq_true rfl) (i_45_67 (n := n + 0)) (fun v μ hc => ?_)
  obtain ⟨rfl, rfl⟩ := hc
  refine ⟨mm_le_P (by decide) (by decide +kernel), ?_⟩
  refine wp_aastP (t := 24) (u := 6) (m := 60) (j := 55) q29_ok d29_36 (by decide) (soP (n := 217) (x := 48) (t := 24) (by decide)) (soP (n := 217) (x := 214) (t := 6) (by decide)) (hmP (by decide) rfl) (ixn_nI (j := 55) (by decide)) rfl ?_
  refine wp_iinc (j := 1) (v := 56) rfl (by decide) (rfl : _ = [_, _]) q29_ok d29_37 ?_
  refine wp_goto (t := 15) rfl q29_ok d29_40 ?_
  refine wp_iload_n (j := 1) rfl q29_ok d29_15 ?_
  refine wp_aload_n (j := 0) rfl q29_ok d29_16 ?_
  refine wp_getR q29_ok d29_17 fl_3_11 rfl (soP (n := 217) (x := 47) (t := 3) (by decide)) (show rK 220 47 0 = some 48 from rfl) ?_
  refine wp_alen (m := 60) q29_ok d29_20 (by decide) (by decide) (hmP (by decide) rfl) (show _ = (60 : Int32) from rfl) ?_ (by decide)
  refine wp_icmp_ge q29_ok d29_21 (t := 43) rfl (fun h => absurd h (by decide)) (fun _ => ?_)
  refine wp_aload_n (j := 0) rfl q29_ok d29_24 ?_
  refine wp_getR q29_ok d29_25 fl_3_11 rfl (soP (n := 217) (x := 47) (t := 3) (by decide)) (show rK 220 47 0 = some 48 from rfl) ?_
  refine wp_iload_n (j := 1) rfl q29_ok d29_28 ?_
  refine wp_newP (t := 6) q29_ok d29_29 (by decide +kernel) (by decide) (pushP (by decide +kernel) (by decide +kernel) rfl rfl (by decide +kernel)) ?_
  refine wp_dup rfl q29_ok d29_32 ?_
  refine wp_cI q29_ok d29_33 ml_3_17 (by decide) rfl q45_ok rfl rfl (Nat.le_of_ble_eq_true rfl) (Nat.le_of_ble_eq_true rfl) (i_45_68 (n := n + 0)) (fun v μ hc => ?_)
  obtain ⟨rfl, rfl⟩ := hc
  refine ⟨mm_le_P (by decide) (by decide +kernel), ?_⟩
  refine wp_aastP (t := 24) (u := 6) (m := 60) (j := 56) q29_ok d29_36 (by decide) (soP (n := 220) (x := 48) (t := 24) (by decide)) (soP (n := 220) (x := 217) (t := 6) (by decide)) (hmP (by decide) rfl) (ixn_nI (j := 56) (by decide)) rfl ?_
  refine wp_iinc (j := 1) (v := 57) rfl (by decide) (rfl : _ = [_, _]) q29_ok d29_37 ?_
  refine wp_goto (t := 15) rfl q29_ok d29_40 ?_
  refine wp_iload_n (j := 1) rfl q29_ok d29_15 ?_
  refine wp_aload_n (j := 0) rfl q29_ok d29_16 ?_
  refine wp_getR q29_ok d29_17 fl_3_11 rfl (soP (n := 220) (x := 47) (t := 3) (by decide)) (show rK 223 47 0 = some 48 from rfl) ?_
  refine wp_alen (m := 60) q29_ok d29_20 (by decide) (by decide) (hmP (by decide) rfl) (show _ = (60 : Int32) from rfl) ?_ (by decide)
  refine wp_icmp_ge q29_ok d29_21 (t := 43) rfl (fun h => absurd h (by decide)) (fun _ => ?_)
  refine wp_aload_n (j := 0) rfl q29_ok d29_24 ?_
  refine wp_getR q29_ok d29_25 fl_3_11 rfl (soP (n := 220) (x := 47) (t := 3) (by decide)) (show rK 223 47 0 = some 48 from rfl) ?_
  refine wp_iload_n (j := 1) rfl q29_ok d29_28 ?_
  refine wp_newP (t := 6) q29_ok d29_29 (by decide +kernel) (by decide) (pushP (by decide +kernel) (by decide +kernel) rfl rfl (by decide +kernel)) ?_
  refine wp_dup rfl q29_ok d29_32 ?_
  refine wp_cI q29_ok d29_33 ml_3_17 (by decide) rfl q45_ok rfl rfl (Nat.le_of_ble_eq_true rfl) (Nat.le_of_ble_eq_true rfl) (i_45_69 (n := n + 0)) (fun v μ hc => ?_)
  obtain ⟨rfl, rfl⟩ := hc
  refine ⟨mm_le_P (by decide) (by decide +kernel), ?_⟩
  refine wp_aastP (t := 24) (u := 6) (m := 60) (j := 57) q29_ok d29_36 (by decide) (soP (n := 223) (x := 48) (t := 24) (by decide)) (soP (n := 223) (x := 220) (t := 6) (by decide)) (hmP (by decide) rfl) (ixn_nI (j := 57) (by decide)) rfl ?_
  refine wp_iinc (j := 1) (v := 58) rfl (by decide) (rfl : _ = [_, _]) q29_ok d29_37 ?_
  refine wp_goto (t := 15) rfl q29_ok d29_40 ?_
  refine wp_iload_n (j := 1) rfl q29_ok d29_15 ?_
  refine wp_aload_n (j := 0) rfl q29_ok d29_16 ?_
  refine wp_getR q29_ok d29_17 fl_3_11 rfl (soP (n := 223) (x := 47) (t := 3) (by decide)) (show rK 226 47 0 = some 48 from rfl) ?_
  refine wp_alen (m := 60) q29_ok d29_20 (by decide) (by decide) (hmP (by decide) rfl) (show _ = (60 : Int32) from rfl) ?_ (by decide)
  refine wp_icmp_ge q29_ok d29_21 (t := 43) rfl (fun h => absurd h (by decide)) (fun _ => ?_)
  refine wp_aload_n (j := 0) rfl q29_ok d29_24 ?_
  refine wp_getR q29_ok d29_25 fl_3_11 rfl (soP (n := 223) (x := 47) (t := 3) (by decide)) (show rK 226 47 0 = some 48 from rfl) ?_
  refine wp_iload_n (j := 1) rfl q29_ok d29_28 ?_
  refine wp_newP (t := 6) q29_ok d29_29 (by decide +kernel) (by decide) (pushP (by decide +kernel) (by decide +kernel) rfl rfl (by decide +kernel)) ?_
  refine wp_dup rfl q29_ok d29_32 ?_
  refine wp_cI q29_ok d29_33 ml_3_17 (by decide) rfl q45_ok rfl rfl (Nat.le_of_ble_eq_true rfl) (Nat.le_of_ble_eq_true rfl) (i_45_70 (n := n + 0)) (fun v μ hc => ?_)
  obtain ⟨rfl, rfl⟩ := hc
  refine ⟨mm_le_P (by decide) (by decide +kernel), ?_⟩
  refine wp_aastP (t := 24) (u := 6) (m := 60) (j := 58) q29_ok d29_36 (by decide) (soP (n := 226) (x := 48) (t := 24) (by decide)) (soP (n := 226) (x := 223) (t := 6) (by decide)) (hmP (by decide) rfl) (ixn_nI (j := 58) (by decide)) rfl ?_
  refine wp_iinc (j := 1) (v := 59) rfl (by decide) (rfl : _ = [_, _]) q29_ok d29_37 ?_
  refine wp_goto (t := 15) rfl q29_ok d29_40 ?_
  refine wp_iload_n (j := 1) rfl q29_ok d29_15 ?_
  refine wp_aload_n (j := 0) rfl q29_ok d29_16 ?_
  refine wp_getR q29_ok d29_17 fl_3_11 rfl (soP (n := 226) (x := 47) (t := 3) (by decide)) (show rK 229 47 0 = some 48 from rfl) ?_
  refine wp_alen (m := 60) q29_ok d29_20 (by decide) (by decide) (hmP (by decide) rfl) (show _ = (60 : Int32) from rfl) ?_ (by decide)
  refine wp_icmp_ge q29_ok d29_21 (t := 43) rfl (fun h => absurd h (by decide)) (fun _ => ?_)
  refine wp_aload_n (j := 0) rfl q29_ok d29_24 ?_
  refine wp_getR q29_ok d29_25 fl_3_11 rfl (soP (n := 226) (x := 47) (t := 3) (by decide)) (show rK 229 47 0 = some 48 from rfl) ?_
  refine wp_iload_n (j := 1) rfl q29_ok d29_28 ?_
  refine wp_newP (t := 6) q29_ok d29_29 (by decide +kernel) (by decide) (pushP (by decide +kernel) (by decide +kernel) rfl rfl (by decide +kernel)) ?_
  refine wp_dup rfl q29_ok d29_32 ?_
  refine wp_cI q29_ok d29_33 ml_3_17 (by decide) rfl q45_ok rfl rfl (Nat.le_of_ble_eq_true rfl) (Nat.le_of_ble_eq_true rfl) (i_45_71 (n := n + 0)) (fun v μ hc => ?_)
  obtain ⟨rfl, rfl⟩ := hc
  refine ⟨mm_le_P (by decide) (by decide +kernel), ?_⟩
  refine wp_aastP (t := 24) (u := 6) (m := 60) (j := 59) q29_ok d29_36 (by decide) (soP (n := 229) (x := 48) (t := 24) (by decide)) (soP (n := 229) (x := 226) (t := 6) (by decide)) (hmP (by decide) rfl) (ixn_nI (j := 59) (by decide)) rfl ?_
  refine wp_iinc (j := 1) (v := 60) rfl (by decide) (rfl : _ = [_, _]) q29_ok d29_37 ?_
  refine wp_goto (t := 15) rfl q29_ok d29_40 ?_
  refine wp_iload_n (j := 1) rfl q29_ok d29_15 ?_
  refine wp_aload_n (j := 0) rfl q29_ok d29_16 ?_
  refine wp_getR q29_ok d29_17 fl_3_11 rfl (soP (n := 229) (x := 47) (t := 3) (by decide)) (show rK 232 47 0 = some 48 from rfl) ?_
  refine wp_alen (m := 60) q29_ok d29_20 (by decide) (by decide) (hmP (by decide) rfl) (show _ = (60 : Int32) from rfl) ?_ (by decide)
  refine wp_icmp_ge q29_ok d29_21 (t := 43) rfl (fun _ => ?_) (fun h => absurd (by decide) h)
  refine wp_vret q29_ok d29_43 rfl ?_
  exact ⟨rfl, rfl⟩
theorem i_24_72 {xs : List Int32} {ext : mm_X} {n : Nat} : wp xs ext (n + 1) 24 0 [some (.ref 229)] [] (shP 230, dC1, gC, rK 233) (fun v μ => v = none ∧ μ = (shP 232, dC1, gC, rK 235)) := by
  refine wp_aload_n (j := 0) rfl q24_ok d24_0 ?_
  refine wp_objinit q24_ok d24_1 ml_2_3 rfl (Nat.le_of_ble_eq_true rfl) ?_
  refine wp_aload_n (j := 0) rfl q24_ok d24_4 ?_
  refine wp_bipush (v := 20) (by decide) q24_ok d24_5 ?_
  refine wp_newaP (t := 20) (m := 20) q24_ok d24_7 (by decide) (ixn_nI (j := 20) (by decide)) (by decide) (pushP (by decide +kernel) (by decide +kernel) rfl rfl (by decide +kernel)) ?_
  refine wp_putRP q24_ok d24_9 fl_2_9 rfl (soP (n := 231) (x := 229) (t := 2) (by decide)) (Or.inr ⟨rfl, rfl, rfl⟩) (by decide) rfl ?_
  refine wp_aload_n (j := 0) rfl q24_ok d24_12 ?_
  refine wp_bipush (v := 20) (by decide) q24_ok d24_13 ?_
  refine wp_newaP (t := 21) (m := 20) q24_ok d24_15 (by decide) (ixn_nI (j := 20) (by decide)) (by decide) (pushP (by decide +kernel) (by decide +kernel) rfl rfl (by decide +kernel)) ?_
  refine wp_putRP q24_ok d24_17 fl_2_15 rfl (soP (n := 232) (x := 229) (t := 2) (by decide)) (Or.inr ⟨rfl, rfl, rfl⟩) (by decide) rfl ?_
  refine wp_vret q24_ok d24_20 rfl ?_
  exact ⟨rfl, rfl⟩
theorem i_45_74 {xs : List Int32} {ext : mm_X} {n : Nat} : wp xs ext (n + 1) 45 0 [some (.ref 233)] [] (shP 234, dC1, gC, rK 236) (fun v μ => v = none ∧ μ = (shP 236, dC1, gC, rK 238)) := by
  refine wp_aload_n (j := 0) rfl q45_ok d45_0 ?_
  refine wp_objinit q45_ok d45_1 ml_6_3 rfl (Nat.le_of_ble_eq_true rfl) ?_
  refine wp_aload_n (j := 0) rfl q45_ok d45_4 ?_
  refine wp_iconst (v := 2) (by decide) q45_ok d45_5 ?_
  refine wp_newaP (t := 20) (m := 2) q45_ok d45_6 (by decide) (ixn_nI (j := 2) (by decide)) (by decide) (pushP (by decide +kernel) (by decide +kernel) rfl rfl (by decide +kernel)) ?_
  refine wp_putRP q45_ok d45_8 fl_6_9 rfl (soP (n := 235) (x := 233) (t := 6) (by decide)) (Or.inr ⟨rfl, rfl, rfl⟩) (by decide) rfl ?_
  refine wp_aload_n (j := 0) rfl q45_ok d45_11 ?_
  refine wp_iconst (v := 2) (by decide) q45_ok d45_12 ?_
  refine wp_newaP (t := 20) (m := 2) q45_ok d45_13 (by decide) (ixn_nI (j := 2) (by decide)) (by decide) (pushP (by decide +kernel) (by decide +kernel) rfl rfl (by decide +kernel)) ?_
  refine wp_putRP q45_ok d45_15 fl_6_15 rfl (soP (n := 236) (x := 233) (t := 6) (by decide)) (Or.inr ⟨rfl, rfl, rfl⟩) (by decide) rfl ?_
  refine wp_vret q45_ok d45_18 rfl ?_
  exact ⟨rfl, rfl⟩
theorem i_77_73 {xs : List Int32} {ext : mm_X} {n : Nat} : wp xs ext (n + 2) 77 0 [some (.ref 232), some (.ref 4), some (.ref 38)] [] (shP 233, dC1, gC, rK 236) (fun v μ => v = none ∧ μ = (shP 238, dC1, gC, rK 243)) := by
  refine wp_aload_n (j := 0) rfl q77_ok d77_0 ?_
  refine wp_objinit q77_ok d77_1 ml_9_3 rfl (Nat.le_of_ble_eq_true rfl) ?_
  refine wp_aload_n (j := 0) rfl q77_ok d77_4 ?_
  refine wp_newP (t := 6) q77_ok d77_5 (by decide +kernel) (by decide) (pushP (by decide +kernel) (by decide +kernel) rfl rfl (by decide +kernel)) ?_
  refine wp_dup rfl q77_ok d77_8 ?_
  refine wp_cI q77_ok d77_9 ml_9_11 (by decide) rfl q45_ok rfl rfl (Nat.le_of_ble_eq_true rfl) (Nat.le_of_ble_eq_true rfl) (i_45_74 (n := n + 0)) (fun v μ hc => ?_)
  obtain ⟨rfl, rfl⟩ := hc
  refine ⟨mm_le_P (by decide) (by decide +kernel), ?_⟩
  refine wp_putRP q77_ok d77_12 fl_9_12 rfl (soP (n := 236) (x := 232) (t := 9) (by decide)) (Or.inr ⟨rfl, rfl, rfl⟩) (by decide) rfl ?_
  refine wp_aload_n (j := 0) rfl q77_ok d77_15 ?_
  refine wp_sipush (v := 540) (by decide) q77_ok d77_16 ?_
  refine wp_newaP (t := 20) (m := 540) q77_ok d77_19 (by decide) (ixn_nI (j := 540) (by decide)) (by decide) (pushP (by decide +kernel) (by decide +kernel) rfl rfl (by decide +kernel)) ?_
  refine wp_putRP q77_ok d77_21 fl_9_18 rfl (soP (n := 237) (x := 232) (t := 9) (by decide)) (Or.inr ⟨rfl, rfl, rfl⟩) (by decide) rfl ?_
  refine wp_aload_n (j := 0) rfl q77_ok d77_24 ?_
  refine wp_sipush (v := 540) (by decide) q77_ok d77_25 ?_
  refine wp_newaP (t := 21) (m := 540) q77_ok d77_28 (by decide) (ixn_nI (j := 540) (by decide)) (by decide) (pushP (by decide +kernel) (by decide +kernel) rfl rfl (by decide +kernel)) ?_
  refine wp_putRP q77_ok d77_30 fl_9_22 rfl (soP (n := 238) (x := 232) (t := 9) (by decide)) (Or.inr ⟨rfl, rfl, rfl⟩) (by decide) rfl ?_
  refine wp_aload_n (j := 0) rfl q77_ok d77_33 ?_
  refine wp_aload_n (j := 1) rfl q77_ok d77_34 ?_
  refine wp_putRP q77_ok d77_35 fl_9_26 rfl (soP (n := 238) (x := 232) (t := 9) (by decide)) (Or.inr ⟨rfl, rfl, rfl⟩) (by decide) rfl ?_
  refine wp_aload_n (j := 0) rfl q77_ok d77_38 ?_
  refine wp_aload_n (j := 2) rfl q77_ok d77_39 ?_
  refine wp_putRP q77_ok d77_40 fl_9_30 rfl (soP (n := 238) (x := 232) (t := 9) (by decide)) (Or.inl rfl) (by decide) rfl ?_
  refine wp_vret q77_ok d77_43 rfl ?_
  exact ⟨rfl, rfl⟩
theorem i_2_75 {xs : List Int32} {ext : mm_X} {n : Nat} : wp xs ext (n + 1) 2 0 [some (.ref 238), some (.int 0)] [] (shP 239, dC1, gC, rK 244) (fun v μ => v = none ∧ μ = (shP 241, dC2, gC, rK 246)) := by
  refine wp_aload_n (j := 0) rfl q2_ok d2_0 ?_
  refine wp_objinit q2_ok d2_1 ml_0_3 rfl (Nat.le_of_ble_eq_true rfl) ?_
  refine wp_aload_n (j := 0) rfl q2_ok d2_4 ?_
  refine wp_sipush (v := 160) (by decide) q2_ok d2_5 ?_
  refine wp_newaP (t := 20) (m := 160) q2_ok d2_8 (by decide) (ixn_nI (j := 160) (by decide)) (by decide) (pushP (by decide +kernel) (by decide +kernel) rfl rfl (by decide +kernel)) ?_
  refine wp_putRP q2_ok d2_10 fl_0_9 rfl (soP (n := 240) (x := 238) (t := 0) (by decide)) (Or.inr ⟨rfl, rfl, rfl⟩) (by decide) rfl ?_
  refine wp_aload_n (j := 0) rfl q2_ok d2_13 ?_
  refine wp_bipush (v := 32) (by decide) q2_ok d2_14 ?_
  refine wp_newaP (t := 20) (m := 32) q2_ok d2_16 (by decide) (ixn_nI (j := 32) (by decide)) (by decide) (pushP (by decide +kernel) (by decide +kernel) rfl rfl (by decide +kernel)) ?_
  refine wp_putRP q2_ok d2_18 fl_0_15 rfl (soP (n := 241) (x := 238) (t := 0) (by decide)) (Or.inr ⟨rfl, rfl, rfl⟩) (by decide) rfl ?_
  refine wp_aload_n (j := 0) rfl q2_ok d2_21 ?_
  refine wp_iload_n (j := 1) rfl q2_ok d2_22 ?_
  refine wp_putI (v := 0) q2_ok d2_23 fl_0_18 rfl (soP (n := 241) (x := 238) (t := 0) (by decide)) (Or.inr ⟨rfl, rfl, rfl⟩) ?_
  show wp _ _ _ _ _ _ _ (shP 241, dC2, gC, rK 246) _
  refine wp_vret q2_ok d2_26 rfl ?_
  exact ⟨rfl, rfl⟩
theorem i_2_76 {xs : List Int32} {ext : mm_X} {n : Nat} : wp xs ext (n + 1) 2 0 [some (.ref 241), some (.int 1)] [] (shP 242, dC2, gC, rK 247) (fun v μ => v = none ∧ μ = (shP 244, dC3, gC, rK 249)) := by
  refine wp_aload_n (j := 0) rfl q2_ok d2_0 ?_
  refine wp_objinit q2_ok d2_1 ml_0_3 rfl (Nat.le_of_ble_eq_true rfl) ?_
  refine wp_aload_n (j := 0) rfl q2_ok d2_4 ?_
  refine wp_sipush (v := 160) (by decide) q2_ok d2_5 ?_
  refine wp_newaP (t := 20) (m := 160) q2_ok d2_8 (by decide) (ixn_nI (j := 160) (by decide)) (by decide) (pushP (by decide +kernel) (by decide +kernel) rfl rfl (by decide +kernel)) ?_
  refine wp_putRP q2_ok d2_10 fl_0_9 rfl (soP (n := 243) (x := 241) (t := 0) (by decide)) (Or.inr ⟨rfl, rfl, rfl⟩) (by decide) rfl ?_
  refine wp_aload_n (j := 0) rfl q2_ok d2_13 ?_
  refine wp_bipush (v := 32) (by decide) q2_ok d2_14 ?_
  refine wp_newaP (t := 20) (m := 32) q2_ok d2_16 (by decide) (ixn_nI (j := 32) (by decide)) (by decide) (pushP (by decide +kernel) (by decide +kernel) rfl rfl (by decide +kernel)) ?_
  refine wp_putRP q2_ok d2_18 fl_0_15 rfl (soP (n := 244) (x := 241) (t := 0) (by decide)) (Or.inr ⟨rfl, rfl, rfl⟩) (by decide) rfl ?_
  refine wp_aload_n (j := 0) rfl q2_ok d2_21 ?_
  refine wp_iload_n (j := 1) rfl q2_ok d2_22 ?_
  refine wp_putI (v := 1) q2_ok d2_23 fl_0_18 rfl (soP (n := 244) (x := 241) (t := 0) (by decide)) (Or.inr ⟨rfl, rfl, rfl⟩) ?_
  show wp _ _ _ _ _ _ _ (shP 244, dC3, gC, rK 249) _
  refine wp_vret q2_ok d2_26 rfl ?_
  exact ⟨rfl, rfl⟩
theorem i_2_77 {xs : List Int32} {ext : mm_X} {n : Nat} : wp xs ext (n + 1) 2 0 [some (.ref 244), some (.int 2)] [] (shP 245, dC3, gC, rK 250) (fun v μ => v = none ∧ μ = (shP 247, dC4, gC, rK 252)) := by
  refine wp_aload_n (j := 0) rfl q2_ok d2_0 ?_
  refine wp_objinit q2_ok d2_1 ml_0_3 rfl (Nat.le_of_ble_eq_true rfl) ?_
  refine wp_aload_n (j := 0) rfl q2_ok d2_4 ?_
  refine wp_sipush (v := 160) (by decide) q2_ok d2_5 ?_
  refine wp_newaP (t := 20) (m := 160) q2_ok d2_8 (by decide) (ixn_nI (j := 160) (by decide)) (by decide) (pushP (by decide +kernel) (by decide +kernel) rfl rfl (by decide +kernel)) ?_
  refine wp_putRP q2_ok d2_10 fl_0_9 rfl (soP (n := 246) (x := 244) (t := 0) (by decide)) (Or.inr ⟨rfl, rfl, rfl⟩) (by decide) rfl ?_
  refine wp_aload_n (j := 0) rfl q2_ok d2_13 ?_
  refine wp_bipush (v := 32) (by decide) q2_ok d2_14 ?_
  refine wp_newaP (t := 20) (m := 32) q2_ok d2_16 (by decide) (ixn_nI (j := 32) (by decide)) (by decide) (pushP (by decide +kernel) (by decide +kernel) rfl rfl (by decide +kernel)) ?_
  refine wp_putRP q2_ok d2_18 fl_0_15 rfl (soP (n := 247) (x := 244) (t := 0) (by decide)) (Or.inr ⟨rfl, rfl, rfl⟩) (by decide) rfl ?_
  refine wp_aload_n (j := 0) rfl q2_ok d2_21 ?_
  refine wp_iload_n (j := 1) rfl q2_ok d2_22 ?_
  refine wp_putI (v := 2) q2_ok d2_23 fl_0_18 rfl (soP (n := 247) (x := 244) (t := 0) (by decide)) (Or.inr ⟨rfl, rfl, rfl⟩) ?_
  show wp _ _ _ _ _ _ _ (shP 247, dC4, gC, rK 252) _
  refine wp_vret q2_ok d2_26 rfl ?_
  exact ⟨rfl, rfl⟩
theorem i_2_78 {xs : List Int32} {ext : mm_X} {n : Nat} : wp xs ext (n + 1) 2 0 [some (.ref 247), some (.int 3)] [] (shP 248, dC4, gC, rK 253) (fun v μ => v = none ∧ μ = (shP 250, dC5, gC, rK 255)) := by
  refine wp_aload_n (j := 0) rfl q2_ok d2_0 ?_
  refine wp_objinit q2_ok d2_1 ml_0_3 rfl (Nat.le_of_ble_eq_true rfl) ?_
  refine wp_aload_n (j := 0) rfl q2_ok d2_4 ?_
  refine wp_sipush (v := 160) (by decide) q2_ok d2_5 ?_
  refine wp_newaP (t := 20) (m := 160) q2_ok d2_8 (by decide) (ixn_nI (j := 160) (by decide)) (by decide) (pushP (by decide +kernel) (by decide +kernel) rfl rfl (by decide +kernel)) ?_
  refine wp_putRP q2_ok d2_10 fl_0_9 rfl (soP (n := 249) (x := 247) (t := 0) (by decide)) (Or.inr ⟨rfl, rfl, rfl⟩) (by decide) rfl ?_
  refine wp_aload_n (j := 0) rfl q2_ok d2_13 ?_
  refine wp_bipush (v := 32) (by decide) q2_ok d2_14 ?_
  refine wp_newaP (t := 20) (m := 32) q2_ok d2_16 (by decide) (ixn_nI (j := 32) (by decide)) (by decide) (pushP (by decide +kernel) (by decide +kernel) rfl rfl (by decide +kernel)) ?_
  refine wp_putRP q2_ok d2_18 fl_0_15 rfl (soP (n := 250) (x := 247) (t := 0) (by decide)) (Or.inr ⟨rfl, rfl, rfl⟩) (by decide) rfl ?_
  refine wp_aload_n (j := 0) rfl q2_ok d2_21 ?_
  refine wp_iload_n (j := 1) rfl q2_ok d2_22 ?_
  refine wp_putI (v := 3) q2_ok d2_23 fl_0_18 rfl (soP (n := 250) (x := 247) (t := 0) (by decide)) (Or.inr ⟨rfl, rfl, rfl⟩) ?_
  show wp _ _ _ _ _ _ _ (shP 250, dC5, gC, rK 255) _
  refine wp_vret q2_ok d2_26 rfl ?_
  exact ⟨rfl, rfl⟩
theorem i_87_0 {xs : List Int32} {ext : mm_X} {n : Nat} : wp xs ext (n + 3) 87 0 [some (.ref 0), none] [] (shP 1, dC0, gC, rK 0) (fun v μ => v = none ∧ μ = (shP 250, dC5, gC, rK 256)) := by
  refine wp_aload_n (j := 0) rfl q87_ok d87_0 ?_
  refine wp_objinit q87_ok d87_1 ml_10_3 rfl (Nat.le_of_ble_eq_true rfl) ?_
  refine wp_aload_n (j := 0) rfl q87_ok d87_4 ?_
  refine wp_newP (t := 5) q87_ok d87_5 (by decide +kernel) (by decide) (pushP (by decide +kernel) (by decide +kernel) rfl rfl (by decide +kernel)) ?_
  refine wp_dup rfl q87_ok d87_8 ?_
  refine wp_cI q87_ok d87_9 ml_10_11 (by decide) rfl q42_ok rfl rfl (Nat.le_of_ble_eq_true rfl) (Nat.le_of_ble_eq_true rfl) (i_42_1 (n := n + 1)) (fun v μ hc => ?_)
  obtain ⟨rfl, rfl⟩ := hc
  refine ⟨mm_le_P (by decide) (by decide +kernel), ?_⟩
  refine wp_putRP q87_ok d87_12 fl_10_12 rfl (soP (n := 3) (x := 0) (t := 10) (by decide)) (Or.inr ⟨rfl, rfl, rfl⟩) (by decide) rfl ?_
  refine wp_aload_n (j := 0) rfl q87_ok d87_15 ?_
  refine wp_newP (t := 4) q87_ok d87_16 (by decide +kernel) (by decide) (pushP (by decide +kernel) (by decide +kernel) rfl rfl (by decide +kernel)) ?_
  refine wp_dup rfl q87_ok d87_19 ?_
  refine wp_aload_n (j := 0) rfl q87_ok d87_20 ?_
  refine wp_getR q87_ok d87_21 fl_10_12 rfl (soP (n := 4) (x := 0) (t := 10) (by decide)) (show rK 2 0 0 = some 1 from rfl) ?_
  refine wp_cI q87_ok d87_24 ml_10_18 (by decide) rfl q33_ok rfl rfl (Nat.le_of_ble_eq_true rfl) (Nat.le_of_ble_eq_true rfl) (i_33_2 (n := n + 1)) (fun v μ hc => ?_)
  obtain ⟨rfl, rfl⟩ := hc
  refine ⟨mm_le_P (by decide) (by decide +kernel), ?_⟩
  refine wp_putRP q87_ok d87_27 fl_10_21 rfl (soP (n := 4) (x := 0) (t := 10) (by decide)) (Or.inr ⟨rfl, rfl, rfl⟩) (by decide) rfl ?_
  refine wp_aload_n (j := 0) rfl q87_ok d87_30 ?_
  refine wp_newP (t := 7) q87_ok d87_31 (by decide +kernel) (by decide) (pushP (by decide +kernel) (by decide +kernel) rfl rfl (by decide +kernel)) ?_
  refine wp_dup rfl q87_ok d87_34 ?_
  refine wp_cI q87_ok d87_35 ml_10_27 (by decide) rfl q50_ok rfl rfl (Nat.le_of_ble_eq_true rfl) (Nat.le_of_ble_eq_true rfl) (i_50_3 (n := n + 1)) (fun v μ hc => ?_)
  obtain ⟨rfl, rfl⟩ := hc
  refine ⟨mm_le_P (by decide) (by decide +kernel), ?_⟩
  refine wp_putRP q87_ok d87_38 fl_10_28 rfl (soP (n := 18) (x := 0) (t := 10) (by decide)) (Or.inr ⟨rfl, rfl, rfl⟩) (by decide) rfl ?_
  refine wp_aload_n (j := 0) rfl q87_ok d87_41 ?_
  refine wp_newP (t := 7) q87_ok d87_42 (by decide +kernel) (by decide) (pushP (by decide +kernel) (by decide +kernel) rfl rfl (by decide +kernel)) ?_
  refine wp_dup rfl q87_ok d87_45 ?_
  refine wp_cI q87_ok d87_46 ml_10_27 (by decide) rfl q50_ok rfl rfl (Nat.le_of_ble_eq_true rfl) (Nat.le_of_ble_eq_true rfl) (i_50_4 (n := n + 1)) (fun v μ hc => ?_)
  obtain ⟨rfl, rfl⟩ := hc
  refine ⟨mm_le_P (by decide) (by decide +kernel), ?_⟩
  refine wp_putRP q87_ok d87_49 fl_10_32 rfl (soP (n := 32) (x := 0) (t := 10) (by decide)) (Or.inr ⟨rfl, rfl, rfl⟩) (by decide) rfl ?_
  refine wp_aload_n (j := 0) rfl q87_ok d87_52 ?_
  refine wp_newP (t := 8) q87_ok d87_53 (by decide +kernel) (by decide) (pushP (by decide +kernel) (by decide +kernel) rfl rfl (by decide +kernel)) ?_
  refine wp_dup rfl q87_ok d87_56 ?_
  refine wp_aload_n (j := 0) rfl q87_ok d87_57 ?_
  refine wp_getR q87_ok d87_58 fl_10_21 rfl (soP (n := 33) (x := 0) (t := 10) (by decide)) (show rK 32 0 1 = some 3 from rfl) ?_
  refine wp_aload_n (j := 0) rfl q87_ok d87_61 ?_
  refine wp_getR q87_ok d87_62 fl_10_32 rfl (soP (n := 33) (x := 0) (t := 10) (by decide)) (show rK 32 0 3 = some 18 from rfl) ?_
  refine wp_cI q87_ok d87_65 ml_10_37 (by decide) rfl q72_ok rfl rfl (Nat.le_of_ble_eq_true rfl) (Nat.le_of_ble_eq_true rfl) (i_72_5 (n := n + 1)) (fun v μ hc => ?_)
  obtain ⟨rfl, rfl⟩ := hc
  refine ⟨mm_le_P (by decide) (by decide +kernel), ?_⟩
  refine wp_putRP q87_ok d87_68 fl_10_40 rfl (soP (n := 33) (x := 0) (t := 10) (by decide)) (Or.inr ⟨rfl, rfl, rfl⟩) (by decide) rfl ?_
  refine wp_aload_n (j := 0) rfl q87_ok d87_71 ?_
  refine wp_newP (t := 0) q87_ok d87_72 (by decide +kernel) (by decide) (pushP (by decide +kernel) (by decide +kernel) rfl rfl (by decide +kernel)) ?_
  refine wp_dup rfl q87_ok d87_75 ?_
  refine wp_iconst (v := -1) (by decide) q87_ok d87_76 ?_
  refine wp_cI q87_ok d87_77 ml_10_46 (by decide) rfl q2_ok rfl rfl (Nat.le_of_ble_eq_true rfl) (Nat.le_of_ble_eq_true rfl) (i_2_6 (n := n + 1)) (fun v μ hc => ?_)
  obtain ⟨rfl, rfl⟩ := hc
  refine ⟨mm_le_P (by decide) (by decide +kernel), ?_⟩
  refine wp_putRP q87_ok d87_80 fl_10_49 rfl (soP (n := 36) (x := 0) (t := 10) (by decide)) (Or.inr ⟨rfl, rfl, rfl⟩) (by decide) rfl ?_
  refine wp_aload_n (j := 0) rfl q87_ok d87_83 ?_
  refine wp_newP (t := 1) q87_ok d87_84 (by decide +kernel) (by decide) (pushP (by decide +kernel) (by decide +kernel) rfl rfl (by decide +kernel)) ?_
  refine wp_dup rfl q87_ok d87_87 ?_
  refine wp_aload_n (j := 0) rfl q87_ok d87_88 ?_
  refine wp_getR q87_ok d87_89 fl_10_21 rfl (soP (n := 37) (x := 0) (t := 10) (by decide)) (show rK 38 0 1 = some 3 from rfl) ?_
  refine wp_aload_n (j := 0) rfl q87_ok d87_92 ?_
  refine wp_getR q87_ok d87_93 fl_10_49 rfl (soP (n := 37) (x := 0) (t := 10) (by decide)) (show rK 38 0 5 = some 33 from rfl) ?_
  refine wp_cI q87_ok d87_96 ml_10_55 (by decide) rfl q10_ok rfl rfl (Nat.le_of_ble_eq_true rfl) (Nat.le_of_ble_eq_true rfl) (i_10_7 (n := n + 1)) (fun v μ hc => ?_)
  obtain ⟨rfl, rfl⟩ := hc
  refine ⟨mm_le_P (by decide) (by decide +kernel), ?_⟩
  refine wp_putRP q87_ok d87_99 fl_10_58 rfl (soP (n := 37) (x := 0) (t := 10) (by decide)) (Or.inr ⟨rfl, rfl, rfl⟩) (by decide) rfl ?_
  refine wp_aload_n (j := 0) rfl q87_ok d87_102 ?_
  refine wp_iconst (v := 4) (by decide) q87_ok d87_103 ?_
  refine wp_anewP (t := 0) (m := 4) (u := 23) q87_ok d87_104 (by decide +kernel) rfl (ixn_nI (j := 4) (by decide)) (by decide) (pushP (by decide +kernel) (by decide +kernel) rfl rfl (by decide +kernel)) ?_
  refine wp_putRP q87_ok d87_107 fl_10_62 rfl (soP (n := 38) (x := 0) (t := 10) (by decide)) (Or.inr ⟨rfl, rfl, rfl⟩) (by decide) rfl ?_
  refine wp_aload_n (j := 0) rfl q87_ok d87_110 ?_
  refine wp_newP (t := 6) q87_ok d87_111 (by decide +kernel) (by decide) (pushP (by decide +kernel) (by decide +kernel) rfl rfl (by decide +kernel)) ?_
  refine wp_dup rfl q87_ok d87_114 ?_
  refine wp_cI q87_ok d87_115 ml_10_68 (by decide) rfl q45_ok rfl rfl (Nat.le_of_ble_eq_true rfl) (Nat.le_of_ble_eq_true rfl) (i_45_8 (n := n + 1)) (fun v μ hc => ?_)
  obtain ⟨rfl, rfl⟩ := hc
  refine ⟨mm_le_P (by decide) (by decide +kernel), ?_⟩
  refine wp_putRP q87_ok d87_118 fl_10_69 rfl (soP (n := 41) (x := 0) (t := 10) (by decide)) (Or.inr ⟨rfl, rfl, rfl⟩) (by decide) rfl ?_
  refine wp_aload_n (j := 0) rfl q87_ok d87_121 ?_
  refine wp_newP (t := 6) q87_ok d87_122 (by decide +kernel) (by decide) (pushP (by decide +kernel) (by decide +kernel) rfl rfl (by decide +kernel)) ?_
  refine wp_dup rfl q87_ok d87_125 ?_
  refine wp_cI q87_ok d87_126 ml_10_68 (by decide) rfl q45_ok rfl rfl (Nat.le_of_ble_eq_true rfl) (Nat.le_of_ble_eq_true rfl) (i_45_9 (n := n + 1)) (fun v μ hc => ?_)
  obtain ⟨rfl, rfl⟩ := hc
  refine ⟨mm_le_P (by decide) (by decide +kernel), ?_⟩
  refine wp_putRP q87_ok d87_129 fl_10_73 rfl (soP (n := 44) (x := 0) (t := 10) (by decide)) (Or.inr ⟨rfl, rfl, rfl⟩) (by decide) rfl ?_
  refine wp_aload_n (j := 0) rfl q87_ok d87_132 ?_
  refine wp_newP (t := 6) q87_ok d87_133 (by decide +kernel) (by decide) (pushP (by decide +kernel) (by decide +kernel) rfl rfl (by decide +kernel)) ?_
  refine wp_dup rfl q87_ok d87_136 ?_
  refine wp_cI q87_ok d87_137 ml_10_68 (by decide) rfl q45_ok rfl rfl (Nat.le_of_ble_eq_true rfl) (Nat.le_of_ble_eq_true rfl) (i_45_10 (n := n + 1)) (fun v μ hc => ?_)
  obtain ⟨rfl, rfl⟩ := hc
  refine ⟨mm_le_P (by decide) (by decide +kernel), ?_⟩
  refine wp_putRP q87_ok d87_140 fl_10_76 rfl (soP (n := 47) (x := 0) (t := 10) (by decide)) (Or.inr ⟨rfl, rfl, rfl⟩) (by decide) rfl ?_
  refine wp_aload_n (j := 0) rfl q87_ok d87_143 ?_
  refine wp_newP (t := 3) q87_ok d87_144 (by decide +kernel) (by decide) (pushP (by decide +kernel) (by decide +kernel) rfl rfl (by decide +kernel)) ?_
  refine wp_dup rfl q87_ok d87_147 ?_
  refine wp_cI q87_ok d87_148 ml_10_81 (by decide) rfl q29_ok rfl rfl (Nat.le_of_ble_eq_true rfl) (Nat.le_of_ble_eq_true rfl) (i_29_11 (n := n + 0)) (fun v μ hc => ?_)
  obtain ⟨rfl, rfl⟩ := hc
  refine ⟨mm_le_P (by decide) (by decide +kernel), ?_⟩
  refine wp_putRP q87_ok d87_151 fl_10_82 rfl (soP (n := 229) (x := 0) (t := 10) (by decide)) (Or.inr ⟨rfl, rfl, rfl⟩) (by decide) rfl ?_
  refine wp_aload_n (j := 0) rfl q87_ok d87_154 ?_
  refine wp_newP (t := 2) q87_ok d87_155 (by decide +kernel) (by decide) (pushP (by decide +kernel) (by decide +kernel) rfl rfl (by decide +kernel)) ?_
  refine wp_dup rfl q87_ok d87_158 ?_
  refine wp_cI q87_ok d87_159 ml_10_88 (by decide) rfl q24_ok rfl rfl (Nat.le_of_ble_eq_true rfl) (Nat.le_of_ble_eq_true rfl) (i_24_72 (n := n + 1)) (fun v μ hc => ?_)
  obtain ⟨rfl, rfl⟩ := hc
  refine ⟨mm_le_P (by decide) (by decide +kernel), ?_⟩
  refine wp_putRP q87_ok d87_162 fl_10_89 rfl (soP (n := 232) (x := 0) (t := 10) (by decide)) (Or.inr ⟨rfl, rfl, rfl⟩) (by decide) rfl ?_
  refine wp_aload_n (j := 0) rfl q87_ok d87_165 ?_
  refine wp_newP (t := 9) q87_ok d87_166 (by decide +kernel) (by decide) (pushP (by decide +kernel) (by decide +kernel) rfl rfl (by decide +kernel)) ?_
  refine wp_dup rfl q87_ok d87_169 ?_
  refine wp_aload_n (j := 0) rfl q87_ok d87_170 ?_
  refine wp_getR q87_ok d87_171 fl_10_28 rfl (soP (n := 233) (x := 0) (t := 10) (by decide)) (show rK 236 0 2 = some 4 from rfl) ?_
  refine wp_aload_n (j := 0) rfl q87_ok d87_174 ?_
  refine wp_getR q87_ok d87_175 fl_10_69 rfl (soP (n := 233) (x := 0) (t := 10) (by decide)) (show rK 236 0 9 = some 38 from rfl) ?_
  refine wp_cI q87_ok d87_178 ml_10_95 (by decide) rfl q77_ok rfl rfl (Nat.le_of_ble_eq_true rfl) (Nat.le_of_ble_eq_true rfl) (i_77_73 (n := n + 0)) (fun v μ hc => ?_)
  obtain ⟨rfl, rfl⟩ := hc
  refine ⟨mm_le_P (by decide) (by decide +kernel), ?_⟩
  refine wp_putRP q87_ok d87_181 fl_10_98 rfl (soP (n := 238) (x := 0) (t := 10) (by decide)) (Or.inr ⟨rfl, rfl, rfl⟩) (by decide) rfl ?_
  refine wp_iconst (v := 0) (by decide) q87_ok d87_184 ?_
  refine wp_istore_n (j := 1) (Nat.le_of_ble_eq_true rfl) (rfl : _ = [_, _]) q87_ok d87_185 ?_
  refine wp_iload_n (j := 1) rfl q87_ok d87_186 ?_
  refine wp_aload_n (j := 0) rfl q87_ok d87_187 ?_
  refine wp_getR q87_ok d87_188 fl_10_62 rfl (soP (n := 238) (x := 0) (t := 10) (by decide)) (show rK 244 0 7 = some 37 from rfl) ?_
  refine wp_alen (m := 4) q87_ok d87_191 (by decide) (by decide) (hmP (by decide) rfl) (show _ = (4 : Int32) from rfl) ?_ (by decide)
  refine wp_icmp_ge q87_ok d87_192 (t := 215) rfl (fun h => absurd h (by decide)) (fun _ => ?_)
  refine wp_aload_n (j := 0) rfl q87_ok d87_195 ?_
  refine wp_getR q87_ok d87_196 fl_10_62 rfl (soP (n := 238) (x := 0) (t := 10) (by decide)) (show rK 244 0 7 = some 37 from rfl) ?_
  refine wp_iload_n (j := 1) rfl q87_ok d87_199 ?_
  refine wp_newP (t := 0) q87_ok d87_200 (by decide +kernel) (by decide) (pushP (by decide +kernel) (by decide +kernel) rfl rfl (by decide +kernel)) ?_
  refine wp_dup rfl q87_ok d87_203 ?_
  refine wp_iload_n (j := 1) rfl q87_ok d87_204 ?_
  refine wp_cI q87_ok d87_205 ml_10_46 (by decide) rfl q2_ok rfl rfl (Nat.le_of_ble_eq_true rfl) (Nat.le_of_ble_eq_true rfl) (i_2_75 (n := n + 1)) (fun v μ hc => ?_)
  obtain ⟨rfl, rfl⟩ := hc
  refine ⟨mm_le_P (by decide) (by decide +kernel), ?_⟩
  refine wp_aastP (t := 23) (u := 0) (m := 4) (j := 0) q87_ok d87_208 (by decide) (soP (n := 241) (x := 37) (t := 23) (by decide)) (soP (n := 241) (x := 238) (t := 0) (by decide)) (hmP (by decide) rfl) (ixn_nI (j := 0) (by decide)) rfl ?_
  refine wp_iinc (j := 1) (v := 1) rfl (by decide) (rfl : _ = [_, _]) q87_ok d87_209 ?_
  refine wp_goto (t := 186) rfl q87_ok d87_212 ?_
  refine wp_iload_n (j := 1) rfl q87_ok d87_186 ?_
  refine wp_aload_n (j := 0) rfl q87_ok d87_187 ?_
  refine wp_getR q87_ok d87_188 fl_10_62 rfl (soP (n := 241) (x := 0) (t := 10) (by decide)) (show rK 247 0 7 = some 37 from rfl) ?_
  refine wp_alen (m := 4) q87_ok d87_191 (by decide) (by decide) (hmP (by decide) rfl) (show _ = (4 : Int32) from rfl) ?_ (by decide)
  refine wp_icmp_ge q87_ok d87_192 (t := 215) rfl (fun h => absurd h (by decide)) (fun _ => ?_)
  refine wp_aload_n (j := 0) rfl q87_ok d87_195 ?_
  refine wp_getR q87_ok d87_196 fl_10_62 rfl (soP (n := 241) (x := 0) (t := 10) (by decide)) (show rK 247 0 7 = some 37 from rfl) ?_
  refine wp_iload_n (j := 1) rfl q87_ok d87_199 ?_
  refine wp_newP (t := 0) q87_ok d87_200 (by decide +kernel) (by decide) (pushP (by decide +kernel) (by decide +kernel) rfl rfl (by decide +kernel)) ?_
  refine wp_dup rfl q87_ok d87_203 ?_
  refine wp_iload_n (j := 1) rfl q87_ok d87_204 ?_
  refine wp_cI q87_ok d87_205 ml_10_46 (by decide) rfl q2_ok rfl rfl (Nat.le_of_ble_eq_true rfl) (Nat.le_of_ble_eq_true rfl) (i_2_76 (n := n + 1)) (fun v μ hc => ?_)
  obtain ⟨rfl, rfl⟩ := hc
  refine ⟨mm_le_P (by decide) (by decide +kernel), ?_⟩
  refine wp_aastP (t := 23) (u := 0) (m := 4) (j := 1) q87_ok d87_208 (by decide) (soP (n := 244) (x := 37) (t := 23) (by decide)) (soP (n := 244) (x := 241) (t := 0) (by decide)) (hmP (by decide) rfl) (ixn_nI (j := 1) (by decide)) rfl ?_
  refine wp_iinc (j := 1) (v := 2) rfl (by decide) (rfl : _ = [_, _]) q87_ok d87_209 ?_
  refine wp_goto (t := 186) rfl q87_ok d87_212 ?_
  refine wp_iload_n (j := 1) rfl q87_ok d87_186 ?_
  refine wp_aload_n (j := 0) rfl q87_ok d87_187 ?_
  refine wp_getR q87_ok d87_188 fl_10_62 rfl (soP (n := 244) (x := 0) (t := 10) (by decide)) (show rK 250 0 7 = some 37 from rfl) ?_
  refine wp_alen (m := 4) q87_ok d87_191 (by decide) (by decide) (hmP (by decide) rfl) (show _ = (4 : Int32) from rfl) ?_ (by decide)
  refine wp_icmp_ge q87_ok d87_192 (t := 215) rfl (fun h => absurd h (by decide)) (fun _ => ?_)
  refine wp_aload_n (j := 0) rfl q87_ok d87_195 ?_
  refine wp_getR q87_ok d87_196 fl_10_62 rfl (soP (n := 244) (x := 0) (t := 10) (by decide)) (show rK 250 0 7 = some 37 from rfl) ?_
  refine wp_iload_n (j := 1) rfl q87_ok d87_199 ?_
  refine wp_newP (t := 0) q87_ok d87_200 (by decide +kernel) (by decide) (pushP (by decide +kernel) (by decide +kernel) rfl rfl (by decide +kernel)) ?_
  refine wp_dup rfl q87_ok d87_203 ?_
  refine wp_iload_n (j := 1) rfl q87_ok d87_204 ?_
  refine wp_cI q87_ok d87_205 ml_10_46 (by decide) rfl q2_ok rfl rfl (Nat.le_of_ble_eq_true rfl) (Nat.le_of_ble_eq_true rfl) (i_2_77 (n := n + 1)) (fun v μ hc => ?_)
  obtain ⟨rfl, rfl⟩ := hc
  refine ⟨mm_le_P (by decide) (by decide +kernel), ?_⟩
  refine wp_aastP (t := 23) (u := 0) (m := 4) (j := 2) q87_ok d87_208 (by decide) (soP (n := 247) (x := 37) (t := 23) (by decide)) (soP (n := 247) (x := 244) (t := 0) (by decide)) (hmP (by decide) rfl) (ixn_nI (j := 2) (by decide)) rfl ?_
  refine wp_iinc (j := 1) (v := 3) rfl (by decide) (rfl : _ = [_, _]) q87_ok d87_209 ?_
  refine wp_goto (t := 186) rfl q87_ok d87_212 ?_
  refine wp_iload_n (j := 1) rfl q87_ok d87_186 ?_
  refine wp_aload_n (j := 0) rfl q87_ok d87_187 ?_
  refine wp_getR q87_ok d87_188 fl_10_62 rfl (soP (n := 247) (x := 0) (t := 10) (by decide)) (show rK 253 0 7 = some 37 from rfl) ?_
  refine wp_alen (m := 4) q87_ok d87_191 (by decide) (by decide) (hmP (by decide) rfl) (show _ = (4 : Int32) from rfl) ?_ (by decide)
  refine wp_icmp_ge q87_ok d87_192 (t := 215) rfl (fun h => absurd h (by decide)) (fun _ => ?_)
  refine wp_aload_n (j := 0) rfl q87_ok d87_195 ?_
  refine wp_getR q87_ok d87_196 fl_10_62 rfl (soP (n := 247) (x := 0) (t := 10) (by decide)) (show rK 253 0 7 = some 37 from rfl) ?_
  refine wp_iload_n (j := 1) rfl q87_ok d87_199 ?_
  refine wp_newP (t := 0) q87_ok d87_200 (by decide +kernel) (by decide) (pushP (by decide +kernel) (by decide +kernel) rfl rfl (by decide +kernel)) ?_
  refine wp_dup rfl q87_ok d87_203 ?_
  refine wp_iload_n (j := 1) rfl q87_ok d87_204 ?_
  refine wp_cI q87_ok d87_205 ml_10_46 (by decide) rfl q2_ok rfl rfl (Nat.le_of_ble_eq_true rfl) (Nat.le_of_ble_eq_true rfl) (i_2_78 (n := n + 1)) (fun v μ hc => ?_)
  obtain ⟨rfl, rfl⟩ := hc
  refine ⟨mm_le_P (by decide) (by decide +kernel), ?_⟩
  refine wp_aastP (t := 23) (u := 0) (m := 4) (j := 3) q87_ok d87_208 (by decide) (soP (n := 250) (x := 37) (t := 23) (by decide)) (soP (n := 250) (x := 247) (t := 0) (by decide)) (hmP (by decide) rfl) (ixn_nI (j := 3) (by decide)) rfl ?_
  refine wp_iinc (j := 1) (v := 4) rfl (by decide) (rfl : _ = [_, _]) q87_ok d87_209 ?_
  refine wp_goto (t := 186) rfl q87_ok d87_212 ?_
  refine wp_iload_n (j := 1) rfl q87_ok d87_186 ?_
  refine wp_aload_n (j := 0) rfl q87_ok d87_187 ?_
  refine wp_getR q87_ok d87_188 fl_10_62 rfl (soP (n := 250) (x := 0) (t := 10) (by decide)) (show rK 256 0 7 = some 37 from rfl) ?_
  refine wp_alen (m := 4) q87_ok d87_191 (by decide) (by decide) (hmP (by decide) rfl) (show _ = (4 : Int32) from rfl) ?_ (by decide)
  refine wp_icmp_ge q87_ok d87_192 (t := 215) rfl (fun _ => ?_) (fun h => absurd (by decide) h)
  refine wp_vret q87_ok d87_215 rfl ?_
  exact ⟨rfl, rfl⟩
theorem i_135_79 {xs : List Int32} {ext : mm_X} {n : Nat} : wp xs ext (n + 1) 135 0 [some (.ref 250)] [] (shP 251, dC5, gC, rK 256) (fun v μ => v = none ∧ μ = (shP 281, dC5, gC, rK 286)) := by
  refine wp_aload_n (j := 0) rfl q135_ok d135_0 ?_
  refine wp_objinit q135_ok d135_1 ml_11_3 rfl (Nat.le_of_ble_eq_true rfl) ?_
  refine wp_aload_n (j := 0) rfl q135_ok d135_4 ?_
  refine wp_sipush (v := 160) (by decide) q135_ok d135_5 ?_
  refine wp_newaP (t := 20) (m := 160) q135_ok d135_8 (by decide) (ixn_nI (j := 160) (by decide)) (by decide) (pushP (by decide +kernel) (by decide +kernel) rfl rfl (by decide +kernel)) ?_
  refine wp_putRP q135_ok d135_10 fl_11_9 rfl (soP (n := 252) (x := 250) (t := 11) (by decide)) (Or.inr ⟨rfl, rfl, rfl⟩) (by decide) rfl ?_
  refine wp_aload_n (j := 0) rfl q135_ok d135_13 ?_
  refine wp_sipush (v := 1700) (by decide) q135_ok d135_14 ?_
  refine wp_newaP (t := 20) (m := 1700) q135_ok d135_17 (by decide) (ixn_nI (j := 1700) (by decide)) (by decide) (pushP (by decide +kernel) (by decide +kernel) rfl rfl (by decide +kernel)) ?_
  refine wp_putRP q135_ok d135_19 fl_11_13 rfl (soP (n := 253) (x := 250) (t := 11) (by decide)) (Or.inr ⟨rfl, rfl, rfl⟩) (by decide) rfl ?_
  refine wp_aload_n (j := 0) rfl q135_ok d135_22 ?_
  refine wp_sipush (v := 1700) (by decide) q135_ok d135_23 ?_
  refine wp_newaP (t := 20) (m := 1700) q135_ok d135_26 (by decide) (ixn_nI (j := 1700) (by decide)) (by decide) (pushP (by decide +kernel) (by decide +kernel) rfl rfl (by decide +kernel)) ?_
  refine wp_putRP q135_ok d135_28 fl_11_16 rfl (soP (n := 254) (x := 250) (t := 11) (by decide)) (Or.inr ⟨rfl, rfl, rfl⟩) (by decide) rfl ?_
  refine wp_aload_n (j := 0) rfl q135_ok d135_31 ?_
  refine wp_iconst (v := 5) (by decide) q135_ok d135_32 ?_
  refine wp_newaP (t := 20) (m := 5) q135_ok d135_33 (by decide) (ixn_nI (j := 5) (by decide)) (by decide) (pushP (by decide +kernel) (by decide +kernel) rfl rfl (by decide +kernel)) ?_
  refine wp_putRP q135_ok d135_35 fl_11_19 rfl (soP (n := 255) (x := 250) (t := 11) (by decide)) (Or.inr ⟨rfl, rfl, rfl⟩) (by decide) rfl ?_
  refine wp_aload_n (j := 0) rfl q135_ok d135_38 ?_
  refine wp_iconst (v := 5) (by decide) q135_ok d135_39 ?_
  refine wp_newaP (t := 20) (m := 5) q135_ok d135_40 (by decide) (ixn_nI (j := 5) (by decide)) (by decide) (pushP (by decide +kernel) (by decide +kernel) rfl rfl (by decide +kernel)) ?_
  refine wp_putRP q135_ok d135_42 fl_11_22 rfl (soP (n := 256) (x := 250) (t := 11) (by decide)) (Or.inr ⟨rfl, rfl, rfl⟩) (by decide) rfl ?_
  refine wp_aload_n (j := 0) rfl q135_ok d135_45 ?_
  refine wp_sipush (v := 450) (by decide) q135_ok d135_46 ?_
  refine wp_newaP (t := 20) (m := 450) q135_ok d135_49 (by decide) (ixn_nI (j := 450) (by decide)) (by decide) (pushP (by decide +kernel) (by decide +kernel) rfl rfl (by decide +kernel)) ?_
  refine wp_putRP q135_ok d135_51 fl_11_25 rfl (soP (n := 257) (x := 250) (t := 11) (by decide)) (Or.inr ⟨rfl, rfl, rfl⟩) (by decide) rfl ?_
  refine wp_aload_n (j := 0) rfl q135_ok d135_54 ?_
  refine wp_sipush (v := 450) (by decide) q135_ok d135_55 ?_
  refine wp_newaP (t := 20) (m := 450) q135_ok d135_58 (by decide) (ixn_nI (j := 450) (by decide)) (by decide) (pushP (by decide +kernel) (by decide +kernel) rfl rfl (by decide +kernel)) ?_
  refine wp_putRP q135_ok d135_60 fl_11_28 rfl (soP (n := 258) (x := 250) (t := 11) (by decide)) (Or.inr ⟨rfl, rfl, rfl⟩) (by decide) rfl ?_
  refine wp_aload_n (j := 0) rfl q135_ok d135_63 ?_
  refine wp_sipush (v := 450) (by decide) q135_ok d135_64 ?_
  refine wp_newaP (t := 20) (m := 450) q135_ok d135_67 (by decide) (ixn_nI (j := 450) (by decide)) (by decide) (pushP (by decide +kernel) (by decide +kernel) rfl rfl (by decide +kernel)) ?_
  refine wp_putRP q135_ok d135_69 fl_11_31 rfl (soP (n := 259) (x := 250) (t := 11) (by decide)) (Or.inr ⟨rfl, rfl, rfl⟩) (by decide) rfl ?_
  refine wp_aload_n (j := 0) rfl q135_ok d135_72 ?_
  refine wp_bipush (v := 6) (by decide) q135_ok d135_73 ?_
  refine wp_newaP (t := 20) (m := 6) q135_ok d135_75 (by decide) (ixn_nI (j := 6) (by decide)) (by decide) (pushP (by decide +kernel) (by decide +kernel) rfl rfl (by decide +kernel)) ?_
  refine wp_putRP q135_ok d135_77 fl_11_34 rfl (soP (n := 260) (x := 250) (t := 11) (by decide)) (Or.inr ⟨rfl, rfl, rfl⟩) (by decide) rfl ?_
  refine wp_aload_n (j := 0) rfl q135_ok d135_80 ?_
  refine wp_bipush (v := 80) (by decide) q135_ok d135_81 ?_
  refine wp_newaP (t := 20) (m := 80) q135_ok d135_83 (by decide) (ixn_nI (j := 80) (by decide)) (by decide) (pushP (by decide +kernel) (by decide +kernel) rfl rfl (by decide +kernel)) ?_
  refine wp_putRP q135_ok d135_85 fl_11_37 rfl (soP (n := 261) (x := 250) (t := 11) (by decide)) (Or.inr ⟨rfl, rfl, rfl⟩) (by decide) rfl ?_
  refine wp_aload_n (j := 0) rfl q135_ok d135_88 ?_
  refine wp_bipush (v := 24) (by decide) q135_ok d135_89 ?_
  refine wp_newaP (t := 20) (m := 24) q135_ok d135_91 (by decide) (ixn_nI (j := 24) (by decide)) (by decide) (pushP (by decide +kernel) (by decide +kernel) rfl rfl (by decide +kernel)) ?_
  refine wp_putRP q135_ok d135_93 fl_11_40 rfl (soP (n := 262) (x := 250) (t := 11) (by decide)) (Or.inr ⟨rfl, rfl, rfl⟩) (by decide) rfl ?_
  refine wp_aload_n (j := 0) rfl q135_ok d135_96 ?_
  refine wp_iconst (v := 4) (by decide) q135_ok d135_97 ?_
  refine wp_newaP (t := 20) (m := 4) q135_ok d135_98 (by decide) (ixn_nI (j := 4) (by decide)) (by decide) (pushP (by decide +kernel) (by decide +kernel) rfl rfl (by decide +kernel)) ?_
  refine wp_putRP q135_ok d135_100 fl_11_43 rfl (soP (n := 263) (x := 250) (t := 11) (by decide)) (Or.inr ⟨rfl, rfl, rfl⟩) (by decide) rfl ?_
  refine wp_aload_n (j := 0) rfl q135_ok d135_103 ?_
  refine wp_bipush (v := 6) (by decide) q135_ok d135_104 ?_
  refine wp_newaP (t := 20) (m := 6) q135_ok d135_106 (by decide) (ixn_nI (j := 6) (by decide)) (by decide) (pushP (by decide +kernel) (by decide +kernel) rfl rfl (by decide +kernel)) ?_
  refine wp_putRP q135_ok d135_108 fl_11_46 rfl (soP (n := 264) (x := 250) (t := 11) (by decide)) (Or.inr ⟨rfl, rfl, rfl⟩) (by decide) rfl ?_
  refine wp_aload_n (j := 0) rfl q135_ok d135_111 ?_
  refine wp_bipush (v := 24) (by decide) q135_ok d135_112 ?_
  refine wp_newaP (t := 20) (m := 24) q135_ok d135_114 (by decide) (ixn_nI (j := 24) (by decide)) (by decide) (pushP (by decide +kernel) (by decide +kernel) rfl rfl (by decide +kernel)) ?_
  refine wp_putRP q135_ok d135_116 fl_11_49 rfl (soP (n := 265) (x := 250) (t := 11) (by decide)) (Or.inr ⟨rfl, rfl, rfl⟩) (by decide) rfl ?_
  refine wp_aload_n (j := 0) rfl q135_ok d135_119 ?_
  refine wp_iconst (v := 4) (by decide) q135_ok d135_120 ?_
  refine wp_newaP (t := 20) (m := 4) q135_ok d135_121 (by decide) (ixn_nI (j := 4) (by decide)) (by decide) (pushP (by decide +kernel) (by decide +kernel) rfl rfl (by decide +kernel)) ?_
  refine wp_putRP q135_ok d135_123 fl_11_52 rfl (soP (n := 266) (x := 250) (t := 11) (by decide)) (Or.inr ⟨rfl, rfl, rfl⟩) (by decide) rfl ?_
  refine wp_aload_n (j := 0) rfl q135_ok d135_126 ?_
  refine wp_bipush (v := 6) (by decide) q135_ok d135_127 ?_
  refine wp_newaP (t := 20) (m := 6) q135_ok d135_129 (by decide) (ixn_nI (j := 6) (by decide)) (by decide) (pushP (by decide +kernel) (by decide +kernel) rfl rfl (by decide +kernel)) ?_
  refine wp_putRP q135_ok d135_131 fl_11_55 rfl (soP (n := 267) (x := 250) (t := 11) (by decide)) (Or.inr ⟨rfl, rfl, rfl⟩) (by decide) rfl ?_
  refine wp_aload_n (j := 0) rfl q135_ok d135_134 ?_
  refine wp_bipush (v := 6) (by decide) q135_ok d135_135 ?_
  refine wp_newaP (t := 20) (m := 6) q135_ok d135_137 (by decide) (ixn_nI (j := 6) (by decide)) (by decide) (pushP (by decide +kernel) (by decide +kernel) rfl rfl (by decide +kernel)) ?_
  refine wp_putRP q135_ok d135_139 fl_11_58 rfl (soP (n := 268) (x := 250) (t := 11) (by decide)) (Or.inr ⟨rfl, rfl, rfl⟩) (by decide) rfl ?_
  refine wp_aload_n (j := 0) rfl q135_ok d135_142 ?_
  refine wp_iconst (v := 2) (by decide) q135_ok d135_143 ?_
  refine wp_newaP (t := 20) (m := 2) q135_ok d135_144 (by decide) (ixn_nI (j := 2) (by decide)) (by decide) (pushP (by decide +kernel) (by decide +kernel) rfl rfl (by decide +kernel)) ?_
  refine wp_putRP q135_ok d135_146 fl_11_61 rfl (soP (n := 269) (x := 250) (t := 11) (by decide)) (Or.inr ⟨rfl, rfl, rfl⟩) (by decide) rfl ?_
  refine wp_aload_n (j := 0) rfl q135_ok d135_149 ?_
  refine wp_iconst (v := 2) (by decide) q135_ok d135_150 ?_
  refine wp_newaP (t := 20) (m := 2) q135_ok d135_151 (by decide) (ixn_nI (j := 2) (by decide)) (by decide) (pushP (by decide +kernel) (by decide +kernel) rfl rfl (by decide +kernel)) ?_
  refine wp_putRP q135_ok d135_153 fl_11_64 rfl (soP (n := 270) (x := 250) (t := 11) (by decide)) (Or.inr ⟨rfl, rfl, rfl⟩) (by decide) rfl ?_
  refine wp_aload_n (j := 0) rfl q135_ok d135_156 ?_
  refine wp_iconst (v := 2) (by decide) q135_ok d135_157 ?_
  refine wp_newaP (t := 21) (m := 2) q135_ok d135_158 (by decide) (ixn_nI (j := 2) (by decide)) (by decide) (pushP (by decide +kernel) (by decide +kernel) rfl rfl (by decide +kernel)) ?_
  refine wp_putRP q135_ok d135_160 fl_11_67 rfl (soP (n := 271) (x := 250) (t := 11) (by decide)) (Or.inr ⟨rfl, rfl, rfl⟩) (by decide) rfl ?_
  refine wp_aload_n (j := 0) rfl q135_ok d135_163 ?_
  refine wp_bipush (v := 120) (by decide) q135_ok d135_164 ?_
  refine wp_newaP (t := 20) (m := 120) q135_ok d135_166 (by decide) (ixn_nI (j := 120) (by decide)) (by decide) (pushP (by decide +kernel) (by decide +kernel) rfl rfl (by decide +kernel)) ?_
  refine wp_putRP q135_ok d135_168 fl_11_71 rfl (soP (n := 272) (x := 250) (t := 11) (by decide)) (Or.inr ⟨rfl, rfl, rfl⟩) (by decide) rfl ?_
  refine wp_aload_n (j := 0) rfl q135_ok d135_171 ?_
  refine wp_bipush (v := 120) (by decide) q135_ok d135_172 ?_
  refine wp_newaP (t := 20) (m := 120) q135_ok d135_174 (by decide) (ixn_nI (j := 120) (by decide)) (by decide) (pushP (by decide +kernel) (by decide +kernel) rfl rfl (by decide +kernel)) ?_
  refine wp_putRP q135_ok d135_176 fl_11_74 rfl (soP (n := 273) (x := 250) (t := 11) (by decide)) (Or.inr ⟨rfl, rfl, rfl⟩) (by decide) rfl ?_
  refine wp_aload_n (j := 0) rfl q135_ok d135_179 ?_
  refine wp_bipush (v := 60) (by decide) q135_ok d135_180 ?_
  refine wp_newaP (t := 22) (m := 60) q135_ok d135_182 (by decide) (ixn_nI (j := 60) (by decide)) (by decide) (pushP (by decide +kernel) (by decide +kernel) rfl rfl (by decide +kernel)) ?_
  refine wp_putRP q135_ok d135_184 fl_11_77 rfl (soP (n := 274) (x := 250) (t := 11) (by decide)) (Or.inr ⟨rfl, rfl, rfl⟩) (by decide) rfl ?_
  refine wp_aload_n (j := 0) rfl q135_ok d135_187 ?_
  refine wp_iconst (v := 2) (by decide) q135_ok d135_188 ?_
  refine wp_newaP (t := 20) (m := 2) q135_ok d135_189 (by decide) (ixn_nI (j := 2) (by decide)) (by decide) (pushP (by decide +kernel) (by decide +kernel) rfl rfl (by decide +kernel)) ?_
  refine wp_putRP q135_ok d135_191 fl_11_81 rfl (soP (n := 275) (x := 250) (t := 11) (by decide)) (Or.inr ⟨rfl, rfl, rfl⟩) (by decide) rfl ?_
  refine wp_aload_n (j := 0) rfl q135_ok d135_194 ?_
  refine wp_iconst (v := 2) (by decide) q135_ok d135_195 ?_
  refine wp_newaP (t := 20) (m := 2) q135_ok d135_196 (by decide) (ixn_nI (j := 2) (by decide)) (by decide) (pushP (by decide +kernel) (by decide +kernel) rfl rfl (by decide +kernel)) ?_
  refine wp_putRP q135_ok d135_198 fl_11_84 rfl (soP (n := 276) (x := 250) (t := 11) (by decide)) (Or.inr ⟨rfl, rfl, rfl⟩) (by decide) rfl ?_
  refine wp_aload_n (j := 0) rfl q135_ok d135_201 ?_
  refine wp_bipush (v := 20) (by decide) q135_ok d135_202 ?_
  refine wp_newaP (t := 20) (m := 20) q135_ok d135_204 (by decide) (ixn_nI (j := 20) (by decide)) (by decide) (pushP (by decide +kernel) (by decide +kernel) rfl rfl (by decide +kernel)) ?_
  refine wp_putRP q135_ok d135_206 fl_11_87 rfl (soP (n := 277) (x := 250) (t := 11) (by decide)) (Or.inr ⟨rfl, rfl, rfl⟩) (by decide) rfl ?_
  refine wp_aload_n (j := 0) rfl q135_ok d135_209 ?_
  refine wp_bipush (v := 20) (by decide) q135_ok d135_210 ?_
  refine wp_newaP (t := 21) (m := 20) q135_ok d135_212 (by decide) (ixn_nI (j := 20) (by decide)) (by decide) (pushP (by decide +kernel) (by decide +kernel) rfl rfl (by decide +kernel)) ?_
  refine wp_putRP q135_ok d135_214 fl_11_90 rfl (soP (n := 278) (x := 250) (t := 11) (by decide)) (Or.inr ⟨rfl, rfl, rfl⟩) (by decide) rfl ?_
  refine wp_aload_n (j := 0) rfl q135_ok d135_217 ?_
  refine wp_sipush (v := 541) (by decide) q135_ok d135_218 ?_
  refine wp_newaP (t := 21) (m := 541) q135_ok d135_221 (by decide) (ixn_nI (j := 541) (by decide)) (by decide) (pushP (by decide +kernel) (by decide +kernel) rfl rfl (by decide +kernel)) ?_
  refine wp_putRP q135_ok d135_223 fl_11_93 rfl (soP (n := 279) (x := 250) (t := 11) (by decide)) (Or.inr ⟨rfl, rfl, rfl⟩) (by decide) rfl ?_
  refine wp_aload_n (j := 0) rfl q135_ok d135_226 ?_
  refine wp_bipush (v := 22) (by decide) q135_ok d135_227 ?_
  refine wp_newaP (t := 20) (m := 22) q135_ok d135_229 (by decide) (ixn_nI (j := 22) (by decide)) (by decide) (pushP (by decide +kernel) (by decide +kernel) rfl rfl (by decide +kernel)) ?_
  refine wp_putRP q135_ok d135_231 fl_11_96 rfl (soP (n := 280) (x := 250) (t := 11) (by decide)) (Or.inr ⟨rfl, rfl, rfl⟩) (by decide) rfl ?_
  refine wp_aload_n (j := 0) rfl q135_ok d135_234 ?_
  refine wp_iconst (v := 4) (by decide) q135_ok d135_235 ?_
  refine wp_newaP (t := 20) (m := 4) q135_ok d135_236 (by decide) (ixn_nI (j := 4) (by decide)) (by decide) (pushP (by decide +kernel) (by decide +kernel) rfl rfl (by decide +kernel)) ?_
  refine wp_putRP q135_ok d135_238 fl_11_99 rfl (soP (n := 281) (x := 250) (t := 11) (by decide)) (Or.inr ⟨rfl, rfl, rfl⟩) (by decide) rfl ?_
  refine wp_vret q135_ok d135_241 rfl ?_
  exact ⟨rfl, rfl⟩
