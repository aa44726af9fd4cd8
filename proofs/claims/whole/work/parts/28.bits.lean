/-! ===== bits ===== -/
def gb (x : Int32) (i : Nat) : Bool := x.toBitVec.getLsbD i
theorem gb_or (x y : Int32) (i : Nat) : gb (x ||| y) i = (gb x i || gb y i) := by
  unfold gb
  rw [Int32.toBitVec_or, BitVec.getLsbD_or]
theorem gb_and (x y : Int32) (i : Nat) : gb (x &&& y) i = (gb x i && gb y i) := by
  unfold gb
  rw [Int32.toBitVec_and, BitVec.getLsbD_and]
theorem gb_not (x : Int32) {i : Nat} (h : i < 32) : gb (x ^^^ -1) i = !gb x i := by
  unfold gb
  have e : (-1 : Int32).toBitVec = BitVec.allOnes 32 := by decide
  rw [Int32.toBitVec_xor, BitVec.getLsbD_xor, e, BitVec.getLsbD_allOnes, decide_eq_true h]
  cases BitVec.getLsbD x.toBitVec i <;> rfl
theorem gb_0 (i : Nat) : gb 0 i = false := by
  unfold gb
  have e : (0 : Int32).toBitVec = 0#32 := by decide
  rw [e, BitVec.getLsbD_zero]
theorem gb_ge (x : Int32) {i : Nat} (h : 32 ≤ i) : gb x i = false := BitVec.getLsbD_of_ge _ _ h
theorem gb_ext {x y : Int32} (h : ∀ i, i < 32 → gb x i = gb y i) : x = y := Int32.toBitVec_inj.mp (BitVec.eq_of_getLsbD_eq (fun i hi => h i hi))
theorem lt6 {k : Nat} (h : k < 6) : k = 0 ∨ k = 1 ∨ k = 2 ∨ k = 3 ∨ k = 4 ∨ k = 5 := by omega
theorem gb_bitC {k : Nat} (hk : k < 6) (i : Nat) : gb (bitC k) i = decide (i = k) := by
  by_cases h : i < 32
  · revert h
    revert i
    rcases lt6 hk with rfl | rfl | rfl | rfl | rfl | rfl <;> decide
  · rw [gb_ge _ (by omega), decide_eq_false (by omega)]
theorem gb_1 (i : Nat) : gb 1 i = decide (i = 0) := gb_bitC (k := 0) (by omega) i
theorem and1 (y : Int32) : (y &&& 1 = 0) ↔ gb y 0 = false := by
  constructor
  · intro h
    have e := gb_and y 1 0
    rw [h, gb_0, gb_1] at e
    simpa using e.symm
  · intro h
    refine gb_ext (fun i hi => ?_)
    rw [gb_and, gb_0, gb_1]
    by_cases e : i = 0
    · subst e; rw [h]; rfl
    · rw [decide_eq_false e, Bool.and_false]
theorem gb_shr (x : Int32) {k : Nat} (hk : k < 6) : gb (x >>> (nI k &&& 31)) 0 = gb x k := by
  unfold gb
  rw [Int32.toBitVec_shiftRight]
  rcases lt6 hk with rfl | rfl | rfl | rfl | rfl | rfl
  · rw [show BitVec.sshiftRight' x.toBitVec ((nI 0 &&& 31).toBitVec.smod 32) = BitVec.sshiftRight x.toBitVec 0 from rfl, BitVec.getLsbD_sshiftRight]; simp
  · rw [show BitVec.sshiftRight' x.toBitVec ((nI 1 &&& 31).toBitVec.smod 32) = BitVec.sshiftRight x.toBitVec 1 from rfl, BitVec.getLsbD_sshiftRight]; simp
  · rw [show BitVec.sshiftRight' x.toBitVec ((nI 2 &&& 31).toBitVec.smod 32) = BitVec.sshiftRight x.toBitVec 2 from rfl, BitVec.getLsbD_sshiftRight]; simp
  · rw [show BitVec.sshiftRight' x.toBitVec ((nI 3 &&& 31).toBitVec.smod 32) = BitVec.sshiftRight x.toBitVec 3 from rfl, BitVec.getLsbD_sshiftRight]; simp
  · rw [show BitVec.sshiftRight' x.toBitVec ((nI 4 &&& 31).toBitVec.smod 32) = BitVec.sshiftRight x.toBitVec 4 from rfl, BitVec.getLsbD_sshiftRight]; simp
  · rw [show BitVec.sshiftRight' x.toBitVec ((nI 5 &&& 31).toBitVec.smod 32) = BitVec.sshiftRight x.toBitVec 5 from rfl, BitVec.getLsbD_sshiftRight]; simp
theorem gb_sh (x : Int32) {k : Nat} (hk : k < 6) : ((x >>> (nI k &&& 31)) &&& 1 = 0) ↔ gb x k = false := by rw [and1, gb_shr x hk]
theorem gb_ne0 {x : Int32} : x ≠ 0 ↔ ∃ i, i < 32 ∧ gb x i = true := by
  constructor
  · intro h
    refine Classical.byContradiction (fun q => h (gb_ext (fun i hi => ?_)))
    rw [gb_0]
    cases e : gb x i with
    | false => rfl
    | true => exact absurd ⟨i, hi, e⟩ q
  · rintro ⟨i, _, h⟩ e
    rw [e, gb_0] at h
    cases h
/-- bits out of numbers -/
def bts (f : Nat → Int32) : Nat → Int32
  | 0 => 0
  | k + 1 => if f k = 0 then bts f k else bts f k ||| bitC k
theorem gb_bts (f : Nat → Int32) (i : Nat) : ∀ n, n ≤ 6 → gb (bts f n) i = (decide (i < n) && !decide (f i = 0))
  | 0, _ => by rw [bts, gb_0]; simp
  | k + 1, h => by
    rw [bts]
    have ih := gb_bts f i k (by omega)
    by_cases hk : f k = 0
    · rw [if_pos hk, ih]
      by_cases e : i = k
      · subst e; simp [hk]
      · by_cases e2 : i < k
        · simp [e2, show i < k + 1 by omega]
        · simp [e2, show ¬ i < k + 1 by omega]
    · rw [if_neg hk, gb_or, ih, gb_bitC (by omega)]
      by_cases e : i = k
      · subst e; simp [hk]
      · by_cases e2 : i < k
        · simp [e, e2, show i < k + 1 by omega]
        · simp [e, e2, show ¬ i < k + 1 by omega]
theorem bts_ext {f g : Nat → Int32} : ∀ n, (∀ i, i < n → (f i = 0 ↔ g i = 0)) → bts f n = bts g n
  | 0, _ => rfl
  | k + 1, h => by
    rw [bts, bts, bts_ext k (fun i hi => h i (by omega))]
    by_cases e : f k = 0
    · rw [if_pos e, if_pos ((h k (by omega)).mp e)]
    · rw [if_neg e, if_neg (fun q => e ((h k (by omega)).mpr q))]
