/-! ===== the small machine: a memory in planes, cells by number; it runs the real bytes ===== -/
abbrev mm_D : Type := Nat → Nat → Int32
abbrev mm_G : Type := Nat → Nat → Int64
abbrev mm_R : Type := Nat → Nat → Option Nat
/-- cells in use; cells and slots ever made; each cell's tag and length -/
abbrev mm_S : Type := Nat × Nat × Nat × (Nat → Nat × Nat)
abbrev mm_M : Type := mm_S × mm_D × mm_G × mm_R
abbrev mm_L : Type := List (Option Value)
def mm_up {α : Type} (f : Nat → Nat → α) (c k : Nat) (v : α) : Nat → Nat → α := fun c' => if c' = c then (fun k' => if k' = k then v else f c k') else f c'
def mm_rowset {α : Type} (f : Nat → α) (c : Nat) (v : α) : Nat → α := fun c' => if c' = c then v else f c'
/-- numbers from here on name arrays that are never written: the script, the three static ones -/
def mm_K : Nat := 1000000
def mm_st : List (List Int32) := [[102, 0, 59, 0, 108, 0, 60, 5, 113, 1, 60, 20, 100, 0, 9, 1], [102, 0, 59, 0, 108, 0, 60, 10, 113, 1, 60, 60, 118, 0, 9, 0], [104, 5, 60, 20, 107, 0, 1, 0, 114, 0, 9, 9]]
def mm_ca (xs : List Int32) (c : Nat) : List Int32 := (xs :: mm_st).getD (c - mm_K) []
/-- is an index inside -/
def mm_ix (i : Int32) (n : Nat) : Bool := decide (0 ≤ i) && decide (i.toNatClampNeg < n)
def mm_cats (st : List Value) : Nat := (st.map fun v => v.category).sum
-- locals
def mm_clr (L : mm_L) (i : Nat) : mm_L := match i with
  | 0 => L
  | j + 1 => match L[j]? with
    | some (some v) => if v.category = 2 then L.set j none else L
    | _ => L
def mm_s1 (L : mm_L) (i : Nat) (v : Value) : mm_L := (mm_clr L i).set i (some v)
def mm_s2 (L : mm_L) (i : Nat) (v : Value) : mm_L := ((mm_clr L i).set i (some v)).set (i + 1) none
def mm_flat : List Value → mm_L
  | [] => []
  | v :: vs => if v.category = 2 then some v :: none :: mm_flat vs else some v :: mm_flat vs
def mm_entry (as : List Value) (ml : Nat) : mm_L := mm_flat as ++ List.replicate (ml - (mm_flat as).length) none
-- links
def mm_fl (own idx : Nat) : Option (Nat × Nat × Nat) := (mm_flt.find? (fun q => q.1 == own && q.2.1 == idx)).map (fun q => q.2.2)
def mm_ml (own idx : Nat) : Option (Nat × Nat) := (mm_mlt.find? (fun q => q.1 == own && q.2.1 == idx)).map (fun q => q.2.2)
def mm_gs (own idx : Nat) : Option (Nat × Nat) := (mm_gst.find? (fun q => q.1 == own && q.2.1 == idx)).map (fun q => q.2.2)
def mm_clk (own idx : Nat) : Option Nat := (mm_clt.find? (fun q => q.1 == own && q.2.1 == idx)).map (fun q => q.2.2)
def mm_an (own idx : Nat) : Option Nat := (mm_ant.find? (fun q => q.1 == own && q.2.1 == idx)).map (fun q => q.2.2)
def mm_kc (own idx : Nat) : Option Int32 := (mm_kct.find? (fun q => q.1 == own && q.2.1 == idx)).map (fun q => q.2.2)
def mm_kl (own idx : Nat) : Option Int64 := (mm_klt.find? (fun q => q.1 == own && q.2.1 == idx)).map (fun q => q.2.2)
/-- tags of arrays: 20 int, 21 boolean, 22 long, 23 Habit, 24 Tower, 25 int[] -/
def mm_sh (μ : mm_M) (c : Nat) : Nat × Nat := μ.1.2.2.2 c
def mm_next (μ : mm_M) : Nat := μ.1.1
def mm_isO (μ : mm_M) (c t : Nat) : Bool := decide (c < mm_next μ) && decide ((mm_sh μ c).1 = t)
/-- a cell more -/
def mm_push (μ : mm_M) (t n slots : Nat) : mm_M :=
  ((μ.1.1 + 1, μ.1.2.1 + 1, μ.1.2.2.1 + slots, mm_rowset μ.1.2.2.2 μ.1.1 (t, n)), mm_rowset μ.2.1 μ.1.1 (fun _ => 0), mm_rowset μ.2.2.1 μ.1.1 (fun _ => 0), mm_rowset μ.2.2.2 μ.1.1 (fun _ => none))
abbrev mm_O : Type := Option (Nat × mm_L × List Value × mm_M)
def mm_jmp (pc : Nat) (off : Int) : Option Nat := if 0 ≤ (pc : Int) + off then some ((pc : Int) + off).toNat else none
def mm_br (b : Bool) (pc : Nat) (off : Int) (L : mm_L) (S : List Value) (μ : mm_M) : mm_O := (mm_jmp pc off).map (fun t => (if b then t else pc + 3, L, S, μ))
def mm_cnd (c : ClassFile.Cond) (x y : Int32) : Bool := match c with
  | .eq => decide (x = y)
  | .ne => decide (¬ x = y)
  | .lt => decide (x < y)
  | .ge => decide (y ≤ x)
  | .gt => decide (y < x)
  | .le => decide (x ≤ y)
def mm_ldI (k len pc : Nat) (L : mm_L) (S : List Value) (μ : mm_M) : mm_O := match L[k]? with
  | some (some (.int x)) => some (pc + len, L, .int x :: S, μ)
  | _ => none
def mm_ldJ (k len pc : Nat) (L : mm_L) (S : List Value) (μ : mm_M) : mm_O := match L[k]? with
  | some (some (.long x)) => some (pc + len, L, .long x :: S, μ)
  | _ => none
def mm_ldA (k len pc : Nat) (L : mm_L) (S : List Value) (μ : mm_M) : mm_O := match L[k]? with
  | some (some (.ref x)) => some (pc + len, L, .ref x :: S, μ)
  | some (some .null) => some (pc + len, L, .null :: S, μ)
  | _ => none
def mm_stI (k len pc : Nat) (L : mm_L) (S : List Value) (μ : mm_M) : mm_O := match S with
  | .int x :: S => if k < L.length then some (pc + len, mm_s1 L k (.int x), S, μ) else none
  | _ => none
def mm_stJ (k len pc : Nat) (L : mm_L) (S : List Value) (μ : mm_M) : mm_O := match S with
  | .long x :: S => if k + 1 < L.length then some (pc + len, mm_s2 L k (.long x), S, μ) else none
  | _ => none
def mm_stA (k len pc : Nat) (L : mm_L) (S : List Value) (μ : mm_M) : mm_O := match S with
  | .ref x :: S => if k < L.length then some (pc + len, mm_s1 L k (.ref x), S, μ) else none
  | .null :: S => if k < L.length then some (pc + len, mm_s1 L k .null, S, μ) else none
  | _ => none
def mm_binI (f : Int32 → Int32 → Int32) (pc : Nat) (L : mm_L) (S : List Value) (μ : mm_M) : mm_O := match S with
  | .int y :: .int x :: S => some (pc + 1, L, .int (f x y) :: S, μ)
  | _ => none
def mm_binJ (f : Int64 → Int64 → Int64) (pc : Nat) (L : mm_L) (S : List Value) (μ : mm_M) : mm_O := match S with
  | .long y :: .long x :: S => some (pc + 1, L, .long (f x y) :: S, μ)
  | _ => none
def mm_divI (f : Int32 → Int32 → Int32) (pc : Nat) (L : mm_L) (S : List Value) (μ : mm_M) : mm_O := match S with
  | .int y :: .int x :: S => if y = 0 then none else some (pc + 1, L, .int (f x y) :: S, μ)
  | _ => none
def mm_divJ (f : Int64 → Int64 → Int64) (pc : Nat) (L : mm_L) (S : List Value) (μ : mm_M) : mm_O := match S with
  | .long y :: .long x :: S => if y = 0 then none else some (pc + 1, L, .long (f x y) :: S, μ)
  | _ => none
def mm_val (kd : Nat) (x : Int32) (y : Int64) (z : Option Nat) : Value := if kd = 1 then .long y else if kd = 2 then va_rf z else .int x
def mm_getf (own idx pc : Nat) (L : mm_L) (S : List Value) (μ : mm_M) : mm_O := match S with
  | .ref c :: S => match mm_fl own idx with
    | some q => if mm_isO μ c q.1 then some (pc + 3, L, mm_val (mm_kd q.1 q.2.1) (μ.2.1 c q.2.1) (μ.2.2.1 c q.2.1) (μ.2.2.2 c q.2.1) :: S, μ) else none
    | none => none
  | _ => none
def mm_putf (ini : Bool) (own idx pc : Nat) (L : mm_L) (S : List Value) (μ : mm_M) : mm_O := match S with
  | v :: .ref c :: S => match mm_fl own idx with
    | some q => if mm_isO μ c q.1 && (!(mm_fld q.1 q.2.1).2.2 || (ini && decide (q.1 = own) && decide (q.2.2 = 0))) then
        match v, mm_kd q.1 q.2.1 with
        | .int x, 0 => some (pc + 3, L, S, (μ.1, mm_up μ.2.1 c q.2.1 x, μ.2.2.1, μ.2.2.2))
        | .int x, 3 => if x = 0 ∨ x = 1 then some (pc + 3, L, S, (μ.1, mm_up μ.2.1 c q.2.1 x, μ.2.2.1, μ.2.2.2)) else none
        | .long x, 1 => some (pc + 3, L, S, (μ.1, μ.2.1, mm_up μ.2.2.1 c q.2.1 x, μ.2.2.2))
        | .ref x, 2 => if x < mm_next μ then some (pc + 3, L, S, (μ.1, μ.2.1, μ.2.2.1, mm_up μ.2.2.2 c q.2.1 (some x))) else none
        | .null, 2 => some (pc + 3, L, S, (μ.1, μ.2.1, μ.2.2.1, mm_up μ.2.2.2 c q.2.1 none))
        | _, _ => none
      else none
    | none => none
  | _ => none
def mm_iald (xs : List Int32) (pc : Nat) (L : mm_L) (S : List Value) (μ : mm_M) : mm_O := match S with
  | .int i :: .ref a :: S =>
    if mm_K ≤ a then (if decide (a < mm_K + 4) && mm_ix i (mm_ca xs a).length then some (pc + 1, L, .int ((mm_ca xs a).getD i.toNatClampNeg 0) :: S, μ) else none)
    else if mm_isO μ a 20 && mm_ix i (mm_sh μ a).2 then some (pc + 1, L, .int (μ.2.1 a i.toNatClampNeg) :: S, μ) else none
  | _ => none
def mm_bald (pc : Nat) (L : mm_L) (S : List Value) (μ : mm_M) : mm_O := match S with
  | .int i :: .ref a :: S => if mm_isO μ a 21 && mm_ix i (mm_sh μ a).2 then some (pc + 1, L, .int (μ.2.1 a i.toNatClampNeg) :: S, μ) else none
  | _ => none
def mm_lald (pc : Nat) (L : mm_L) (S : List Value) (μ : mm_M) : mm_O := match S with
  | .int i :: .ref a :: S => if mm_isO μ a 22 && mm_ix i (mm_sh μ a).2 then some (pc + 1, L, .long (μ.2.2.1 a i.toNatClampNeg) :: S, μ) else none
  | _ => none
def mm_aald (pc : Nat) (L : mm_L) (S : List Value) (μ : mm_M) : mm_O := match S with
  | .int i :: .ref a :: S => if (mm_isO μ a 23 || mm_isO μ a 24 || mm_isO μ a 25) && mm_ix i (mm_sh μ a).2 then some (pc + 1, L, va_rf (μ.2.2.2 a i.toNatClampNeg) :: S, μ) else none
  | _ => none
def mm_iast (pc : Nat) (L : mm_L) (S : List Value) (μ : mm_M) : mm_O := match S with
  | .int x :: .int i :: .ref a :: S => if mm_isO μ a 20 && mm_ix i (mm_sh μ a).2 then some (pc + 1, L, S, (μ.1, mm_up μ.2.1 a i.toNatClampNeg x, μ.2.2.1, μ.2.2.2)) else none
  | _ => none
def mm_bast (pc : Nat) (L : mm_L) (S : List Value) (μ : mm_M) : mm_O := match S with
  | .int x :: .int i :: .ref a :: S => if (mm_isO μ a 21 && mm_ix i (mm_sh μ a).2) && (decide (x = 0) || decide (x = 1)) then some (pc + 1, L, S, (μ.1, mm_up μ.2.1 a i.toNatClampNeg x, μ.2.2.1, μ.2.2.2)) else none
  | _ => none
def mm_last (pc : Nat) (L : mm_L) (S : List Value) (μ : mm_M) : mm_O := match S with
  | .long x :: .int i :: .ref a :: S => if mm_isO μ a 22 && mm_ix i (mm_sh μ a).2 then some (pc + 1, L, S, (μ.1, μ.2.1, mm_up μ.2.2.1 a i.toNatClampNeg x, μ.2.2.2)) else none
  | _ => none
def mm_aast (pc : Nat) (L : mm_L) (S : List Value) (μ : mm_M) : mm_O := match S with
  | .ref x :: .int i :: .ref a :: S => if ((mm_isO μ a 23 && mm_isO μ x 0) || (mm_isO μ a 24 && mm_isO μ x 6)) && mm_ix i (mm_sh μ a).2 then some (pc + 1, L, S, (μ.1, μ.2.1, μ.2.2.1, mm_up μ.2.2.2 a i.toNatClampNeg (some x))) else none
  | .null :: .int i :: .ref a :: S => if (mm_isO μ a 23 || mm_isO μ a 24) && mm_ix i (mm_sh μ a).2 then some (pc + 1, L, S, (μ.1, μ.2.1, μ.2.2.1, mm_up μ.2.2.2 a i.toNatClampNeg none)) else none
  | _ => none
def mm_alen (xs : List Int32) (pc : Nat) (L : mm_L) (S : List Value) (μ : mm_M) : mm_O := match S with
  | .ref a :: S =>
    if mm_K ≤ a then (if a < mm_K + 4 then some (pc + 1, L, .int (Int32.ofNat (mm_ca xs a).length) :: S, μ) else none)
    else if decide (a < mm_next μ) && decide (20 ≤ (mm_sh μ a).1) then some (pc + 1, L, .int (Int32.ofNat (mm_sh μ a).2) :: S, μ) else none
  | _ => none
def mm_new (own idx pc : Nat) (L : mm_L) (S : List Value) (μ : mm_M) : mm_O := match mm_clk own idx with
  | some t => if mm_next μ < 900000 then some (pc + 3, L, .ref (mm_next μ) :: S, mm_push μ t 0 (mm_nf t)) else none
  | none => none
def mm_newa (t pc : Nat) (L : mm_L) (S : List Value) (μ : mm_M) : mm_O := match S with
  | .int n :: S => if decide (0 ≤ n) && decide (n.toNatClampNeg < 100000) && decide (mm_next μ < 900000) then some (pc + 2, L, .ref (mm_next μ) :: S, mm_push μ t n.toNatClampNeg n.toNatClampNeg) else none
  | _ => none
def mm_anew (own idx pc : Nat) (L : mm_L) (S : List Value) (μ : mm_M) : mm_O := match S with
  | .int n :: S => match mm_an own idx with
    | some t => if decide (0 ≤ n) && decide (n.toNatClampNeg < 100000) && decide (mm_next μ < 900000) then some (pc + 3, L, .ref (mm_next μ) :: S, mm_push μ (if t = 0 then 23 else 24) n.toNatClampNeg n.toNatClampNeg) else none
    | none => none
  | _ => none
/-- rows of k places, n of them -/
def mm_rows (μ : mm_M) (k : Nat) : Nat → mm_M
  | 0 => μ
  | n + 1 => mm_push (mm_rows μ k n) 20 k k
def mm_mnaM (μ : mm_M) (n k : Nat) : mm_M := match mm_rows (mm_push μ 25 n n) k n with
  | ν => (ν.1, ν.2.1, ν.2.2.1, mm_rowset ν.2.2.2 (mm_next μ) (fun i => if i < n then some (mm_next μ + 1 + i) else none))
def mm_mna (own idx pc : Nat) (L : mm_L) (S : List Value) (μ : mm_M) : mm_O := match S with
  | .int k :: .int n :: S => if decide (own = 7) && decide (idx = 9) && (decide (0 ≤ n) && decide (n.toNatClampNeg < 100) && decide (0 ≤ k) && decide (k.toNatClampNeg < 100)) && decide (mm_next μ < 900000) then
      some (pc + 4, L, .ref (mm_next μ) :: S, mm_mnaM μ n.toNatClampNeg k.toNatClampNeg) else none
  | _ => none
def mm_sw (d lo hi : Int) (os : Array Int) (pc : Nat) (L : mm_L) (S : List Value) (μ : mm_M) : mm_O := match S with
  | .int x :: S => if x.toInt < lo ∨ hi < x.toInt then (mm_jmp pc d).map (fun t => (t, L, S, μ)) else (os[(x.toInt - lo).toNat]?).bind (fun o => (mm_jmp pc o).map (fun t => (t, L, S, μ)))
  | _ => none
/-- one instruction that is neither a call nor a return -/
def mm_step (xs : List Int32) (ini : Bool) (own : Nat) (i : Instr) (pc : Nat) (L : mm_L) (S : List Value) (μ : mm_M) : mm_O := match i with
  | .iconst n => some (pc + 1, L, .int (Int32.ofInt n) :: S, μ)
  | .bipush n => some (pc + 2, L, .int (Int8.ofInt n).toInt32 :: S, μ)
  | .sipush n => some (pc + 3, L, .int (Int16.ofInt n).toInt32 :: S, μ)
  | .lconst n => some (pc + 1, L, .long (Int64.ofNat (n : Nat)) :: S, μ)
  | .aconst_null => some (pc + 1, L, .null :: S, μ)
  | .ldc_w idx => (mm_kc own idx).map (fun v => (pc + 3, L, .int v :: S, μ))
  | .ldc idx => (mm_kc own idx).map (fun v => (pc + 2, L, .int v :: S, μ))
  | .ldc2_w idx => (mm_kl own idx).map (fun v => (pc + 3, L, .long v :: S, μ))
  | .iload_n k => mm_ldI k 1 pc L S μ
  | .iload k => mm_ldI k 2 pc L S μ
  | .lload_n k => mm_ldJ k 1 pc L S μ
  | .lload k => mm_ldJ k 2 pc L S μ
  | .aload_n k => mm_ldA k 1 pc L S μ
  | .aload k => mm_ldA k 2 pc L S μ
  | .istore_n k => mm_stI k 1 pc L S μ
  | .istore k => mm_stI k 2 pc L S μ
  | .lstore_n k => mm_stJ k 1 pc L S μ
  | .lstore k => mm_stJ k 2 pc L S μ
  | .astore_n k => mm_stA k 1 pc L S μ
  | .astore k => mm_stA k 2 pc L S μ
  | .iinc k n => match L[k]? with
    | some (some (.int x)) => some (pc + 3, mm_s1 L k (.int (x + Int32.ofInt n)), S, μ)
    | _ => none
  | .iadd => mm_binI (fun x y => x + y) pc L S μ
  | .isub => mm_binI (fun x y => x - y) pc L S μ
  | .imul => mm_binI (fun x y => x * y) pc L S μ
  | .iand => mm_binI (fun x y => x &&& y) pc L S μ
  | .ior => mm_binI (fun x y => x ||| y) pc L S μ
  | .ixor => mm_binI (fun x y => x ^^^ y) pc L S μ
  | .ishl => mm_binI (fun x y => x <<< (y &&& 31)) pc L S μ
  | .ishr => mm_binI (fun x y => x >>> (y &&& 31)) pc L S μ
  | .iushr => mm_binI (fun x y => (x.toUInt32 >>> (y.toUInt32 &&& Int32.toUInt32 31)).toInt32) pc L S μ
  | .idiv => mm_divI (fun x y => x / y) pc L S μ
  | .irem => mm_divI (fun x y => x - (x / y) * y) pc L S μ
  | .ladd => mm_binJ (fun x y => x + y) pc L S μ
  | .lsub => mm_binJ (fun x y => x - y) pc L S μ
  | .lmul => mm_binJ (fun x y => x * y) pc L S μ
  | .land => mm_binJ (fun x y => x &&& y) pc L S μ
  | .lor => mm_binJ (fun x y => x ||| y) pc L S μ
  | .ldiv => mm_divJ (fun x y => x / y) pc L S μ
  | .lrem => mm_divJ (fun x y => x - (x / y) * y) pc L S μ
  | .lushr => match S with
    | .int y :: .long x :: S => some (pc + 1, L, .long (x.toUInt64 >>> (y.toInt64.toUInt64 &&& Int64.toUInt64 63)).toInt64 :: S, μ)
    | _ => none
  | .lshl => match S with
    | .int y :: .long x :: S => some (pc + 1, L, .long (x <<< (y.toInt64 &&& 63)) :: S, μ)
    | _ => none
  | .lcmp => match S with
    | .long y :: .long x :: S => some (pc + 1, L, .int (lg_cmp x y) :: S, μ)
    | _ => none
  | .i2l => match S with
    | .int x :: S => some (pc + 1, L, .long x.toInt64 :: S, μ)
    | _ => none
  | .l2i => match S with
    | .long x :: S => some (pc + 1, L, .int x.toInt32 :: S, μ)
    | _ => none
  | .dup => match S with
    | v :: S => if v.category = 1 then some (pc + 1, L, v :: v :: S, μ) else none
    | _ => none
  | .pop => match S with
    | v :: S => if v.category = 1 then some (pc + 1, L, S, μ) else none
    | _ => none
  | .dup2 => match S with
    | v :: w :: S => if v.category = 1 ∧ w.category = 1 then some (pc + 1, L, v :: w :: v :: w :: S, μ) else none
    | _ => none
  | .ifCond c off => match S with
    | .int x :: S => mm_br (mm_cnd c x 0) pc off L S μ
    | _ => none
  | .if_icmp c off => match S with
    | .int y :: .int x :: S => mm_br (mm_cnd c x y) pc off L S μ
    | _ => none
  | .goto off => (mm_jmp pc off).map (fun t => (t, L, S, μ))
  | .ifnull off => match S with
    | .ref _ :: S => some (pc + 3, L, S, μ)
    | .null :: S => (mm_jmp pc off).map (fun t => (t, L, S, μ))
    | _ => none
  | .ifnonnull off => match S with
    | .null :: S => some (pc + 3, L, S, μ)
    | .ref _ :: S => (mm_jmp pc off).map (fun t => (t, L, S, μ))
    | _ => none
  | .tableswitch d lo hi os => mm_sw d lo hi os pc L S μ
  | .getfield idx => mm_getf own idx pc L S μ
  | .putfield idx => mm_putf ini own idx pc L S μ
  | .getstatic idx => (mm_gs own idx).map (fun q => (pc + 3, L, .ref (mm_K + 1 + q.1) :: S, μ))
  | .iaload => mm_iald xs pc L S μ
  | .baload => mm_bald pc L S μ
  | .laload => mm_lald pc L S μ
  | .aaload => mm_aald pc L S μ
  | .iastore => mm_iast pc L S μ
  | .bastore => mm_bast pc L S μ
  | .lastore => mm_last pc L S μ
  | .aastore => mm_aast pc L S μ
  | .arraylength => mm_alen xs pc L S μ
  | .new idx => mm_new own idx pc L S μ
  | .newarray .int => mm_newa 20 pc L S μ
  | .newarray .boolean => mm_newa 21 pc L S μ
  | .newarray .long => mm_newa 22 pc L S μ
  | .anewarray idx => mm_anew own idx pc L S μ
  | .multianewarray idx 2 => mm_mna own idx pc L S μ
  | _ => none
/-- returns -/
def mm_ret (i : Instr) (rt : Option FieldType) (S : List Value) : Option (Option Value) := match i, S, rt with
  | .ireturn, [.int v], some .int => some (some (.int v))
  | .ireturn, [.int v], some .boolean => if v = 0 ∨ v = 1 then some (some (.int v)) else none
  | .lreturn, [.long v], some .long => some (some (.long v))
  | .areturn, [.ref a], some (.object _) => some (some (.ref a))
  | .areturn, [.ref a], some (.array _) => some (some (.ref a))
  | .areturn, [.null], some (.object _) => some (some .null)
  | .areturn, [.null], some (.array _) => some (some .null)
  | .return_, [], none => some none
  | _, _, _ => none
/-- calls: the method, its arguments, the stack below them -/
def mm_pop (n : Nat) (S : List Value) : Option (List Value × List Value) := match S.drop n with
  | .ref b :: rest => if (S.take n).length = n then some (.ref b :: (S.take n).reverse, rest) else none
  | _ => none
def mm_callV (μ : mm_M) (t : Nat × MethodName × ByteArray × Nat × Option FieldType × Nat) (S : List Value) : Option (List Value × List Value) := match mm_pop t.2.2.2.2.2 S with
  | some (.ref b :: as, rest) => if mm_isO μ b t.1 && (decide ((mm_flat (.ref b :: as)).length ≤ t.2.2.2.1) && decide (mm_cats rest ≤ 8)) then some (.ref b :: as, rest) else none
  | _ => none
def mm_callS (t : Nat × MethodName × ByteArray × Nat × Option FieldType × Nat) (S : List Value) : Option (List Value × List Value) :=
  if decide ((S.take t.2.2.2.2.2).length = t.2.2.2.2.2) && (decide ((mm_flat (S.take t.2.2.2.2.2).reverse).length ≤ t.2.2.2.1) && decide (mm_cats (S.drop t.2.2.2.2.2) ≤ 8)) then some ((S.take t.2.2.2.2.2).reverse, S.drop t.2.2.2.2.2) else none
def mm_callI (t : Nat × MethodName × ByteArray × Nat × Option FieldType × Nat) (S : List Value) : Option (List Value × List Value) := match mm_pop t.2.2.2.2.2 S with
  | some (.ref b :: as, rest) => if decide (t.2.2.2.2.1 = none) && (decide ((mm_flat (.ref b :: as)).length ≤ t.2.2.2.1) && decide (mm_cats rest ≤ 8)) then some (.ref b :: as, rest) else none
  | _ => none
def mm_call (μ : mm_M) (q : Nat × Nat) (t : Nat × MethodName × ByteArray × Nat × Option FieldType × Nat) (S : List Value) : Option (List Value × List Value) :=
  match q.2 with
  | 0 => mm_callV μ t S
  | 1 => mm_callS t S
  | 2 => mm_callI t S
  | 4 => mm_callI t S
  | 6 => mm_callS t S
  | _ => none
def mm_inv (i : Instr) : Option (Nat × Nat) := match i with
  | .invokevirtual k => some (k, 0)
  | .invokestatic k => some (k, 1)
  | .invokespecial k => some (k, 2)
  | _ => none
/-- kind of instruction and kind of link fit -/
def mm_fits (a b : Nat) : Bool := (decide (a = 0) && decide (b = 0)) || (decide (a = 1) && (decide (b = 1) || decide (b = 6))) || (decide (a = 2) && (decide (b = 2) || decide (b = 4)))
def mm_len (i : Instr) : Nat := match i with
  | .bipush _ => 2
  | .iload _ => 2
  | .lload _ => 2
  | .aload _ => 2
  | .istore _ => 2
  | .lstore _ => 2
  | .astore _ => 2
  | .ldc _ => 2
  | .newarray _ => 2
  | .sipush _ => 3
  | .ldc_w _ => 3
  | .ldc2_w _ => 3
  | .iinc _ _ => 3
  | .ifCond _ _ => 3
  | .if_icmp _ _ => 3
  | .goto _ => 3
  | .ifnull _ => 3
  | .ifnonnull _ => 3
  | .getfield _ => 3
  | .putfield _ => 3
  | .getstatic _ => 3
  | .new _ => 3
  | .anewarray _ => 3
  | .invokevirtual _ => 3
  | .invokestatic _ => 3
  | .invokespecial _ => 3
  | .multianewarray _ _ => 4
  | _ => 1
def mm_lenok (i : Instr) (len : Nat) : Bool := match i with
  | .tableswitch _ _ _ _ => true
  | i => decide (len = mm_len i)
def mm_dec (q : Nat × MethodName × ByteArray × Nat × Option FieldType × Nat) (pc : Nat) : Option Instr := match decode q.2.2.1 pc with
  | .error _ => none
  | .ok (i, len) => if mm_lenok i len then some i else none
def mm_le (μ μ' : mm_M) : Bool := decide (μ.1.1 ≤ μ'.1.1) && (decide (μ.1.2.1 ≤ μ'.1.2.1) && decide (μ.1.2.2.1 ≤ μ'.1.2.2.1))
/-- f: how many instructions at most; n: how deep calls may go; ext: the law's own try -/
def mm_run (xs : List Int32) (ext : Nat → List Value → mm_M → Option (Option Value × mm_M)) : Nat → Nat → Nat → Nat → mm_L → List Value → mm_M → Option (Option Value × mm_M)
  | 0, _, _, _, _, _, _ => none
  | f + 1, n, k, pc, L, S, μ => match mm_mt[k]? with
    | none => none
    | some q => match mm_dec q pc with
      | none => none
      | some i => match mm_inv i with
        | some (idx, a) => match n with
          | 0 => none
          | n' + 1 => match mm_ml q.1 idx with
            | none => none
            | some lk => if L.length ≠ q.2.2.2.1 then none else if lk.2 = 5 ∧ a = 2 then (match S with
                | .ref _ :: S' => if mm_cats S' ≤ 8 then mm_run xs ext f n k (pc + 3) L S' μ else none
                | _ => none)
              else if mm_fits a lk.2 then (match mm_mt[lk.1]? with
                | none => none
                | some t => match mm_call μ lk t S with
                  | none => none
                  | some (as, rest) => match (if lk.2 = 6 then ext n' as μ else mm_run xs ext f n' lk.1 0 (mm_entry as t.2.2.2.1) [] μ) with
                    | none => none
                    | some (v, μ') => if mm_le μ μ' then mm_run xs ext f n k (pc + 3) L (v.toList ++ rest) μ' else none)
              else none
        | none => match mm_ret i q.2.2.2.2.1 S with
          | some v => some (v, μ)
          | none => match mm_step xs (decide (q.2.1.name = "<init>")) q.1 i pc L S μ with
            | none => none
            | some (pc', L', S', μ') => if mm_le μ μ' then mm_run xs ext f n k pc' L' S' μ' else none
