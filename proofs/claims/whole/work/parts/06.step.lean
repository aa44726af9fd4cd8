/-! ===== one step of the small machine, whichever it is ===== -/
/-- new int[n][k]: shown in a part of its own -/
def mm_MnaOK : Prop := ∀ (p : Program) (l : Launch) (e : Env) (R : Room) (s : State) (m : MethodId) (args : Array Value) (below : List Frame) (meth : Method) (c : Code) (D : va_G) (xs : List Int32) (A : Nat → Prop) (adr0 : Nat → Nat) (ca0 : Nat → ClassId) (n0 cb sb : Nat) (Q : State → Prop) (cc : ByteArray) (ini : Bool) (pc : Nat) (L : mm_L) (S : List Value) (μ : mm_M) (n k : Int32),
  mm_C p s m args meth c D xs A adr0 7 cc ini → 0 ≤ n → n.toNatClampNeg < 100 → 0 ≤ k → k.toNatClampNeg < 100 → mm_next μ < 900000 → (mm_mnaM μ n.toNatClampNeg k.toNatClampNeg).1.2.1 ≤ cb + R.cells → (mm_mnaM μ n.toNatClampNeg k.toNatClampNeg).1.2.2.1 ≤ sb + R.slots → decode cc pc = .ok (.multianewarray 9 2, 4) →
  mm_V p l e R s m args below meth c D A adr0 ca0 n0 cb sb Q (pc + 4) L (.ref (mm_next μ) :: S) (mm_mnaM μ n.toNatClampNeg k.toNatClampNeg) → mm_V p l e R s m args below meth c D A adr0 ca0 n0 cb sb Q pc L (.int k :: .int n :: S) μ
section STEP
variable {p : Program} {l : Launch} {e : Env} {R : Room} {s : State} {m : MethodId} {args : Array Value} {below : List Frame} {meth : Method} {c : Code} {D : va_G} {xs : List Int32} {A : Nat → Prop} {adr0 : Nat → Nat} {ca0 : Nat → ClassId} {n0 cb sb : Nat} {Q : State → Prop} {own : Nat} {cc : ByteArray} {ini : Bool}
variable {pc : Nat} {L : mm_L} {S : List Value} {μ : mm_M} {pc' : Nat} {L' : mm_L} {S' : List Value} {μ' : mm_M}
theorem st_iload_n (C : mm_C p s m args meth c D xs A adr0 own cc ini) {j : Fin 4} (h : mm_ldI (j : Nat) 1 pc L S μ = some (pc', L', S', μ')) (hd : decode cc pc = .ok (.iload_n j, 1)) (kk : mm_V p l e R s m args below meth c D A adr0 ca0 n0 cb sb Q pc' L' S' μ') : mm_V p l e R s m args below meth c D A adr0 ca0 n0 cb sb Q pc L S μ := by
  unfold mm_ldI at h
  split at h
  · rename_i hL
    cases h
    exact mv_iload_n C hL hd kk
  · cases h
theorem st_iload (C : mm_C p s m args meth c D xs A adr0 own cc ini) {j : Nat} (h : mm_ldI (j : Nat) 2 pc L S μ = some (pc', L', S', μ')) (hd : decode cc pc = .ok (.iload j, 2)) (kk : mm_V p l e R s m args below meth c D A adr0 ca0 n0 cb sb Q pc' L' S' μ') : mm_V p l e R s m args below meth c D A adr0 ca0 n0 cb sb Q pc L S μ := by
  unfold mm_ldI at h
  split at h
  · rename_i hL
    cases h
    exact mv_iload C hL hd kk
  · cases h
theorem st_lload_n (C : mm_C p s m args meth c D xs A adr0 own cc ini) {j : Fin 4} (h : mm_ldJ (j : Nat) 1 pc L S μ = some (pc', L', S', μ')) (hd : decode cc pc = .ok (.lload_n j, 1)) (kk : mm_V p l e R s m args below meth c D A adr0 ca0 n0 cb sb Q pc' L' S' μ') : mm_V p l e R s m args below meth c D A adr0 ca0 n0 cb sb Q pc L S μ := by
  unfold mm_ldJ at h
  split at h
  · rename_i hL
    cases h
    exact mv_lload_n C hL hd kk
  · cases h
theorem st_lload (C : mm_C p s m args meth c D xs A adr0 own cc ini) {j : Nat} (h : mm_ldJ (j : Nat) 2 pc L S μ = some (pc', L', S', μ')) (hd : decode cc pc = .ok (.lload j, 2)) (kk : mm_V p l e R s m args below meth c D A adr0 ca0 n0 cb sb Q pc' L' S' μ') : mm_V p l e R s m args below meth c D A adr0 ca0 n0 cb sb Q pc L S μ := by
  unfold mm_ldJ at h
  split at h
  · rename_i hL
    cases h
    exact mv_lload C hL hd kk
  · cases h
theorem st_aload_n (C : mm_C p s m args meth c D xs A adr0 own cc ini) {j : Fin 4} (h : mm_ldA (j : Nat) 1 pc L S μ = some (pc', L', S', μ')) (hd : decode cc pc = .ok (.aload_n j, 1)) (kk : mm_V p l e R s m args below meth c D A adr0 ca0 n0 cb sb Q pc' L' S' μ') : mm_V p l e R s m args below meth c D A adr0 ca0 n0 cb sb Q pc L S μ := by
  unfold mm_ldA at h
  split at h
  · rename_i hL
    cases h
    exact mv_aload_n C hL hd kk
  · rename_i hL
    cases h
    exact mv_aload_nN C hL hd kk
  · cases h
theorem st_aload (C : mm_C p s m args meth c D xs A adr0 own cc ini) {j : Nat} (h : mm_ldA (j : Nat) 2 pc L S μ = some (pc', L', S', μ')) (hd : decode cc pc = .ok (.aload j, 2)) (kk : mm_V p l e R s m args below meth c D A adr0 ca0 n0 cb sb Q pc' L' S' μ') : mm_V p l e R s m args below meth c D A adr0 ca0 n0 cb sb Q pc L S μ := by
  unfold mm_ldA at h
  split at h
  · rename_i hL
    cases h
    exact mv_aload C hL hd kk
  · rename_i hL
    cases h
    exact mv_aloadN C hL hd kk
  · cases h
theorem st_istore_n (C : mm_C p s m args meth c D xs A adr0 own cc ini) {j : Fin 4} (h : mm_stI (j : Nat) 1 pc L S μ = some (pc', L', S', μ')) (hd : decode cc pc = .ok (.istore_n j, 1)) (kk : mm_V p l e R s m args below meth c D A adr0 ca0 n0 cb sb Q pc' L' S' μ') : mm_V p l e R s m args below meth c D A adr0 ca0 n0 cb sb Q pc L S μ := by
  unfold mm_stI at h
  split at h
  · split at h
    · rename_i hj
      cases h
      exact mv_istore_n C hj hd kk
    · cases h
  · cases h
theorem st_istore (C : mm_C p s m args meth c D xs A adr0 own cc ini) {j : Nat} (h : mm_stI (j : Nat) 2 pc L S μ = some (pc', L', S', μ')) (hd : decode cc pc = .ok (.istore j, 2)) (kk : mm_V p l e R s m args below meth c D A adr0 ca0 n0 cb sb Q pc' L' S' μ') : mm_V p l e R s m args below meth c D A adr0 ca0 n0 cb sb Q pc L S μ := by
  unfold mm_stI at h
  split at h
  · split at h
    · rename_i hj
      cases h
      exact mv_istore C hj hd kk
    · cases h
  · cases h
theorem st_lstore_n (C : mm_C p s m args meth c D xs A adr0 own cc ini) {j : Fin 4} (h : mm_stJ (j : Nat) 1 pc L S μ = some (pc', L', S', μ')) (hd : decode cc pc = .ok (.lstore_n j, 1)) (kk : mm_V p l e R s m args below meth c D A adr0 ca0 n0 cb sb Q pc' L' S' μ') : mm_V p l e R s m args below meth c D A adr0 ca0 n0 cb sb Q pc L S μ := by
  unfold mm_stJ at h
  split at h
  · split at h
    · rename_i hj
      cases h
      exact mv_lstore_n C hj hd kk
    · cases h
  · cases h
theorem st_lstore (C : mm_C p s m args meth c D xs A adr0 own cc ini) {j : Nat} (h : mm_stJ (j : Nat) 2 pc L S μ = some (pc', L', S', μ')) (hd : decode cc pc = .ok (.lstore j, 2)) (kk : mm_V p l e R s m args below meth c D A adr0 ca0 n0 cb sb Q pc' L' S' μ') : mm_V p l e R s m args below meth c D A adr0 ca0 n0 cb sb Q pc L S μ := by
  unfold mm_stJ at h
  split at h
  · split at h
    · rename_i hj
      cases h
      exact mv_lstore C hj hd kk
    · cases h
  · cases h
theorem st_astore_n (C : mm_C p s m args meth c D xs A adr0 own cc ini) {j : Fin 4} (h : mm_stA (j : Nat) 1 pc L S μ = some (pc', L', S', μ')) (hd : decode cc pc = .ok (.astore_n j, 1)) (kk : mm_V p l e R s m args below meth c D A adr0 ca0 n0 cb sb Q pc' L' S' μ') : mm_V p l e R s m args below meth c D A adr0 ca0 n0 cb sb Q pc L S μ := by
  unfold mm_stA at h
  split at h
  · split at h
    · rename_i hj
      cases h
      exact mv_astore_n C hj hd kk
    · cases h
  · split at h
    · rename_i hj
      cases h
      exact mv_astoreN_n C hj hd kk
    · cases h
  · cases h
theorem st_astore (C : mm_C p s m args meth c D xs A adr0 own cc ini) {j : Nat} (h : mm_stA (j : Nat) 2 pc L S μ = some (pc', L', S', μ')) (hd : decode cc pc = .ok (.astore j, 2)) (kk : mm_V p l e R s m args below meth c D A adr0 ca0 n0 cb sb Q pc' L' S' μ') : mm_V p l e R s m args below meth c D A adr0 ca0 n0 cb sb Q pc L S μ := by
  unfold mm_stA at h
  split at h
  · split at h
    · rename_i hj
      cases h
      exact mv_astore C hj hd kk
    · cases h
  · split at h
    · rename_i hj
      cases h
      exact mv_astoreN C hj hd kk
    · cases h
  · cases h
theorem st_iinc (C : mm_C p s m args meth c D xs A adr0 own cc ini) {j : Nat} {n : Int} (h : (match L[j]? with
    | some (some (.int x)) => some (pc + 3, mm_s1 L j (.int (x + Int32.ofInt n)), S, μ)
    | _ => none) = some (pc', L', S', μ')) (hd : decode cc pc = .ok (.iinc j n, 3)) (kk : mm_V p l e R s m args below meth c D A adr0 ca0 n0 cb sb Q pc' L' S' μ') : mm_V p l e R s m args below meth c D A adr0 ca0 n0 cb sb Q pc L S μ := by
  split at h
  · rename_i hL
    cases h
    exact mv_iinc C hL hd kk
  · cases h
theorem st_iadd (C : mm_C p s m args meth c D xs A adr0 own cc ini)  (h : mm_binI (fun x y => x + y) pc L S μ = some (pc', L', S', μ')) (hd : decode cc pc = .ok (.iadd, 1)) (kk : mm_V p l e R s m args below meth c D A adr0 ca0 n0 cb sb Q pc' L' S' μ') : mm_V p l e R s m args below meth c D A adr0 ca0 n0 cb sb Q pc L S μ := by
  unfold mm_binI at h
  split at h
  · cases h
    exact mv_iadd C hd kk
  · cases h
theorem st_isub (C : mm_C p s m args meth c D xs A adr0 own cc ini)  (h : mm_binI (fun x y => x - y) pc L S μ = some (pc', L', S', μ')) (hd : decode cc pc = .ok (.isub, 1)) (kk : mm_V p l e R s m args below meth c D A adr0 ca0 n0 cb sb Q pc' L' S' μ') : mm_V p l e R s m args below meth c D A adr0 ca0 n0 cb sb Q pc L S μ := by
  unfold mm_binI at h
  split at h
  · cases h
    exact mv_isub C hd kk
  · cases h
theorem st_imul (C : mm_C p s m args meth c D xs A adr0 own cc ini)  (h : mm_binI (fun x y => x * y) pc L S μ = some (pc', L', S', μ')) (hd : decode cc pc = .ok (.imul, 1)) (kk : mm_V p l e R s m args below meth c D A adr0 ca0 n0 cb sb Q pc' L' S' μ') : mm_V p l e R s m args below meth c D A adr0 ca0 n0 cb sb Q pc L S μ := by
  unfold mm_binI at h
  split at h
  · cases h
    exact mv_imul C hd kk
  · cases h
theorem st_iand (C : mm_C p s m args meth c D xs A adr0 own cc ini)  (h : mm_binI (fun x y => x &&& y) pc L S μ = some (pc', L', S', μ')) (hd : decode cc pc = .ok (.iand, 1)) (kk : mm_V p l e R s m args below meth c D A adr0 ca0 n0 cb sb Q pc' L' S' μ') : mm_V p l e R s m args below meth c D A adr0 ca0 n0 cb sb Q pc L S μ := by
  unfold mm_binI at h
  split at h
  · cases h
    exact mv_iand C hd kk
  · cases h
theorem st_ior (C : mm_C p s m args meth c D xs A adr0 own cc ini)  (h : mm_binI (fun x y => x ||| y) pc L S μ = some (pc', L', S', μ')) (hd : decode cc pc = .ok (.ior, 1)) (kk : mm_V p l e R s m args below meth c D A adr0 ca0 n0 cb sb Q pc' L' S' μ') : mm_V p l e R s m args below meth c D A adr0 ca0 n0 cb sb Q pc L S μ := by
  unfold mm_binI at h
  split at h
  · cases h
    exact mv_ior C hd kk
  · cases h
theorem st_ixor (C : mm_C p s m args meth c D xs A adr0 own cc ini)  (h : mm_binI (fun x y => x ^^^ y) pc L S μ = some (pc', L', S', μ')) (hd : decode cc pc = .ok (.ixor, 1)) (kk : mm_V p l e R s m args below meth c D A adr0 ca0 n0 cb sb Q pc' L' S' μ') : mm_V p l e R s m args below meth c D A adr0 ca0 n0 cb sb Q pc L S μ := by
  unfold mm_binI at h
  split at h
  · cases h
    exact mv_ixor C hd kk
  · cases h
theorem st_ishl (C : mm_C p s m args meth c D xs A adr0 own cc ini)  (h : mm_binI (fun x y => x <<< (y &&& 31)) pc L S μ = some (pc', L', S', μ')) (hd : decode cc pc = .ok (.ishl, 1)) (kk : mm_V p l e R s m args below meth c D A adr0 ca0 n0 cb sb Q pc' L' S' μ') : mm_V p l e R s m args below meth c D A adr0 ca0 n0 cb sb Q pc L S μ := by
  unfold mm_binI at h
  split at h
  · cases h
    exact mv_ishl C hd kk
  · cases h
theorem st_ishr (C : mm_C p s m args meth c D xs A adr0 own cc ini)  (h : mm_binI (fun x y => x >>> (y &&& 31)) pc L S μ = some (pc', L', S', μ')) (hd : decode cc pc = .ok (.ishr, 1)) (kk : mm_V p l e R s m args below meth c D A adr0 ca0 n0 cb sb Q pc' L' S' μ') : mm_V p l e R s m args below meth c D A adr0 ca0 n0 cb sb Q pc L S μ := by
  unfold mm_binI at h
  split at h
  · cases h
    exact mv_ishr C hd kk
  · cases h
theorem st_iushr (C : mm_C p s m args meth c D xs A adr0 own cc ini)  (h : mm_binI (fun x y => (x.toUInt32 >>> (y.toUInt32 &&& Int32.toUInt32 31)).toInt32) pc L S μ = some (pc', L', S', μ')) (hd : decode cc pc = .ok (.iushr, 1)) (kk : mm_V p l e R s m args below meth c D A adr0 ca0 n0 cb sb Q pc' L' S' μ') : mm_V p l e R s m args below meth c D A adr0 ca0 n0 cb sb Q pc L S μ := by
  unfold mm_binI at h
  split at h
  · cases h
    exact mv_iushr C hd kk
  · cases h
theorem st_ladd (C : mm_C p s m args meth c D xs A adr0 own cc ini)  (h : mm_binJ (fun x y => x + y) pc L S μ = some (pc', L', S', μ')) (hd : decode cc pc = .ok (.ladd, 1)) (kk : mm_V p l e R s m args below meth c D A adr0 ca0 n0 cb sb Q pc' L' S' μ') : mm_V p l e R s m args below meth c D A adr0 ca0 n0 cb sb Q pc L S μ := by
  unfold mm_binJ at h
  split at h
  · cases h
    exact mv_ladd C hd kk
  · cases h
theorem st_lsub (C : mm_C p s m args meth c D xs A adr0 own cc ini)  (h : mm_binJ (fun x y => x - y) pc L S μ = some (pc', L', S', μ')) (hd : decode cc pc = .ok (.lsub, 1)) (kk : mm_V p l e R s m args below meth c D A adr0 ca0 n0 cb sb Q pc' L' S' μ') : mm_V p l e R s m args below meth c D A adr0 ca0 n0 cb sb Q pc L S μ := by
  unfold mm_binJ at h
  split at h
  · cases h
    exact mv_lsub C hd kk
  · cases h
theorem st_lmul (C : mm_C p s m args meth c D xs A adr0 own cc ini)  (h : mm_binJ (fun x y => x * y) pc L S μ = some (pc', L', S', μ')) (hd : decode cc pc = .ok (.lmul, 1)) (kk : mm_V p l e R s m args below meth c D A adr0 ca0 n0 cb sb Q pc' L' S' μ') : mm_V p l e R s m args below meth c D A adr0 ca0 n0 cb sb Q pc L S μ := by
  unfold mm_binJ at h
  split at h
  · cases h
    exact mv_lmul C hd kk
  · cases h
theorem st_land (C : mm_C p s m args meth c D xs A adr0 own cc ini)  (h : mm_binJ (fun x y => x &&& y) pc L S μ = some (pc', L', S', μ')) (hd : decode cc pc = .ok (.land, 1)) (kk : mm_V p l e R s m args below meth c D A adr0 ca0 n0 cb sb Q pc' L' S' μ') : mm_V p l e R s m args below meth c D A adr0 ca0 n0 cb sb Q pc L S μ := by
  unfold mm_binJ at h
  split at h
  · cases h
    exact mv_land C hd kk
  · cases h
theorem st_lor (C : mm_C p s m args meth c D xs A adr0 own cc ini)  (h : mm_binJ (fun x y => x ||| y) pc L S μ = some (pc', L', S', μ')) (hd : decode cc pc = .ok (.lor, 1)) (kk : mm_V p l e R s m args below meth c D A adr0 ca0 n0 cb sb Q pc' L' S' μ') : mm_V p l e R s m args below meth c D A adr0 ca0 n0 cb sb Q pc L S μ := by
  unfold mm_binJ at h
  split at h
  · cases h
    exact mv_lor C hd kk
  · cases h
theorem st_idiv (C : mm_C p s m args meth c D xs A adr0 own cc ini)  (h : mm_divI (fun x y => x / y) pc L S μ = some (pc', L', S', μ')) (hd : decode cc pc = .ok (.idiv, 1)) (kk : mm_V p l e R s m args below meth c D A adr0 ca0 n0 cb sb Q pc' L' S' μ') : mm_V p l e R s m args below meth c D A adr0 ca0 n0 cb sb Q pc L S μ := by
  unfold mm_divI at h
  split at h
  · split at h
    · cases h
    · rename_i hne
      cases h
      exact mv_idiv C hne hd kk
  · cases h
theorem st_irem (C : mm_C p s m args meth c D xs A adr0 own cc ini)  (h : mm_divI (fun x y => x - (x / y) * y) pc L S μ = some (pc', L', S', μ')) (hd : decode cc pc = .ok (.irem, 1)) (kk : mm_V p l e R s m args below meth c D A adr0 ca0 n0 cb sb Q pc' L' S' μ') : mm_V p l e R s m args below meth c D A adr0 ca0 n0 cb sb Q pc L S μ := by
  unfold mm_divI at h
  split at h
  · split at h
    · cases h
    · rename_i hne
      cases h
      exact mv_irem C hne hd kk
  · cases h
theorem st_ldiv (C : mm_C p s m args meth c D xs A adr0 own cc ini)  (h : mm_divJ (fun x y => x / y) pc L S μ = some (pc', L', S', μ')) (hd : decode cc pc = .ok (.ldiv, 1)) (kk : mm_V p l e R s m args below meth c D A adr0 ca0 n0 cb sb Q pc' L' S' μ') : mm_V p l e R s m args below meth c D A adr0 ca0 n0 cb sb Q pc L S μ := by
  unfold mm_divJ at h
  split at h
  · split at h
    · cases h
    · rename_i hne
      cases h
      exact mv_ldiv C hne hd kk
  · cases h
theorem st_lrem (C : mm_C p s m args meth c D xs A adr0 own cc ini)  (h : mm_divJ (fun x y => x - (x / y) * y) pc L S μ = some (pc', L', S', μ')) (hd : decode cc pc = .ok (.lrem, 1)) (kk : mm_V p l e R s m args below meth c D A adr0 ca0 n0 cb sb Q pc' L' S' μ') : mm_V p l e R s m args below meth c D A adr0 ca0 n0 cb sb Q pc L S μ := by
  unfold mm_divJ at h
  split at h
  · split at h
    · cases h
    · rename_i hne
      cases h
      exact mv_lrem C hne hd kk
  · cases h
theorem st_lushr (C : mm_C p s m args meth c D xs A adr0 own cc ini)  (h : (match S with
    | .int y :: .long x :: S => some (pc + 1, L, .long (x.toUInt64 >>> (y.toInt64.toUInt64 &&& Int64.toUInt64 63)).toInt64 :: S, μ)
    | _ => none) = some (pc', L', S', μ')) (hd : decode cc pc = .ok (.lushr, 1)) (kk : mm_V p l e R s m args below meth c D A adr0 ca0 n0 cb sb Q pc' L' S' μ') : mm_V p l e R s m args below meth c D A adr0 ca0 n0 cb sb Q pc L S μ := by
  split at h
  · cases h
    exact mv_lushr C hd kk
  · cases h
theorem st_lshl (C : mm_C p s m args meth c D xs A adr0 own cc ini)  (h : (match S with
    | .int y :: .long x :: S => some (pc + 1, L, .long (x <<< (y.toInt64 &&& 63)) :: S, μ)
    | _ => none) = some (pc', L', S', μ')) (hd : decode cc pc = .ok (.lshl, 1)) (kk : mm_V p l e R s m args below meth c D A adr0 ca0 n0 cb sb Q pc' L' S' μ') : mm_V p l e R s m args below meth c D A adr0 ca0 n0 cb sb Q pc L S μ := by
  split at h
  · cases h
    exact mv_lshl C hd kk
  · cases h
theorem st_lcmp (C : mm_C p s m args meth c D xs A adr0 own cc ini)  (h : (match S with
    | .long y :: .long x :: S => some (pc + 1, L, .int (lg_cmp x y) :: S, μ)
    | _ => none) = some (pc', L', S', μ')) (hd : decode cc pc = .ok (.lcmp, 1)) (kk : mm_V p l e R s m args below meth c D A adr0 ca0 n0 cb sb Q pc' L' S' μ') : mm_V p l e R s m args below meth c D A adr0 ca0 n0 cb sb Q pc L S μ := by
  split at h
  · cases h
    exact mv_lcmp C hd kk
  · cases h
theorem st_i2l (C : mm_C p s m args meth c D xs A adr0 own cc ini)  (h : (match S with
    | .int x :: S => some (pc + 1, L, .long x.toInt64 :: S, μ)
    | _ => none) = some (pc', L', S', μ')) (hd : decode cc pc = .ok (.i2l, 1)) (kk : mm_V p l e R s m args below meth c D A adr0 ca0 n0 cb sb Q pc' L' S' μ') : mm_V p l e R s m args below meth c D A adr0 ca0 n0 cb sb Q pc L S μ := by
  split at h
  · cases h
    exact mv_i2l C hd kk
  · cases h
theorem st_l2i (C : mm_C p s m args meth c D xs A adr0 own cc ini)  (h : (match S with
    | .long x :: S => some (pc + 1, L, .int x.toInt32 :: S, μ)
    | _ => none) = some (pc', L', S', μ')) (hd : decode cc pc = .ok (.l2i, 1)) (kk : mm_V p l e R s m args below meth c D A adr0 ca0 n0 cb sb Q pc' L' S' μ') : mm_V p l e R s m args below meth c D A adr0 ca0 n0 cb sb Q pc L S μ := by
  split at h
  · cases h
    exact mv_l2i C hd kk
  · cases h
theorem st_dup (C : mm_C p s m args meth c D xs A adr0 own cc ini)  (h : (match S with
    | v :: S => if v.category = 1 then some (pc + 1, L, v :: v :: S, μ) else none
    | _ => none) = some (pc', L', S', μ')) (hd : decode cc pc = .ok (.dup, 1)) (kk : mm_V p l e R s m args below meth c D A adr0 ca0 n0 cb sb Q pc' L' S' μ') : mm_V p l e R s m args below meth c D A adr0 ca0 n0 cb sb Q pc L S μ := by
  split at h
  · split at h
    · rename_i hv
      cases h
      exact mv_dup C hv hd kk
    · cases h
  · cases h
theorem st_pop (C : mm_C p s m args meth c D xs A adr0 own cc ini)  (h : (match S with
    | v :: S => if v.category = 1 then some (pc + 1, L, S, μ) else none
    | _ => none) = some (pc', L', S', μ')) (hd : decode cc pc = .ok (.pop, 1)) (kk : mm_V p l e R s m args below meth c D A adr0 ca0 n0 cb sb Q pc' L' S' μ') : mm_V p l e R s m args below meth c D A adr0 ca0 n0 cb sb Q pc L S μ := by
  split at h
  · split at h
    · rename_i hv
      cases h
      exact mv_pop C hv hd kk
    · cases h
  · cases h
theorem st_dup2 (C : mm_C p s m args meth c D xs A adr0 own cc ini)  (h : (match S with
    | v :: w :: S => if v.category = 1 ∧ w.category = 1 then some (pc + 1, L, v :: w :: v :: w :: S, μ) else none
    | _ => none) = some (pc', L', S', μ')) (hd : decode cc pc = .ok (.dup2, 1)) (kk : mm_V p l e R s m args below meth c D A adr0 ca0 n0 cb sb Q pc' L' S' μ') : mm_V p l e R s m args below meth c D A adr0 ca0 n0 cb sb Q pc L S μ := by
  split at h
  · split at h
    · rename_i hv
      cases h
      exact mv_dup2 C hv.1 hv.2 hd kk
    · cases h
  · cases h
theorem st_if (C : mm_C p s m args meth c D xs A adr0 own cc ini) {cn : ClassFile.Cond} {off : Int} (h : (match S with
    | .int x :: S => mm_br (mm_cnd cn x 0) pc off L S μ
    | _ => none) = some (pc', L', S', μ')) (hd : decode cc pc = .ok (.ifCond cn off, 3)) (kk : mm_V p l e R s m args below meth c D A adr0 ca0 n0 cb sb Q pc' L' S' μ') : mm_V p l e R s m args below meth c D A adr0 ca0 n0 cb sb Q pc L S μ := by
  split at h
  · unfold mm_br at h
    cases ht : mm_jmp pc off with
    | none => rw [ht] at h; cases h
    | some t =>
      rw [ht] at h
      cases h
      cases cn
      · exact mv_if_eq C ht hd (fun hb => by rw [hb] at kk; exact kk) (fun hb => by rw [hb] at kk; exact kk)
      · exact mv_if_ne C ht hd (fun hb => by rw [hb] at kk; exact kk) (fun hb => by rw [hb] at kk; exact kk)
      · exact mv_if_lt C ht hd (fun hb => by rw [hb] at kk; exact kk) (fun hb => by rw [hb] at kk; exact kk)
      · exact mv_if_ge C ht hd (fun hb => by rw [hb] at kk; exact kk) (fun hb => by rw [hb] at kk; exact kk)
      · exact mv_if_gt C ht hd (fun hb => by rw [hb] at kk; exact kk) (fun hb => by rw [hb] at kk; exact kk)
      · exact mv_if_le C ht hd (fun hb => by rw [hb] at kk; exact kk) (fun hb => by rw [hb] at kk; exact kk)
  · cases h
theorem st_icmp (C : mm_C p s m args meth c D xs A adr0 own cc ini) {cn : ClassFile.Cond} {off : Int} (h : (match S with
    | .int y :: .int x :: S => mm_br (mm_cnd cn x y) pc off L S μ
    | _ => none) = some (pc', L', S', μ')) (hd : decode cc pc = .ok (.if_icmp cn off, 3)) (kk : mm_V p l e R s m args below meth c D A adr0 ca0 n0 cb sb Q pc' L' S' μ') : mm_V p l e R s m args below meth c D A adr0 ca0 n0 cb sb Q pc L S μ := by
  split at h
  · unfold mm_br at h
    cases ht : mm_jmp pc off with
    | none => rw [ht] at h; cases h
    | some t =>
      rw [ht] at h
      cases h
      cases cn
      · exact mv_icmp_eq C ht hd (fun hb => by rw [hb] at kk; exact kk) (fun hb => by rw [hb] at kk; exact kk)
      · exact mv_icmp_ne C ht hd (fun hb => by rw [hb] at kk; exact kk) (fun hb => by rw [hb] at kk; exact kk)
      · exact mv_icmp_lt C ht hd (fun hb => by rw [hb] at kk; exact kk) (fun hb => by rw [hb] at kk; exact kk)
      · exact mv_icmp_ge C ht hd (fun hb => by rw [hb] at kk; exact kk) (fun hb => by rw [hb] at kk; exact kk)
      · exact mv_icmp_gt C ht hd (fun hb => by rw [hb] at kk; exact kk) (fun hb => by rw [hb] at kk; exact kk)
      · exact mv_icmp_le C ht hd (fun hb => by rw [hb] at kk; exact kk) (fun hb => by rw [hb] at kk; exact kk)
  · cases h
theorem st_goto (C : mm_C p s m args meth c D xs A adr0 own cc ini) {off : Int} (h : ((mm_jmp pc off).map (fun t => (t, L, S, μ))) = some (pc', L', S', μ')) (hd : decode cc pc = .ok (.goto off, 3)) (kk : mm_V p l e R s m args below meth c D A adr0 ca0 n0 cb sb Q pc' L' S' μ') : mm_V p l e R s m args below meth c D A adr0 ca0 n0 cb sb Q pc L S μ := by
  cases ht : mm_jmp pc off with
  | none => rw [ht] at h; cases h
  | some t =>
    rw [ht] at h
    cases h
    exact mv_goto C ht hd kk
theorem st_ifnull (C : mm_C p s m args meth c D xs A adr0 own cc ini) {off : Int} (h : (match S with
    | .ref _ :: S => some (pc + 3, L, S, μ)
    | .null :: S => (mm_jmp pc off).map (fun t => (t, L, S, μ))
    | _ => none) = some (pc', L', S', μ')) (hd : decode cc pc = .ok (.ifnull off, 3)) (kk : mm_V p l e R s m args below meth c D A adr0 ca0 n0 cb sb Q pc' L' S' μ') : mm_V p l e R s m args below meth c D A adr0 ca0 n0 cb sb Q pc L S μ := by
  split at h
  · cases h
    exact mv_ifnull C hd kk
  · cases ht : mm_jmp pc off with
    | none => rw [ht] at h; cases h
    | some t =>
      rw [ht] at h
      cases h
      exact mv_ifnullN C ht hd kk
  · cases h
theorem st_ifnonnull (C : mm_C p s m args meth c D xs A adr0 own cc ini) {off : Int} (h : (match S with
    | .null :: S => some (pc + 3, L, S, μ)
    | .ref _ :: S => (mm_jmp pc off).map (fun t => (t, L, S, μ))
    | _ => none) = some (pc', L', S', μ')) (hd : decode cc pc = .ok (.ifnonnull off, 3)) (kk : mm_V p l e R s m args below meth c D A adr0 ca0 n0 cb sb Q pc' L' S' μ') : mm_V p l e R s m args below meth c D A adr0 ca0 n0 cb sb Q pc L S μ := by
  split at h
  · cases h
    exact mv_ifnonnullN C hd kk
  · cases ht : mm_jmp pc off with
    | none => rw [ht] at h; cases h
    | some t =>
      rw [ht] at h
      cases h
      exact mv_ifnonnull C ht hd kk
  · cases h
theorem st_sw (C : mm_C p s m args meth c D xs A adr0 own cc ini) {d lo hi : Int} {os : Array Int} {len : Nat} (h : mm_sw d lo hi os pc L S μ = some (pc', L', S', μ')) (hd : decode cc pc = .ok (.tableswitch d lo hi os, len)) (kk : mm_V p l e R s m args below meth c D A adr0 ca0 n0 cb sb Q pc' L' S' μ') : mm_V p l e R s m args below meth c D A adr0 ca0 n0 cb sb Q pc L S μ := by
  unfold mm_sw at h
  split at h
  · rename_i x S0
    split at h
    · rename_i ho
      cases ht : mm_jmp pc d with
      | none => rw [ht] at h; cases h
      | some t =>
        rw [ht] at h
        cases h
        exact mv_swO C ho ht hd kk
    · rename_i ho
      cases hq : os[(x.toInt - lo).toNat]? with
      | none => rw [hq] at h; cases h
      | some o =>
        rw [hq] at h
        have h : (mm_jmp pc o).map (fun t => (t, L, S0, μ)) = some (pc', L', S', μ') := h
        cases ht : mm_jmp pc o with
        | none => rw [ht] at h; cases h
        | some t =>
          rw [ht] at h
          cases h
          exact mv_swI C ho hq ht hd kk
  · cases h
theorem st_ldc (C : mm_C p s m args meth c D xs A adr0 own cc ini) {idx : Nat} (h : ((mm_kc own idx).map (fun v => (pc + 2, L, .int v :: S, μ))) = some (pc', L', S', μ')) (hd : decode cc pc = .ok (.ldc idx, 2)) (kk : mm_V p l e R s m args below meth c D A adr0 ca0 n0 cb sb Q pc' L' S' μ') : mm_V p l e R s m args below meth c D A adr0 ca0 n0 cb sb Q pc L S μ := by
  cases hk : mm_kc own idx with
  | none => rw [hk] at h; cases h
  | some v =>
    rw [hk] at h
    cases h
    exact mv_ldc C hk hd kk
theorem st_ldc_w (C : mm_C p s m args meth c D xs A adr0 own cc ini) {idx : Nat} (h : ((mm_kc own idx).map (fun v => (pc + 3, L, .int v :: S, μ))) = some (pc', L', S', μ')) (hd : decode cc pc = .ok (.ldc_w idx, 3)) (kk : mm_V p l e R s m args below meth c D A adr0 ca0 n0 cb sb Q pc' L' S' μ') : mm_V p l e R s m args below meth c D A adr0 ca0 n0 cb sb Q pc L S μ := by
  cases hk : mm_kc own idx with
  | none => rw [hk] at h; cases h
  | some v =>
    rw [hk] at h
    cases h
    exact mv_ldc_w C hk hd kk
theorem st_ldc2 (C : mm_C p s m args meth c D xs A adr0 own cc ini) {idx : Nat} (h : ((mm_kl own idx).map (fun v => (pc + 3, L, .long v :: S, μ))) = some (pc', L', S', μ')) (hd : decode cc pc = .ok (.ldc2_w idx, 3)) (kk : mm_V p l e R s m args below meth c D A adr0 ca0 n0 cb sb Q pc' L' S' μ') : mm_V p l e R s m args below meth c D A adr0 ca0 n0 cb sb Q pc L S μ := by
  cases hk : mm_kl own idx with
  | none => rw [hk] at h; cases h
  | some v =>
    rw [hk] at h
    cases h
    exact mv_ldc2 C hk hd kk
theorem st_gets (C : mm_C p s m args meth c D xs A adr0 own cc ini) {idx : Nat} (h : ((mm_gs own idx).map (fun q => (pc + 3, L, .ref (mm_K + 1 + q.1) :: S, μ))) = some (pc', L', S', μ')) (hd : decode cc pc = .ok (.getstatic idx, 3)) (kk : mm_V p l e R s m args below meth c D A adr0 ca0 n0 cb sb Q pc' L' S' μ') : mm_V p l e R s m args below meth c D A adr0 ca0 n0 cb sb Q pc L S μ := by
  cases hk : mm_gs own idx with
  | none => rw [hk] at h; cases h
  | some v =>
    rw [hk] at h
    cases h
    exact mv_gets C hk hd kk
theorem st_getf (C : mm_C p s m args meth c D xs A adr0 own cc ini) {idx : Nat} (h : mm_getf own idx pc L S μ = some (pc', L', S', μ')) (hd : decode cc pc = .ok (.getfield idx, 3)) (kk : mm_V p l e R s m args below meth c D A adr0 ca0 n0 cb sb Q pc' L' S' μ') : mm_V p l e R s m args below meth c D A adr0 ca0 n0 cb sb Q pc L S μ := by
  unfold mm_getf at h
  split at h
  · split at h
    · rename_i q hf
      split at h
      · rename_i hO
        cases h
        exact mv_getf C (t := q.1) (k := q.2.1) (nest := q.2.2) hf hO hd kk
      · cases h
    · cases h
  · cases h
theorem st_putf (C : mm_C p s m args meth c D xs A adr0 own cc ini) {idx : Nat} (h : mm_putf ini own idx pc L S μ = some (pc', L', S', μ')) (hd : decode cc pc = .ok (.putfield idx, 3)) (kk : mm_V p l e R s m args below meth c D A adr0 ca0 n0 cb sb Q pc' L' S' μ') : mm_V p l e R s m args below meth c D A adr0 ca0 n0 cb sb Q pc L S μ := by
  unfold mm_putf at h
  split at h
  · rename_i v x S0
    split at h
    · rename_i q hf
      split at h
      · rename_i hO
        rw [Bool.and_eq_true] at hO
        obtain ⟨hO, hfn⟩ := hO
        obtain ⟨hx, hsh⟩ := mm_isO_spec hO
        have hfin : (mm_fld q.1 q.2.1).2.2 = false ∨ (ini = true ∧ q.1 = own ∧ q.2.2 = 0 ∧ (mm_fld q.1 q.2.1).2.2 = true) := by
          cases hb : (mm_fld q.1 q.2.1).2.2 with
          | false => exact Or.inl rfl
          | true =>
            rw [hb] at hfn
            simp only [Bool.not_true, Bool.false_or, Bool.and_eq_true, decide_eq_true_eq] at hfn
            exact Or.inr ⟨hfn.1.1, hfn.1.2, hfn.2, rfl⟩
        split at h
        · rename_i hkd
          cases h
          exact mv_putf C (t := q.1) (k := q.2.1) (nest := q.2.2) hf hO (v := .int _) (Or.inl hkd) hfin (mm_same_d μ x q.2.1 _) (mm_in1_d hx) (fun adr => mm_fs_d hsh (Or.inl hkd) adr) hd kk
        · rename_i hkd
          split at h
          · rename_i h01
            cases h
            exact mv_putf C (t := q.1) (k := q.2.1) (nest := q.2.2) hf hO (v := .int _) (Or.inr ⟨hkd, h01⟩) hfin (mm_same_d μ x q.2.1 _) (mm_in1_d hx) (fun adr => mm_fs_d hsh (Or.inr hkd) adr) hd kk
          · cases h
        · rename_i hkd
          cases h
          exact mv_putf C (t := q.1) (k := q.2.1) (nest := q.2.2) hf hO (v := .long _) hkd hfin (mm_same_g μ x q.2.1 _) (mm_in1_g hx) (fun adr => mm_fs_g hsh hkd adr) hd kk
        · rename_i y hkd
          split at h
          · rename_i hy
            cases h
            exact mv_putf C (t := q.1) (k := q.2.1) (nest := q.2.2) hf hO (v := .ref y) hkd hfin (mm_same_r μ x q.2.1 (some y)) (mm_in1_r hx (fun z hz => by cases hz; exact hy)) (fun adr => mm_fs_r (y := some y) hsh hkd adr) hd kk
          · cases h
        · rename_i hkd
          cases h
          exact mv_putf C (t := q.1) (k := q.2.1) (nest := q.2.2) hf hO (v := .null) hkd hfin (mm_same_r μ x q.2.1 none) (mm_in1_r hx (fun z hz => by cases hz)) (fun adr => mm_fs_r (y := none) hsh hkd adr) hd kk
        · cases h
      · cases h
    · cases h
  · cases h
theorem st_iald (C : mm_C p s m args meth c D xs A adr0 own cc ini)  (h : mm_iald xs pc L S μ = some (pc', L', S', μ')) (hd : decode cc pc = .ok (.iaload, 1)) (kk : mm_V p l e R s m args below meth c D A adr0 ca0 n0 cb sb Q pc' L' S' μ') : mm_V p l e R s m args below meth c D A adr0 ca0 n0 cb sb Q pc L S μ := by
  unfold mm_iald at h
  split at h
  · split at h
    · rename_i h1
      split at h
      · rename_i h2
        rw [Bool.and_eq_true, decide_eq_true_eq] at h2
        cases h
        exact mv_ialdK C h1 h2.1 h2.2 hd kk
      · cases h
    · split at h
      · rename_i h2
        rw [Bool.and_eq_true] at h2
        cases h
        exact mv_iald C h2.1 h2.2 hd kk
      · cases h
  · cases h
theorem st_bald (C : mm_C p s m args meth c D xs A adr0 own cc ini)  (h : mm_bald pc L S μ = some (pc', L', S', μ')) (hd : decode cc pc = .ok (.baload, 1)) (kk : mm_V p l e R s m args below meth c D A adr0 ca0 n0 cb sb Q pc' L' S' μ') : mm_V p l e R s m args below meth c D A adr0 ca0 n0 cb sb Q pc L S μ := by
  unfold mm_bald at h
  split at h
  · split at h
    · rename_i h2
      rw [Bool.and_eq_true] at h2
      cases h
      exact mv_bald C h2.1 h2.2 hd kk
    · cases h
  · cases h
theorem st_lald (C : mm_C p s m args meth c D xs A adr0 own cc ini)  (h : mm_lald pc L S μ = some (pc', L', S', μ')) (hd : decode cc pc = .ok (.laload, 1)) (kk : mm_V p l e R s m args below meth c D A adr0 ca0 n0 cb sb Q pc' L' S' μ') : mm_V p l e R s m args below meth c D A adr0 ca0 n0 cb sb Q pc L S μ := by
  unfold mm_lald at h
  split at h
  · split at h
    · rename_i h2
      rw [Bool.and_eq_true] at h2
      cases h
      exact mv_lald C h2.1 h2.2 hd kk
    · cases h
  · cases h
theorem st_iast (C : mm_C p s m args meth c D xs A adr0 own cc ini)  (h : mm_iast pc L S μ = some (pc', L', S', μ')) (hd : decode cc pc = .ok (.iastore, 1)) (kk : mm_V p l e R s m args below meth c D A adr0 ca0 n0 cb sb Q pc' L' S' μ') : mm_V p l e R s m args below meth c D A adr0 ca0 n0 cb sb Q pc L S μ := by
  unfold mm_iast at h
  split at h
  · split at h
    · rename_i h2
      rw [Bool.and_eq_true] at h2
      cases h
      exact mv_iast C h2.1 h2.2 hd kk
    · cases h
  · cases h
theorem st_last (C : mm_C p s m args meth c D xs A adr0 own cc ini)  (h : mm_last pc L S μ = some (pc', L', S', μ')) (hd : decode cc pc = .ok (.lastore, 1)) (kk : mm_V p l e R s m args below meth c D A adr0 ca0 n0 cb sb Q pc' L' S' μ') : mm_V p l e R s m args below meth c D A adr0 ca0 n0 cb sb Q pc L S μ := by
  unfold mm_last at h
  split at h
  · split at h
    · rename_i h2
      rw [Bool.and_eq_true] at h2
      cases h
      exact mv_last C h2.1 h2.2 hd kk
    · cases h
  · cases h
theorem st_bast (C : mm_C p s m args meth c D xs A adr0 own cc ini)  (h : mm_bast pc L S μ = some (pc', L', S', μ')) (hd : decode cc pc = .ok (.bastore, 1)) (kk : mm_V p l e R s m args below meth c D A adr0 ca0 n0 cb sb Q pc' L' S' μ') : mm_V p l e R s m args below meth c D A adr0 ca0 n0 cb sb Q pc L S μ := by
  unfold mm_bast at h
  split at h
  · split at h
    · rename_i h2
      rw [Bool.and_eq_true, Bool.and_eq_true, Bool.or_eq_true, decide_eq_true_eq, decide_eq_true_eq] at h2
      cases h
      exact mv_bast C h2.1.1 h2.1.2 h2.2 hd kk
    · cases h
  · cases h
theorem st_aald (C : mm_C p s m args meth c D xs A adr0 own cc ini)  (h : mm_aald pc L S μ = some (pc', L', S', μ')) (hd : decode cc pc = .ok (.aaload, 1)) (kk : mm_V p l e R s m args below meth c D A adr0 ca0 n0 cb sb Q pc' L' S' μ') : mm_V p l e R s m args below meth c D A adr0 ca0 n0 cb sb Q pc L S μ := by
  unfold mm_aald at h
  split at h
  · split at h
    · rename_i h2
      rw [Bool.and_eq_true, Bool.or_eq_true, Bool.or_eq_true] at h2
      cases h
      obtain ⟨(h2 | h2) | h2, h3⟩ := h2
      · exact mv_aald C (Or.inl rfl) h2 h3 hd kk
      · exact mv_aald C (Or.inr rfl) h2 h3 hd kk
      · exact mv_aaldA C h2 h3 hd kk
    · cases h
  · cases h
theorem st_aast (C : mm_C p s m args meth c D xs A adr0 own cc ini)  (h : mm_aast pc L S μ = some (pc', L', S', μ')) (hd : decode cc pc = .ok (.aastore, 1)) (kk : mm_V p l e R s m args below meth c D A adr0 ca0 n0 cb sb Q pc' L' S' μ') : mm_V p l e R s m args below meth c D A adr0 ca0 n0 cb sb Q pc L S μ := by
  unfold mm_aast at h
  split at h
  · split at h
    · rename_i h2
      rw [Bool.and_eq_true, Bool.or_eq_true, Bool.and_eq_true, Bool.and_eq_true] at h2
      cases h
      obtain ⟨h2 | h2, h3⟩ := h2
      · exact mv_aast C (Or.inl ⟨rfl, rfl⟩) h2.1 h2.2 h3 hd kk
      · exact mv_aast C (Or.inr ⟨rfl, rfl⟩) h2.1 h2.2 h3 hd kk
    · cases h
  · split at h
    · rename_i h2
      rw [Bool.and_eq_true, Bool.or_eq_true] at h2
      cases h
      obtain ⟨h2 | h2, h3⟩ := h2
      · exact mv_aastN C (Or.inl rfl) h2 h3 hd kk
      · exact mv_aastN C (Or.inr rfl) h2 h3 hd kk
    · cases h
  · cases h
theorem st_alen (C : mm_C p s m args meth c D xs A adr0 own cc ini)  (h : mm_alen xs pc L S μ = some (pc', L', S', μ')) (hd : decode cc pc = .ok (.arraylength, 1)) (kk : mm_V p l e R s m args below meth c D A adr0 ca0 n0 cb sb Q pc' L' S' μ') : mm_V p l e R s m args below meth c D A adr0 ca0 n0 cb sb Q pc L S μ := by
  unfold mm_alen at h
  split at h
  · split at h
    · rename_i h1
      split at h
      · rename_i h2
        cases h
        exact mv_alenK C h1 h2 hd kk
      · cases h
    · split at h
      · rename_i h2
        rw [Bool.and_eq_true, decide_eq_true_eq, decide_eq_true_eq] at h2
        cases h
        exact mv_alen C h2.1 h2.2 hd kk
      · cases h
  · cases h
theorem st_new (C : mm_C p s m args meth c D xs A adr0 own cc ini) {idx : Nat} (h : mm_new own idx pc L S μ = some (pc', L', S', μ')) (hd : decode cc pc = .ok (.new idx, 3)) (hr1 : μ'.1.2.1 ≤ cb + R.cells) (hr2 : μ'.1.2.2.1 ≤ sb + R.slots) (kk : mm_V p l e R s m args below meth c D A adr0 ca0 n0 cb sb Q pc' L' S' μ') : mm_V p l e R s m args below meth c D A adr0 ca0 n0 cb sb Q pc L S μ := by
  unfold mm_new at h
  split at h
  · rename_i t hk
    split at h
    · rename_i hn
      cases h
      exact mv_new C hk hn hr1 hr2 hd kk
    · cases h
  · cases h
theorem st_newaI (C : mm_C p s m args meth c D xs A adr0 own cc ini)  (h : mm_newa 20 pc L S μ = some (pc', L', S', μ')) (hd : decode cc pc = .ok (.newarray .int, 2)) (hr1 : μ'.1.2.1 ≤ cb + R.cells) (hr2 : μ'.1.2.2.1 ≤ sb + R.slots) (kk : mm_V p l e R s m args below meth c D A adr0 ca0 n0 cb sb Q pc' L' S' μ') : mm_V p l e R s m args below meth c D A adr0 ca0 n0 cb sb Q pc L S μ := by
  unfold mm_newa at h
  split at h
  · split at h
    · rename_i h2
      rw [Bool.and_eq_true, Bool.and_eq_true, decide_eq_true_eq, decide_eq_true_eq, decide_eq_true_eq] at h2
      cases h
      exact mv_newaI C h2.1.1 h2.1.2 h2.2 hr1 hr2 hd kk
    · cases h
  · cases h
theorem st_newaZ (C : mm_C p s m args meth c D xs A adr0 own cc ini)  (h : mm_newa 21 pc L S μ = some (pc', L', S', μ')) (hd : decode cc pc = .ok (.newarray .boolean, 2)) (hr1 : μ'.1.2.1 ≤ cb + R.cells) (hr2 : μ'.1.2.2.1 ≤ sb + R.slots) (kk : mm_V p l e R s m args below meth c D A adr0 ca0 n0 cb sb Q pc' L' S' μ') : mm_V p l e R s m args below meth c D A adr0 ca0 n0 cb sb Q pc L S μ := by
  unfold mm_newa at h
  split at h
  · split at h
    · rename_i h2
      rw [Bool.and_eq_true, Bool.and_eq_true, decide_eq_true_eq, decide_eq_true_eq, decide_eq_true_eq] at h2
      cases h
      exact mv_newaZ C h2.1.1 h2.1.2 h2.2 hr1 hr2 hd kk
    · cases h
  · cases h
theorem st_newaJ (C : mm_C p s m args meth c D xs A adr0 own cc ini)  (h : mm_newa 22 pc L S μ = some (pc', L', S', μ')) (hd : decode cc pc = .ok (.newarray .long, 2)) (hr1 : μ'.1.2.1 ≤ cb + R.cells) (hr2 : μ'.1.2.2.1 ≤ sb + R.slots) (kk : mm_V p l e R s m args below meth c D A adr0 ca0 n0 cb sb Q pc' L' S' μ') : mm_V p l e R s m args below meth c D A adr0 ca0 n0 cb sb Q pc L S μ := by
  unfold mm_newa at h
  split at h
  · split at h
    · rename_i h2
      rw [Bool.and_eq_true, Bool.and_eq_true, decide_eq_true_eq, decide_eq_true_eq, decide_eq_true_eq] at h2
      cases h
      exact mv_newaJ C h2.1.1 h2.1.2 h2.2 hr1 hr2 hd kk
    · cases h
  · cases h
theorem st_anew (C : mm_C p s m args meth c D xs A adr0 own cc ini) {idx : Nat} (h : mm_anew own idx pc L S μ = some (pc', L', S', μ')) (hd : decode cc pc = .ok (.anewarray idx, 3)) (hr1 : μ'.1.2.1 ≤ cb + R.cells) (hr2 : μ'.1.2.2.1 ≤ sb + R.slots) (kk : mm_V p l e R s m args below meth c D A adr0 ca0 n0 cb sb Q pc' L' S' μ') : mm_V p l e R s m args below meth c D A adr0 ca0 n0 cb sb Q pc L S μ := by
  unfold mm_anew at h
  split at h
  · split at h
    · rename_i t hk
      split at h
      · rename_i h2
        rw [Bool.and_eq_true, Bool.and_eq_true, decide_eq_true_eq, decide_eq_true_eq, decide_eq_true_eq] at h2
        cases h
        exact mv_anew C hk h2.1.1 h2.1.2 h2.2 hr1 hr2 hd kk
      · cases h
    · cases h
  · cases h
theorem st_mna (C : mm_C p s m args meth c D xs A adr0 own cc ini) (hM : mm_MnaOK) {idx : Nat} (h : mm_mna own idx pc L S μ = some (pc', L', S', μ')) (hd : decode cc pc = .ok (.multianewarray idx 2, 4)) (hr1 : μ'.1.2.1 ≤ cb + R.cells) (hr2 : μ'.1.2.2.1 ≤ sb + R.slots) (kk : mm_V p l e R s m args below meth c D A adr0 ca0 n0 cb sb Q pc' L' S' μ') : mm_V p l e R s m args below meth c D A adr0 ca0 n0 cb sb Q pc L S μ := by
  unfold mm_mna at h
  split at h
  · split at h
    · rename_i h2
      simp only [Bool.and_eq_true, decide_eq_true_eq] at h2
      obtain ⟨⟨⟨rfl, rfl⟩, ⟨⟨h3, h4⟩, h5⟩, h6⟩, h7⟩ := h2
      cases h
      exact hM p l e R s m args below meth c D xs A adr0 ca0 n0 cb sb Q cc ini pc _ _ _ _ _ C h3 h4 h5 h6 h7 hr1 hr2 hd kk
    · cases h
  · cases h
set_option maxHeartbeats 4000000 in
theorem mm_step_ok (hM : mm_MnaOK) (C : mm_C p s m args meth c D xs A adr0 own cc ini) {i : Instr} {len : Nat} (hlen : mm_lenok i len = true) (hd : decode cc pc = .ok (i, len)) (h : mm_step xs ini own i pc L S μ = some (pc', L', S', μ')) (hr1 : μ'.1.2.1 ≤ cb + R.cells) (hr2 : μ'.1.2.2.1 ≤ sb + R.slots) (kk : mm_V p l e R s m args below meth c D A adr0 ca0 n0 cb sb Q pc' L' S' μ') : mm_V p l e R s m args below meth c D A adr0 ca0 n0 cb sb Q pc L S μ := by
  unfold mm_step at h
  split at h
  · obtain rfl : len = 1 := of_decide_eq_true hlen
    cases h; exact mv_iconst C hd kk
  · obtain rfl : len = 2 := of_decide_eq_true hlen
    cases h; exact mv_bipush C hd kk
  · obtain rfl : len = 3 := of_decide_eq_true hlen
    cases h; exact mv_sipush C hd kk
  · obtain rfl : len = 1 := of_decide_eq_true hlen
    cases h; exact mv_lconst C hd kk
  · obtain rfl : len = 1 := of_decide_eq_true hlen
    cases h; exact mv_null C hd kk
  · obtain rfl : len = 3 := of_decide_eq_true hlen
    exact st_ldc_w C h hd kk
  · obtain rfl : len = 2 := of_decide_eq_true hlen
    exact st_ldc C h hd kk
  · obtain rfl : len = 3 := of_decide_eq_true hlen
    exact st_ldc2 C h hd kk
  · obtain rfl : len = 1 := of_decide_eq_true hlen
    exact st_iload_n C h hd kk
  · obtain rfl : len = 2 := of_decide_eq_true hlen
    exact st_iload C h hd kk
  · obtain rfl : len = 1 := of_decide_eq_true hlen
    exact st_lload_n C h hd kk
  · obtain rfl : len = 2 := of_decide_eq_true hlen
    exact st_lload C h hd kk
  · obtain rfl : len = 1 := of_decide_eq_true hlen
    exact st_aload_n C h hd kk
  · obtain rfl : len = 2 := of_decide_eq_true hlen
    exact st_aload C h hd kk
  · obtain rfl : len = 1 := of_decide_eq_true hlen
    exact st_istore_n C h hd kk
  · obtain rfl : len = 2 := of_decide_eq_true hlen
    exact st_istore C h hd kk
  · obtain rfl : len = 1 := of_decide_eq_true hlen
    exact st_lstore_n C h hd kk
  · obtain rfl : len = 2 := of_decide_eq_true hlen
    exact st_lstore C h hd kk
  · obtain rfl : len = 1 := of_decide_eq_true hlen
    exact st_astore_n C h hd kk
  · obtain rfl : len = 2 := of_decide_eq_true hlen
    exact st_astore C h hd kk
  · obtain rfl : len = 3 := of_decide_eq_true hlen
    exact st_iinc C h hd kk
  · obtain rfl : len = 1 := of_decide_eq_true hlen
    exact st_iadd C h hd kk
  · obtain rfl : len = 1 := of_decide_eq_true hlen
    exact st_isub C h hd kk
  · obtain rfl : len = 1 := of_decide_eq_true hlen
    exact st_imul C h hd kk
  · obtain rfl : len = 1 := of_decide_eq_true hlen
    exact st_iand C h hd kk
  · obtain rfl : len = 1 := of_decide_eq_true hlen
    exact st_ior C h hd kk
  · obtain rfl : len = 1 := of_decide_eq_true hlen
    exact st_ixor C h hd kk
  · obtain rfl : len = 1 := of_decide_eq_true hlen
    exact st_ishl C h hd kk
  · obtain rfl : len = 1 := of_decide_eq_true hlen
    exact st_ishr C h hd kk
  · obtain rfl : len = 1 := of_decide_eq_true hlen
    exact st_iushr C h hd kk
  · obtain rfl : len = 1 := of_decide_eq_true hlen
    exact st_idiv C h hd kk
  · obtain rfl : len = 1 := of_decide_eq_true hlen
    exact st_irem C h hd kk
  · obtain rfl : len = 1 := of_decide_eq_true hlen
    exact st_ladd C h hd kk
  · obtain rfl : len = 1 := of_decide_eq_true hlen
    exact st_lsub C h hd kk
  · obtain rfl : len = 1 := of_decide_eq_true hlen
    exact st_lmul C h hd kk
  · obtain rfl : len = 1 := of_decide_eq_true hlen
    exact st_land C h hd kk
  · obtain rfl : len = 1 := of_decide_eq_true hlen
    exact st_lor C h hd kk
  · obtain rfl : len = 1 := of_decide_eq_true hlen
    exact st_ldiv C h hd kk
  · obtain rfl : len = 1 := of_decide_eq_true hlen
    exact st_lrem C h hd kk
  · obtain rfl : len = 1 := of_decide_eq_true hlen
    exact st_lushr C h hd kk
  · obtain rfl : len = 1 := of_decide_eq_true hlen
    exact st_lshl C h hd kk
  · obtain rfl : len = 1 := of_decide_eq_true hlen
    exact st_lcmp C h hd kk
  · obtain rfl : len = 1 := of_decide_eq_true hlen
    exact st_i2l C h hd kk
  · obtain rfl : len = 1 := of_decide_eq_true hlen
    exact st_l2i C h hd kk
  · obtain rfl : len = 1 := of_decide_eq_true hlen
    exact st_dup C h hd kk
  · obtain rfl : len = 1 := of_decide_eq_true hlen
    exact st_pop C h hd kk
  · obtain rfl : len = 1 := of_decide_eq_true hlen
    exact st_dup2 C h hd kk
  · obtain rfl : len = 3 := of_decide_eq_true hlen
    exact st_if C h hd kk
  · obtain rfl : len = 3 := of_decide_eq_true hlen
    exact st_icmp C h hd kk
  · obtain rfl : len = 3 := of_decide_eq_true hlen
    exact st_goto C h hd kk
  · obtain rfl : len = 3 := of_decide_eq_true hlen
    exact st_ifnull C h hd kk
  · obtain rfl : len = 3 := of_decide_eq_true hlen
    exact st_ifnonnull C h hd kk
  · exact st_sw C h hd kk
  · obtain rfl : len = 3 := of_decide_eq_true hlen
    exact st_getf C h hd kk
  · obtain rfl : len = 3 := of_decide_eq_true hlen
    exact st_putf C h hd kk
  · obtain rfl : len = 3 := of_decide_eq_true hlen
    exact st_gets C h hd kk
  · obtain rfl : len = 1 := of_decide_eq_true hlen
    exact st_iald C h hd kk
  · obtain rfl : len = 1 := of_decide_eq_true hlen
    exact st_bald C h hd kk
  · obtain rfl : len = 1 := of_decide_eq_true hlen
    exact st_lald C h hd kk
  · obtain rfl : len = 1 := of_decide_eq_true hlen
    exact st_aald C h hd kk
  · obtain rfl : len = 1 := of_decide_eq_true hlen
    exact st_iast C h hd kk
  · obtain rfl : len = 1 := of_decide_eq_true hlen
    exact st_bast C h hd kk
  · obtain rfl : len = 1 := of_decide_eq_true hlen
    exact st_last C h hd kk
  · obtain rfl : len = 1 := of_decide_eq_true hlen
    exact st_aast C h hd kk
  · obtain rfl : len = 1 := of_decide_eq_true hlen
    exact st_alen C h hd kk
  · obtain rfl : len = 3 := of_decide_eq_true hlen
    exact st_new C h hd hr1 hr2 kk
  · obtain rfl : len = 2 := of_decide_eq_true hlen
    exact st_newaI C h hd hr1 hr2 kk
  · obtain rfl : len = 2 := of_decide_eq_true hlen
    exact st_newaZ C h hd hr1 hr2 kk
  · obtain rfl : len = 2 := of_decide_eq_true hlen
    exact st_newaJ C h hd hr1 hr2 kk
  · obtain rfl : len = 3 := of_decide_eq_true hlen
    exact st_anew C h hd hr1 hr2 kk
  · obtain rfl : len = 4 := of_decide_eq_true hlen
    exact st_mna C hM h hd hr1 hr2 kk
  · cases h
end STEP
