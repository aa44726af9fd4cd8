/-! ===== the words of a throw ===== -/
theorem lw_places {ws : List Cond} (ps : List (Nat × Nat)) (h : ws = ps.filterMap (fun q => (mm_tb q.1)[q.2]?)) (hg : ws.all mm_gw = true) : ∀ w ∈ ws, w ∈ lw_g := by
  intro w hw
  have h1 := List.all_eq_true.mp hg w hw
  rw [h] at hw
  obtain ⟨q, -, hq⟩ := List.mem_filterMap.mp hw
  exact mm_in hq h1
def lw_NS : String := "java/util/NoSuchElementException"
def lw_sup : List String := ["java/lang/RuntimeException", "java/lang/Exception"]
def lw_thrw : List Cond := Cond.classLink "ShyBell" 152 lw_NS :: Cond.initialized lw_NS :: vx_at0 "ShyBell" 154 lw_NS lw_sup
theorem lw_thrw_in : ∀ w ∈ lw_thrw, w ∈ lw_g := lw_places [(4, 163), (1, 16), (1, 13), (4, 185), (4, 194), (4, 196), (4, 199), (4, 201), (4, 186), (4, 187), (1, 25), (1, 26), (4, 188), (4, 193), (4, 197), (4, 213), (4, 175), (4, 214), (4, 177), (4, 215), (4, 179), (4, 189), (4, 191), (4, 181), (4, 203), (4, 204), (4, 205), (4, 206), (4, 166), (4, 206), (4, 207), (4, 208), (4, 209), (4, 168), (4, 209), (4, 210), (4, 211), (4, 186), (4, 170), (4, 202), (4, 164), (4, 165), (4, 172), (4, 173), (4, 174), (4, 176), (4, 178), (4, 180), (4, 184), (4, 183), (4, 182)] (by decide +kernel) (by decide +kernel)
theorem lw_thrw_ot : ∀ w ∈ lw_thrw, vx_ot w = true := List.all_eq_true.mp (show lw_thrw.all vx_ot = true from by decide +kernel)
theorem lw_catch_in : Cond.classLink "ShyBellLaw" 13 lw_NS ∈ lw_g ∧ Cond.castable lw_NS lw_NS ∈ lw_g := ⟨mm_in (b := 4) (i := 158) rfl rfl, mm_in (b := 4) (i := 165) rfl rfl⟩
