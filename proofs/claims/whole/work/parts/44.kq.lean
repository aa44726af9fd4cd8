/-! ===== the questions asked of the state ===== -/
theorem k_late {xs : List Int32} {ext : mm_X} {n : Nat} {sh : mm_S} {d : mm_D} {g : mm_G} {r : mm_R} {S : wo_S} (hsh : shp sh) (hr : rfx r) (ok : okW (sW S) (sH S).1) (h : repC d g r S) (i n1 : Int32) : wp xs ext (n + 7) 105 0 [some (.ref 0), some (.int i), some (.int n1)] [] (sh, d, g, r) (kpost sh d g r S (some (.int (lateQ (sT S) (sX S).1 i n1)))) := by
  have hT : rpC d r (sT S) := rpC_of ok h.1 h.2.1
  have hA0 := h.2.2.1.1
  refine wp_post (c_lateT hsh hr hT hA0 i n1) (fun v μ hc => kp_fr hr ok h ?_)
  exact hc
theorem k_bunch {xs : List Int32} {ext : mm_X} {n : Nat} {sh : mm_S} {d : mm_D} {g : mm_G} {r : mm_R} {S : wo_S} (hsh : shp sh) (hr : rfx r) (ok : okW (sW S) (sH S).1) (h : repC d g r S) (i n1 : Int32) : wp xs ext (n + 7) 106 0 [some (.ref 0), some (.int i), some (.int n1), none, none, none] [] (sh, d, g, r) (kpost sh d g r S (some (.int (bunQ (sT S) (sX S).1 i n1)))) := by
  have hT : rpC d r (sT S) := rpC_of ok h.1 h.2.1
  have hA0 := h.2.2.1.1
  refine wp_post (c_bunchT hsh hr hT hA0 i n1) (fun v μ hc => kp_fr hr ok h ?_)
  exact hc
theorem k_peak {xs : List Int32} {ext : mm_X} {n : Nat} {sh : mm_S} {d : mm_D} {g : mm_G} {r : mm_R} {S : wo_S} (hsh : shp sh) (hr : rfx r) (ok : okW (sW S) (sH S).1) (h : repC d g r S) (i n1 w : Int32) : wp xs ext (n + 7) 120 0 [some (.ref 0), some (.int i), some (.int n1), some (.int w), none, none, none] [] (sh, d, g, r) (kpost sh d g r S (some (.int (peakQ (sT S) (sX S).1 i n1 w)))) := by
  have hT : rpC d r (sT S) := rpC_of ok h.1 h.2.1
  have hA0 := h.2.2.1.1
  refine wp_post (c_peakT hsh hr hT hA0 i n1 w) (fun v μ hc => kp_fr hr ok h ?_)
  exact hc
theorem k_ahead {xs : List Int32} {ext : mm_X} {n : Nat} {sh : mm_S} {d : mm_D} {g : mm_G} {r : mm_R} {S : wo_S} (hsh : shp sh) (hr : rfx r) (ok : okW (sW S) (sH S).1) (h : repC d g r S) (i n1 w : Int32) : wp xs ext (n + 7) 103 0 [some (.ref 0), some (.int i), some (.int n1), some (.int w)] [] (sh, d, g, r) (kpost sh d g r S (some (.int (aheadQ (sT S) (sX S).1 i n1 w)))) := by
  have hT : rpC d r (sT S) := rpC_of ok h.1 h.2.1
  have hA0 := h.2.2.1.1
  refine wp_post (c_aheadT hsh hr hT hA0 i n1 w) (fun v μ hc => kp_fr hr ok h ?_)
  exact hc
theorem k_strike {xs : List Int32} {ext : mm_X} {n : Nat} {sh : mm_S} {d : mm_D} {g : mm_G} {r : mm_R} {S : wo_S} (hsh : shp sh) (hr : rfx r) (ok : okW (sW S) (sH S).1) (h : repC d g r S) (i n1 : Int32) : wp xs ext (n + 7) 104 0 [some (.ref 0), some (.int i), some (.int n1), none] [] (sh, d, g, r) (kpost sh d g r S (some (.int (strikeQ (sT S) (sX S).1 i n1)))) := by
  have hT : rpC d r (sT S) := rpC_of ok h.1 h.2.1
  have hA0 := h.2.2.1.1
  refine wp_post (c_strikeT hsh hr hT hA0 i n1) (fun v μ hc => kp_fr hr ok h ?_)
  exact hc
theorem k_free {xs : List Int32} {ext : mm_X} {n : Nat} {sh : mm_S} {d : mm_D} {g : mm_G} {r : mm_R} {S : wo_S} (hsh : shp sh) (hr : rfx r) (ok : okW (sW S) (sH S).1) (h : repC d g r S) (i : Int32) : wp xs ext (n + 7) 121 0 [some (.ref 0), some (.int i), none] [] (sh, d, g, r) (kpost sh d g r S (some (.int (freeQ (sT S) (sX S).1 i)))) := by
  have hT : rpC d r (sT S) := rpC_of ok h.1 h.2.1
  have hA0 := h.2.2.1.1
  refine wp_post (c_freeT hsh hr hT hA0 i) (fun v μ hc => kp_fr hr ok h ?_)
  exact hc
theorem k_seen {xs : List Int32} {ext : mm_X} {n : Nat} {sh : mm_S} {d : mm_D} {g : mm_G} {r : mm_R} {S : wo_S} (hsh : shp sh) (hr : rfx r) (ok : okW (sW S) (sH S).1) (h : repC d g r S) (n1 w : Int32) : wp xs ext (n + 7) 108 0 [some (.ref 0), some (.int n1), some (.int w), none, none, none, none, none] [] (sh, d, g, r) (kpost sh d g r S (some (.int (seenQ (sT S) (sX S).1 n1 w)))) := by
  have hT : rpC d r (sT S) := rpC_of ok h.1 h.2.1
  have hA0 := h.2.2.1.1
  refine wp_post (c_seenT hsh hr hT hA0 n1 w) (fun v μ hc => kp_fr hr ok h ?_)
  exact hc
theorem k_lovers {xs : List Int32} {ext : mm_X} {n : Nat} {sh : mm_S} {d : mm_D} {g : mm_G} {r : mm_R} {S : wo_S} (hsh : shp sh) (hr : rfx r) (ok : okW (sW S) (sH S).1) (h : repC d g r S) (i j n1 w : Int32) : wp xs ext (n + 7) 111 0 [some (.ref 0), some (.int i), some (.int j), some (.int n1), some (.int w), none, none, none, none] [] (sh, d, g, r) (kpost sh d g r S (some (.int (loversQ (sT S) (sX S).1 i j n1 w)))) := by
  have hT : rpC d r (sT S) := rpC_of ok h.1 h.2.1
  have hA0 := h.2.2.1.1
  refine wp_post (c_loversT hsh hr hT hA0 i j n1 w) (fun v μ hc => kp_fr hr ok h ?_)
  exact hc
theorem k_alone {xs : List Int32} {ext : mm_X} {n : Nat} {sh : mm_S} {d : mm_D} {g : mm_G} {r : mm_R} {S : wo_S} (hsh : shp sh) (hr : rfx r) (ok : okW (sW S) (sH S).1) (h : repC d g r S) (i n1 : Int32) : wp xs ext (n + 7) 122 0 [some (.ref 0), some (.int i), some (.int n1), none, none] [] (sh, d, g, r) (kpost sh d g r S (some (.int (aloneQ (sT S) (sX S).1 i n1)))) := by
  have hT : rpC d r (sT S) := rpC_of ok h.1 h.2.1
  have hA0 := h.2.2.1.1
  refine wp_post (c_aloneT hsh hr hT hA0 i n1) (fun v μ hc => kp_fr hr ok h ?_)
  exact hc
theorem k_hour {xs : List Int32} {ext : mm_X} {n : Nat} {sh : mm_S} {d : mm_D} {g : mm_G} {r : mm_R} {S : wo_S} (hsh : shp sh) (hr : rfx r) (ok : okW (sW S) (sH S).1) (h : repC d g r S) (i n1 : Int32) : wp xs ext (n + 7) 123 0 [some (.ref 0), some (.int i), some (.int n1), none, none, none, none] [] (sh, d, g, r) (kpost sh d g r S (some (.int (hourQ (sT S) (sX S).1 i n1)))) := by
  have hT : rpC d r (sT S) := rpC_of ok h.1 h.2.1
  have hA0 := h.2.2.1.1
  refine wp_post (c_hourT hsh hr hT hA0 i n1) (fun v μ hc => kp_fr hr ok h ?_)
  exact hc
theorem k_ears {xs : List Int32} {ext : mm_X} {n : Nat} {sh : mm_S} {d : mm_D} {g : mm_G} {r : mm_R} {S : wo_S} (hsh : shp sh) (hr : rfx r) (ok : okW (sW S) (sH S).1) (h : repC d g r S) (i n1 : Int32) : wp xs ext (n + 7) 107 0 [some (.ref 0), some (.int i), some (.int n1), none, none, none] [] (sh, d, g, r) (kpost sh d g r S (some (.int (earsQ (sT S) (sX S).1 i n1)))) := by
  have hT : rpC d r (sT S) := rpC_of ok h.1 h.2.1
  have hA0 := h.2.2.1.1
  refine wp_post (c_earsP hsh hr hT.1 i n1) (fun v μ hc => kp_fr hr ok h ?_)
  rw [earsR_T hT hA0] at hc
  exact hc
theorem k_turn {xs : List Int32} {ext : mm_X} {n : Nat} {sh : mm_S} {d : mm_D} {g : mm_G} {r : mm_R} {S : wo_S} (hsh : shp sh) (hr : rfx r) (ok : okW (sW S) (sH S).1) (h : repC d g r S) (n1 : Int32) : wp xs ext (n + 7) 109 0 [some (.ref 0), some (.int n1), none, none] [] (sh, d, g, r) (kpost sh d g r S (some (.int (turnQ (sT S) (sX S).1 n1)))) := by
  have hT : rpC d r (sT S) := rpC_of ok h.1 h.2.1
  have hA0 := h.2.2.1.1
  refine wp_post (c_turnT hsh hr hT hA0 n1) (fun v μ hc => kp_fr hr ok h ?_)
  exact hc
theorem k_stare {xs : List Int32} {ext : mm_X} {n : Nat} {sh : mm_S} {d : mm_D} {g : mm_G} {r : mm_R} {S : wo_S} (hsh : shp sh) (hr : rfx r) (ok : okW (sW S) (sH S).1) (h : repC d g r S) (n1 : Int32) : wp xs ext (n + 7) 110 0 [some (.ref 0), some (.int n1), none, none] [] (sh, d, g, r) (kpost sh d g r S (some (.int (stareQ (sT S) (sX S).1 n1)))) := by
  have hT : rpC d r (sT S) := rpC_of ok h.1 h.2.1
  have hA0 := h.2.2.1.1
  refine wp_post (c_stareT hsh hr hT hA0 n1) (fun v μ hc => kp_fr hr ok h ?_)
  exact hc
theorem k_spoil {xs : List Int32} {ext : mm_X} {n : Nat} {sh : mm_S} {d : mm_D} {g : mm_G} {r : mm_R} {S : wo_S} (hsh : shp sh) (hr : rfx r) (ok : okW (sW S) (sH S).1) (h : repC d g r S) (n1 w : Int32) : wp xs ext (n + 7) 112 0 [some (.ref 0), some (.int n1), some (.int w), none] [] (sh, d, g, r) (kpost sh d g r S (some (.int (spoilQ (sT S) (sX S).1 n1 w)))) := by
  have hT : rpC d r (sT S) := rpC_of ok h.1 h.2.1
  have hA0 := h.2.2.1.1
  refine wp_post (c_spoilT hsh hr hT hA0 n1 w) (fun v μ hc => kp_fr hr ok h ?_)
  exact hc
/-- the person has no habit -/
def fSp (S : wo_S) (p : Nat) : Bool := decide (whb (sW S) p = -1)
theorem spT_eq {d : mm_D} {r : mm_R} {S : wo_S} (ok : okW (sW S) (sH S).1) (h : rpW d r (sW S) (sH S).1) (h4 : (sH S).1 ≤ 4) (i : Int32) : spT (sT S) (frC r) i ↔ spT (sT S) (fSp S) i := by
  unfold spT
  refine ⟨fun q => ⟨q.1, ?_⟩, fun q => ⟨q.1, ?_⟩⟩
  · have hp := per_lt q.1 (show tnp (sT S) ≤ 6 from ok.1)
    have e := frC_of h4 ok h (show i.toNatClampNeg < wnp (sW S) from hp)
    unfold fSp
    rw [← e]; exact q.2
  · have hp := per_lt q.1 (show tnp (sT S) ≤ 6 from ok.1)
    have e := frC_of h4 ok h (show i.toNatClampNeg < wnp (sW S) from hp)
    rw [e]; exact q.2
theorem errand_eq {T : wo_T} {A : wo_A} {f f' : Nat → Bool} {i n1 w : Int32} (e : spT T f i ↔ spT T f' i) : errandQ T A f i n1 w = errandQ T A f' i n1 w := by
  unfold errandQ
  by_cases q : spT T f i
  · rw [if_pos q, if_pos (e.mp q)]
  · rw [if_neg q, if_neg (fun w => q (e.mpr w))]
theorem whose_eq {T : wo_T} {A : wo_A} {f f' : Nat → Bool} {len : Nat} {mt : Nat → Nat} {rs : Nat → Int32} {i j : Int32} (e : spT T f i ↔ spT T f' i) : whoseQ T A f len mt rs i j = whoseQ T A f' len mt rs i j := by
  unfold whoseQ
  by_cases q : spT T f i
  · rw [if_pos q, if_pos (e.mp q)]
  · rw [if_neg q, if_neg (fun w => q (e.mpr w))]
theorem k_errand {xs : List Int32} {ext : mm_X} {n : Nat} {sh : mm_S} {d : mm_D} {g : mm_G} {r : mm_R} {S : wo_S} (hsh : shp sh) (hr : rfx r) (ok : okW (sW S) (sH S).1) (h : repC d g r S) (i n1 w : Int32) : wp xs ext (n + 7) 113 0 [some (.ref 0), some (.int i), some (.int n1), some (.int w), none] [] (sh, d, g, r) (kpost sh d g r S (some (.int (errandQ (sT S) (sX S).1 (fSp S) i n1 w)))) := by
  have hT : rpC d r (sT S) := rpC_of ok h.1 h.2.1
  have hA0 := h.2.2.1.1
  refine wp_post (c_errandT hsh hr hT hA0 i n1 w) (fun v μ hc => kp_fr hr ok h ?_)
  rw [errand_eq (spT_eq ok h.1 h.2.1.2.1 i)] at hc
  exact hc
theorem k_veil {xs : List Int32} {ext : mm_X} {n : Nat} {sh : mm_S} {d : mm_D} {g : mm_G} {r : mm_R} {S : wo_S} (hsh : shp sh) (hr : rfx r) (ok : okW (sW S) (sH S).1) (h : repC d g r S) (n1 w : Int32) : wp xs ext (n + 7) 124 0 [some (.ref 0), some (.int n1), some (.int w), none] [] (sh, d, g, r) (kpost sh d g r S (some (.int (veilQ (sT S) (sX S).1 (wfg (sW S)) n1 w)))) := by
  have hT : rpC d r (sT S) := rpC_of ok h.1 h.2.1
  have hA0 := h.2.2.1.1
  refine wp_post (c_veilT hsh hr hT hA0 n1 w) (fun v μ hc => kp_fr hr ok h ?_)
  have e : (!decide (d 4 7 = 0)) = wfg (sW S) := by
    rw [h.1.2.2.2.2.1]
    cases wfg (sW S) <;> decide
  rw [e] at hc
  exact hc
theorem k_times {xs : List Int32} {ext : mm_X} {n : Nat} {sh : mm_S} {d : mm_D} {g : mm_G} {r : mm_R} {S : wo_S} (hsh : shp sh) (hr : rfx r) (ok : okW (sW S) (sH S).1) (h : repC d g r S) (i : Int32) : wp xs ext (n + 7) 115 0 [some (.ref 0), some (.int i), none, none, none] [] (sh, d, g, r) (kpost sh d g r S (some (.int (timesQ (sT S) dwn (sN S).1 (sN S).2.1 (sN S).2.2 i)))) := by
  have hT : rpC d r (sT S) := rpC_of ok h.1 h.2.1
  have hA0 := h.2.2.1.1
  refine wp_post (c_timesT hsh hr hT h.2.2.2.2.2.2.2 h.2.2.2.2.2.2.1 i) (fun v μ hc => kp_fr hr ok h ?_)
  exact hc
theorem k_whose {xs : List Int32} {ext : mm_X} {n : Nat} {sh : mm_S} {d : mm_D} {g : mm_G} {r : mm_R} {S : wo_S} (hsh : shp sh) (hr : rfx r) (ok : okW (sW S) (sH S).1) (h : repC d g r S) (i j : Int32) : wp xs ext (n + 7) 116 0 [some (.ref 0), some (.int i), some (.int j), none, none, none] [] (sh, d, g, r) (kpost sh d g r S (some (.int (whoseQ (sT S) (sX S).1 (fSp S) (sN S).1 (sN S).2.1 (sN S).2.2 i j)))) := by
  have hT : rpC d r (sT S) := rpC_of ok h.1 h.2.1
  have hA0 := h.2.2.1.1
  refine wp_post (c_whoseT hsh hr hT hA0 h.2.2.2.2.2.2.1 i j) (fun v μ hc => kp_fr hr ok h ?_)
  rw [whose_eq (spT_eq ok h.1 h.2.1.2.1 i)] at hc
  exact hc
theorem k_odds {xs : List Int32} {ext : mm_X} {n : Nat} {sh : mm_S} {d : mm_D} {g : mm_G} {r : mm_R} {S : wo_S} (hsh : shp sh) (hr : rfx r) (ok : okW (sW S) (sH S).1) (h : repC d g r S) (n1 : Int32) : wp xs ext (n + 30) 117 0 [some (.ref 0), some (.int n1)] [] (sh, d, g, r) (kpost sh d g r S (some (.int (oddsQ (sT S) (sX S).1 (sK S) n1)))) := by
  have hT : rpC d r (sT S) := rpC_of ok h.1 h.2.1
  have hA0 := h.2.2.1.1
  refine wp_post (c_oddsT hsh hr hT hA0 (fun q => ok.2.2.1 q) n1) (fun v μ hc => kp_fr hr ok h ?_)
  rw [h.2.2.2.1] at hc
  exact hc
