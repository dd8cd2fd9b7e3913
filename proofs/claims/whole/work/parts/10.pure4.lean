/-! pure words of LoomDraft -/
theorem below_le {x : Int32} {b : Nat} (h0 : ¬ x < 0) (h : x ≤ nI b) (hb : b < 2 ^ 30 := by omega) : below x (b + 1) = true := by
  obtain ⟨j, hj, e⟩ := nI_of h0
  subst e
  rw [below_n hj]
  have := (nI_leI hj (by omega)).mp h
  exact decide_eq_true (by omega)
/-- the shafts that are moved by the first i treadles -/
def mvF (b : Int32) (ti : Nat → Int32) : Nat → Int32 | 0 => nI 0 | k + 1 => if hbit b.toInt64 (nI k) then mvF b ti k ||| ti k else mvF b ti k
theorem mvF_y {b : Int32} {ti : Nat → Int32} {k : Nat} (h : hbit b.toInt64 (nI k) = true) : mvF b ti (k + 1) = mvF b ti k ||| ti k := by rw [mvF, if_pos h]
theorem mvF_n {b : Int32} {ti : Nat → Int32} {k : Nat} (h : hbit b.toInt64 (nI k) = false) : mvF b ti (k + 1) = mvF b ti k := by rw [mvF, if_neg (by rw [h]; decide)]
/-- the shafts that are up: b the treadles -/
def suA (ri : Int32) (ti : Nat → Int32) (b : Int32) : Int64 := if ri = 0 then allof (nI 8) &&& (mvF b ti 10 ^^^ (-1)).toInt64 else (mvF b ti 10).toInt64
def wvF (ri : Int32) (ti bp bw : Nat → Int32) (nw : Nat) (fe : Nat → Int64) (i : Nat) : Nat → Int64 := fun k => if k < i then mkB (fun y0 => hbit (suA ri ti (bp k)) (bw y0)) nw else fe k
theorem wvF_0 (ri : Int32) (ti bp bw : Nat → Int32) (nw : Nat) (fe : Nat → Int64) : wvF ri ti bp bw nw fe 0 = fe := by funext k; unfold wvF; rw [if_neg (by omega)]
theorem wvF_s (ri : Int32) (ti bp bw : Nat → Int32) (nw : Nat) (fe : Nat → Int64) (i : Nat) : vp_updL (wvF ri ti bp bw nw fe i) i (mkB (fun y0 => hbit (suA ri ti (bp i)) (bw y0)) nw) = wvF ri ti bp bw nw fe (i + 1) := by
  funext k
  by_cases e : k = i
  · subst e; rw [pk_uLs]; unfold wvF; rw [if_pos (by omega)]
  · rw [pk_uLn e]; unfold wvF
    by_cases q : k < i
    · rw [if_pos q, if_pos (by omega)]
    · rw [if_neg q, if_neg (by omega)]
