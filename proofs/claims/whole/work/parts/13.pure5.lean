/-! more pure words of LoomDraft -/
/-- L is the longest of the lengths with a count -/
def isLF (h : Nat → Int32) (L : Nat) : Prop := L ≤ 40 ∧ (L = 0 ∨ h L ≠ 0) ∧ ∀ j, L < j → j ≤ 40 → h j = 0
/-- the colours: of the warp, then of the weft -/
def colF (nw : Nat) (cw cp : Nat → Int32) : Nat → Int32 := fun i => if i < nw then cw i else cp (i - nw)
theorem colF_w {nw : Nat} {cw cp : Nat → Int32} {i : Nat} (h : i < nw) : cw i = colF nw cw cp i := by unfold colF; rw [if_pos h]
theorem colF_p {nw : Nat} {cw cp : Nat → Int32} {i : Nat} (h : nw ≤ i) : cp (i - nw) = colF nw cw cp i := by unfold colF; rw [if_neg (by omega)]
/-- the set of the colours of the first k -/
def seF (f : Nat → Int32) : Nat → Int32 | 0 => nI 0 | k + 1 => if hbit (seF f k).toInt64 (f k) then seF f k else seF f k ||| ((nI 1) <<< (f k &&& 31))
theorem seF_y {f : Nat → Int32} {k : Nat} (h : hbit (seF f k).toInt64 (f k) = true) : seF f (k + 1) = seF f k := by rw [seF, if_pos h]
theorem seF_n {f : Nat → Int32} {k : Nat} (h : hbit (seF f k).toInt64 (f k) = false) : seF f (k + 1) = seF f k ||| ((nI 1) <<< (f k &&& 31)) := by rw [seF, if_neg (by rw [h]; decide)]
/-- the shafts for a drawn row x -/
def shF (ri : Int32) (x : Int64) (fs : Nat → Int32) : Nat → Int32 | 0 => nI 0 | k + 1 => if bI (hbit x (nI k)) = ri then shF ri x fs k ||| ((nI 1) <<< (fs k &&& 31)) else shF ri x fs k
theorem shF_y {ri : Int32} {x : Int64} {fs : Nat → Int32} {k : Nat} (h : bI (hbit x (nI k)) = ri) : shF ri x fs (k + 1) = shF ri x fs k ||| ((nI 1) <<< (fs k &&& 31)) := by rw [shF, if_pos h]
theorem shF_n {ri : Int32} {x : Int64} {fs : Nat → Int32} {k : Nat} (h : ¬ bI (hbit x (nI k)) = ri) : shF ri x fs (k + 1) = shF ri x fs k := by rw [shF, if_neg h]
def tiF (ri : Int32) (fr : Nat → Int64) (fs : Nat → Int32) (co : Nat) (g : Nat → Int32) : Nat → Nat → Int32 | 0 => g | k + 1 => upd (tiF ri fr fs co g k) (nmb fr k) (shF ri (fr k) fs co)
theorem tkn_mono (t : Nat → Int64) : ∀ {a b : Nat}, a ≤ b → tkn t a ≤ tkn t b := by
  intro a b h
  induction b with
  | zero => rw [Nat.le_zero.mp h]; exact Nat.le_refl _
  | succ b ih =>
    rcases Nat.lt_or_ge a (b + 1) with q | q
    · have := ih (by omega)
      have h2 : tkn t b ≤ tkn t (b + 1) := by rw [tkn]; split <;> omega
      omega
    · rw [show a = b + 1 by omega]; exact Nat.le_refl _
theorem nmb_lt {t : Nat → Int64} {i n : Nat} (h : i < n) : nmb t i < tkn t n := by
  unfold nmb
  have h1 := tkn_s1 (t := t) (i := flk t i) (by rw [flk_idem]; exact Nat.le_refl _)
  have h2 := tkn_mono t (a := flk t i + 1) (b := n) (by have := flk_le t i; omega)
  omega
def thF (g f : Nat → Int32) (i : Nat) : Nat → Int32 := fun k => if k < i then g k else f k
theorem thF_0 (g f : Nat → Int32) : thF g f 0 = f := by funext k; unfold thF; rw [if_neg (by omega)]
theorem thF_s (g f : Nat → Int32) (i : Nat) : upd (thF g f i) i (g i) = thF g f (i + 1) := by
  funext k
  by_cases e : k = i
  · subst e; rw [pk_us]; unfold thF; rw [if_pos (by omega)]
  · rw [pk_un e]; unfold thF
    by_cases q : k < i
    · rw [if_pos q, if_pos (by omega)]
    · rw [if_neg q, if_neg (by omega)]
def dfS (f g : Nat → Int64) : Nat → Int32 | 0 => nI 0 | k + 1 => dfS f g k + bc64 (f k ^^^ g k)
def dgT (ti : Nat → Int32) (d : Int64) : Nat → Int64 | 0 => d | k + 1 => dgw (dgT ti d k) (ti k).toInt64
