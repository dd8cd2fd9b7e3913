/-! pure words of Cloth, Drawing, Leading -/
def flF (f : Nat → Int32) (v : Int32) (n : Nat) : Nat → Int32 := fun k => if k < n then v else f k
theorem flF_0 (f : Nat → Int32) (v : Int32) : flF f v 0 = f := by funext k; unfold flF; rw [if_neg (by omega)]
theorem flF_s (f : Nat → Int32) (v : Int32) (i : Nat) : upd (flF f v i) i v = flF f v (i + 1) := by
  funext k
  by_cases e : k = i
  · subst e; rw [pk_us]; unfold flF; rw [if_pos (by omega)]
  · rw [pk_un e]; unfold flF
    by_cases q : k < i
    · rw [if_pos q, if_pos (by omega)]
    · rw [if_neg q, if_neg (by omega)]
/-- Integer.bitCount, Long.bitCount, as the machine counts them -/
def bcA (x : Int32) : Int32 := x - ((x.toUInt32 >>> ((nI 1).toUInt32 &&& Int32.toUInt32 31)).toInt32 &&& 1431655765)
def bcB (x : Int32) : Int32 := (x &&& 858993459) + ((x.toUInt32 >>> ((nI 2).toUInt32 &&& Int32.toUInt32 31)).toInt32 &&& 858993459)
def bcC (x : Int32) : Int32 := (x + (x.toUInt32 >>> ((nI 4).toUInt32 &&& Int32.toUInt32 31)).toInt32) &&& 252645135
def bc32 (x : Int32) : Int32 := ((bcC (bcB (bcA x)) + ((bcC (bcB (bcA x))).toUInt32 >>> ((nI 8).toUInt32 &&& Int32.toUInt32 31)).toInt32) + ((bcC (bcB (bcA x)) + ((bcC (bcB (bcA x))).toUInt32 >>> ((nI 8).toUInt32 &&& Int32.toUInt32 31)).toInt32).toUInt32 >>> ((nI 16).toUInt32 &&& Int32.toUInt32 31)).toInt32) &&& (nI 63)
def blA (x : Int64) : Int64 := x - ((x.toUInt64 >>> ((nI 1).toInt64.toUInt64 &&& Int64.toUInt64 63)).toInt64 &&& 6148914691236517205)
def blB (x : Int64) : Int64 := (x &&& 3689348814741910323) + ((x.toUInt64 >>> ((nI 2).toInt64.toUInt64 &&& Int64.toUInt64 63)).toInt64 &&& 3689348814741910323)
def blC (x : Int64) : Int64 := (x + (x.toUInt64 >>> ((nI 4).toInt64.toUInt64 &&& Int64.toUInt64 63)).toInt64) &&& 1085102592571150095
def blD (x : Int64) : Int64 := x + (x.toUInt64 >>> ((nI 8).toInt64.toUInt64 &&& Int64.toUInt64 63)).toInt64
def blE (x : Int64) : Int64 := x + (x.toUInt64 >>> ((nI 16).toInt64.toUInt64 &&& Int64.toUInt64 63)).toInt64
def bc64 (x : Int64) : Int32 := (blE (blD (blC (blB (blA x)))) + ((blE (blD (blC (blB (blA x))))).toUInt64 >>> ((nI 32).toInt64.toUInt64 &&& Int64.toUInt64 63)).toInt64).toInt32 &&& (nI 127)
def plS (f : Nat → Int64) : Nat → Int32 | 0 => nI 0 | k + 1 => plS f k + bc64 (f k)
/-- the bits k < n for which p holds -/
def mkB (p : Nat → Bool) : Nat → Int64 | 0 => 0 | k + 1 => if p k then mkB p k ||| ((1 : Int64) <<< ((nI k).toInt64 &&& 63)) else mkB p k
theorem mkB_y {p : Nat → Bool} {k : Nat} (h : p k = true) : mkB p (k + 1) = mkB p k ||| ((1 : Int64) <<< ((nI k).toInt64 &&& 63)) := by rw [mkB, if_pos h]
theorem mkB_n {p : Nat → Bool} {k : Nat} (h : p k = false) : mkB p (k + 1) = mkB p k := by rw [mkB, if_neg (by rw [h]; decide)]
theorem mkB_cong {p q : Nat → Bool} : ∀ {n : Nat}, (∀ k, k < n → p k = q k) → mkB p n = mkB q n
  | 0, _ => rfl
  | n + 1, h => by rw [mkB, mkB, mkB_cong (fun k hk => h k (Nat.lt_succ_of_lt hk)), h n (Nat.lt_succ_self n)]
/-- floats: the length behind c crossings, the counts at each length -/
def cfL (b : Nat → Bool) : Nat → Nat | 0 => 0 | c + 1 => if b c then cfL b c + 1 else 0
theorem cfL_y {b : Nat → Bool} {k : Nat} (h : b k = true) : cfL b (k + 1) = cfL b k + 1 := by rw [cfL, if_pos h]
theorem cfL_n {b : Nat → Bool} {k : Nat} (h : b k = false) : cfL b (k + 1) = 0 := by rw [cfL, if_neg (by rw [h]; decide)]
theorem cfL_le (b : Nat → Bool) : ∀ k, cfL b k ≤ k
  | 0 => Nat.le_refl 0
  | k + 1 => by
    have ih := cfL_le b k
    rw [cfL]; split <;> omega
def cfH (b : Nat → Bool) (g : Nat → Int32) : Nat → Nat → Int32 | 0 => g | c + 1 => if b c then upd (cfH b g c) (cfL b c + 1) (cfH b g c (cfL b c + 1) + (nI 1)) else cfH b g c
theorem cfH_y {b : Nat → Bool} {g : Nat → Int32} {k : Nat} (h : b k = true) : cfH b g (k + 1) = upd (cfH b g k) (cfL b k + 1) (cfH b g k (cfL b k + 1) + (nI 1)) := by rw [cfH, if_pos h]
theorem cfH_n {b : Nat → Bool} {g : Nat → Int32} {k : Nat} (h : b k = false) : cfH b g (k + 1) = cfH b g k := by rw [cfH, if_neg (by rw [h]; decide)]
def cfT (b : Nat → Nat → Bool) (n : Nat) (g : Nat → Int32) : Nat → Nat → Int32 | 0 => g | t + 1 => cfH (b t) (cfT b n g t) n
/-- the first place with an equal thing -/
def fsB (p : Nat → Bool) : Nat → Nat | 0 => 0 | n + 1 => if fsB p n < n then fsB p n else if p n then n else n + 1
theorem fsB_spec (p : Nat → Bool) : ∀ n, fsB p n ≤ n ∧ (∀ j, j < fsB p n → p j = false) ∧ (fsB p n < n → p (fsB p n) = true)
  | 0 => ⟨Nat.le_refl 0, fun j h => absurd h (Nat.not_lt_zero j), fun h => absurd h (Nat.not_lt_zero _)⟩
  | n + 1 => by
    obtain ⟨h1, h2, h3⟩ := fsB_spec p n
    rw [fsB]
    by_cases q : fsB p n < n
    · rw [if_pos q]; exact ⟨by omega, h2, fun _ => h3 q⟩
    · rw [if_neg q]
      have e : fsB p n = n := by omega
      rw [e] at h2
      cases hp : p n with
      | true => rw [if_pos rfl]; exact ⟨by omega, h2, fun _ => hp⟩
      | false =>
        rw [if_neg (by decide)]
        refine ⟨Nat.le_refl _, fun j hj => ?_, fun h => absurd h (Nat.lt_irrefl _)⟩
        by_cases ej : j = n
        · subst ej; exact hp
        · exact h2 j (by omega)
def flk (t : Nat → Int64) (pl : Nat) : Nat := fsB (fun j => decide (t j = t pl)) pl
theorem flk_le (t : Nat → Int64) (pl : Nat) : flk t pl ≤ pl := (fsB_spec _ pl).1
theorem flk_no {t : Nat → Int64} {pl j : Nat} (h : j < flk t pl) : t j ≠ t pl := of_decide_eq_false ((fsB_spec _ pl).2.1 j h)
theorem flk_at (t : Nat → Int64) (pl : Nat) : t (flk t pl) = t pl := by
  by_cases q : flk t pl < pl
  · exact of_decide_eq_true ((fsB_spec (fun j => decide (t j = t pl)) pl).2.2 q)
  · have := flk_le t pl
    rw [show flk t pl = pl by omega]
theorem flk_eq {t : Nat → Int64} {pl i : Nat} (hi : i ≤ pl) (hx : ∀ j, j < i → t j ≠ t pl) (h : i = pl ∨ t i = t pl) : flk t pl = i := by
  have hi2 : t i = t pl := by rcases h with rfl | h; rfl; exact h
  rcases Nat.lt_trichotomy (flk t pl) i with q | q | q
  · exact absurd (flk_at t pl) (hx _ q)
  · exact q
  · exact absurd hi2 (flk_no q)
theorem flk_idem (t : Nat → Int64) (pl : Nat) : flk t (flk t pl) = flk t pl :=
  flk_eq (Nat.le_refl _) (fun j h => by rw [flk_at t pl]; exact flk_no h) (Or.inl rfl)
/-- how many different ones stand ahead of k -/
def tkn (t : Nat → Int64) : Nat → Nat | 0 => 0 | k + 1 => if flk t k < k then tkn t k else tkn t k + 1
theorem tkn_s1 {t : Nat → Int64} {i : Nat} (h : i ≤ flk t i) : tkn t (i + 1) = tkn t i + 1 := by rw [tkn, if_neg (by omega)]
theorem tkn_s2 {t : Nat → Int64} {i : Nat} (h : flk t i < i) : tkn t (i + 1) = tkn t i := by rw [tkn, if_pos h]
theorem tkn_le (t : Nat → Int64) : ∀ k, tkn t k ≤ k
  | 0 => Nat.le_refl 0
  | k + 1 => by
    have ih := tkn_le t k
    rw [tkn]; split <;> omega
/-- the number of the thing at k -/
def nmb (t : Nat → Int64) (k : Nat) : Nat := tkn t (flk t k)
def cpN (g : Nat → Int32) (t : Nat → Int64) (i : Nat) : Nat → Int32 := fun k => if k < i then nI (nmb t k) else g k
theorem cpN_0 (g : Nat → Int32) (t : Nat → Int64) : cpN g t 0 = g := by funext k; unfold cpN; rw [if_neg (by omega)]
theorem cpN_u (g : Nat → Int32) (t : Nat → Int64) (i : Nat) : upd (cpN g t i) i (nI (nmb t i)) = cpN g t (i + 1) := by
  funext k
  by_cases e : k = i
  · subst e; rw [pk_us]; unfold cpN; rw [if_pos (by omega)]
  · rw [pk_un e]; unfold cpN
    by_cases q : k < i
    · rw [if_pos q, if_pos (by omega)]
    · rw [if_neg q, if_neg (by omega)]
theorem cpN_s1 {g : Nat → Int32} {t : Nat → Int64} {i : Nat} (h : i ≤ flk t i) : upd (cpN g t i) i (nI (tkn t i)) = cpN g t (i + 1) := by
  have e : flk t i = i := Nat.le_antisymm (flk_le t i) h
  rw [← cpN_u]; unfold nmb; rw [e]
theorem cpN_s2 {g : Nat → Int32} {t : Nat → Int64} {i : Nat} (h : flk t i < i) : upd (cpN g t i) i (cpN g t i (flk t i)) = cpN g t (i + 1) := by
  rw [← cpN_u]
  have e : cpN g t i (flk t i) = nI (nmb t i) := by
    show (if flk t i < i then _ else _) = _
    rw [if_pos h]; unfold nmb; rw [flk_idem]
  rw [e]
def clF (fk fr : Nat → Int64) (dn i : Nat) : Nat → Int64 := fun c => if c < i then mkB (fun k => hbit (fr k) (nI c)) dn else fk c
theorem clF_0 (fk fr : Nat → Int64) (dn : Nat) : clF fk fr dn 0 = fk := by funext k; unfold clF; rw [if_neg (by omega)]
theorem clF_s (fk fr : Nat → Int64) (dn i : Nat) : vp_updL (clF fk fr dn i) i (mkB (fun k => hbit (fr k) (nI i)) dn) = clF fk fr dn (i + 1) := by
  funext k
  by_cases e : k = i
  · subst e; rw [pk_uLs]; unfold clF; rw [if_pos (by omega)]
  · rw [pk_uLn e]; unfold clF
    by_cases q : k < i
    · rw [if_pos q, if_pos (by omega)]
    · rw [if_neg q, if_neg (by omega)]
def dgD (fr : Nat → Int64) (d : Int64) : Nat → Int64 | 0 => d | k + 1 => dgw (dgD fr d k) (fr k)
/-- leads, of threads: ends first, then picks -/
def ldT (en : Nat) (fe fp : Nat → Int64) (a b : Nat) : Bool := if b < en then hbit (fe a) (nI b) else hbit (fp a) (nI (b - en))
def ifg (ld : Nat → Nat → Bool) (a : Nat) : Prop := ∀ j, j < a → ¬ (ld a j = true ∧ ld j a = true)
def cnB (p : Nat → Bool) : Nat → Nat | 0 => 0 | k + 1 => cnB p k + (if p k then 1 else 0)
theorem cnB_y {p : Nat → Bool} {k : Nat} (h : p k = true) : cnB p (k + 1) = cnB p k + 1 := by rw [cnB, if_pos h]
theorem cnB_n {p : Nat → Bool} {k : Nat} (h : p k = false) : cnB p (k + 1) = cnB p k := by rw [cnB, if_neg (by rw [h]; decide)]; rfl
theorem cnB_le (p : Nat → Bool) : ∀ k, cnB p k ≤ k
  | 0 => Nat.le_refl 0
  | k + 1 => by
    have ih := cnB_le p k
    rw [cnB]; split <;> omega
theorem cnB_cong {p q : Nat → Bool} : ∀ {n : Nat}, (∀ k, k < n → p k = q k) → cnB p n = cnB q n
  | 0, _ => rfl
  | n + 1, h => by rw [cnB, cnB, cnB_cong (fun k hk => h k (Nat.lt_succ_of_lt hk)), h n (Nat.lt_succ_self n)]
def bgE (fe : Nat → Int64) (i : Nat) : Nat → Int64 := fun k => if k < i then 0 else fe k
def bgP (fp ce : Nat → Int64) (cp i : Nat) : Nat → Int64 := fun k => if k < i then mkB (fun q => hbit (ce q) (nI k)) cp else fp k
def bgE2 (f : Nat → Int64) (ce : Nat → Int64) (cn j : Nat) : Nat → Int64 := fun k => if cn ≤ k ∧ k < cn + j then allof (nI cn) &&& (ce (k - cn) ^^^ (-1)) else f k
def bgP2 (f : Nat → Int64) (cn j : Nat) : Nat → Int64 := fun k => if cn ≤ k ∧ k < cn + j then 0 else f k
theorem bgE_0 (fe : Nat → Int64) : bgE fe 0 = fe := by funext k; unfold bgE; rw [if_neg (by omega)]
theorem bgP_0 (fp ce : Nat → Int64) (cp : Nat) : bgP fp ce cp 0 = fp := by funext k; unfold bgP; rw [if_neg (by omega)]
theorem bgE2_0 (f ce : Nat → Int64) (cn : Nat) : bgE2 f ce cn 0 = f := by funext k; unfold bgE2; rw [if_neg (by omega)]
theorem bgP2_0 (f : Nat → Int64) (cn : Nat) : bgP2 f cn 0 = f := by funext k; unfold bgP2; rw [if_neg (by omega)]
theorem bgE_s (fe : Nat → Int64) (i : Nat) : vp_updL (bgE fe i) i 0 = bgE fe (i + 1) := by
  funext k
  by_cases e : k = i
  · subst e; rw [pk_uLs]; unfold bgE; rw [if_pos (by omega)]
  · rw [pk_uLn e]; unfold bgE
    by_cases q : k < i
    · rw [if_pos q, if_pos (by omega)]
    · rw [if_neg q, if_neg (by omega)]
theorem bgP_s (fp ce : Nat → Int64) (cp i : Nat) : vp_updL (bgP fp ce cp i) i (mkB (fun q => hbit (ce q) (nI i)) cp) = bgP fp ce cp (i + 1) := by
  funext k
  by_cases e : k = i
  · subst e; rw [pk_uLs]; unfold bgP; rw [if_pos (by omega)]
  · rw [pk_uLn e]; unfold bgP
    by_cases q : k < i
    · rw [if_pos q, if_pos (by omega)]
    · rw [if_neg q, if_neg (by omega)]
theorem bgE2_s (f ce : Nat → Int64) (cn j : Nat) : vp_updL (bgE2 f ce cn j) (cn + j) (allof (nI cn) &&& (ce j ^^^ (-1))) = bgE2 f ce cn (j + 1) := by
  funext k
  by_cases e : k = cn + j
  · subst e; rw [pk_uLs]; unfold bgE2; rw [if_pos (by omega), Nat.add_sub_cancel_left]
  · rw [pk_uLn e]; unfold bgE2
    by_cases q : cn ≤ k ∧ k < cn + j
    · rw [if_pos q, if_pos (by omega)]
    · rw [if_neg q, if_neg (by omega)]
theorem bgP2_s (f : Nat → Int64) (cn j : Nat) : vp_updL (bgP2 f cn j) (cn + j) 0 = bgP2 f cn (j + 1) := by
  funext k
  by_cases e : k = cn + j
  · subst e; rw [pk_uLs]; unfold bgP2; rw [if_pos (by omega)]
  · rw [pk_uLn e]; unfold bgP2
    by_cases q : cn ≤ k ∧ k < cn + j
    · rw [if_pos q, if_pos (by omega)]
    · rw [if_neg q, if_neg (by omega)]
/-- the spreading of what leads where by way of v -/
def foI (en v : Nat) (fe fp : Nat → Int64) : Nat → (Nat → Int64) × (Nat → Int64)
  | 0 => (fe, fp)
  | w + 1 => if ldT en (foI en v fe fp w).1 (foI en v fe fp w).2 w v then (vp_updL (foI en v fe fp w).1 w ((foI en v fe fp w).1 w ||| (foI en v fe fp w).1 v), vp_updL (foI en v fe fp w).2 w ((foI en v fe fp w).2 w ||| (foI en v fe fp w).2 v)) else foI en v fe fp w
theorem foI_y {en v : Nat} {fe fp : Nat → Int64} {w : Nat} (h : ldT en (foI en v fe fp w).1 (foI en v fe fp w).2 w v = true) : foI en v fe fp (w + 1) = (vp_updL (foI en v fe fp w).1 w ((foI en v fe fp w).1 w ||| (foI en v fe fp w).1 v), vp_updL (foI en v fe fp w).2 w ((foI en v fe fp w).2 w ||| (foI en v fe fp w).2 v)) := by rw [foI, if_pos h]
theorem foI_n {en v : Nat} {fe fp : Nat → Int64} {w : Nat} (h : ldT en (foI en v fe fp w).1 (foI en v fe fp w).2 w v = false) : foI en v fe fp (w + 1) = foI en v fe fp w := by rw [foI, if_neg (by rw [h]; decide)]
def foO (en n : Nat) (fe fp : Nat → Int64) : Nat → (Nat → Int64) × (Nat → Int64)
  | 0 => (fe, fp)
  | v + 1 => foI en v (foO en n fe fp v).1 (foO en n fe fp v).2 n
