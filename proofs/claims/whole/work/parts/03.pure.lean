/-! pure words: bits, bounds, rows -/
theorem gx_addneg {a k : Nat} (h : k ≤ a) : nI a + -nI k = nI (a - k) := by
  rw [← pk_sub h]; exact (Int32.sub_eq_add_neg (a := nI a) (b := nI k)).symm
theorem gx_nz {x : Int32} (h : x = 0 ∨ x = 1) : narrow .boolean (.int x) = .int x := by rcases h with rfl | rfl <;> rfl
theorem gx_fz {x : Int32} (h : x = 0 ∨ x = 1) : fits .boolean (.int x) = true := by rcases h with rfl | rfl <;> rfl
def gr2 (a b : Nat) : Nat → Option Nat := fun i => if i = 0 then some a else if i = 1 then some b else none
def bI (b : Bool) : Int32 := if b then 1 else 0
theorem bI_t : bI true = 1 := rfl
theorem bI_f : bI false = 0 := rfl
theorem bI_01 (b : Bool) : bI b = 0 ∨ bI b = 1 := by cases b; exact Or.inl rfl; exact Or.inr rfl
theorem bI_eq0 {b : Bool} (h : bI b = 0) : b = false := by cases b; rfl; exact absurd h (by decide)
theorem bI_ne0 {b : Bool} (h : ¬ bI b = 0) : b = true := by cases b; exact absurd rfl h; rfl
theorem bI_nI (b : Bool) : bI b = nI (if b then 1 else 0) := by cases b <;> rfl
/-- 0 <= x < b -/
def below (x : Int32) (b : Nat) : Bool := decide (0 ≤ x.toInt ∧ x.toInt < (b : Int))
theorem below_j {x : Int32} {b : Nat} (h : below x b = true) : ∃ j : Nat, j < b ∧ j < 2 ^ 31 ∧ x = nI j := by
  have h := of_decide_eq_true h
  have h0 : ¬ x < 0 := fun q => by
    have := (Int32.lt_iff_toInt_lt).mp q
    have e : (0 : Int32).toInt = 0 := rfl
    omega
  obtain ⟨j, hj, e⟩ := nI_of h0
  subst e
  rw [nI_toInt hj] at h
  exact ⟨j, by omega, hj, rfl⟩
theorem below_n {j b : Nat} (hj : j < 2 ^ 31) : below (nI j) b = decide (j < b) := by
  unfold below
  rw [nI_toInt hj]
  by_cases h : j < b
  · rw [decide_eq_true h, decide_eq_true (by omega)]
  · rw [decide_eq_false h, decide_eq_false (by omega)]
theorem below_f {x : Int32} {b : Nat} (hb : b < 2 ^ 31) (h : below x b = false) : x < 0 ∨ nI b ≤ x := by
  have h := of_decide_eq_false h
  by_cases q : x < 0
  · exact Or.inl q
  · obtain ⟨j, hj, e⟩ := nI_of q
    subst e
    rw [nI_toInt hj] at h
    exact Or.inr (nI_le (by omega) hj)
theorem below_neg {x : Int32} {b : Nat} (h : x < 0) : below x b = false := by
  refine decide_eq_false (fun q => ?_)
  have := (Int32.lt_iff_toInt_lt).mp h
  have e : (0 : Int32).toInt = 0 := rfl
  omega
theorem below_big {x : Int32} {b : Nat} (hb : b < 2 ^ 31) (h : nI b ≤ x) : below x b = false := by
  refine decide_eq_false (fun q => ?_)
  have := (Int32.le_iff_toInt_le).mp h
  rw [nI_toInt hb] at this
  omega
theorem below_y {x : Int32} {b : Nat} (hb : b < 2 ^ 31) (h0 : ¬ x < 0) (h : ¬ nI b ≤ x) : below x b = true := by
  obtain ⟨j, hj, e⟩ := nI_of h0
  subst e
  rw [below_n hj]
  refine decide_eq_true (Nat.lt_of_not_le (fun q => h (nI_le q hj)))
/-- (set >> number & 1) == 1 -/
def hbit (x : Int64) (y : Int32) : Bool := decide (x >>> (y.toInt64 &&& 63) &&& 1 = 1)
/-- the bits of the first n things that p says -/
def dgw (d x : Int64) : Int64 := d * 31 + x
/-- (1 << y) - 1 -/
def allof (y : Int32) : Int64 := 1 <<< (y.toInt64 &&& 63) - 1
/-- f, but turned round from a on and ahead of b -/
def rvF (f : Nat → Int32) (a b : Nat) : Nat → Int32 := fun k => if a ≤ k ∧ k < b then f (a + b - 1 - k) else f k
def rvP (f : Nat → Int32) (a b i : Nat) : Nat → Int32 := fun k => if (a ≤ k ∧ k < a + i) ∨ (b - i ≤ k ∧ k < b) then f (a + b - 1 - k) else f k
theorem rvP_0 (f : Nat → Int32) (a b : Nat) : rvP f a b 0 = f := by
  funext k; unfold rvP; rw [if_neg (by omega)]
theorem rvP_s {f : Nat → Int32} {a b i : Nat} (h : a + i < b - 1 - i) (h2 : b ≤ 40) : upd (upd (rvP f a b i) (a + i) (rvP f a b i (b - 1 - i))) (b - 1 - i) (rvP f a b i (a + i)) = rvP f a b (i + 1) := by
  funext k
  by_cases e1 : k = b - 1 - i
  · subst e1
    rw [pk_us]; unfold rvP; rw [if_neg (by omega), if_pos (by omega)]; congr 1; omega
  · rw [pk_un e1]
    by_cases e2 : k = a + i
    · subst e2
      rw [pk_us]; unfold rvP; rw [if_neg (by omega), if_pos (by omega)]; congr 1; omega
    · rw [pk_un e2]; unfold rvP
      by_cases e3 : (a ≤ k ∧ k < a + i) ∨ (b - i ≤ k ∧ k < b)
      · rw [if_pos e3, if_pos (by omega)]
      · rw [if_neg e3, if_neg (by omega)]
theorem rvP_e {f : Nat → Int32} {a b i : Nat} (h : b - 1 - i ≤ a + i) (h2 : 2 * i ≤ b - a) : rvP f a b i = rvF f a b := by
  funext k; unfold rvP rvF
  by_cases e : a ≤ k ∧ k < b
  · rw [if_pos e]
    by_cases e3 : (a ≤ k ∧ k < a + i) ∨ (b - i ≤ k ∧ k < b)
    · rw [if_pos e3]
    · rw [if_neg e3]; congr 1; omega
  · rw [if_neg e, if_neg (by omega)]
/-- f, with i things of its first behind n -/
def rpF (f : Nat → Int32) (n i : Nat) : Nat → Int32 := fun k => if n ≤ k ∧ k < n + i then f (k - n) else f k
theorem rpF_0 (f : Nat → Int32) (n : Nat) : rpF f n 0 = f := by
  funext k; unfold rpF; rw [if_neg (by omega)]
theorem rpF_s {f : Nat → Int32} {n i : Nat} (h : i < n) : upd (rpF f n i) (n + i) (rpF f n i i) = rpF f n (i + 1) := by
  funext k
  by_cases e1 : k = n + i
  · subst e1
    rw [pk_us]; unfold rpF; rw [if_neg (by omega), if_pos (by omega)]; congr 1; omega
  · rw [pk_un e1]; unfold rpF
    by_cases e3 : n ≤ k ∧ k < n + i
    · rw [if_pos e3, if_pos (by omega)]
    · rw [if_neg e3, if_neg (by omega)]
/-- a proposition as a Bool -/
noncomputable def cB (P : Prop) : Bool := @decide P (Classical.propDecidable P)
theorem cB_t {P : Prop} (h : P) : cB P = true := @decide_eq_true P (Classical.propDecidable P) h
theorem cB_f {P : Prop} (h : ¬ P) : cB P = false := @decide_eq_false P (Classical.propDecidable P) h
theorem cB_y {P : Prop} (h : cB P = true) : P := @of_decide_eq_true P (Classical.propDecidable P) h
theorem cB_n {P : Prop} (h : cB P = false) : ¬ P := @of_decide_eq_false P (Classical.propDecidable P) h
/-- each thing from the place k on is the one k places ahead -/
def rpt (fb fc : Nat → Int32) (n k : Nat) : Prop := ∀ i, k ≤ i → i < n → fb i = fb (i - k) ∧ fc i = fc (i - k)
/-- k is the least period of n things (0 of none) -/
def isPer (fb fc : Nat → Int32) (n k : Nat) : Prop := (1 ≤ k ∨ n = 0) ∧ k ≤ n ∧ rpt fb fc n k ∧ ∀ j, 1 ≤ j → j < k → ¬ rpt fb fc n j
theorem isPer_one {fb fc : Nat → Int32} {n k j : Nat} (h : isPer fb fc n k) (h2 : isPer fb fc n j) : k = j := by
  obtain ⟨a1, a2, a3, a4⟩ := h
  obtain ⟨b1, b2, b3, b4⟩ := h2
  rcases Nat.lt_trichotomy k j with q | q | q
  · by_cases hk : 1 ≤ k
    · exact absurd a3 (b4 k hk q)
    · omega
  · exact q
  · by_cases hj : 1 ≤ j
    · exact absurd b3 (a4 j hj q)
    · omega
/-- how many of the first k are c -/
def cnE (f : Nat → Int32) (c : Int32) : Nat → Nat | 0 => 0 | k + 1 => cnE f c k + (if f k = c then 1 else 0)
theorem cnE_y {f : Nat → Int32} {c : Int32} {k : Nat} (h : f k = c) : cnE f c (k + 1) = cnE f c k + 1 := by rw [cnE, if_pos h]
theorem cnE_n {f : Nat → Int32} {c : Int32} {k : Nat} (h : ¬ f k = c) : cnE f c (k + 1) = cnE f c k := by rw [cnE, if_neg h]; rfl
theorem cnE_le (f : Nat → Int32) (c : Int32) : ∀ k, cnE f c k ≤ k
  | 0 => Nat.le_refl 0
  | k + 1 => by
    have ih := cnE_le f c k
    rw [cnE]; split <;> omega
/-- the checksum over a row -/
def dgR (fb fc : Nat → Int32) (d : Int64) : Nat → Int64 | 0 => d | k + 1 => dgw (dgw (dgR fb fc d k) (fb k).toInt64) (fc k).toInt64
