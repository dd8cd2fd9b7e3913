/-! pure words of the reference, second part: floats -/
theorem nmax {a b : Nat} (ha : a < 2 ^ 31) (hb : b < 2 ^ 31) : (if nI a < nI b then nI b else nI a) = nI (max a b) := by
  by_cases h : a < b
  · rw [if_pos ((nI_ltI ha hb).mpr h), Nat.max_eq_right (Nat.le_of_lt h)]
  · rw [if_neg (fun q => h ((nI_ltI ha hb).mp q)), Nat.max_eq_left (by omega)]
def bx (b : Nat → Bool) (n : Nat) : Nat → Bool := fun c => decide (c < n) && b c
theorem bx_y {b : Nat → Bool} {n c : Nat} (h : c < n) (hb : b c = true) : bx b n c = true := by unfold bx; rw [decide_eq_true h, hb]; rfl
theorem bx_n {b : Nat → Bool} {n c : Nat} (hb : b c = false) : bx b n c = false := by unfold bx; rw [hb, Bool.and_false]
theorem bx_g {b : Nat → Bool} {n c : Nat} (h : n ≤ c) : bx b n c = false := by unfold bx; rw [decide_eq_false (by omega)]; rfl
/-- the longest run that has ended, and how many of at least ln have -/
def lgR (b : Nat → Bool) (a : Nat) : Nat → Nat | 0 => a | c + 1 => if b c then lgR b a c else max (lgR b a c) (cfL b c)
theorem lgR_y {b : Nat → Bool} {a k : Nat} (h : b k = true) : lgR b a (k + 1) = lgR b a k := by rw [lgR, if_pos h]
theorem lgR_n {b : Nat → Bool} {a k : Nat} (h : b k = false) : lgR b a (k + 1) = max (lgR b a k) (cfL b k) := by rw [lgR, if_neg (by rw [h]; decide)]
theorem lgR_le {b : Nat → Bool} {a k N : Nat} (ha : a ≤ N) (hk : k ≤ N + 1) : lgR b a k ≤ N := by
  induction k with
  | zero => exact ha
  | succ k ih =>
    have ih := ih (by omega)
    have hc := cfL_le b k
    cases h : b k with
    | true => rw [lgR_y h]; exact ih
    | false => rw [lgR_n h]; exact Nat.max_le.mpr ⟨ih, by omega⟩
def mnR (b : Nat → Bool) (ln a : Nat) : Nat → Nat | 0 => a | c + 1 => if b c then mnR b ln a c else mnR b ln a c + (if 0 < cfL b c ∧ ln ≤ cfL b c then 1 else 0)
theorem mnR_y {b : Nat → Bool} {ln a k : Nat} (h : b k = true) : mnR b ln a (k + 1) = mnR b ln a k := by rw [mnR, if_pos h]
theorem mnR_n1 {b : Nat → Bool} {ln a k : Nat} (h : b k = false) (h1 : 0 < cfL b k) (h2 : ln ≤ cfL b k) : mnR b ln a (k + 1) = mnR b ln a k + 1 := by rw [mnR, if_neg (by rw [h]; decide), if_pos ⟨h1, h2⟩]
theorem mnR_n0 {b : Nat → Bool} {ln a k : Nat} (h : b k = false) (h1 : ¬ (0 < cfL b k ∧ ln ≤ cfL b k)) : mnR b ln a (k + 1) = mnR b ln a k + 0 := by rw [mnR, if_neg (by rw [h]; decide), if_neg h1]
theorem mnR_n {b : Nat → Bool} {ln a k : Nat} (h : b k = false) : mnR b ln a (k + 1) = mnR b ln a k + (if 0 < cfL b k ∧ ln ≤ cfL b k then 1 else 0) := by rw [mnR, if_neg (by rw [h]; decide)]
def lgT (b : Nat → Nat → Bool) (n : Nat) : Nat → Nat | 0 => 0 | t + 1 => lgR (bx (b t) n) (lgT b n t) (n + 1)
def mnT (b : Nat → Nat → Bool) (ln n : Nat) : Nat → Nat | 0 => 0 | t + 1 => mnR (bx (b t) n) ln (mnT b ln n t) (n + 1)
theorem lgT_le {b : Nat → Nat → Bool} {n N : Nat} (hn : n ≤ N) : ∀ t, lgT b n t ≤ N
  | 0 => Nat.zero_le _
  | t + 1 => lgR_le (lgT_le hn t) (by omega)
theorem mnR_acc (b : Nat → Bool) (ln a : Nat) : ∀ k, mnR b ln a k = a + mnR b ln 0 k
  | 0 => rfl
  | k + 1 => by
    have ih := mnR_acc b ln a k
    cases h : b k with
    | true => rw [mnR_y h, mnR_y h, ih]
    | false => rw [mnR_n h, mnR_n h, ih]; omega
theorem mnR_le (b : Nat → Bool) (ln : Nat) : ∀ k, mnR b ln 0 k ≤ k
  | 0 => Nat.le_refl 0
  | k + 1 => by
    have ih := mnR_le b ln k
    cases h : b k with
    | true => rw [mnR_y h]; omega
    | false => rw [mnR_n h]; split <;> omega
theorem mnT_le (b : Nat → Nat → Bool) (ln n : Nat) : ∀ t, mnT b ln n t ≤ t * (n + 1)
  | 0 => Nat.zero_le _
  | t + 1 => by
    have ih := mnT_le b ln n t
    have h := mnR_le (bx (b t) n) ln (n + 1)
    rw [mnT, mnR_acc, Nat.succ_mul]; omega
theorem cfL_bx {b : Nat → Bool} {n : Nat} : ∀ k, k ≤ n → cfL (bx b n) k = cfL b k
  | 0, _ => rfl
  | k + 1, hk => by
    have ih := cfL_bx (b := b) (n := n) k (by omega)
    cases h : b k with
    | true => rw [cfL_y h, cfL_y (bx_y (by omega) h), ih]
    | false => rw [cfL_n h, cfL_n (bx_n h)]
theorem mnR_bx {b : Nat → Bool} {n ln a : Nat} : ∀ k, k ≤ n → mnR (bx b n) ln a k = mnR b ln a k
  | 0, _ => rfl
  | k + 1, hk => by
    have ih := mnR_bx (b := b) (n := n) (ln := ln) (a := a) k (by omega)
    cases h : b k with
    | true => rw [mnR_y h, mnR_y (bx_y (by omega) h), ih]
    | false => rw [mnR_n h, mnR_n (bx_n h), ih, cfL_bx k (by omega)]
theorem i32_add0 (x : Int32) : x + nI 0 = x := by rw [nI_0]; exact Int32.add_zero x
theorem cfH_mn {b : Nat → Bool} {g : Nat → Int32} {ln : Nat} (hl : 1 ≤ ln) : ∀ k, cfH b g k ln = g ln + nI (mnR b ln 0 k + (if ln ≤ cfL b k then 1 else 0))
  | 0 => by
    show g ln = g ln + nI (0 + (if ln ≤ 0 then 1 else 0))
    rw [if_neg (by omega), i32_add0]
  | k + 1 => by
    have ih := cfH_mn (b := b) (g := g) hl k
    cases h : b k with
    | true =>
      rw [cfH_y h, mnR_y h, cfL_y h]
      by_cases e : ln = cfL b k + 1
      · rw [← e, pk_us, ih, if_neg (by omega), if_pos (by omega), Int32.add_assoc, nI_add]
      · rw [pk_un e, ih]
        by_cases q : ln ≤ cfL b k
        · rw [if_pos q, if_pos (by omega)]
        · rw [if_neg q, if_neg (by omega)]
    | false =>
      rw [cfH_n h, mnR_n h, cfL_n h, ih, if_neg (show ¬ ln ≤ 0 by omega)]
      by_cases q : ln ≤ cfL b k
      · rw [if_pos q, if_pos ⟨by omega, q⟩]
      · rw [if_neg q, if_neg (fun w => q w.2)]
theorem cfT_mn {b : Nat → Nat → Bool} {g : Nat → Int32} {ln n : Nat} (hl : 1 ≤ ln) : ∀ t, cfT b n g t ln = g ln + nI (mnT b ln n t)
  | 0 => by show g ln = g ln + nI 0; rw [i32_add0]
  | t + 1 => by
    have ih := cfT_mn (b := b) (g := g) (n := n) hl t
    rw [cfT, cfH_mn hl n, ih, mnT, mnR_acc (bx (b t) n) ln (mnT b ln n t) (n + 1), mnR_n (bx_g (Nat.le_refl n)), mnR_bx n (Nat.le_refl n), cfL_bx n (Nat.le_refl n), Int32.add_assoc, nI_add]
    by_cases q : ln ≤ cfL (b t) n
    · rw [if_pos q, if_pos ⟨by omega, q⟩]
    · rw [if_neg q, if_neg (fun w => q w.2)]
theorem lgR_mn {b : Nat → Bool} {a a2 ln : Nat} (hl : 1 ≤ ln) (h0 : ln ≤ a ↔ 0 < a2) : ∀ k, ln ≤ lgR b a k ↔ 0 < mnR b ln a2 k
  | 0 => h0
  | k + 1 => by
    have ih := lgR_mn (b := b) hl h0 k
    cases h : b k with
    | true => rw [lgR_y h, mnR_y h]; exact ih
    | false =>
      rw [lgR_n h, mnR_n h]
      by_cases q : ln ≤ cfL b k
      · rw [if_pos ⟨by omega, q⟩]; constructor
        · intro _; omega
        · intro _; exact Nat.le_trans q (Nat.le_max_right _ _)
      · rw [if_neg (fun w => q w.2)]; constructor
        · intro w
          rcases Nat.le_total (lgR b a k) (cfL b k) with z | z
          · rw [Nat.max_eq_right z] at w; exact absurd w q
          · rw [Nat.max_eq_left z] at w; exact ih.mp w
        · intro w; exact Nat.le_trans (ih.mpr w) (Nat.le_max_left _ _)
theorem lgT_mn {b : Nat → Nat → Bool} {n ln : Nat} (hl : 1 ≤ ln) : ∀ t, ln ≤ lgT b n t ↔ 0 < mnT b ln n t
  | 0 => by constructor <;> intro w; { exact absurd w (by show ¬ ln ≤ 0; omega) }; { exact absurd w (Nat.lt_irrefl 0) }
  | t + 1 => lgR_mn hl (lgT_mn hl t) (n + 1)
theorem isLF_lg {b : Nat → Nat → Bool} {g : Nat → Int32} {n t L : Nat} (hn : n ≤ 40) (ht : t ≤ 40) (hg : ∀ j, 1 ≤ j → j ≤ 40 → g j = nI 0) (h : isLF (cfT b n g t) L) : L = lgT b n t := by
  obtain ⟨h1, h2, h3⟩ := h
  have hb := lgT_le (b := b) hn t
  have hm : ∀ j, 1 ≤ j → j ≤ 40 → (cfT b n g t j = 0 ↔ mnT b j n t = 0) := fun j a1 a2 => by
    have hlt := mnT_le b j n t
    have hlt2 : t * (n + 1) ≤ 40 * 41 := Nat.mul_le_mul ht (by omega)
    rw [cfT_mn a1, hg j a1 a2, nI_add, Nat.zero_add]
    constructor
    · intro q; rw [← nI_0] at q; exact (nI_eq (by omega) (by omega)).mp q
    · intro q; rw [q, nI_0]
  rcases Nat.lt_trichotomy L (lgT b n t) with q | q | q
  · have a := (hm _ (by omega) hb).mp (h3 _ q hb)
    have c := (lgT_mn (b := b) (n := n) (ln := lgT b n t) (by omega) t).mp (Nat.le_refl _)
    omega
  · exact q
  · have a : mnT b L n t ≠ 0 := fun w => by
      rcases h2 with z | z
      · omega
      · exact z ((hm L (by omega) h1).mpr w)
    have c := (lgT_mn (b := b) (n := n) (ln := L) (by omega) t).mpr (by omega)
    omega
theorem bx_cong {b b' : Nat → Bool} {n : Nat} (h : ∀ y, y < n → b y = b' y) : bx b n = bx b' n := by
  funext y; unfold bx
  by_cases q : y < n
  · rw [h y q]
  · rw [decide_eq_false q]; rfl
theorem mnT_cong {b b' : Nat → Nat → Bool} {ln n : Nat} : ∀ t, (∀ x, x < t → ∀ y, y < n → b x y = b' x y) → mnT b ln n t = mnT b' ln n t
  | 0, _ => rfl
  | t + 1, h => by rw [mnT, mnT, mnT_cong t (fun x hx => h x (by omega)), bx_cong (h t (by omega))]
theorem lgT_cong {b b' : Nat → Nat → Bool} {n : Nat} : ∀ t, (∀ x, x < t → ∀ y, y < n → b x y = b' x y) → lgT b n t = lgT b' n t
  | 0, _ => rfl
  | t + 1, h => by rw [lgT, lgT, lgT_cong t (fun x hx => h x (by omega)), bx_cong (h t (by omega))]
/-! sums over rows -/
theorem wvF_at {ri : Int32} {ti bp bw : Nat → Int32} {nw : Nat} {fe : Nat → Int64} {n k : Nat} (h : k < n) : wvF ri ti bp bw nw fe n k = mkB (fun y0 => hbit (suA ri ti (bp k)) (bw y0)) nw := by unfold wvF; rw [if_pos h]
theorem plW {ri : Int32} {ti bp bw : Nat → Int32} {nw : Nat} {fe : Nat → Int64} {n k : Nat} (h : k < n) : plS (wvF ri ti bp bw nw fe n) (k + 1) = plS (wvF ri ti bp bw nw fe n) k + bc64 (mkB (fun y0 => hbit (suA ri ti (bp k)) (bw y0)) nw) := by rw [plS, wvF_at h]
theorem dfW {ri : Int32} {ti bp bw : Nat → Int32} {nw : Nat} {fe fr : Nat → Int64} {n k : Nat} (h : k < n) : dfS (wvF ri ti bp bw nw fe n) fr (k + 1) = dfS (wvF ri ti bp bw nw fe n) fr k + bc64 (mkB (fun y0 => hbit (suA ri ti (bp k)) (bw y0)) nw ^^^ fr k) := by rw [dfS, wvF_at h]
theorem plS_cong {f g : Nat → Int64} : ∀ n, (∀ k, k < n → f k = g k) → plS f n = plS g n
  | 0, _ => rfl
  | n + 1, h => by rw [plS, plS, plS_cong n (fun k hk => h k (by omega)), h n (by omega)]
theorem dfS_cong {f g fr : Nat → Int64} : ∀ n, (∀ k, k < n → f k = g k) → dfS f fr n = dfS g fr n
  | 0, _ => rfl
  | n + 1, h => by rw [dfS, dfS, dfS_cong n (fun k hk => h k (by omega)), h n (by omega)]
/-! periods -/
def rpI (fb fc : Nat → Int32) (k i : Nat) : Prop := ∀ z, k ≤ z → z < i → fb z = fb (z - k) ∧ fc z = fc (z - k)
theorem rpI_0 (fb fc : Nat → Int32) (k : Nat) : cB (rpI fb fc k k) = true := cB_t (fun z h1 h2 => by omega)
theorem rpI_y {fb fc : Nat → Int32} {k i : Nat} (h : cB (rpI fb fc k i) = true) (h1 : fb i = fb (i - k)) (h2 : fc i = fc (i - k)) : cB (rpI fb fc k (i + 1)) = true := cB_t (fun z q1 q2 => by
  by_cases e : z = i
  · subst e; exact ⟨h1, h2⟩
  · exact cB_y h z q1 (by omega))
theorem rpI_n1 {fb fc : Nat → Int32} {k i : Nat} (hk : k ≤ i) (h1 : ¬ fb i = fb (i - k)) : cB (rpI fb fc k (i + 1)) = false := cB_f (fun q => h1 (q i hk (by omega)).1)
theorem rpI_n2 {fb fc : Nat → Int32} {k i : Nat} (hk : k ≤ i) (h1 : ¬ fc i = fc (i - k)) : cB (rpI fb fc k (i + 1)) = false := cB_f (fun q => h1 (q i hk (by omega)).2)
theorem rpI_no {fb fc : Nat → Int32} {n k i : Nat} (h : cB (rpI fb fc k i) = false) (hi : i ≤ n) : ¬ rpt fb fc n k := fun q => cB_n h (fun z h1 h2 => q z h1 (by omega))
theorem per_end {fb fc : Nat → Int32} {n k : Nat} (hno : ∀ j, 1 ≤ j → j < k → ¬ rpt fb fc n j) (h : n < k) : isPer fb fc n 0 := by
  rcases Nat.eq_zero_or_pos n with q | q
  · subst q; exact ⟨Or.inr rfl, Nat.le_refl 0, fun i _ h => absurd h (Nat.not_lt_zero i), fun j h1 h2 => absurd h2 (Nat.not_lt_zero j)⟩
  · exact absurd (fun i h1 h2 => by omega) (hno n q h)
