/-! pure words of the reference, third part: colours, rows, numbers -/
theorem se_step : ∀ x, x < 256 → ∀ j, j < 8 → nI x ||| ((nI 1) <<< (nI j &&& 31)) = nI (x ||| 2 ^ j) := by decide +kernel
theorem se_or : ∀ x, x < 256 → ∀ j, j < 8 → x ||| 2 ^ j < 256 := by decide +kernel
theorem se_bc : ∀ x, x < 256 → ∀ j, j < 8 → ¬ (nI x >>> (nI j &&& 31) &&& nI 1 = nI 1) → bc32 (nI (x ||| 2 ^ j)) = bc32 (nI x) + 1 := by decide +kernel
theorem seF_8 {f : Nat → Int32} {n : Nat} (hc : ∀ k, k < n → ∃ j, j < 8 ∧ f k = nI j) : ∀ k, k ≤ n → ∃ z, z < 256 ∧ seF f k = nI z
  | 0, _ => ⟨0, by decide, rfl⟩
  | k + 1, hk => by
    obtain ⟨z, hz, e⟩ := seF_8 hc k (by omega)
    obtain ⟨j, hj, ej⟩ := hc k (by omega)
    cases h : hbit (seF f k).toInt64 (f k) with
    | true => rw [seF_y h]; exact ⟨z, hz, e⟩
    | false => rw [seF_n h, e, ej, se_step z hz j hj]; exact ⟨_, se_or z hz j hj, rfl⟩
theorem se_iff {f : Nat → Int32} {n k : Nat} (hc : ∀ k, k < n → ∃ j, j < 8 ∧ f k = nI j) (hk : k < n) : (seF f k >>> (f k &&& 31) &&& nI 1 = nI 1) ↔ hbit (seF f k).toInt64 (f k) = true := by
  obtain ⟨j, hj, ej⟩ := hc k hk
  rw [ej]; exact ibit_eq _ (by omega)
theorem se_y {f : Nat → Int32} {n k : Nat} (hc : ∀ k, k < n → ∃ j, j < 8 ∧ f k = nI j) (hk : k < n) (h : seF f k >>> (f k &&& 31) &&& nI 1 = nI 1) : hbit (seF f k).toInt64 (f k) = true := (se_iff hc hk).mp h
theorem se_n {f : Nat → Int32} {n k : Nat} (hc : ∀ k, k < n → ∃ j, j < 8 ∧ f k = nI j) (hk : k < n) (h : ¬ seF f k >>> (f k &&& 31) &&& nI 1 = nI 1) : hbit (seF f k).toInt64 (f k) = false := Bool.eq_false_iff.mpr (fun q => h ((se_iff hc hk).mpr q))
theorem bc_y {f : Nat → Int32} {k : Nat} (h : hbit (seF f k).toInt64 (f k) = true) : bc32 (seF f (k + 1)) = bc32 (seF f k) := by rw [seF_y h]
theorem bc_n {f : Nat → Int32} {n k : Nat} (hc : ∀ k, k < n → ∃ j, j < 8 ∧ f k = nI j) (hk : k < n) (h : hbit (seF f k).toInt64 (f k) = false) : bc32 (seF f (k + 1)) = bc32 (seF f k) + 1 := by
  have h2 : ¬ (seF f k >>> (f k &&& 31) &&& nI 1 = nI 1) := fun q => by rw [(se_iff hc hk).mp q] at h; cases h
  obtain ⟨z, hz, e⟩ := seF_8 hc k (by omega)
  obtain ⟨j, hj, ej⟩ := hc k hk
  rw [seF_n h]
  rw [e, ej] at h2 ⊢
  rw [se_step z hz j hj]
  exact se_bc z hz j hj h2
/-! rows of a drawing -/
theorem allof_tb : ∀ n, n < 41 → ∀ i, i < 64 → tb (allof (nI n)) i = decide (i < n) := by decide +kernel
theorem t_neg {x : Int64} : x < 0 ↔ tb x 63 = true := by
  rw [Int64.lt_iff_toInt_lt]
  show x.toBitVec.toInt < (0 : Int64).toInt ↔ x.toBitVec.getLsbD 63 = true
  have e : x.toBitVec.msb = x.toBitVec.getLsbD 63 := BitVec.msb_eq_getLsbD_last _
  rw [← e, BitVec.msb_eq_toInt]
  constructor
  · intro h; exact decide_eq_true h
  · intro h; exact of_decide_eq_true h
theorem row_ok {x : Int64} {n : Nat} (hn : n < 41) : x &&& (allof (nI n) ^^^ (-1)) = 0 ↔ ∀ i, i < 64 → n ≤ i → tb x i = false := by
  constructor
  · intro h i hi hni
    have h2 := congrArg (fun z => tb z i) h
    simp only [t_and, t_xor, t_m1 i hi, allof_tb n hn i hi, t_0] at h2
    rw [decide_eq_false (by omega)] at h2
    simpa using h2
  · intro h
    refine t_ext (fun i hi => ?_)
    rw [t_and, t_xor, t_m1 i hi, allof_tb n hn i hi, t_0]
    by_cases q : i < n
    · rw [decide_eq_true q]; simp
    · rw [h i hi (by omega)]; rfl
theorem row_sh {x : Int64} {n : Nat} (hn : n < 41) : x >>> ((nI n).toInt64 &&& 63) = 0 ↔ ∀ i, i < 64 → n ≤ i → tb x i = false := by
  constructor
  · intro h i hi hni
    have h2 := congrArg (fun z => tb z (i - n)) h
    simp only [t_sshr n (by omega) x (show i - n < 64 by omega), t_0] at h2
    rw [if_pos (by omega), show n + (i - n) = i by omega] at h2
    exact h2
  · intro h
    refine t_ext (fun i hi => ?_)
    rw [t_sshr n (by omega) x hi, t_0]
    split
    · exact h _ (by omega) (by omega)
    · exact h _ (by omega) (by omega)
theorem row_y {x : Int64} {n : Nat} (hn : n ≤ 40) (h : x &&& (allof (nI n) ^^^ (-1)) = 0) : ¬ x < 0 ∧ x >>> ((nI n).toInt64 &&& 63) = 0 := by
  have h1 := (row_ok (by omega)).mp h
  exact ⟨fun q => absurd (t_neg.mp q) (by rw [h1 63 (by decide) (by omega)]; decide), (row_sh (by omega)).mpr h1⟩
theorem row_n {x : Int64} {n : Nat} (hn : n ≤ 40) (h : ¬ x &&& (allof (nI n) ^^^ (-1)) = 0) : ¬ x >>> ((nI n).toInt64 &&& 63) = 0 := fun q => h ((row_ok (by omega)).mpr ((row_sh (by omega)).mp q))
/-! the number of each of some things -/
theorem flk_cong {t u : Nat → Int64} {n : Nat} (h : ∀ j, j < n → t j = u j) {k : Nat} (hk : k < n) : flk t k = flk u k :=
  flk_eq (flk_le u k) (fun j hj => by rw [h j (by have := flk_le u k; omega), h k hk]; exact flk_no hj) (Or.inr (by rw [h _ (by have := flk_le u k; omega), h k hk]; exact flk_at u k))
theorem tkn_cong {t u : Nat → Int64} {n : Nat} (h : ∀ j, j < n → t j = u j) : ∀ {k : Nat}, k ≤ n → tkn t k = tkn u k
  | 0, _ => rfl
  | k + 1, hk => by rw [tkn, tkn, flk_cong h (by omega), tkn_cong h (by omega : k ≤ n)]
theorem nmb_cong {t u : Nat → Int64} {n : Nat} (h : ∀ j, j < n → t j = u j) {k : Nat} (hk : k < n) : nmb t k = nmb u k := by
  unfold nmb; rw [flk_cong h hk, tkn_cong h (by have := flk_le u k; omega)]
theorem flk_same {t : Nat → Int64} {a b : Nat} (h : t a = t b) : flk t a = flk t b := by
  rcases Nat.le_total a b with q | q
  · exact (flk_eq (by have := flk_le t a; omega) (fun j hj => by rw [← h]; exact flk_no hj) (Or.inr ((flk_at t a).trans h))).symm
  · exact flk_eq (by have := flk_le t b; omega) (fun j hj => by rw [h]; exact flk_no hj) (Or.inr ((flk_at t b).trans h.symm))
theorem nmb_same {t : Nat → Int64} {a b : Nat} (h : t a = t b) : nmb t a = nmb t b := by unfold nmb; rw [flk_same h]
theorem tkn_first (t : Nat → Int64) (a : Nat) : tkn t (flk t a + 1) = tkn t (flk t a) + 1 := tkn_s1 (by rw [flk_idem]; exact Nat.le_refl _)
theorem nmb_inj {t : Nat → Int64} {a b : Nat} (h : nmb t a = nmb t b) : t a = t b := by
  unfold nmb at h
  rcases Nat.lt_trichotomy (flk t a) (flk t b) with q | q | q
  · have := tkn_first t a
    have h2 := tkn_mono t (a := flk t a + 1) (b := flk t b) (by omega)
    omega
  · rw [← flk_at t a, ← flk_at t b, q]
  · have := tkn_first t b
    have h2 := tkn_mono t (a := flk t b + 1) (b := flk t a) (by omega)
    omega
/-- the place k of the numbers while it is sought -/
def nuV (t : Nat → Int64) (k z mv : Nat) : Prop := (mv = tkn t k ∧ ∀ j, z ≤ j → j < k → t j ≠ t k) ∨ (mv = nmb t k ∧ flk t k < k)
theorem nuV_0 (t : Nat → Int64) (k : Nat) : nuV t k k (tkn t k) := Or.inl ⟨rfl, fun j h1 h2 => by omega⟩
theorem nuV_y {t : Nat → Int64} {k z mv : Nat} (hz : z < k) (h : t z = t k) : nuV t k z (nmb t z) := Or.inr ⟨nmb_same h, by
  rcases Nat.lt_or_ge (flk t k) k with q | q
  · exact q
  · exact absurd h (flk_no (by omega))⟩
theorem nuV_n {t : Nat → Int64} {k z mv : Nat} (h : ¬ t z = t k) (hv : nuV t k (z + 1) mv) : nuV t k z mv := by
  rcases hv with ⟨a, b⟩ | b
  · exact Or.inl ⟨a, fun j h1 h2 => by
      by_cases e : j = z
      · subst e; exact h
      · exact b j (by omega) h2⟩
  · exact Or.inr b
theorem nuV_e {t : Nat → Int64} {k mv : Nat} (hv : nuV t k 0 mv) : mv = nmb t k ∧ (mv = tkn t k → tkn t (k + 1) = tkn t k + 1) ∧ (¬ mv = tkn t k → tkn t (k + 1) = tkn t k) := by
  rcases hv with ⟨a, b⟩ | ⟨a, b⟩
  · have e : flk t k = k := by
      rcases Nat.lt_or_ge (flk t k) k with q | q
      · exact absurd (flk_at t k) (b _ (Nat.zero_le _) q)
      · have := flk_le t k; omega
    exact ⟨by rw [a]; unfold nmb; rw [e], fun _ => tkn_s1 (by omega), fun q => absurd a q⟩
  · have h1 := tkn_first t k
    have h2 := tkn_mono t (a := flk t k + 1) (b := k) (by omega)
    have e : mv = tkn t (flk t k) := a
    exact ⟨a, fun q => by omega, fun _ => tkn_s2 b⟩
theorem cpN_off (g : Nat → Int32) (t : Nat → Int64) {k j : Nat} (h : k ≤ j) : cpN g t k j = g j := by unfold cpN; rw [if_neg (by omega)]
theorem cpN_at (g : Nat → Int32) (t : Nat → Int64) {k j : Nat} (h : j < k) : cpN g t k j = nI (nmb t j) := by unfold cpN; rw [if_pos h]
theorem upd_upd (f : Nat → Int32) (k : Nat) (a b : Int32) : upd (upd f k a) k b = upd f k b := by
  funext z
  by_cases e : z = k
  · subst e; rw [pk_us, pk_us]
  · rw [pk_un e, pk_un e, pk_un e]
/-- what comes back -/
def nuF (t : Nat → Int64) (n : Nat) : Nat → Int32 := upd (cpN (fun _ => 0) t n) n (nI (tkn t n))
theorem nuF_at {t : Nat → Int64} {n k : Nat} (h : k < n) : nuF t n k = nI (nmb t k) := by unfold nuF; rw [pk_un (by omega), cpN_at _ _ h]
theorem nuF_n (t : Nat → Int64) (n : Nat) : nuF t n n = nI (tkn t n) := by unfold nuF; rw [pk_us]
/-! fit -/
theorem tiF_off {ri : Int32} {fr : Nat → Int64} {fs : Nat → Int32} {co : Nat} {g : Nat → Int32} {z : Nat} : ∀ k, (∀ j, j < k → nmb fr j ≠ z) → tiF ri fr fs co g k z = g z
  | 0, _ => rfl
  | k + 1, h => by rw [tiF, pk_un (fun q => h k (by omega) q.symm)]; exact tiF_off k (fun j hj => h j (by omega))
theorem tiF_at {ri : Int32} {fr : Nat → Int64} {fs : Nat → Int32} {co : Nat} {g : Nat → Int32} {a : Nat} : ∀ k, (∃ j, j < k ∧ nmb fr j = nmb fr a) → tiF ri fr fs co g k (nmb fr a) = shF ri (fr a) fs co
  | 0, h => by obtain ⟨j, hj, -⟩ := h; exact absurd hj (Nat.not_lt_zero j)
  | k + 1, h => by
    rw [tiF]
    by_cases e : nmb fr k = nmb fr a
    · rw [e, pk_us, nmb_inj e]
    · rw [pk_un (fun q => e q.symm)]
      obtain ⟨j, hj, q⟩ := h
      exact tiF_at k ⟨j, by rcases Nat.lt_or_ge j k with w | w; { exact w }; { exact absurd (by rw [show j = k by omega] at q; exact q) e }, q⟩
theorem i32_or0 (x : Int32) : nI 0 ||| x = x := b_ext (fun i hi => by rw [b_or, nI_0, b_0]; rfl)
theorem i32_ors (x : Int32) : x ||| x = x := b_ext (fun i hi => by rw [b_or, Bool.or_self])
theorem i32_ora (x y z : Int32) : (x ||| y) ||| z = x ||| (y ||| z) := b_ext (fun i hi => by rw [b_or, b_or, b_or, b_or, Bool.or_assoc])
/-- one row more of the ties, as the reference comes to it: bit by bit -/
theorem tiF_or {ri : Int32} {fr : Nat → Int64} {fs : Nat → Int32} {co : Nat} {g : Nat → Int32} {k : Nat} (hg : g (nmb fr k) = nI 0) : upd (tiF ri fr fs co g k) (nmb fr k) (tiF ri fr fs co g k (nmb fr k) ||| shF ri (fr k) fs co) = tiF ri fr fs co g (k + 1) := by
  rw [tiF]
  congr 1
  by_cases h : ∃ j, j < k ∧ nmb fr j = nmb fr k
  · rw [tiF_at k h, i32_ors]
  · rw [tiF_off k (fun j hj q => h ⟨j, hj, q⟩), hg, i32_or0]
theorem tiF_cong {ri : Int32} {fr : Nat → Int64} {fs fs' : Nat → Int32} {co : Nat} {g : Nat → Int32} (h : ∀ c, c < co → fs c = fs' c) : ∀ k, tiF ri fr fs co g k = tiF ri fr fs' co g k
  | 0 => rfl
  | k + 1 => by
    have e : ∀ x n, n ≤ co → shF ri x fs n = shF ri x fs' n := fun x n => by
      induction n with
      | zero => intro _; rfl
      | succ n ih => intro hn; rw [shF, shF, ih (by omega), h n (by omega)]
    rw [tiF, tiF, tiF_cong h k, e _ co (Nat.le_refl _)]
/-! some more -/
theorem colF_q (nw : Nat) (cw cp : Nat → Int32) (i : Nat) : cp i = colF nw cw cp (nw + i) := by unfold colF; rw [if_neg (by omega), Nat.add_sub_cancel_left]
theorem cas_one {f : Nat → Int32} {ix : Int32} {fi k : Nat} (hno : ∀ j, j < fi → hbit (seF f j).toInt64 (f j) = false → bc32 (seF f j) ≠ ix) (hs : hbit (seF f k).toInt64 (f k) = false) (hb : bc32 (seF f k) = ix) (hk : k ≤ fi) : k = fi := by
  rcases Nat.lt_or_ge k fi with q | q
  · exact absurd hb (hno k q hs)
  · omega
theorem cas_next {f : Nat → Int32} {ix : Int32} {fi k : Nat} (hf : k ≤ fi) (hnew : hbit (seF f fi).toInt64 (f fi) = false) (hbc : bc32 (seF f fi) = ix) (h : hbit (seF f k).toInt64 (f k) = true ∨ ¬ bc32 (seF f k) = ix) : k + 1 ≤ fi := by
  rcases Nat.lt_or_ge k fi with q | q
  · exact q
  · have e : k = fi := by omega
    subst e
    rcases h with h | h
    · rw [hnew] at h; cases h
    · exact absurd hbc h
theorem zm1 {z : Nat} (hz : z < 2 ^ 30) : nI z - nI 1 < 0 ↔ z = 0 := by
  rw [Int32.lt_iff_toInt_lt, nI_m1 hz]
  have e : (0 : Int32).toInt = 0 := rfl
  omega
theorem zm2 (a : Nat) : nI a - nI 1 = nI a + -1 := by rw [Int32.sub_eq_add_neg]; rfl
def cpR (f : Nat → Int64) (n : Nat) : Nat → Int64 := fun z0 => if z0 < n then f z0 else 0
theorem flz {ti : Nat → Int32} {k : Nat} (h : k < 10) : flF ti 0 10 k = nI 0 := by unfold flF; rw [if_pos h]; rfl
theorem i32_or00 (x : Int32) : x ||| nI 0 = x := b_ext (fun i hi => by rw [b_or, nI_0, b_0, Bool.or_false])
theorem updT0 {T : Nat → Int32} {k : Nat} {x : Int32} (h : x = nI 0) : upd T k (T k ||| x) = T := by
  funext z
  by_cases e : z = k
  · subst e; rw [pk_us, h, i32_or00]
  · rw [pk_un e]
theorem shF_0 (ri : Int32) (x : Int64) (fs : Nat → Int32) : shF ri x fs 0 = nI 0 := rfl
theorem dg0 (x : Int64) : (7471 : Int64) + x = dgw 241 x := by
  show (7471 : Int64) + x = 241 * 31 + x
  rw [show (241 : Int64) * 31 = 7471 from by decide +kernel]
abbrev bsF (f : Nat → Int32) (k : Nat) : Int32 := bc32 (seF f k)
