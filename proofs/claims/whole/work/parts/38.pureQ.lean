/-! pure words of the law: both sides say the same -/
abbrev oc8 (n : Nat) (f : Nat → Int32) : Prop := ∀ k, k < n → ∃ j, j < 8 ∧ f k = nI j
theorem oc_upd {n j : Nat} {f : Nat → Int32} (h : oc8 n f) (hj : j < 8) : oc8 (n + 1) (upd f n (nI j)) := fun k hk => by
  by_cases e : k = n
  · subst e; exact ⟨j, hj, pk_us⟩
  · obtain ⟨z, hz, q⟩ := h k (by omega)
    exact ⟨z, hz, by rw [pk_un e]; exact q⟩
theorem oc_rv {n a b : Nat} {f : Nat → Int32} (h : oc8 n f) (hb : b ≤ n) : oc8 n (rvF f a b) := fun k hk => by
  unfold rvF
  by_cases e : a ≤ k ∧ k < b
  · rw [if_pos e]; exact h _ (by omega)
  · rw [if_neg e]; exact h k hk
theorem oc_rp {n : Nat} {f : Nat → Int32} (h : oc8 n f) : oc8 (n + n) (rpF f n n) := fun k hk => by
  unfold rpF
  by_cases e : n ≤ k ∧ k < n + n
  · rw [if_pos e]; exact h _ (by omega)
  · rw [if_neg e]; exact h k (by omega)
theorem oc_cut {n k : Nat} {f : Nat → Int32} (h : oc8 n f) (hk : k ≤ n) : oc8 k f := fun z hz => h z (by omega)
theorem oc_th {n : Nat} {g f : Nat → Int32} (h : ∀ k, k < n → ∃ j, j < 8 ∧ g k = nI j) : oc8 n (thF g f n) := fun k hk => by
  unfold thF; rw [if_pos hk]; exact h k hk
theorem oc_nb {n : Nat} {t : Nat → Int64} {g : Nat → Int32} (h : tkn t n ≤ 8) : ∀ k, k < n → ∃ j, j < 8 ∧ cpN g t n k = nI j := fun k hk => ⟨nmb t k, by have := nmb_lt (t := t) hk; omega, cpN_at g t hk⟩
theorem oc_col {nw np : Nat} {cw cp : Nat → Int32} (h1 : oc8 nw cw) (h2 : oc8 np cp) : ∀ k, k < nw + np → ∃ j, j < 8 ∧ colF nw cw cp k = nI j := fun k hk => by
  unfold colF
  by_cases e : k < nw
  · rw [if_pos e]; exact h1 k e
  · rw [if_neg e]; exact h2 _ (by omega)
theorem and31 (x : Int32) : ∃ j, j < 32 ∧ x &&& nI 31 = nI j := by
  refine ⟨(x &&& nI 31).toInt.toNat, ?_, ?_⟩
  · have h : (x &&& nI 31).toBitVec = x.toBitVec &&& (31 : BitVec 32) := Int32.toBitVec_and ..
    have h1 : (x &&& nI 31).toBitVec.toNat < 32 := by
      rw [h, BitVec.toNat_and]
      exact Nat.lt_of_le_of_lt Nat.and_le_right (by decide)
    have h2 : (x &&& nI 31).toInt = ((x &&& nI 31).toBitVec.toNat : Int) := by
      show (x &&& nI 31).toBitVec.toInt = _
      rw [BitVec.toInt_eq_toNat_of_lt (by omega)]
    rw [h2]; omega
  · have h : (x &&& nI 31).toBitVec = x.toBitVec &&& (31 : BitVec 32) := Int32.toBitVec_and ..
    have h1 : (x &&& nI 31).toBitVec.toNat < 32 := by
      rw [h, BitVec.toNat_and]
      exact Nat.lt_of_le_of_lt Nat.and_le_right (by decide)
    have h2 : (x &&& nI 31).toInt = ((x &&& nI 31).toBitVec.toNat : Int) := by
      show (x &&& nI 31).toBitVec.toInt = _
      rw [BitVec.toInt_eq_toNat_of_lt (by omega)]
    refine Int32.toInt_inj.mp ?_
    rw [nI_toInt (by rw [h2]; omega), h2]; omega
theorem len3 {a n : Nat} (ha : a < 2 ^ 30) (hn : n < 2 ^ 30) : nI n - nI 3 < nI a ↔ n < a + 3 := by
  rw [Int32.lt_iff_toInt_lt, pk_sub_toInt hn (by decide), nI_toInt (by omega)]
  omega
theorem least_ex {P : Nat → Prop} : ∀ {n : Nat}, (∃ k, k < n ∧ P k) → ∃ k, k < n ∧ P k ∧ ∀ j, j < k → ¬ P j
  | 0, ⟨k, hk, _⟩ => absurd hk (Nat.not_lt_zero k)
  | n + 1, ⟨k, hk, h⟩ => by
    by_cases q : ∃ k, k < n ∧ P k
    · obtain ⟨z, h1, h2, h3⟩ := least_ex q
      exact ⟨z, by omega, h2, h3⟩
    · have e : k = n := by
        rcases Nat.lt_or_ge k n with w | w
        · exact absurd ⟨k, w, h⟩ q
        · omega
      subst e
      exact ⟨k, hk, h, fun j hj w => q ⟨j, hj, w⟩⟩
theorem flF_z (ff : Nat → Int32) {j : Nat} (h : j ≤ 40) : flF ff 0 41 j = nI 0 := by unfold flF; rw [if_pos (by omega)]; rfl
theorem fl_eq {b b0 : Nat → Nat → Bool} {ff : Nat → Int32} {n t ln : Nat} (h1 : 1 ≤ ln) (h2 : ln ≤ 40) (hb : ∀ x, x < t → ∀ y, y < n → b x y = b0 x y) : cfT b n (flF ff 0 41) t ln = nI (mnT b0 ln n t) := by
  rw [cfT_mn h1, flF_z ff h2, nI_add, Nat.zero_add, mnT_cong t hb]
theorem lf_eq {b b0 : Nat → Nat → Bool} {ff : Nat → Int32} {n t K : Nat} (hn : n ≤ 40) (ht : t ≤ 40) (hb : ∀ x, x < t → ∀ y, y < n → b x y = b0 x y) (h : isLF (cfT b n (flF ff 0 41) t) K) : K = lgT b0 n t := by
  rw [isLF_lg hn ht (fun j _ h2 => flF_z ff h2) h, lgT_cong t hb]
theorem wv_eq (ri : Int32) (ti bp bw : Nat → Int32) (nw n : Nat) (fe : Nat → Int64) {k : Nat} (h : k < n) : wvF ri ti bp bw nw fe n k = wvF ri ti bp bw nw (fun _ => 0) n k := by rw [wvF_at h, wvF_at h]
/-! layers -/
theorem ldT_row {en : Nat} {fe fp ge gp : Nat → Int64} {a b : Nat} (h1 : fe a = ge a) (h2 : fp a = gp a) : ldT en fe fp a b = ldT en ge gp a b := by unfold ldT; rw [h1, h2]
def foF (en v : Nat) (fe fp f : Nat → Int64) (w : Nat) : Nat → Int64 := fun a => if a < w ∧ ldT en fe fp a v = true then f a ||| f v else f a
theorem i64_ors (x : Int64) : x ||| x = x := t_ext (fun i hi => by rw [t_or, Bool.or_self])
theorem foF_v (en v : Nat) (fe fp f : Nat → Int64) (w : Nat) : foF en v fe fp f w v = f v := by
  unfold foF; split
  · exact i64_ors _
  · rfl
theorem foF_w (en v : Nat) (fe fp f : Nat → Int64) (w : Nat) : foF en v fe fp f w w = f w := by unfold foF; rw [if_neg (by omega)]
theorem foI_spec (en v : Nat) (fe fp : Nat → Int64) : ∀ w, foI en v fe fp w = (foF en v fe fp fe w, foF en v fe fp fp w)
  | 0 => by
    rw [foI]
    refine Prod.ext (funext fun a => ?_) (funext fun a => ?_)
    · show fe a = foF en v fe fp fe 0 a; unfold foF; rw [if_neg (by omega)]
    · show fp a = foF en v fe fp fp 0 a; unfold foF; rw [if_neg (by omega)]
  | w + 1 => by
    have ih := foI_spec en v fe fp w
    have hc : ldT en (foI en v fe fp w).1 (foI en v fe fp w).2 w v = ldT en fe fp w v := by
      rw [ih]; exact ldT_row (foF_w en v fe fp fe w) (foF_w en v fe fp fp w)
    have key : ∀ f : Nat → Int64, (if ldT en fe fp w v = true then vp_updL (foF en v fe fp f w) w (foF en v fe fp f w w ||| foF en v fe fp f w v) else foF en v fe fp f w) = foF en v fe fp f (w + 1) := fun f => by
      rw [foF_w, foF_v]
      funext a
      by_cases h : ldT en fe fp w v = true
      · rw [if_pos h]
        by_cases e : a = w
        · subst e; rw [pk_uLs]; unfold foF; rw [if_pos ⟨by omega, h⟩]
        · rw [pk_uLn e]; unfold foF
          by_cases q : a < w ∧ ldT en fe fp a v = true
          · rw [if_pos q, if_pos ⟨by omega, q.2⟩]
          · rw [if_neg q, if_neg (fun z => q ⟨by omega, z.2⟩)]
      · rw [if_neg h]; unfold foF
        by_cases q : a < w ∧ ldT en fe fp a v = true
        · rw [if_pos q, if_pos ⟨by omega, q.2⟩]
        · rw [if_neg q, if_neg (fun z => by
            by_cases e : a = w
            · subst e; exact h z.2
            · exact q ⟨by omega, z.2⟩)]
    cases h : ldT en fe fp w v with
    | true =>
      rw [foI_y (hc.trans h), ih]
      have k1 := key fe
      have k2 := key fp
      rw [if_pos h] at k1 k2
      exact Prod.ext k1 k2
    | false =>
      rw [foI_n (hc.trans h), ih]
      have k1 := key fe
      have k2 := key fp
      rw [if_neg (by rw [h]; decide)] at k1 k2
      exact Prod.ext k1 k2
theorem ldT_or {en : Nat} {fe fp : Nat → Int64} {a v b n : Nat} (hen : en ≤ 40) (hb : b < en + 40) (ha : a < n) : ldT en (foF en v fe fp fe n) (foF en v fe fp fp n) a b = (ldT en fe fp a b || (ldT en fe fp a v && ldT en fe fp v b)) := by
  cases h : ldT en fe fp a v with
  | true =>
    have e1 : foF en v fe fp fe n a = fe a ||| fe v := by unfold foF; rw [if_pos ⟨ha, h⟩]
    have e2 : foF en v fe fp fp n a = fp a ||| fp v := by unfold foF; rw [if_pos ⟨ha, h⟩]
    by_cases q : b < en
    · show (if b < en then hbit (foF en v fe fp fe n a) (nI b) else _) = ((if b < en then hbit (fe a) (nI b) else _) || (true && (if b < en then hbit (fe v) (nI b) else _)))
      rw [if_pos q, if_pos q, if_pos q, e1, hbit_tb _ (by omega), hbit_tb _ (by omega), hbit_tb _ (by omega), t_or]; rfl
    · show (if b < en then _ else hbit (foF en v fe fp fp n a) (nI (b - en))) = ((if b < en then _ else hbit (fp a) (nI (b - en))) || (true && (if b < en then _ else hbit (fp v) (nI (b - en)))))
      rw [if_neg q, if_neg q, if_neg q, e2, hbit_tb _ (by omega), hbit_tb _ (by omega), hbit_tb _ (by omega), t_or]; rfl
  | false =>
    have e1 : foF en v fe fp fe n a = fe a := by unfold foF; rw [if_neg (fun z => by rw [h] at z; cases z.2)]
    have e2 : foF en v fe fp fp n a = fp a := by unfold foF; rw [if_neg (fun z => by rw [h] at z; cases z.2)]
    rw [ldT_row e1 e2, Bool.false_and, Bool.or_false]
theorem foO_ws {en n : Nat} {fe fp : Nat → Int64} {rl : Nat → Nat → Bool} (hen : en ≤ 40) (hn : n ≤ en + 40) (hb : ∀ a b, a < n → b < n → ldT en fe fp a b = rl a b) : ∀ v, v ≤ n → ∀ a b, a < n → b < n → ldT en (foO en n fe fp v).1 (foO en n fe fp v).2 a b = wsB rl v a b
  | 0, _, a, b, ha, hb2 => hb a b ha hb2
  | v + 1, hv, a, b, ha, hb2 => by
    have ih := foO_ws (rl := rl) hen hn hb v (by omega)
    rw [foO, foI_spec]
    show ldT en (foF en v _ _ _ n) (foF en v _ _ _ n) a b = _
    rw [ldT_or hen (by omega) ha, ih a b ha hb2, ih a v ha (by omega), ih v b (by omega) hb2, wsB]
theorem base_eq {rows : Nat → Int64} {fle flp : Nat → Int64} {nw np a b : Nat} (hnw : nw ≤ 40) (hnp : np ≤ 40) (ha : a < nw + np) (hb : b < nw + np) : ldT nw (bgE2 (bgE fle nw) rows nw np) (bgP2 (bgP flp rows np nw) nw np) a b = ldB rows nw a b := by
  unfold ldT ldB
  by_cases e1 : a < nw
  · rw [if_pos e1]
    have h1 : bgE2 (bgE fle nw) rows nw np a = 0 := by unfold bgE2; rw [if_neg (by omega)]; unfold bgE; rw [if_pos e1]
    have h2 : bgP2 (bgP flp rows np nw) nw np a = mkB (fun q => hbit (rows q) (nI a)) np := by unfold bgP2; rw [if_neg (by omega)]; unfold bgP; rw [if_pos e1]
    by_cases e2 : b < nw
    · rw [if_pos e2, if_pos e2, h1, hbit_tb _ (by omega), t_0]
    · rw [if_neg e2, if_neg e2, h2, mkB_hb (by omega) (by omega)]
  · rw [if_neg e1]
    have h1 : bgE2 (bgE fle nw) rows nw np a = allof (nI nw) &&& (rows (a - nw) ^^^ (-1)) := by unfold bgE2; rw [if_pos (by omega)]
    have h2 : bgP2 (bgP flp rows np nw) nw np a = 0 := by unfold bgP2; rw [if_pos (by omega)]
    by_cases e2 : b < nw
    · rw [if_pos e2, if_pos e2, h1, hbit_tb _ (by omega), hbit_tb _ (by omega), t_and, allof_tb nw (by omega) b (by omega), t_xor, t_m1 b (by omega), decide_eq_true e2, Bool.true_and, Bool.xor_true]
    · rw [if_neg e2, if_neg e2, h2, hbit_tb _ (by omega), t_0]
theorem ldB_cong {r1 r2 : Nat → Int64} {nw np a b : Nat} (h : ∀ k, k < np → r1 k = r2 k) (ha : a < nw + np) (hb : b < nw + np) : ldB r1 nw a b = ldB r2 nw a b := by
  unfold ldB
  by_cases e1 : a < nw
  · rw [if_pos e1, if_pos e1]
    by_cases e2 : b < nw
    · rw [if_pos e2, if_pos e2]
    · rw [if_neg e2, if_neg e2, h _ (by omega)]
  · rw [if_neg e1, if_neg e1]
    by_cases e2 : b < nw
    · rw [if_pos e2, if_pos e2, h _ (by omega)]
    · rw [if_neg e2, if_neg e2]
theorem ifg_cong {r1 r2 : Nat → Nat → Bool} {n a : Nat} (h : ∀ a b, a < n → b < n → r1 a b = r2 a b) (ha : a < n) : cB (ifg r1 a) = cB (ifg r2 a) := by
  have e : ifg r1 a ↔ ifg r2 a := by
    unfold ifg
    constructor
    · intro w j hj; rw [← h a j ha (by omega), ← h j a (by omega) ha]; exact w j hj
    · intro w j hj; rw [h a j ha (by omega), h j a (by omega) ha]; exact w j hj
  by_cases q : ifg r2 a
  · rw [cB_t q, cB_t (e.mpr q)]
  · rw [cB_f q, cB_f (fun w => q (e.mp w))]
theorem lay_eq {rows rows0 fle flp : Nat → Int64} {nw np : Nat} (hnw : nw ≤ 40) (hnp : np ≤ 40) (hr : ∀ k, k < np → rows k = rows0 k) : cnB (fun a => cB (ifg (ldT nw (foO nw (nw + np) (bgE2 (bgE fle nw) rows nw np) (bgP2 (bgP flp rows np nw) nw np) (nw + np)).1 (foO nw (nw + np) (bgE2 (bgE fle nw) rows nw np) (bgP2 (bgP flp rows np nw) nw np) (nw + np)).2) a)) (nw + np) = cnB (fun a => cB (ifg (wsB (ldB rows0 nw) (nw + np)) a)) (nw + np) :=
  cnB_cong (fun a ha => ifg_cong (fun a b ha hb => foO_ws hnw (by omega) (fun a b ha hb => (base_eq hnw hnp ha hb).trans (ldB_cong hr ha hb)) (nw + np) (Nat.le_refl _) a b ha hb) ha)
/-! fit -/
theorem clF_eq (fk fr : Nat → Int64) (dn n : Nat) {k : Nat} (h : k < n) : clF fk fr dn n k = clF (fun _ => 0) fr dn n k := by unfold clF; rw [if_pos h, if_pos h]
theorem clF_tkn (fk fr : Nat → Int64) (dn n : Nat) : tkn (clF fk fr dn n) n = tkn (clF (fun _ => 0) fr dn n) n := tkn_cong (fun j hj => clF_eq fk fr dn n hj) (Nat.le_refl n)
theorem clF_cpN (fk fr : Nat → Int64) (fs : Nat → Int32) (dn n : Nat) {k : Nat} (h : k < n) : cpN (fun _ => 0) (clF (fun _ => 0) fr dn n) n k = cpN fs (clF fk fr dn n) n k := by
  rw [cpN_at _ _ h, cpN_at _ _ h]; exact congrArg nI (nmb_cong (n := n) (fun j hj => (clF_eq fk fr dn n hj).symm) h)
theorem thF_cong {g g' f : Nat → Int32} {n : Nat} (h : ∀ k, k < n → g k = g' k) : thF g f n = thF g' f n := by
  funext k; unfold thF
  by_cases e : k < n
  · rw [if_pos e, if_pos e, h k e]
  · rw [if_neg e, if_neg e]
theorem fit_bw (fk fr : Nat → Int64) (fs bw : Nat → Int32) (dn n : Nat) : thF (cpN (fun _ => 0) (clF (fun _ => 0) fr dn n) n) bw n = thF (cpN fs (clF fk fr dn n) n) bw n := thF_cong (fun k hk => clF_cpN fk fr fs dn n hk)
theorem fit_bp (fr : Nat → Int64) (ft bp : Nat → Int32) (n : Nat) : thF (fun y0 => (nI 1) <<< ((cpN (fun _ => 0) fr n) y0 &&& 31)) bp n = thF (fun y0 => (nI 1) <<< ((cpN ft fr n) y0 &&& 31)) bp n := thF_cong (fun k hk => by show (nI 1) <<< (cpN (fun _ => 0) fr n k &&& 31) = (nI 1) <<< (cpN ft fr n k &&& 31); rw [cpN_at _ _ hk, cpN_at _ _ hk])
theorem fit_ti (ri : Int32) (fk fr : Nat → Int64) (fs g : Nat → Int32) (dn n m : Nat) : tiF ri fr (cpN (fun _ => 0) (clF (fun _ => 0) fr dn n) n) n g m = tiF ri fr (cpN fs (clF fk fr dn n) n) n g m := tiF_cong (fun k hk => clF_cpN fk fr fs dn n hk) m
theorem nI8_pos {x : Int32} (h : ∃ j, j < 8 ∧ x = nI j) : ¬ x < 0 := by obtain ⟨j, hj, rfl⟩ := h; exact nI_pos (by omega)
theorem isin_j {x : Int32} {b : Nat} (hb : b < 2 ^ 30) (h : ¬ x < nI 1 ∧ x ≤ nI b) : ∃ j, 1 ≤ j ∧ j ≤ b ∧ x = nI j := by
  have h0 : ¬ x < 0 := fun q => h.1 (by
    rw [Int32.lt_iff_toInt_lt] at q ⊢
    rw [nI_toInt (by decide)]
    have e : (0 : Int32).toInt = 0 := rfl
    omega)
  obtain ⟨j, hj, e⟩ := nI_of h0
  subst e
  refine ⟨j, ?_, (nI_leI hj (by omega)).mp h.2, rfl⟩
  rcases Nat.lt_or_ge j 1 with q | q
  · exact absurd ((nI_ltI hj (by decide)).mpr q) h.1
  · exact q
theorem bf {b : Bool} (h : ¬ b = true) : b = false := by cases b; rfl; exact absurd rfl h
