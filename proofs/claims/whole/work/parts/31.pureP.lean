/-! pure words of the reference, fourth part: what leads where -/
def lpA (a b : Int64) : Nat → Int64 := vp_updL (vp_updL (fun _ => 0) 0 a) 1 b
def ldP (nw : Nat) (a b : Int64) (x : Nat) : Bool := if x < nw then hbit a (nI x) else hbit b (nI (x - nw))
/-- one thread leads to another -/
def ldB (rows : Nat → Int64) (nw a b : Nat) : Bool := if a < nw then (if b < nw then false else hbit (rows (b - nw)) (nI a)) else (if b < nw then !(hbit (rows (a - nw)) (nI b)) else false)
/-- .. by ways over the first v -/
def wsB (rl : Nat → Nat → Bool) : Nat → Nat → Nat → Bool | 0, a, b => rl a b | v + 1, a, b => wsB rl v a b || (wsB rl v a v && wsB rl v v b)
theorem ws_or {a b c : Bool} : (a || (b && c)) = true ↔ a = true ∨ (b = true ∧ c = true) := by cases a <;> cases b <;> cases c <;> decide
theorem ws_up {rl : Nat → Nat → Bool} {v a b : Nat} (h : rl a b = true) : wsB rl v a b = true := by
  induction v with
  | zero => exact h
  | succ v ih => exact ws_or.mpr (Or.inl ih)
theorem ws_tr {rl : Nat → Nat → Bool} : ∀ (v : Nat) {a b c : Nat}, b < v → wsB rl v a b = true → wsB rl v b c = true → wsB rl v a c = true
  | 0, _, _, _, h, _, _ => absurd h (Nat.not_lt_zero _)
  | v + 1, a, b, c, h, h1, h2 => by
    have ih := @ws_tr rl v
    rw [wsB, ws_or] at h1 h2 ⊢
    by_cases e : b = v
    · subst e
      have q1 : wsB rl b a b = true := h1.elim id (fun w => w.1)
      have q2 : wsB rl b b c = true := h2.elim id (fun w => w.2)
      exact Or.inr ⟨q1, q2⟩
    · have hb : b < v := by omega
      rcases h1 with h1 | ⟨h1, h1'⟩
      · rcases h2 with h2 | ⟨h2, h2'⟩
        · exact Or.inl (ih hb h1 h2)
        · exact Or.inr ⟨ih hb h1 h2, h2'⟩
      · rcases h2 with h2 | ⟨h2, h2'⟩
        · exact Or.inr ⟨h1, ih hb h1' h2⟩
        · exact Or.inr ⟨h1, h2'⟩
theorem ws_in {rl : Nat → Nat → Bool} {N : Nat} {S : Nat → Prop} (hc : ∀ a b, a < N → b < N → S a → rl a b = true → S b) : ∀ v, v ≤ N → ∀ {a b : Nat}, a < N → b < N → S a → wsB rl v a b = true → S b
  | 0, _, a, b, ha, hb, hs, h => hc a b ha hb hs h
  | v + 1, hv, a, b, ha, hb, hs, h => by
    rcases ws_or.mp h with h | ⟨h1, h2⟩
    · exact ws_in hc v (by omega) ha hb hs h
    · exact ws_in hc v (by omega) (by omega) hb (ws_in hc v (by omega) ha (by omega) hs h1) h2
/-- a thread is spread to: itself, or led to -/
def gtB (rl : Nat → Nat → Bool) (N ti x : Nat) : Bool := decide (x = ti) || wsB rl N ti x
theorem gt_self (rl : Nat → Nat → Bool) (N ti : Nat) : gtB rl N ti ti = true := by unfold gtB; rw [decide_eq_true rfl]; rfl
theorem gt_step {rl : Nat → Nat → Bool} {N ti a b : Nat} (ha : a < N) (h : gtB rl N ti a = true) (h2 : rl a b = true) : gtB rl N ti b = true := by
  unfold gtB at h ⊢
  by_cases e : a = ti
  · subst e; rw [ws_up h2, Bool.or_true]
  · rw [decide_eq_false e, Bool.false_or] at h
    rw [ws_tr N ha h (ws_up h2), Bool.or_true]
/-! one pass of the spreading -/
def spP (rows : Nat → Int64) (x : Int64 × Int64) (i : Nat) : Int64 := if rows i &&& x.1 = 0 then x.2 else x.2 ||| ((1 : Int64) <<< ((nI i).toInt64 &&& 63))
def spE (rows : Nat → Int64) (al : Int64) (x : Int64 × Int64) (i : Nat) : Int64 := if hbit (spP rows x i) (nI i) then x.1 ||| (al &&& (rows i ^^^ (-1))) else x.1
def spU (rows : Nat → Int64) (al : Int64) (x : Int64 × Int64) (i : Nat) : Int64 × Int64 := (spE rows al x i, spP rows x i)
def spS (rows : Nat → Int64) (al a b : Int64) : Nat → Int64 × Int64 | 0 => (a, b) | i + 1 => spU rows al (spS rows al a b i) i
section SP
variable {rows : Nat → Int64} {al a b : Int64} {i : Nat}
theorem sp_nn (h1 : rows i &&& (spS rows al a b i).1 = 0) (h2 : hbit (spS rows al a b i).2 (nI i) = false) : spS rows al a b (i + 1) = ((spS rows al a b i).1, (spS rows al a b i).2) := by
  rw [spS]; unfold spU spE spP; rw [if_pos h1, if_neg (by rw [h2]; decide)]
theorem sp_ny (h1 : rows i &&& (spS rows al a b i).1 = 0) (h2 : hbit (spS rows al a b i).2 (nI i) = true) : spS rows al a b (i + 1) = ((spS rows al a b i).1 ||| (al &&& (rows i ^^^ (-1))), (spS rows al a b i).2) := by
  rw [spS]; unfold spU spE spP; rw [if_pos h1, if_pos h2]
theorem sp_yn (h1 : ¬ rows i &&& (spS rows al a b i).1 = 0) (h2 : hbit ((spS rows al a b i).2 ||| ((1 : Int64) <<< ((nI i).toInt64 &&& 63))) (nI i) = false) : spS rows al a b (i + 1) = ((spS rows al a b i).1, (spS rows al a b i).2 ||| ((1 : Int64) <<< ((nI i).toInt64 &&& 63))) := by
  rw [spS]; unfold spU spE spP; rw [if_neg h1, if_neg (by rw [h2]; decide)]
theorem sp_yy (h1 : ¬ rows i &&& (spS rows al a b i).1 = 0) (h2 : hbit ((spS rows al a b i).2 ||| ((1 : Int64) <<< ((nI i).toInt64 &&& 63))) (nI i) = true) : spS rows al a b (i + 1) = ((spS rows al a b i).1 ||| (al &&& (rows i ^^^ (-1))), (spS rows al a b i).2 ||| ((1 : Int64) <<< ((nI i).toInt64 &&& 63))) := by
  rw [spS]; unfold spU spE spP; rw [if_neg h1, if_pos h2]
end SP
theorem t_bit {n i : Nat} (hn : n < 64) (hi : i < 64) : tb ((1 : Int64) <<< ((nI n).toInt64 &&& 63)) i = decide (i = n) := by
  rw [t_shl n hn 1 hi, t_1]
  by_cases e : i = n
  · rw [decide_eq_true (by omega), decide_eq_true (by omega), decide_eq_true e]; rfl
  · by_cases q : n ≤ i
    · rw [decide_eq_false (show ¬ i - n = 0 by omega), decide_eq_false e, Bool.and_false]
    · rw [decide_eq_false q, decide_eq_false e]; rfl
def tsub (x y : Int64) : Prop := ∀ i, i < 64 → tb x i = true → tb y i = true
theorem tsub_or (x y : Int64) : tsub x (x ||| y) := fun i _ h => by rw [t_or, h]; rfl
theorem tsub_rfl (x : Int64) : tsub x x := fun _ _ h => h
theorem tsub_eq {x y : Int64} (h1 : tsub x y) (h2 : tsub y x) : x = y := t_ext (fun i hi => by
  cases h : tb x i with
  | true => exact (h1 i hi h).symm
  | false =>
    cases h' : tb y i with
    | true => rw [h2 i hi h'] at h; cases h
    | false => rfl)
theorem spU_sub (rows : Nat → Int64) (al : Int64) (x : Int64 × Int64) (i : Nat) : tsub x.1 (spU rows al x i).1 ∧ tsub x.2 (spU rows al x i).2 := by
  constructor
  · show tsub x.1 (spE rows al x i)
    unfold spE
    by_cases h : hbit (spP rows x i) (nI i) = true
    · rw [if_pos h]; exact tsub_or _ _
    · rw [if_neg h]; exact tsub_rfl _
  · show tsub x.2 (spP rows x i)
    unfold spP
    by_cases h : rows i &&& x.1 = 0
    · rw [if_pos h]; exact tsub_rfl _
    · rw [if_neg h]; exact tsub_or _ _
theorem spS_sub (rows : Nat → Int64) (al a b : Int64) : ∀ (i j : Nat), tsub (spS rows al a b i).1 (spS rows al a b (i + j)).1 ∧ tsub (spS rows al a b i).2 (spS rows al a b (i + j)).2
  | i, 0 => ⟨tsub_rfl _, tsub_rfl _⟩
  | i, j + 1 => by
    have ih := spS_sub rows al a b i j
    have h := spU_sub rows al (spS rows al a b (i + j)) (i + j)
    exact ⟨fun z hz q => h.1 z hz (ih.1 z hz q), fun z hz q => h.2 z hz (ih.2 z hz q)⟩
/-- all of a set's members are spread to; a set is closed -/
def spOK (nw np : Nat) (G : Nat → Bool) (x : Int64 × Int64) : Prop := (∀ e, e < 64 → tb x.1 e = true → e < nw ∧ G e = true) ∧ ∀ q, q < np → tb x.2 q = true → G (nw + q) = true
def spCl (nw np : Nat) (rows : Nat → Int64) (x : Int64 × Int64) : Prop := (∀ e q, e < nw → q < np → tb x.1 e = true → tb (rows q) e = true → tb x.2 q = true) ∧ ∀ q e, q < np → e < nw → tb x.2 q = true → tb (rows q) e = false → tb x.1 e = true
theorem and_bit {x y : Int64} (h : ¬ x &&& y = 0) : ∃ e, e < 64 ∧ tb x e = true ∧ tb y e = true := Classical.byContradiction fun w => h (t_ext fun i hi => by
  rw [t_and, t_0]
  cases h1 : tb x i with
  | false => rfl
  | true =>
    cases h2 : tb y i with
    | false => rfl
    | true => exact absurd ⟨i, hi, h1, h2⟩ w)
theorem and_bit0 {x y : Int64} {e : Nat} (he : e < 64) (h : x &&& y = 0) (h1 : tb x e = true) : tb y e = false := by
  have := congrArg (fun z => tb z e) h
  simp only [t_and, t_0, h1, Bool.true_and] at this
  exact this
theorem ldB_ep {rows : Nat → Int64} {nw e q : Nat} (he : e < nw) (hn : nw ≤ 40) : ldB rows nw e (nw + q) = tb (rows q) e := by
  unfold ldB; rw [if_pos he, if_neg (by omega), Nat.add_sub_cancel_left, hbit_tb _ (by omega)]
theorem ldB_pe {rows : Nat → Int64} {nw e q : Nat} (he : e < nw) (hn : nw ≤ 40) : ldB rows nw (nw + q) e = !(tb (rows q) e) := by
  unfold ldB; rw [if_neg (by omega), if_pos he, Nat.add_sub_cancel_left, hbit_tb _ (by omega)]
theorem spU_ok {rows : Nat → Int64} {nw np N ti i : Nat} {x : Int64 × Int64} (hnw : nw ≤ 40) (hnp : np ≤ 40) (hN : N = nw + np) (hi : i < np) (h : spOK nw np (gtB (ldB rows nw) N ti) x) : spOK nw np (gtB (ldB rows nw) N ti) (spU rows (allof (nI nw)) x i) := by
  obtain ⟨h1, h2⟩ := h
  have hp : ∀ q, q < np → tb (spP rows x i) q = true → gtB (ldB rows nw) N ti (nw + q) = true := fun q hq hb => by
    unfold spP at hb
    by_cases hne : rows i &&& x.1 = 0
    · rw [if_pos hne] at hb; exact h2 q hq hb
    · rw [if_neg hne, t_or, t_bit (by omega) (by omega), Bool.or_eq_true] at hb
      rcases hb with hb | hb
      · exact h2 q hq hb
      · have e := of_decide_eq_true hb
        subst e
        obtain ⟨e, he, a1, a2⟩ := and_bit hne
        have a3 := h1 e he a2
        exact gt_step (by omega) a3.2 (by rw [ldB_ep a3.1 hnw]; exact a1)
  refine ⟨fun e he hb => ?_, hp⟩
  by_cases hold : tb x.1 e = true
  · exact h1 e he hold
  · have hP : tb (spP rows x i) i = true ∧ e < nw ∧ tb (rows i) e = false := by
      have hb : tb (spE rows (allof (nI nw)) x i) e = true := hb
      unfold spE at hb
      by_cases hh : hbit (spP rows x i) (nI i) = true
      · rw [if_pos hh, t_or, Bool.or_eq_true, t_and, allof_tb nw (by omega) e he, t_xor, t_m1 e he] at hb
        rw [hbit_tb _ (by omega)] at hh
        rcases hb with hb | hb
        · exact absurd hb hold
        · rw [Bool.and_eq_true] at hb
          refine ⟨hh, of_decide_eq_true hb.1, ?_⟩
          have := hb.2
          cases h9 : tb (rows i) e with
          | false => rfl
          | true => rw [h9] at this; cases this
      · rw [if_neg hh] at hb; exact absurd hb hold
    exact ⟨hP.2.1, gt_step (by omega) (hp i hi hP.1) (by rw [ldB_pe hP.2.1 hnw, hP.2.2]; rfl)⟩
theorem spS_ok {rows : Nat → Int64} {nw np N ti : Nat} {a b : Int64} (hnw : nw ≤ 40) (hnp : np ≤ 40) (hN : N = nw + np) (h : spOK nw np (gtB (ldB rows nw) N ti) (a, b)) : ∀ i, i ≤ np → spOK nw np (gtB (ldB rows nw) N ti) (spS rows (allof (nI nw)) a b i)
  | 0, _ => h
  | i + 1, hi => spU_ok hnw hnp hN (by omega) (spS_ok hnw hnp hN h i (by omega))
theorem spS_cl {rows : Nat → Int64} {nw np : Nat} {a b : Int64} (hnw : nw ≤ 40) (hnp : np ≤ 40) (ha : (spS rows (allof (nI nw)) a b np).1 = a) (hb : (spS rows (allof (nI nw)) a b np).2 = b) : spCl nw np rows (a, b) := by
  have hk : ∀ i, i ≤ np → spS rows (allof (nI nw)) a b i = (a, b) := fun i hi => by
    have u := spS_sub rows (allof (nI nw)) a b 0 i
    have w := spS_sub rows (allof (nI nw)) a b i (np - i)
    rw [Nat.zero_add] at u
    rw [show i + (np - i) = np by omega, ha, hb] at w
    exact Prod.ext (tsub_eq w.1 u.1) (tsub_eq w.2 u.2)
  have hs : ∀ i, i < np → spU rows (allof (nI nw)) (a, b) i = (a, b) := fun i hi => by
    have := hk (i + 1) (by omega)
    rw [spS, hk i (by omega)] at this
    exact this
  refine ⟨fun e q he hq h1 h2 => ?_, fun q e hq he h1 h2 => ?_⟩
  · have e2 : spP rows (a, b) q = b := congrArg Prod.snd (hs q hq)
    have h1 : tb a e = true := h1
    have hne : ¬ rows q &&& (a, b).1 = 0 := fun w => by
      have := and_bit0 (show e < 64 by omega) w h2
      rw [show tb (a, b).1 e = tb a e from rfl, h1] at this; cases this
    unfold spP at e2
    rw [if_neg hne] at e2
    show tb b q = true
    rw [← e2, t_or, t_bit (by omega) (by omega), decide_eq_true rfl, Bool.or_true]
  · have e2 : spP rows (a, b) q = b := congrArg Prod.snd (hs q hq)
    have e1 : spE rows (allof (nI nw)) (a, b) q = a := congrArg Prod.fst (hs q hq)
    have h1 : tb b q = true := h1
    unfold spE at e1
    rw [e2, hbit_tb _ (by omega), if_pos h1] at e1
    show tb a e = true
    rw [← e1, t_or, t_and, allof_tb nw (by omega) e (by omega), t_xor, t_m1 e (by omega), h2, decide_eq_true he]
    simp
/-- how many members -/
def crd (x : Int64 × Int64) : Nat := cnB (tb x.1) 64 + cnB (tb x.2) 64
theorem cnB_sub {f g : Nat → Bool} : ∀ n, (∀ i, i < n → f i = true → g i = true) → cnB f n ≤ cnB g n ∧ ((∃ i, i < n ∧ f i = false ∧ g i = true) → cnB f n < cnB g n)
  | 0, _ => ⟨Nat.le_refl 0, fun ⟨i, hi, _⟩ => absurd hi (Nat.not_lt_zero i)⟩
  | n + 1, h => by
    have ih := cnB_sub (f := f) (g := g) n (fun i hi => h i (by omega))
    have hn := h n (by omega)
    cases hf : f n with
    | true =>
      rw [cnB_y hf, cnB_y (hn hf)]
      refine ⟨by omega, fun ⟨i, hi, a1, a2⟩ => ?_⟩
      rcases Nat.lt_or_ge i n with q | q
      · have := ih.2 ⟨i, q, a1, a2⟩; omega
      · rw [show i = n by omega, hf] at a1; cases a1
    | false =>
      rw [cnB_n hf]
      cases hg : g n with
      | true => rw [cnB_y hg]; exact ⟨by omega, fun _ => by omega⟩
      | false =>
        rw [cnB_n hg]
        refine ⟨ih.1, fun ⟨i, hi, a1, a2⟩ => ?_⟩
        rcases Nat.lt_or_ge i n with q | q
        · exact ih.2 ⟨i, q, a1, a2⟩
        · rw [show i = n by omega, hg] at a2; cases a2
theorem ne_bit {x y : Int64} (h : tsub x y) (hne : ¬ y = x) : ∃ i, i < 64 ∧ tb x i = false ∧ tb y i = true := Classical.byContradiction fun w => hne (tsub_eq (fun i hi hy => by
  cases h1 : tb x i with
  | true => rfl
  | false => exact absurd ⟨i, hi, h1, hy⟩ w) h)
theorem crd_lt {rows : Nat → Int64} {al a b : Int64} {n : Nat} (h : ¬ (spS rows al a b n).1 = a ∨ ¬ (spS rows al a b n).2 = b) : crd (a, b) < crd (spS rows al a b n) := by
  have u := spS_sub rows al a b 0 n
  rw [Nat.zero_add] at u
  have c1 := cnB_sub (f := tb a) (g := tb (spS rows al a b n).1) 64 u.1
  have c2 := cnB_sub (f := tb b) (g := tb (spS rows al a b n).2) 64 u.2
  unfold crd
  rcases h with h | h
  · have := c1.2 (ne_bit u.1 h); have := c2.1; show cnB (tb a) 64 + cnB (tb b) 64 < _; omega
  · have := c2.2 (ne_bit u.2 h); have := c1.1; show cnB (tb a) 64 + cnB (tb b) 64 < _; omega
theorem crd_le (x : Int64 × Int64) : crd x ≤ 128 := by
  have := cnB_le (tb x.1) 64
  have := cnB_le (tb x.2) 64
  unfold crd; omega
theorem ldP_e {nw x : Nat} {a b : Int64} (h : x < nw) (hn : nw ≤ 40) : ldP nw a b x = tb a x := by unfold ldP; rw [if_pos h, hbit_tb _ (by omega)]
theorem ldP_p {nw q : Nat} {a b : Int64} (hq : q < 64) : ldP nw a b (nw + q) = tb b q := by unfold ldP; rw [if_neg (by omega), Nat.add_sub_cancel_left, hbit_tb _ hq]
/-- a closed set with its thread in it, all of whose members are spread to -/
theorem sp_end {rows : Nat → Int64} {nw np N ti : Nat} {a b : Int64} (hnw : nw ≤ 40) (hnp : np ≤ 40) (hN : N = nw + np) (hti : ti < N) (h : spOK nw np (gtB (ldB rows nw) N ti) (a, b)) (hc : spCl nw np rows (a, b)) (hin : ldP nw a b ti = true) : ∀ x, x < N → ldP nw a b x = gtB (ldB rows nw) N ti x := by
  have hcl : ∀ u v, u < N → v < N → ldP nw a b u = true → ldB rows nw u v = true → ldP nw a b v = true := fun u v hu hv h1 h2 => by
    by_cases e1 : u < nw
    · by_cases e2 : v < nw
      · unfold ldB at h2; rw [if_pos e1, if_pos e2] at h2; cases h2
      · obtain ⟨q, rfl⟩ : ∃ q, v = nw + q := ⟨v - nw, by omega⟩
        rw [ldP_e e1 hnw] at h1
        rw [ldB_ep e1 hnw] at h2
        rw [ldP_p (by omega)]
        exact hc.1 u q e1 (by omega) h1 h2
    · obtain ⟨q, rfl⟩ : ∃ q, u = nw + q := ⟨u - nw, by omega⟩
      by_cases e2 : v < nw
      · rw [ldP_p (by omega)] at h1
        rw [ldB_pe e2 hnw] at h2
        rw [ldP_e e2 hnw]
        refine hc.2 q v (by omega) e2 h1 ?_
        cases h9 : tb (rows q) v with
        | false => rfl
        | true => rw [h9] at h2; cases h2
      · unfold ldB at h2; rw [if_neg (by omega), if_neg e2] at h2; cases h2
  intro x hx
  have key : ldP nw a b x = true ↔ gtB (ldB rows nw) N ti x = true := by
    constructor
    · intro h9
      by_cases e : x < nw
      · rw [ldP_e e hnw] at h9; exact (h.1 x (by omega) h9).2
      · obtain ⟨q, rfl⟩ : ∃ q, x = nw + q := ⟨x - nw, by omega⟩
        rw [ldP_p (by omega)] at h9
        exact h.2 q (by omega) h9
    · intro h9
      unfold gtB at h9
      rw [Bool.or_eq_true] at h9
      rcases h9 with h9 | h9
      · rw [of_decide_eq_true h9]; exact hin
      · exact ws_in (S := fun z => ldP nw a b z = true) hcl N (Nat.le_refl N) hti hx hin h9
  cases h8 : ldP nw a b x with
  | true => exact (key.mp h8).symm
  | false =>
    cases h9 : gtB (ldB rows nw) N ti x with
    | false => rfl
    | true => rw [key.mpr h9] at h8; cases h8
theorem ldP_sub {rows : Nat → Int64} {al a b : Int64} {nw x n : Nat} (hnw : nw ≤ 40) (hx : x < nw + 40) (h : ldP nw a b x = true) : ldP nw (spS rows al a b n).1 (spS rows al a b n).2 x = true := by
  have u := spS_sub rows al a b 0 n
  rw [Nat.zero_add] at u
  by_cases e : x < nw
  · rw [ldP_e e hnw] at h ⊢; exact u.1 x (by omega) h
  · obtain ⟨q, rfl⟩ : ∃ q, x = nw + q := ⟨x - nw, by omega⟩
    rw [ldP_p (by omega)] at h ⊢; exact u.2 q (by omega) h
/-- the start: one thread -/
theorem sp_st1 {rows : Nat → Int64} {nw np N ti : Nat} (hnw : nw ≤ 40) (h : ti < nw) : spOK nw np (gtB (ldB rows nw) N ti) ((1 : Int64) <<< ((nI ti).toInt64 &&& 63), 0) ∧ ldP nw ((1 : Int64) <<< ((nI ti).toInt64 &&& 63)) 0 ti = true := by
  refine ⟨⟨fun e he hb => ?_, fun q hq hb => ?_⟩, ?_⟩
  · rw [t_bit (by omega) he] at hb
    have := of_decide_eq_true hb
    subst this
    exact ⟨h, gt_self _ _ _⟩
  · rw [t_0] at hb; cases hb
  · rw [ldP_e h hnw, t_bit (by omega) (by omega), decide_eq_true rfl]
theorem sp_st0 {rows : Nat → Int64} {nw np N ti : Nat} (hnp : np ≤ 40) (h : ti < np) : spOK nw np (gtB (ldB rows nw) N (nw + ti)) (0, (1 : Int64) <<< ((nI ti).toInt64 &&& 63)) ∧ ldP nw 0 ((1 : Int64) <<< ((nI ti).toInt64 &&& 63)) (nw + ti) = true := by
  refine ⟨⟨fun e he hb => ?_, fun q hq hb => ?_⟩, ?_⟩
  · rw [t_0] at hb; cases hb
  · rw [t_bit (by omega) (by omega)] at hb
    have := of_decide_eq_true hb
    subst this
    exact gt_self _ _ _
  · rw [ldP_p (by omega), t_bit (by omega) (by omega), decide_eq_true rfl]
/-! the arrays that layersOf keeps -/
def upn (f : Nat → Nat) (i v : Nat) : Nat → Nat := fun j => if j = i then v else f j
def spA (ad : Nat → Nat) (i : Nat) : Nat → Option Nat := fun j => if j < i then some (ad j) else none
theorem spA_0 (ad : Nat → Nat) : spA ad 0 = fun _ => none := by funext j; unfold spA; rw [if_neg (by omega)]
theorem spA_s (ad : Nat → Nat) (i v : Nat) : va_up (spA ad i) i (some v) = spA (upn ad i v) (i + 1) := by
  funext j; unfold va_up spA upn
  by_cases e : j = i
  · subst e; rw [if_pos rfl, if_pos (by omega), if_pos rfl]
  · rw [if_neg e, if_neg e]
    by_cases h : j < i
    · rw [if_pos h, if_pos (by omega)]
    · rw [if_neg h, if_neg (by omega)]
def spT (cJ : ClassId) (ad : Nat → Nat) (e f : Nat → Int64) (i : Nat) : va_W := (List.range i).map (fun j => (ad j, AJ cJ 2 (lpA (e j) (f j))))
theorem spT_at {X : va_W} {n j i : Nat} {cJ : ClassId} {ad : Nat → Nat} {e f : Nat → Int64} (hX : X.length = n) (h : j < i) : (X ++ spT cJ ad e f i)[n + j]? = some (ad j, AJ cJ 2 (lpA (e j) (f j))) := by
  subst hX
  rw [List.getElem?_append_right (by omega), Nat.add_sub_cancel_left]
  unfold spT
  rw [List.getElem?_map, List.getElem?_range h]; rfl
theorem tl3 {X : va_W} {n j i q0 q1 : Nat} {w0 w1 : Nat × va_E} {cJ : ClassId} {ad : Nat → Nat} {e f : Nat → Int64} (hX : X.length = n) (h : j < i) (h0 : (X ++ spT cJ ad e f i)[q0]? = some w0) (h1 : (X ++ spT cJ ad e f i)[q1]? = some w1) : [q0, q1, n + j].map (fun z => (X ++ spT cJ ad e f i)[z]?) = [w0, w1, (ad j, AJ cJ 2 (lpA (e j) (f j)))].map some := by
  show [(X ++ spT cJ ad e f i)[q0]?, (X ++ spT cJ ad e f i)[q1]?, (X ++ spT cJ ad e f i)[n + j]?] = [some w0, some w1, some _]
  rw [h0, h1, spT_at hX h]
theorem spT_s (cJ : ClassId) (ad : Nat → Nat) (e f : Nat → Int64) (i ra : Nat) (a b : Int64) : spT cJ ad e f i ++ [(ra, AJ cJ 2 (lpA a b))] = spT cJ (upn ad i ra) (vp_updL e i a) (vp_updL f i b) (i + 1) := by
  unfold spT
  rw [List.range_succ, List.map_append]
  congr 1
  · apply List.map_congr_left
    intro j hj
    have hlt := List.mem_range.mp hj
    unfold upn
    rw [if_neg (by omega), pk_uLn (by omega), pk_uLn (by omega)]
  · show [(ra, AJ cJ 2 (lpA a b))] = [(upn ad i ra i, AJ cJ 2 (lpA (vp_updL e i a i) (vp_updL f i b i)))]
    unfold upn
    rw [if_pos rfl, pk_uLs, pk_uLs]
section XL6
variable {p : Program} {l : Launch} {e : Env} {R : Room} {s : State} {m : MethodId} {args : Array Value} {below : List Frame} {meth : Method} {c : Code} {Q : State → Prop}
variable {D : va_G} {A : Nat → Prop} {H0 : Heap} {nL k n : Nat} {lv : List (Nat × Value)} {pc : Nat} {st : List Value}
theorem x_tail {X T : va_W} {x : Nat × va_E} (K : X_ p l e R s m args below meth c Q D A H0 nL k n (X ++ (T ++ [x])) lv pc st) : X_ p l e R s m args below meth c Q D A H0 nL k n ((X ++ [x]) ++ T) lv pc st := fun H locs ls hP hD hS hl =>
  K H locs ls (by rw [← List.append_assoc]; exact va_P.swap hP) (by rw [← List.append_assoc]; exact va_D.swap hD) hS hl
end XL6
def ifgI (rl : Nat → Nat → Bool) (a i : Nat) : Prop := ∀ j, j < i → ¬ (rl a j = true ∧ rl j a = true)
theorem ifg_00 (rl : Nat → Nat → Bool) (a : Nat) : bI (cB (ifgI rl a 0)) = nI 1 := by rw [cB_t (P := ifgI rl a 0) (fun j hj => absurd hj (Nat.not_lt_zero j))]; rfl
theorem ifg_k0 {rl : Nat → Nat → Bool} {a i : Nat} (h : bI (cB (ifgI rl a i)) = 0) : bI (cB (ifgI rl a (i + 1))) = nI 0 := by
  rw [cB_f (P := ifgI rl a (i + 1)) (fun w => cB_n (bI_eq0 h) (fun j hj => w j (by omega)))]; rfl
theorem ifg_k1 {rl : Nat → Nat → Bool} {a i : Nat} (h1 : rl a i = true) (h2 : rl i a = true) : bI (cB (ifgI rl a (i + 1))) = nI 0 := by
  rw [cB_f (P := ifgI rl a (i + 1)) (fun w => w i (by omega) ⟨h1, h2⟩)]; rfl
theorem ifg_ky {rl : Nat → Nat → Bool} {a i : Nat} (h : ¬ bI (cB (ifgI rl a i)) = 0) (hn : rl a i = false ∨ rl i a = false) : bI (cB (ifgI rl a (i + 1))) = nI 1 := by
  rw [cB_t (P := ifgI rl a (i + 1)) (fun j hj w => by
    by_cases e : j = i
    · subst e; rcases hn with q | q
      · rw [q] at w; cases w.1
      · rw [q] at w; cases w.2
    · exact cB_y (bI_ne0 h) j (by omega) w)]; rfl
theorem gt_ne {rl : Nat → Nat → Bool} {N ti x : Nat} (h : x ≠ ti) : gtB rl N ti x = wsB rl N ti x := by unfold gtB; rw [decide_eq_false h, Bool.false_or]
theorem i64_or0 (x : Int64) : (0 : Int64) = 0 := rfl
