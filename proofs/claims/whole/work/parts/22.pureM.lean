/-! pure words of the reference, first part -/
def flG (g : Nat → Nat) (n : Nat) : Nat → Int32 := fun k => if k < n then nI (g k) else 0
theorem flG_0 (g : Nat → Nat) : flG g 0 = fun _ => 0 := by funext k; unfold flG; rw [if_neg (by omega)]
theorem flG_s (g : Nat → Nat) (i : Nat) : upd (flG g i) i (nI (g i)) = flG g (i + 1) := by
  funext k
  by_cases e : k = i
  · subst e; rw [pk_us]; unfold flG; rw [if_pos (by omega)]
  · rw [pk_un e]; unfold flG
    by_cases q : k < i
    · rw [if_pos q, if_pos (by omega)]
    · rw [if_neg q, if_neg (by omega)]
theorem flG_at {g : Nat → Nat} {n i : Nat} (h : i < n) : flG g n i = nI (g i) := by unfold flG; rw [if_pos h]
/-- each of the first k places gets what stands at the place that g names -/
def lyF (b : Nat → Int32) (g : Nat → Nat) (k : Nat) : Nat → Int32 := fun z => if z < k then b (g z) else b z
theorem lyF_0 (b : Nat → Int32) (g : Nat → Nat) : lyF b g 0 = b := by funext k; unfold lyF; rw [if_neg (by omega)]
theorem lyF_s (b : Nat → Int32) (g : Nat → Nat) (i : Nat) : upd (lyF b g i) i (b (g i)) = lyF b g (i + 1) := by
  funext k
  by_cases e : k = i
  · subst e; rw [pk_us]; unfold lyF; rw [if_pos (by omega)]
  · rw [pk_un e]; unfold lyF
    by_cases q : k < i
    · rw [if_pos q, if_pos (by omega)]
    · rw [if_neg q, if_neg (by omega)]
def rvG (n : Nat) : Nat → Nat := fun z => n - 1 - z
theorem lyF_rv (b : Nat → Int32) (n : Nat) : lyF b (rvG n) n = rvF b 0 n := by
  funext k; unfold lyF rvF rvG
  by_cases h : k < n
  · rw [if_pos h, if_pos (by omega)]; congr 1; omega
  · rw [if_neg h, if_neg (by omega)]
def mdG (n : Nat) : Nat → Nat := fun z => z % n
theorem lyF_rp (b : Nat → Int32) (n : Nat) : lyF b (mdG n) (2 * n) = rpF b n n := by
  funext k; unfold lyF rpF mdG
  by_cases h : k < n
  · rw [if_pos (by omega), if_neg (by omega), Nat.mod_eq_of_lt h]
  · by_cases h2 : k < 2 * n
    · rw [if_pos h2, if_pos (by omega)]; congr 1
      rw [Nat.mod_eq_sub_mod (by omega), Nat.mod_eq_of_lt (by omega)]
    · rw [if_neg h2, if_neg (by omega)]
theorem rvF_00 (b : Nat → Int32) : rvF b 0 0 = b := by funext k; unfold rvF; rw [if_neg (by omega)]
/-- where a thing comes from that went pl places on -/
def rtG (n pl : Nat) : Nat → Nat := fun z => (z + (n - pl % n)) % n
theorem rtG_lt {n pl z : Nat} (h : 0 < n) : rtG n pl z < n := Nat.mod_lt _ h
theorem rtG_c {n pl z : Nat} (h : z < n) : rtG n pl z = if pl % n ≤ z then z - pl % n else z + n - pl % n := by
  have hr := Nat.mod_lt pl (show 0 < n by omega)
  unfold rtG
  by_cases q : pl % n ≤ z
  · rw [if_pos q, Nat.mod_eq_sub_mod (by omega), Nat.mod_eq_of_lt (by omega)]; omega
  · rw [if_neg q, Nat.mod_eq_of_lt (by omega)]; omega
theorem md_add {n pl i : Nat} (h : i < n) : (i + pl) % n = if i + pl % n < n then i + pl % n else i + pl % n - n := by
  have hr := Nat.mod_lt pl (show 0 < n by omega)
  rw [show (i + pl) % n = (i + pl % n) % n by rw [Nat.add_mod, Nat.mod_eq_of_lt h]]
  by_cases q : i + pl % n < n
  · rw [if_pos q, Nat.mod_eq_of_lt q]
  · rw [if_neg q, Nat.mod_eq_sub_mod (by omega), Nat.mod_eq_of_lt (by omega)]
theorem rtG_iff {n pl i z : Nat} (hi : i < n) (hz : z < n) : rtG n pl z = i ↔ z = (i + pl) % n := by
  have hr := Nat.mod_lt pl (show 0 < n by omega)
  rw [rtG_c hz, md_add hi]
  split <;> split <;> omega
def rtP (n pl i : Nat) : Nat → Int32 := fun z => if z < n ∧ rtG n pl z < i then nI (rtG n pl z) else 0
theorem rtP_0 (n pl : Nat) : rtP n pl 0 = fun _ => 0 := by funext k; unfold rtP; rw [if_neg (by omega)]
theorem rtP_s {n pl i : Nat} (hi : i < n) : upd (rtP n pl i) ((i + pl) % n) (nI i) = rtP n pl (i + 1) := by
  have hm := Nat.mod_lt (i + pl) (show 0 < n by omega)
  funext k
  by_cases e : k = (i + pl) % n
  · have := (rtG_iff (pl := pl) hi (show k < n by omega)).mpr e
    rw [← e, pk_us]; unfold rtP; rw [if_pos ⟨by omega, by omega⟩, this]
  · rw [pk_un e]; unfold rtP
    by_cases hk : k < n
    · have : ¬ rtG n pl k = i := fun q => e ((rtG_iff (pl := pl) hi hk).mp q)
      by_cases q : rtG n pl k < i
      · rw [if_pos ⟨hk, q⟩, if_pos ⟨hk, by omega⟩]
      · rw [if_neg (fun w => q w.2), if_neg (fun w => by have := w.2; omega)]
    · rw [if_neg (fun w => hk w.1), if_neg (fun w => hk w.1)]
theorem rtP_e (n pl : Nat) : rtP n pl n = flG (rtG n pl) n := by
  funext k; unfold rtP flG
  by_cases h : k < n
  · rw [if_pos ⟨h, rtG_lt (by omega)⟩, if_pos h]
  · rw [if_neg (fun w => h w.1), if_neg h]
/-- three turns are one rotation -/
theorem rv3 {b : Nat → Int32} {n pl : Nat} (h : 0 < pl % n) (h0 : 0 < n) : rvF (rvF (rvF b 0 n) 0 (pl % n)) (pl % n) n = lyF b (rtG n pl) n := by
  have hr := Nat.mod_lt pl h0
  funext k; unfold lyF
  by_cases hk : k < n
  · rw [if_pos hk, rtG_c hk]
    unfold rvF
    by_cases q : pl % n ≤ k
    · rw [if_pos q, if_pos ⟨q, hk⟩, if_neg (by omega), if_pos (by omega)]; congr 1; omega
    · rw [if_neg q, if_neg (by omega), if_pos (by omega), if_pos (by omega)]; congr 1; omega
  · rw [if_neg hk]; unfold rvF; rw [if_neg (by omega), if_neg (by omega), if_neg (by omega)]
theorem rv2 {b : Nat → Int32} {n pl : Nat} (h : pl % n = 0) (h0 : 0 < n) : rvF (rvF b 0 n) 0 n = lyF b (rtG n pl) n := by
  funext k; unfold lyF
  by_cases hk : k < n
  · rw [if_pos hk, rtG_c hk, if_pos (by omega)]
    unfold rvF; rw [if_pos (by omega), if_pos (by omega)]; congr 1; omega
  · rw [if_neg hk]; unfold rvF; rw [if_neg (by omega), if_neg (by omega)]
theorem mkB_tb (p : Nat → Bool) : ∀ n, n ≤ 64 → ∀ i, i < 64 → tb (mkB p n) i = (decide (i < n) && p i)
  | 0, _, i, _ => by rw [mkB, t_0, decide_eq_false (by omega)]; rfl
  | n + 1, hn, i, hi => by
    have ih := mkB_tb p n (by omega) i hi
    have h1 : tb ((1 : Int64) <<< ((nI n).toInt64 &&& 63)) i = decide (i = n) := by
      rw [t_shl n (by omega) 1 hi, t_1]
      by_cases e : i = n
      · rw [decide_eq_true (by omega), decide_eq_true (by omega), decide_eq_true e]; rfl
      · by_cases q : n ≤ i
        · rw [decide_eq_false (show ¬ i - n = 0 by omega), decide_eq_false e, Bool.and_false]
        · rw [decide_eq_false q, decide_eq_false e]; rfl
    cases hp : p n with
    | true =>
      rw [mkB_y hp, t_or, ih, h1]
      by_cases e : i = n
      · rw [decide_eq_true e, Bool.or_true, decide_eq_true (by omega), e, hp]; rfl
      · rw [decide_eq_false e, Bool.or_false]
        by_cases q : i < n
        · rw [decide_eq_true q, decide_eq_true (by omega)]
        · rw [decide_eq_false q, decide_eq_false (by omega)]
    | false =>
      rw [mkB_n hp, ih]
      by_cases e : i = n
      · rw [e, hp, Bool.and_false, Bool.and_false]
      · by_cases q : i < n
        · rw [decide_eq_true q, decide_eq_true (by omega)]
        · rw [decide_eq_false q, decide_eq_false (by omega)]
theorem mkB_hb {p : Nat → Bool} {n i : Nat} (h : i < n) (hn : n ≤ 64) : hbit (mkB p n) (nI i) = p i := by
  rw [hbit_tb _ (by omega), mkB_tb p n hn i (by omega), decide_eq_true h]; rfl
theorem allof8 : ∀ j, j < 8 → tb (allof (nI 8)) j = true := by decide +kernel
/-- is a shaft up: of the class's words in the reference's -/
theorem su_bit {ri : Int32} {ti : Nat → Int32} {b v : Int32} (hv : ∃ j, j < 8 ∧ v = nI j) : hbit (suA ri ti b) v = (decide (mvF b ti 10 >>> (v &&& 31) &&& nI 1 = nI 1) == decide (¬ ri = 0)) := by
  obtain ⟨j, hj, rfl⟩ := hv
  have h1 : decide (mvF b ti 10 >>> (nI j &&& 31) &&& nI 1 = nI 1) = bt (mvF b ti 10) j := by
    cases h : bt (mvF b ti 10) j with
    | true => exact decide_eq_true ((ibit_bt _ (by omega)).mpr h)
    | false => exact decide_eq_false (fun q => absurd ((ibit_bt _ (by omega)).mp q) (by rw [h]; decide))
  rw [h1, hbit_tb _ (by omega)]
  unfold suA
  by_cases h0 : ri = 0
  · rw [if_pos h0, t_and, allof8 j hj, t_w _ (by omega), if_pos (by omega), b_xor, b_m1 j (by omega), decide_eq_false (fun q => q h0)]
    cases bt (mvF b ti 10) j <;> rfl
  · rw [if_neg h0, t_w _ (by omega), if_pos (by omega), decide_eq_true h0]
    cases bt (mvF b ti 10) j <;> rfl
theorem ab_yy {ri : Int32} {ti : Nat → Int32} {b v : Int32} (hv : ∃ j, j < 8 ∧ v = nI j) (h1 : mvF b ti 10 >>> (v &&& 31) &&& nI 1 = nI 1) (h2 : nI 1 = ri) : hbit (suA ri ti b) v = true := by
  subst h2; rw [su_bit hv, decide_eq_true h1]; rfl
theorem ab_yn {ri : Int32} {ti : Nat → Int32} {b v : Int32} (hv : ∃ j, j < 8 ∧ v = nI j) (h1 : mvF b ti 10 >>> (v &&& 31) &&& nI 1 = nI 1) (h2 : ¬ nI 1 = ri) (hri : ri = 0 ∨ ri = 1) : hbit (suA ri ti b) v = false := by
  rcases hri with rfl | rfl
  · rw [su_bit hv, decide_eq_true h1]; rfl
  · exact absurd rfl h2
theorem ab_ny {ri : Int32} {ti : Nat → Int32} {b v : Int32} (hv : ∃ j, j < 8 ∧ v = nI j) (h1 : ¬ mvF b ti 10 >>> (v &&& 31) &&& nI 1 = nI 1) (h2 : nI 0 = ri) : hbit (suA ri ti b) v = true := by
  subst h2; rw [su_bit hv, decide_eq_false h1]; rfl
theorem ab_nn {ri : Int32} {ti : Nat → Int32} {b v : Int32} (hv : ∃ j, j < 8 ∧ v = nI j) (h1 : ¬ mvF b ti 10 >>> (v &&& 31) &&& nI 1 = nI 1) (h2 : ¬ nI 0 = ri) (hri : ri = 0 ∨ ri = 1) : hbit (suA ri ti b) v = false := by
  rcases hri with rfl | rfl
  · exact absurd rfl h2
  · rw [su_bit hv, decide_eq_false h1]; rfl
theorem bAnd_tt {a b : Bool} (h1 : ¬ bI a = 0) (h2 : ¬ bI b = 0) : nI 1 = bI (a && b) := by rw [bI_ne0 h1, bI_ne0 h2]; rfl
theorem bAnd_f1 {a b : Bool} (h1 : bI a = 0) : nI 0 = bI (a && b) := by rw [bI_eq0 h1]; rfl
theorem bAnd_f2 {a b : Bool} (h2 : bI b = 0) : nI 0 = bI (a && b) := by rw [bI_eq0 h2, Bool.and_false]; rfl
theorem pl_ok {pk en np nw : Nat} (h1 : pk < np) (h2 : en < nw) (h3 : np ≤ 40) (h4 : nw ≤ 40) : (below (nI pk) np && below (nI en) nw) = true := by
  rw [(below_n (j := pk) (b := np) (by omega)).trans (decide_eq_true h1), (below_n (j := en) (b := nw) (by omega)).trans (decide_eq_true h2)]; rfl
theorem pl_no {pk en : Int32} {np nw : Nat} (hx : ¬ (below pk np = true ∧ below en nw = true)) : (below pk np && below en nw) = false := by
  cases h1 : below pk np <;> cases h2 : below en nw <;> first | rfl | exact absurd ⟨h1, h2⟩ hx
theorem bI_r1 {b : Bool} (h : ¬ bI b = 0) : nI 1 = bI b := by rw [bI_ne0 h]; rfl
theorem bI_r0 {b : Bool} (h : bI b = 0) : nI 0 = bI b := by rw [bI_eq0 h]; rfl
