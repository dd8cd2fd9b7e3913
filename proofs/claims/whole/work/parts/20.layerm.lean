/-! the layer, third part: what the reference uses -/
section XL3
variable {p : Program} {l : Launch} {e : Env} {R : Room} {s : State} {m : MethodId} {args : Array Value} {below : List Frame} {meth : Method} {c : Code} {Q : State → Prop}
variable {D : va_G} {tys : List (ClassId × FieldType)} {A : Nat → Prop} {H0 : Heap} {nL k n : Nat} {ws : va_W} {lv : List (Nat × Value)} {pc : Nat} {st : List Value} {cc : ByteArray} {Ts : List Cond} {own : String}
theorem arrI_name {s : State} {cI : ClassId} {t0 : Nat} (hK : va_K D vwCl tys s) (ht : tys[t0]? = some (cI, .int)) : s.vm.findClass "[I" = some cI := (hK.2 t0 _ ht).2
theorem arrJ_name {s : State} {cJ : ClassId} {t0 : Nat} (hK : va_K D vwCl tys s) (ht : tys[t0]? = some (cJ, .long)) : s.vm.findClass "[J" = some cJ := (hK.2 t0 _ ht).2
theorem x_clone (C : CallFix p m c cc nL s args Ts own) (hK : va_K D vwCl tys s) (hNW : NW s) (hA : ∀ q, H0.size ≤ q → A q) {ix : Nat} (hlink : Cond.methodLink own ix ⟨"[I", "clone", "()Ljava/lang/Object;"⟩ ∈ Ts) (hsame : Cond.sameMethod "[I" "java/lang/Object" "clone" "()Ljava/lang/Object;" ∈ Ts) (hnat : Cond.native ⟨"java/lang/Object", "clone", "()Ljava/lang/Object;"⟩ ∈ Ts) (hinst : Cond.instanceMethod ⟨"java/lang/Object", "clone", "()Ljava/lang/Object;"⟩ ∈ Ts) (hsel : Cond.selects "[I" ⟨"[I", "clone", "()Ljava/lang/Object;"⟩ ⟨"java/lang/Object", "clone", "()Ljava/lang/Object;"⟩ ∈ Ts) (nw : Nat) (hcl : nwl[nw]? = some (Cond.castable "[I" "java/lang/Cloneable")) (q0 t0 : Nat) {a nn : Nat} {cA : ClassId} {f : Nat → Int32} (ha : ws[q0]? = some (a, .inl (cA, nn, .inl f))) (ht : tys[t0]? = some (cA, .int)) (hframes : 1 ≤ R.frames) (hlocals : (st.map fun v => v.category).sum + 14 ≤ R.locals) (hcells : k + 1 ≤ R.cells) (hslots : n + nn ≤ R.slots) (hdg : decode cc pc = .ok (.invokevirtual ix, 3)) (K : ∀ q : Nat, X_ p l e R s m args below meth c Q D A H0 nL (k + 1) (n + nn) (ws ++ [(q, .inl (cA, nn, .inl f))]) lv (pc + 3) (.ref q :: st)) : X_ p l e R s m args below meth c Q D A H0 nL k n ws lv pc (.ref a :: st) := fun H locs ls hP hD hS hl =>
  va_clone C.1 C.2.1 (by rw [hl.1]; exact C.2.2.1) C.2.2.2.1 (C.2.2.2.2 _ hlink) (C.2.2.2.2 _ hsame) (C.2.2.2.2 _ hnat) (C.2.2.2.2 _ hinst) (C.2.2.2.2 _ hsel) (hNW.at nw hcl) hK hP hD hS hA q0 t0 ha ht (arrI_name hK ht) (fun i v h => by
    have h2 : (arrV cA nn (fun j => Value.int (f j))).slots[i]? = some v := h
    by_cases hi : i < nn
    · rw [arrV_read _ _ hi] at h2
      cases h2
      rfl
    · have := (Array.getElem?_eq_some_iff.mp h2).1
      rw [arrV_size] at this
      exact absurd this hi) hframes hlocals hcells hslots hdg (fun q H1 hK1 hP1 hD1 hS1 => K q H1 locs ls hP1 hD1 hS1 hl)
theorem x_castI (C : CallFix p m c cc nL s args Ts own) (hK : va_K D vwCl tys s) {ix : Nat} (hlink : Cond.classLink own ix "[I" ∈ Ts) (q0 t0 : Nat) {a nn : Nat} {cA : ClassId} {f : Nat → Int32} (ha : ws[q0]? = some (a, .inl (cA, nn, .inl f))) (ht : tys[t0]? = some (cA, .int)) (hdg : decode cc pc = .ok (.checkcast ix, 3)) (K : X_ p l e R s m args below meth c Q D A H0 nL k n ws lv (pc + 3) (.ref a :: st)) : X_ p l e R s m args below meth c Q D A H0 nL k n ws lv pc (.ref a :: st) := fun H locs ls hP hD hS hl =>
  va_castA C.1 C.2.1 C.2.2.2.1 (C.2.2.2.2 _ hlink) hP q0 ha (arrI_name hK ht) hdg (K H locs ls hP hD hS hl)
theorem x_mmax (C : CallFix p m c cc nL s args Ts own) {ix : Nat} (hlink : Cond.methodLink own ix Lib.Math.max.name ∈ Ts) (hstat : Cond.static Lib.Math.max.name ∈ Ts) (hini : Cond.initialized "java/lang/Math" ∈ Ts) (hcode : Cond.code Lib.Math.max.name Lib.Math.max.code 2 (some .int) ∈ Ts) {x y : Int32} (hdg : decode cc pc = .ok (.invokestatic ix, 3)) (hframes : 1 ≤ R.frames) (hlocals : (st.map fun v => v.category).sum + 13 ≤ R.locals) (hc : k ≤ R.cells) (hs : n ≤ R.slots) (K : X_ p l e R s m args below meth c Q D A H0 nL k n ws lv (pc + 3) (.int (if x < y then y else x) :: st)) : X_ p l e R s m args below meth c Q D A H0 nL k n ws lv pc (.int y :: .int x :: st) := fun H locs ls hP hD hS hl =>
  va_mmax C.1 C.2.1 (by rw [hl.1]; exact C.2.2.1) C.2.2.2.1 (C.2.2.2.2 _ hlink) (C.2.2.2.2 _ hstat) (C.2.2.2.2 _ hini) (C.2.2.2.2 _ hcode) hframes hlocals hc hs hdg (K H locs ls hP hD hS hl)
end XL3
def sz2 (a b : Nat) : Nat → Int32 := fun i => if i = 0 then nI a else if i = 1 then nI b else 0
theorem sz2_u0 (a b d : Nat) : upd (sz2 a b) 0 (nI d) = sz2 d b := by
  funext k
  by_cases e : k = 0
  · subst e; rw [pk_us]; rfl
  · rw [pk_un e]; unfold sz2; rw [if_neg e, if_neg e]
theorem sz2_u1 (a b d : Nat) : upd (sz2 a b) 1 (nI d) = sz2 a d := by
  funext k
  by_cases e : k = 1
  · subst e; rw [pk_us]; rfl
  · rw [pk_un e]; unfold sz2
    by_cases e0 : k = 0
    · rw [if_pos e0, if_pos e0]
    · rw [if_neg e0, if_neg e0, if_neg e, if_neg e]
theorem below_neg0 {x : Int32} {b : Nat} (h : x < nI 0) : below x b = false := below_neg (by rw [nI_0] at h; exact h)
theorem below_gt {x : Int32} {b : Nat} (h : nI b < x) (hb : b < 2 ^ 30) : below x (b + 1) = false := by
  refine decide_eq_false (fun q => ?_)
  have := (Int32.lt_iff_toInt_lt).mp h
  rw [nI_toInt (by omega)] at this
  omega
theorem below_ok {x : Int32} {b : Nat} (h0 : ¬ x < nI 0) (h : ¬ nI b < x) (hb : b < 2 ^ 30) : below x (b + 1) = true :=
  below_le (by rw [nI_0] at h0; exact h0) (Int32.not_lt.mp h) hb
theorem nI_m1 {n : Nat} (hn : n < 2 ^ 30) : (nI n - nI 1).toInt = (n : Int) - 1 := pk_sub_toInt hn (by decide)
theorem below_gtS {x : Int32} {n : Nat} (h : nI n - nI 1 < x) (hn : n < 2 ^ 30) : below x n = false := by
  refine decide_eq_false (fun q => ?_)
  have := (Int32.lt_iff_toInt_lt).mp h
  rw [nI_m1 hn] at this
  omega
theorem below_okS {x : Int32} {n : Nat} (h0 : ¬ x < nI 0) (h : ¬ nI n - nI 1 < x) (hn : n < 2 ^ 30) : below x n = true := by
  rw [nI_0] at h0
  obtain ⟨j, hj, e⟩ := nI_of h0
  subst e
  rw [below_n hj]
  have h := Int32.not_lt.mp h
  have := (Int32.le_iff_toInt_le).mp h
  rw [nI_m1 hn, nI_toInt hj] at this
  exact decide_eq_true (by omega)
/-- 1 <= x <= b -/
def isin1 (x : Int32) (b : Nat) : Bool := decide (¬ x < nI 1 ∧ x ≤ nI b)
theorem isin1_n {j b : Nat} (h1 : 1 ≤ j) (h2 : j ≤ b) (hb : b < 2 ^ 30) : isin1 (nI j) b = true := by
  refine decide_eq_true ⟨fun q => ?_, nI_le h2 (by omega)⟩
  exact absurd ((nI_ltI (by omega) (by decide)).mp q) (by omega)
theorem isin1_lt {x : Int32} {b : Nat} (h : x < nI 1) : isin1 x b = false := decide_eq_false (fun q => q.1 h)
theorem isin1_gt {x : Int32} {b : Nat} (h : nI b < x) : isin1 x b = false := decide_eq_false (fun q => absurd h (Int32.not_lt.mpr q.2))
theorem isin1_ok {x : Int32} {b : Nat} (h0 : ¬ x < nI 1) (h : ¬ nI b < x) : isin1 x b = true := decide_eq_true ⟨h0, Int32.not_lt.mp h⟩
