/-! the layer, seventh part: the law's own instructions -/
section XL8
variable {p : Program} {l : Launch} {e : Env} {R : Room} {s : State} {m : MethodId} {args : Array Value} {below : List Frame} {meth : Method} {c : Code} {Q : State → Prop}
variable {D : va_G} {tys : List (ClassId × FieldType)} {A : Nat → Prop} {H0 : Heap} {nL k n : Nat} {ws : va_W} {lv : List (Nat × Value)} {pc : Nat} {st : List Value} {cc : ByteArray} {Ts : List Cond} {own : String}
theorem x_sld (C : CallFix p m c cc nL s args Ts own) {b L : Nat} {xs : Nat → Int32} (hX : va_X b L xs s H0) (hbl : b < H0.size) (hbA : ¬ A b) {j : Nat} (hj : j < L) (hL : L < 2 ^ 31) (hdg : decode cc pc = .ok (.iaload, 1)) (K : X_ p l e R s m args below meth c Q D A H0 nL k n ws lv (pc + 1) (.int (xs j) :: st)) : X_ p l e R s m args below meth c Q D A H0 nL k n ws lv pc (.int (nI j) :: .ref b :: st) := fun H locs ls hP hD hS hl =>
  va_sld C.1 C.2.1 hX hbl hbA hS (nI_in hj hL) hdg (by rw [nI_clamp (Nat.lt_trans hj hL)]; exact K H locs ls hP hD hS hl)
theorem x_slen (C : CallFix p m c cc nL s args Ts own) {b L : Nat} {xs : Nat → Int32} (hX : va_X b L xs s H0) (hbl : b < H0.size) (hbA : ¬ A b) (hdg : decode cc pc = .ok (.arraylength, 1)) (K : X_ p l e R s m args below meth c Q D A H0 nL k n ws lv (pc + 1) (.int (nI L) :: st)) : X_ p l e R s m args below meth c Q D A H0 nL k n ws lv pc (.ref b :: st) := fun H locs ls hP hD hS hl =>
  va_slen C.1 C.2.1 hX hbl hbA hS hdg (K H locs ls hP hD hS hl)
theorem x_dcmp (C : CallFix p m c cc nL s args Ts own) {x y : UInt64} {op : CmpOp} (hdg : decode cc pc = .ok (.dcmp op, 1)) (K : X_ p l e R s m args below meth c Q D A H0 nL k n ws lv (pc + 1) (.int (Op.cmpValue (FP.dcmp x y) op) :: st)) : X_ p l e R s m args below meth c Q D A H0 nL k n ws lv pc (.double y :: .double x :: st) := fun H locs ls hP hD hS hl =>
  lv_dcmp C.1 C.2.1 hdg (K H locs ls hP hD hS hl)
theorem x_topd {x : UInt64} (y : UInt64) (h : x = y) (K : X_ p l e R s m args below meth c Q D A H0 nL k n ws lv pc (.double y :: st)) : X_ p l e R s m args below meth c Q D A H0 nL k n ws lv pc (.double x :: st) := h ▸ K
theorem x_tsw (C : CallFix p m c cc nL s args Ts own) {dflt lo hi : Int} {offs : Array Int} {len : Nat} {x : Int32} {off : Int} (tgt : Nat) (hdg : decode cc pc = .ok (.tableswitch dflt lo hi offs, len)) (h1 : ¬ x.toInt < lo) (h2 : ¬ hi < x.toInt) (ho : offs[(x.toInt - lo).toNat]? = some off) (ht : (pc : Int) + off = (tgt : Int)) (K : X_ p l e R s m args below meth c Q D A H0 nL k n ws lv tgt st) : X_ p l e R s m args below meth c Q D A H0 nL k n ws lv pc (.int x :: st) := fun H locs ls hP hD hS hl =>
  lv_tableIn C.1 C.2.1 hdg h1 h2 ho ht (K H locs ls hP hD hS hl)
theorem x_tswO (C : CallFix p m c cc nL s args Ts own) {dflt lo hi : Int} {offs : Array Int} {len : Nat} {x : Int32} (tgt : Nat) (hdg : decode cc pc = .ok (.tableswitch dflt lo hi offs, len)) (h : x.toInt < lo ∨ hi < x.toInt) (ht : (pc : Int) + dflt = (tgt : Int)) (K : X_ p l e R s m args below meth c Q D A H0 nL k n ws lv tgt st) : X_ p l e R s m args below meth c Q D A H0 nL k n ws lv pc (.int x :: st) := fun H locs ls hP hD hS hl =>
  lv_tableOut C.1 C.2.1 hdg h ht (K H locs ls hP hD hS hl)
end XL8
