/-! whole_start -/
set_option maxRecDepth 20000 in
theorem nwl_in : ∀ w ∈ nwl, w ∈ lw_tbl := lw_inr nwl [72, 92, 123, 148, 203, 233, 244, 249, 263, 275, 283, 287, 291, 297, 298, 325, 329, 330, 334, 410, 429, 473, 477, 492, 504, 561, 587, 595, 602, 77, 79, 81, 97, 100, 102, 104, 106, 128, 130, 132, 133, 135, 136, 349, 416, 453, 714, 350, 351, 352, 353, 354, 355, 622, 780] (by decide +kernel)
theorem nwp_of {w : Cond} (h : nwp w = true) {args : Array Value} {s : State} (hz : w.before args s = true) : va_Nw w s := by
  cases w
  case arrayOver ft =>
    cases ft
    case array ft => exact hz
    all_goals cases h
  all_goals first | (cases h; done) | (exact va_Nw.of rfl hz)
set_option maxRecDepth 20000 in
set_option maxHeartbeats 4000000 in
/-- from the entry the law comes to its end with true -/
theorem whole_start {p : Program} {e : Env} {s : State} {m : MethodId} {below : List Frame} {meth : Method} {c : Code} (l : Launch) (hflags : l.flags = flags0) {b L : Nat} {xs : Nat → Int32} (hL : L ≤ 1536) (C0 : lw_At p s m meth c b L xs) : W p l e room_1 s m #[Value.ref b] below meth c s.heap [] 0 0 (lw_Z below #[Value.ref b] s) (entryFrame m ([Value.ref b] : List Value).toArray 9) := by
  obtain ⟨hx, hb, hr, hml, hown, hts, hX, hbl, hlocks, hgv⟩ := id C0
  have hs := flat_of_before _ hgv
  obtain ⟨c0, i0, k0⟩ := u_known (C := RX0) (T := TX0) (N := 4) (n := 4) hts inX0 (hts (.instantiable RX0 4) (List.mem_of_getElem? (i := 122) (by decide +kernel)))
  obtain ⟨c1, i1, k1⟩ := u_known (C := RX1) (T := TX1) (N := 6) (n := 6) hts inX1 (hts (.instantiable RX1 6) (List.mem_of_getElem? (i := 91) (by decide +kernel)))
  obtain ⟨c2, i2, k2⟩ := u_known (C := RX2) (T := TX2) (N := 4) (n := 4) hts inX2 (hts (.instantiable RX2 4) (List.mem_of_getElem? (i := 147) (by decide +kernel)))
  obtain ⟨c3, i3, k3⟩ := u_known (C := RX3) (T := TX3) (N := 3) (n := 3) hts inX3 (hts (.instantiable RX3 3) (List.mem_of_getElem? (i := 71) (by decide +kernel)))
  obtain ⟨c4, i4, k4⟩ := u_known (C := RX4) (T := TX4) (N := 7) (n := 7) hts inX4 (hts (.instantiable RX4 7) (List.mem_of_getElem? (i := 63) (by decide +kernel)))
  obtain ⟨c5, i5, k5⟩ := u_known (C := RX5) (T := TX5) (N := 9) (n := 9) hts inX5 (hts (.instantiable RX5 9) (List.mem_of_getElem? (i := 616) (by decide +kernel)))
  obtain ⟨dC, dI, hKc⟩ : ∃ (dC : Nat → ClassId) (dI : Nat → Nat → Nat), ∀ (k : Nat) (q : vw_C), vwCl[k]? = some q → u_Kn s q.1 q.2.1 q.2.2 (dC k) (dI k) := by
    refine ⟨fun k => match k with | 0 => c0 | 1 => c1 | 2 => c2 | 3 => c3 | 4 => c4 | _ => c5, fun k => match k with | 0 => i0 | 1 => i1 | 2 => i2 | 3 => i3 | 4 => i4 | _ => i5, ?_⟩
    intro k q hq
    match k, hq with
    | 0, hq => cases hq; exact k0
    | 1, hq => cases hq; exact k1
    | 2, hq => cases hq; exact k2
    | 3, hq => cases hq; exact k3
    | 4, hq => cases hq; exact k4
    | 5, hq => cases hq; exact k5
    | k + 6, hq => simp [vwCl] at hq
  have hNW : NW s := fun w hw => nwp_of (nwl_ok w hw) (hts w (nwl_in w hw))
  obtain ⟨cI, aI, fI⟩ := arr_of (ty := .int) (hts (.arrayClass .int) (List.mem_of_getElem? (i := 89) (by decide +kernel)))
  obtain ⟨cJ, aJ, fJ⟩ := arr_of (ty := .long) (hts (.arrayClass .long) (List.mem_of_getElem? (i := 120) (by decide +kernel)))
  obtain ⟨cA, aA, fA⟩ := arr_ofA (t := .int) (hNW.at 53 rfl)
  obtain ⟨cW, aW, fW⟩ := arr_ofA (t := .long) (hNW.at 54 rfl)
  have hK : va_K (dC, dI) vwCl [(cI, .int), (cJ, .long), (cA, .array .int), (cW, .array .long)] s := ⟨hKc, fun k q hq => by
    match k, hq with
    | 0, hq => cases hq; exact ⟨aI, fI⟩
    | 1, hq => cases hq; exact ⟨aJ, fJ⟩
    | 2, hq => cases hq; exact ⟨aA, fA⟩
    | 3, hq => cases hq; exact ⟨aW, fW⟩
    | k + 4, hq => simp at hq⟩
  have hini := hts (.initialized "java/lang/Throwable") (List.mem_of_getElem? (i := 51) (by decide +kernel))
  have hA9 : ∀ a : Nat, a < s.heap.size → ¬ (fun q : Nat => s.heap.size ≤ q) a := fun a h1 h2 => Nat.not_le.mpr h1 h2
  have hZ : ZQ (fun q : Nat => s.heap.size ≤ q) s s.heap := ⟨vx_Zqof (hts (.laysStatic Bundle.tN "UNASSIGNED_STACK" Bundle.steD) (List.mem_of_getElem? (i := 374) (by decide +kernel))) hini (hs _ (by decide +kernel)) hA9, vx_Zqof (hts (.laysStatic Bundle.tN "SUPPRESSED_SENTINEL" Bundle.listD) (List.mem_of_getElem? (i := 376) (by decide +kernel))) hini (hs _ (by decide +kernel)) hA9⟩
  have hNC : NC3 s := ⟨va_Nc.of (args := #[Value.ref b]) (hs _ (by decide +kernel)), va_Nc.of (args := #[Value.ref b]) (hs _ (by decide +kernel)), va_Nc.of (args := #[Value.ref b]) (hs _ (by decide +kernel))⟩
  have C : CallFix p m c cL_law 9 s #[Value.ref b] wsL_law RL := ⟨hx, hb, hml, hown, fun w hw => hts w (wsL_law_in w hw)⟩
  have hP : va_P (dC, dI) vwCl [] s.heap := fun k q h => by simp at h
  have hD : va_D (fun q : Nat => s.heap.size ≤ q) [] := ⟨fun i j p q h => by simp at h, fun k q h => by simp at h⟩
  have hl := lv_entry ([.ref b]) (n := 9) (Nat.le_of_ble_eq_true rfl)
  rw [lg_entry_eq]
  generalize (lg_sl ([.ref b]) ++ List.replicate (9 - (lg_sl ([.ref b])).length) Slot.unset).toArray = ls at hl ⊢
  have hl : lv_has ls 9 [(0, .ref b)] := hl
  exact law_start (hl0_of hflags) rfl rfl rfl rfl C hK hNW hZ hNC hX hbl hL hr hlocks s.heap [] ls hP hD va_S.rf hl
