/-! ===== what the tables and the Statement give of the start ===== -/
set_option maxRecDepth 20000 in
theorem stX0 : ∀ w ∈ u_ws RX0 TX0 7, w ∈ lw_tbl := by decide +kernel
set_option maxRecDepth 20000 in
theorem stX1 : ∀ w ∈ u_ws RX1 TX1 2, w ∈ lw_tbl := by decide +kernel
set_option maxRecDepth 20000 in
theorem stX2 : ∀ w ∈ u_ws RX2 TX2 2, w ∈ lw_tbl := by decide +kernel
set_option maxRecDepth 20000 in
theorem stX3 : ∀ w ∈ u_ws RX3 TX3 1, w ∈ lw_tbl := by decide +kernel
set_option maxRecDepth 20000 in
theorem stX4 : ∀ w ∈ u_ws RX4 TX4 9, w ∈ lw_tbl := by decide +kernel
set_option maxRecDepth 20000 in
theorem stX5 : ∀ w ∈ u_ws RX5 TX5 13, w ∈ lw_tbl := by decide +kernel
theorem st_arr {s : State} {args : Array Value} {ty : FieldType} (hty : ∀ C, ty ≠ .object C) (h : (Cond.arrayClass ty).before args s = true) : ∃ cA : ClassId, ArrOfT s cA ty ∧ va_RA s cA ty := by
  obtain ⟨cA, kA, comp, h1, h2, h3⟩ := Cond.arrayClass_spec h
  refine ⟨cA, fun n z => ⟨fun k g => (by cases g), kA, h2, comp, h3⟩, ?_⟩
  cases ty with
  | object C => exact absurd rfl (hty C)
  | _ => exact h1
set_option maxRecDepth 20000 in
theorem st_K {s : State} {args : Array Value} (hts : ∀ w ∈ lw_tbl, w.before args s = true) : ∃ (D : va_G) (cI cC cZ cL : ClassId), va_K D vwCl (xTY cI cC cZ cL) s := by
  obtain ⟨c0, i0, k0⟩ := u_known (C := RX0) (T := TX0) (N := 7) (n := 7) hts stX0 (hts (.instantiable RX0 7) (by decide +kernel))
  obtain ⟨c1, i1, k1⟩ := u_known (C := RX1) (T := TX1) (N := 2) (n := 2) hts stX1 (hts (.instantiable RX1 2) (by decide +kernel))
  obtain ⟨c2, i2, k2⟩ := u_known (C := RX2) (T := TX2) (N := 2) (n := 2) hts stX2 (hts (.instantiable RX2 2) (by decide +kernel))
  obtain ⟨c3, i3, k3⟩ := u_known (C := RX3) (T := TX3) (N := 1) (n := 1) hts stX3 (hts (.instantiable RX3 1) (by decide +kernel))
  obtain ⟨c4, i4, k4⟩ := u_known (C := RX4) (T := TX4) (N := 9) (n := 9) hts stX4 (hts (.instantiable RX4 9) (by decide +kernel))
  obtain ⟨c5, i5, k5⟩ := u_known (C := RX5) (T := TX5) (N := 13) (n := 13) hts stX5 (hts (.instantiable RX5 13) (by decide +kernel))
  obtain ⟨cI, aI⟩ := st_arr (ty := .int) (fun _ h => by cases h) (hts (.arrayClass .int) (by decide +kernel))
  obtain ⟨cC, aC⟩ := st_arr (ty := .char) (fun _ h => by cases h) (hts (.arrayClass .char) (by decide +kernel))
  obtain ⟨cZ, aZ⟩ := st_arr (ty := .boolean) (fun _ h => by cases h) (hts (.arrayClass .boolean) (by decide +kernel))
  obtain ⟨cL, aL⟩ := st_arr (ty := .long) (fun _ h => by cases h) (hts (.arrayClass .long) (by decide +kernel))
  refine ⟨(fun k => [c0, c1, c2, c3, c4, c5].getD k 0, fun k => [i0, i1, i2, i3, i4, i5].getD k i0), cI, cC, cZ, cL, ?_, ?_⟩
  · intro k q hq
    match k, hq with
    | 0, hq => cases hq; exact k0
    | 1, hq => cases hq; exact k1
    | 2, hq => cases hq; exact k2
    | 3, hq => cases hq; exact k3
    | 4, hq => cases hq; exact k4
    | 5, hq => cases hq; exact k5
    | k + 6, hq => simp [vwCl] at hq
  · intro k q hq
    match k, hq with
    | 0, hq => cases hq; exact aI
    | 1, hq => cases hq; exact aC
    | 2, hq => cases hq; exact aZ
    | 3, hq => cases hq; exact aL
    | k + 4, hq => simp [xTY] at hq
set_option maxRecDepth 20000 in
theorem st_N {s : State} {args : Array Value} (hts : ∀ w ∈ lw_tbl, w.before args s = true) : xN s :=
  ⟨va_Nw.of rfl (hts _ (by decide +kernel)), va_Nw.of rfl (hts _ (by decide +kernel)), va_Nw.of rfl (hts _ (by decide +kernel)), va_Nw.of rfl (hts _ (by decide +kernel)), va_Nw.of rfl (hts _ (by decide +kernel)), va_Nw.of rfl (hts _ (by decide +kernel)), va_Nw.of rfl (hts _ (by decide +kernel)), va_Nw.of rfl (hts _ (by decide +kernel))⟩
set_option maxRecDepth 20000 in
theorem st_D : ∀ w ∈ xDs, w ∈ lw_tbl := by decide +kernel
set_option maxRecDepth 20000 in
theorem st_str : ∀ q ∈ xStrs, Cond.stringRef RX4 q.1 q.2 ∈ lw_tbl := by decide +kernel
/-- the Statement's words of the start -/
def lwF : List Cond := flatC (Jvm.Cond.and given_1 narrow_1)
set_option maxRecDepth 20000 in
theorem st_ref : ∀ q ∈ xStrs, Cond.exactly (Term.string RX4 q.1) "java/lang/String" ∈ lwF := by decide +kernel
abbrev tmL : Term := .static "TakeLog" "LOWEST_SETTING" "[I"
abbrev tmH : Term := .static "TakeLog" "HIGHEST_SETTING" "[I"
def fW : List Cond := [.isRef (.static Bundle.tN "UNASSIGNED_STACK" Bundle.steD), .isRef (.static Bundle.tN "SUPPRESSED_SENTINEL" Bundle.listD),
  .arrayOf tmL .int, .eq (.length tmL) (.int 4), .eq (.elem tmL (.int 0)) (.int 60), .eq (.elem tmL (.int 1)) (.int 60), .eq (.elem tmL (.int 2)) (.int 0), .eq (.elem tmL (.int 3)) (.int 0),
  .arrayOf tmH .int, .eq (.length tmH) (.int 4), .eq (.elem tmH (.int 0)) (.int 999), .eq (.elem tmH (.int 1)) (.int 3600), .eq (.elem tmH (.int 2)) (.int 60), .eq (.elem tmH (.int 3)) (.int 1),
  .not (.castable xIS xIA), .not (.castable xIA xIO), .not (.castable xIS xIO)]
set_option maxRecDepth 20000 in
theorem fW_in : ∀ w ∈ fW, w ∈ lwF := by decide +kernel
def tW : List Cond := [.laysStatic Bundle.tN "UNASSIGNED_STACK" Bundle.steD, .laysStatic Bundle.tN "SUPPRESSED_SENTINEL" Bundle.listD, .initialized Bundle.tN, .laysStatic "TakeLog" "LOWEST_SETTING" "[I", .laysStatic "TakeLog" "HIGHEST_SETTING" "[I", .initialized "TakeLog"]
set_option maxRecDepth 20000 in
theorem tW_in : ∀ w ∈ tW, w ∈ lw_tbl := by decide +kernel
theorem st_at {ws : List Cond} {k : Nat} {w : Cond} (h : ws[k]? = some w) : w ∈ ws := List.mem_of_getElem? h
theorem st_T {s : State} {b : Nat} (hts : ∀ w ∈ lw_tbl, w.before #[Value.ref b] s = true) (hgv : (Jvm.Cond.and given_1 narrow_1).before #[Value.ref b] s = true) : ∃ (f : Nat → Nat) (tL tH : Nat), xT f tL tH (fun q : Nat => s.heap.size ≤ q) s s.heap := by
  have hs : ∀ w ∈ lwF, w.before #[Value.ref b] s = true := flat_of_before _ hgv
  have hA : ∀ a : Nat, a < s.heap.size → ¬ (fun q : Nat => s.heap.size ≤ q) a := fun a h => Nat.not_le.mpr h
  have F : ∀ (k : Nat) (w : Cond), fW[k]? = some w → w.before #[Value.ref b] s = true := fun k w h => hs w (fW_in w (st_at h))
  have T : ∀ (k : Nat) (w : Cond), tW[k]? = some w → w.before #[Value.ref b] s = true := fun k w h => hts w (tW_in w (st_at h))
  obtain ⟨tL, eL, zL⟩ := va_Tof (N := 4) (f := fun j => .int (xLow j)) (A := fun q : Nat => s.heap.size ≤ q) (by decide) (F 2 _ rfl) (va_eqt (F 3 _ rfl)) (fun j hj => by
    rcases (show j = 0 ∨ j = 1 ∨ j = 2 ∨ j = 3 by omega) with rfl | rfl | rfl | rfl
    · exact va_eqt (F 4 _ rfl)
    · exact va_eqt (F 5 _ rfl)
    · exact va_eqt (F 6 _ rfl)
    · exact va_eqt (F 7 _ rfl)) hA
  obtain ⟨tH, eH, zH⟩ := va_Tof (N := 4) (f := fun j => .int (xHigh j)) (A := fun q : Nat => s.heap.size ≤ q) (by decide) (F 8 _ rfl) (va_eqt (F 9 _ rfl)) (fun j hj => by
    rcases (show j = 0 ∨ j = 1 ∨ j = 2 ∨ j = 3 by omega) with rfl | rfl | rfl | rfl
    · exact va_eqt (F 10 _ rfl)
    · exact va_eqt (F 11 _ rfl)
    · exact va_eqt (F 12 _ rfl)
    · exact va_eqt (F 13 _ rfl)) hA
  have str : ∀ k : Nat, ∃ a : Nat, (∀ t, (k, t) ∈ xStrs → (Term.string RX4 k).eval #[Value.ref b] s none [] s = some (.ref a)) := by
    intro k
    by_cases h : ∃ t, (k, t) ∈ xStrs
    · obtain ⟨t, ht⟩ := h
      obtain ⟨a, -, -, -, ha, -⟩ := Cond.exactly_spec (hs _ (st_ref (k, t) ht))
      exact ⟨a, fun _ _ => ha⟩
    · exact ⟨0, fun t ht => absurd ⟨t, ht⟩ h⟩
  obtain ⟨f, hf⟩ := Classical.axiomOfChoice str
  refine ⟨f, tL, tH, vx_Zqof (T 0 _ rfl) (T 2 _ rfl) (F 0 _ rfl) hA, vx_Zqof (T 1 _ rfl) (T 2 _ rfl) (F 1 _ rfl) hA, va_Zof (T 3 _ rfl) (T 5 _ rfl) eL hA, va_Zof (T 4 _ rfl) (T 5 _ rfl) eH hA, zL, zH, fun q hq => vk_R.of (hts _ (st_str q hq)) (hf q.1 q.2 hq), fun w hw => va_Nw.of (xDs_tabs w hw) (hts w (st_D w hw))⟩
theorem st_Nc {s : State} {b : Nat} (hgv : (Jvm.Cond.and given_1 narrow_1).before #[Value.ref b] s = true) : va_Nc xIS xIA s ∧ va_Nc xIA xIO s ∧ va_Nc xIS xIO s := by
  have hs : ∀ w ∈ lwF, w.before #[Value.ref b] s = true := flat_of_before _ hgv
  have F : ∀ (k : Nat) (w : Cond), fW[k]? = some w → w.before #[Value.ref b] s = true := fun k w h => hs w (fW_in w (st_at h))
  exact ⟨va_Nc.of (F 14 _ rfl), va_Nc.of (F 15 _ rfl), va_Nc.of (F 16 _ rfl)⟩
