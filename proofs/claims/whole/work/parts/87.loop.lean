/-! ===== the law's loop, and the law from its entry ===== -/
theorem rr_start {u1 u2 v : Nat → Int32} (h1 : vw u1 = v0) (hv : vm v = v0 ∧ v 12 = 0) : RR 200 (u1, u2, fun _ => 0, fun _ => 0, fun _ => 0, fun _ => 0, 0, 0, 0, 0, 0, 0, fun _ => 0, 0, 0, 0) (0, fun _ => 0, 0, v, fun _ => 0, fun _ => 0, 0, fun _ => 0, fun _ => 0, fun _ => 0, 0, 0, 0) :=
  ⟨⟨0, rs_v0 (by omega) h1 hv.1 hv.2⟩, ⟨0, by omega, rfl, rfl, fun j hj => absurd hj (by omega), fun j hj => absurd hj (by omega)⟩, rd_0, fun s hs => ⟨rfl, fun c => absurd rfl c⟩⟩
set_option maxHeartbeats 4000000 in
set_option maxRecDepth 100000 in
theorem law_loop {p : Program} {l : Launch} {e : Env} {s : State} {m : MethodId} {below : List Frame} {meth : Method} {c : Code} {D : va_G} {cI cC cZ cL : ClassId} {sf : Nat → Nat} {tL tH b L : Nat} {xs : Nat → Int32} {h h_now h_now_cells h_copy h_copy_cells h_past h_past_cells h_slots h_slots_cells h_saved h_text h_text_signs h_shown h_shown_signs hm hm_text hm_now hm_trial hm_diary hm_kept hm_isKept hm_line go : Nat}
    (hL : L ≤ 2560) (C0 : xC p s m #[Value.ref b] meth c code 7 ret wsL_law RL D (xTY cI cC cZ cL)) (T0 : xT sf tL tH (fun q : Nat => s.heap.size ≤ q) s s.heap) (hNc : xNc s) (hl0 : l.stackTraces = false) (hX0 : va_X b L xs s s.heap) (hbl : b < s.heap.size) (d : Nat) :
    ∀ (t C S : Nat), t + d = 513 → C + d ≤ 1000 → S + 6 * d ≤ 100000 → ∀ (sx : SX) (sm : SM) (f_out : Nat → Int64), RR (200 + t) sx sm → ∀ (H : Heap) (locs : List Loc) (ls : Array Slot),
      va_P D vwCl (lwW cI cC cZ cL h h_now h_now_cells h_copy h_copy_cells h_past h_past_cells h_slots h_slots_cells h_saved h_text h_text_signs h_shown h_shown_signs hm hm_text hm_now hm_trial hm_diary hm_kept hm_isKept hm_line go sx sm f_out) H →
      va_D (fun q : Nat => s.heap.size ≤ q) (lwW cI cC cZ cL h h_now h_now_cells h_copy h_copy_cells h_past h_past_cells h_slots h_slots_cells h_saved h_text h_text_signs h_shown h_shown_signs hm hm_text hm_now hm_trial hm_diary hm_kept hm_isKept hm_line go sx sm f_out) →
      va_S (fun q : Nat => s.heap.size ≤ q) s.heap H locs → lv_has ls 7 [(0, .ref b), (1, .ref h), (2, .ref hm), (3, .ref go), (4, .int (nI (5 * t)))] →
      W p l e room_1 s m #[Value.ref b] below meth c H locs C S (lw_Z below #[Value.ref b] s) (F0 m 23 ls []) := by
  have hrm : room_1.cells = 601024 ∧ room_1.slots = 7293033 := ⟨rfl, rfl⟩
  induction d with
  | zero =>
    intro t C S ht hC hS0 sx sm out hR H locs ls hP hD hS hl
    refine xb_L_law_23 (X := fun _ _ _ _ => False) C0 T0 hNc hl0 hX0 hbl (by rw [hrm.1, hrm.2]; omega) (fun _ _ _ _ q => q.elim) sx sm out (nI (5 * t)) ?_ H locs ls hP hD hS hl
    exact r_23 hL (by omega) hR (by omega) (by omega) (fun h5 => absurd h5 (by omega))
  | succ d ih =>
    intro t C S ht hC hS0 sx sm out hR H locs ls hP hD hS hl
    refine xb_L_law_23 (X := fun sx' sm' _ v' => RR (200 + (t + 1 : Nat)) sx' sm' ∧ v' = nI (5 * (t + 1))) C0 T0 hNc hl0 hX0 hbl (by rw [hrm.1, hrm.2]; omega) (fun sx' sm' out' v' q => ?_) sx sm out (nI (5 * t)) ?_ H locs ls hP hD hS hl
    · obtain ⟨hR', hv⟩ := q
      subst hv
      exact ih (t + 1) (C + 1) (S + 6) (by omega) (by omega) (by omega) sx' sm' out' hR'
    · exact r_23 hL (by omega) hR (by omega) (by omega) (fun h5 sx' sm' out' hR' => ⟨hR'.mono (by omega), rfl⟩)
set_option maxHeartbeats 4000000 in
set_option maxRecDepth 100000 in
/-- THE LAW, from its entry -/
theorem whole_start {p : Program} {e : Env} {s : State} {m : MethodId} {below : List Frame} {meth : Method} {c : Code} (l : Launch) (hflags : l.flags = flags0) {b L : Nat} {xs : Nat → Int32} (hL : L ≤ 2560) (C0 : lw_At p s m meth c b L xs) : W p l e room_1 s m #[Value.ref b] below meth c s.heap [] 0 0 (lw_Z below #[Value.ref b] s) (entryFrame m ([Value.ref b] : List Value).toArray 7) := by
  obtain ⟨hx, hb, hr, hml, hown, hts, hX, hbl, hlocks, hgv⟩ := C0
  obtain ⟨D, cI, cC, cZ, cL, hK⟩ := st_K hts
  obtain ⟨sf, tL, tH, hT⟩ := st_T hts hgv
  have CC : xC p s m #[Value.ref b] meth c code 7 ret wsL_law RL D (xTY cI cC cZ cL) := ⟨hx, hb, hr, hml, hown, fun w hw => hts w (wsL_law_in w hw), hlocks, hK, st_N hts⟩
  refine law_prologue (G4 := fun u1 u2 => vw u1 = v0) (G5 := fun v => vm v = v0 ∧ v 12 = 0) CC (e_reset (fun u1 h1 => e_reset (fun u2 h2 => h1))) (m_begin (fun r' hr hf => ⟨hr, hf⟩)) ?_
  intro h h_now h_now_cells h_copy h_copy_cells h_past h_past_cells h_slots h_slots_cells h_saved h_text h_text_signs h_shown h_shown_signs hm hm_text hm_now hm_trial hm_diary hm_kept hm_isKept hm_line go u1 u2 v g4 g5 H locs ls hP hD hS hl
  exact law_loop hL CC hT (st_Nc hgv) (x_notrace l hflags) hX hbl 513 0 23 14408 (by omega) (by omega) (by omega) _ _ _ (rr_start g4 g5) H locs ls hP hD hS hl
