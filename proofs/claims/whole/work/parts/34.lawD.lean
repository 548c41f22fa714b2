set_option maxHeartbeats 8000000 in
set_option maxRecDepth 100000 in
theorem xb_L_law_23 {p : Program} {l : Launch} {e : Env} {s : State} {m : MethodId} {below : List Frame} {meth : Method} {c : Code} {D : va_G} {cI cC cZ cL : ClassId} {sf : Nat → Nat} {tL tH b L : Nat} {xs : Nat → Int32} {h h_now h_now_cells h_copy h_copy_cells h_past h_past_cells h_slots h_slots_cells h_saved h_text h_text_signs h_shown h_shown_signs hm hm_text hm_now hm_trial hm_diary hm_kept hm_isKept hm_line go : Nat} {C S : Nat} {X : SX → SM → (Nat → Int64) → Int32 → Prop} (C0 : xC p s m #[Value.ref b] meth c code 7 ret wsL_law RL D (xTY cI cC cZ cL)) (T0 : xT sf tL tH (fun q : Nat => s.heap.size ≤ q) s s.heap) (hNc : xNc s) (hl0 : l.stackTraces = false) (hX0 : va_X b L xs s s.heap) (hbl : b < s.heap.size) (hc1 : C + 1 ≤ room_1.cells ∧ S + 6 ≤ room_1.slots) (hX : ∀ (sx : SX) (sm : SM) (f_out : Nat → Int64) (v4 : Int32), X sx sm f_out v4 → ∀ (H : Heap) (locs : List Loc) (ls : Array Slot), va_P D vwCl [(h, .inr (4, [.ref h_now, .ref h_copy, .ref h_past, .ref h_slots, .ref h_saved, .ref h_text, .ref h_shown, .int sx.2.2.2.2.2.2.2.2.2.2.2.2.2.2.1, .int sx.2.2.2.2.2.2.2.2.2.2.2.2.2.2.2])), (h_now, .inr (3, [.ref h_now_cells])), (h_now_cells, .inl (cI, 400, .inl sx.1)), (h_copy, .inr (3, [.ref h_copy_cells])), (h_copy_cells, .inl (cI, 400, .inl sx.2.1)), (h_past, .inr (2, [.ref h_past_cells, .int 14])), (h_past_cells, .inl (cI, 5600, .inl sx.2.2.1)), (h_slots, .inr (2, [.ref h_slots_cells, .int 2])), (h_slots_cells, .inl (cI, 800, .inl sx.2.2.2.1)), (h_saved, .inl (cZ, 2, .inl sx.2.2.2.2.1)), (h_text, .inr (0, [.ref h_text_signs, .int sx.2.2.2.2.2.2.1, .int sx.2.2.2.2.2.2.2.1, .int sx.2.2.2.2.2.2.2.2.1, .int sx.2.2.2.2.2.2.2.2.2.1, .int sx.2.2.2.2.2.2.2.2.2.2.1, .int sx.2.2.2.2.2.2.2.2.2.2.2.1])), (h_text_signs, .inl (cC, 120, .inl sx.2.2.2.2.2.1)), (h_shown, .inr (1, [.ref h_shown_signs, .int sx.2.2.2.2.2.2.2.2.2.2.2.2.2.1])), (h_shown_signs, .inl (cC, 80, .inl sx.2.2.2.2.2.2.2.2.2.2.2.2.1)), (hm, .inr (5, [.int sm.1, .ref hm_text, .int sm.2.2.1, .ref hm_now, .ref hm_trial, .ref hm_diary, .int sm.2.2.2.2.2.2.1, .ref hm_kept, .ref hm_isKept, .ref hm_line, .int sm.2.2.2.2.2.2.2.2.2.2.1, .int sm.2.2.2.2.2.2.2.2.2.2.2.1, .int sm.2.2.2.2.2.2.2.2.2.2.2.2])), (hm_text, .inl (cI, 120, .inl sm.2.1)), (hm_now, .inl (cI, 377, .inl sm.2.2.2.1)), (hm_trial, .inl (cI, 377, .inl sm.2.2.2.2.1)), (hm_diary, .inl (cI, 5278, .inl sm.2.2.2.2.2.1)), (hm_kept, .inl (cI, 754, .inl sm.2.2.2.2.2.2.2.1)), (hm_isKept, .inl (cZ, 2, .inl sm.2.2.2.2.2.2.2.2.1)), (hm_line, .inl (cI, 60, .inl sm.2.2.2.2.2.2.2.2.2.1)), (go, .inl (cL, 1, .inr (.inl f_out)))] H → va_D (fun q : Nat => s.heap.size ≤ q) [(h, .inr (4, [.ref h_now, .ref h_copy, .ref h_past, .ref h_slots, .ref h_saved, .ref h_text, .ref h_shown, .int sx.2.2.2.2.2.2.2.2.2.2.2.2.2.2.1, .int sx.2.2.2.2.2.2.2.2.2.2.2.2.2.2.2])), (h_now, .inr (3, [.ref h_now_cells])), (h_now_cells, .inl (cI, 400, .inl sx.1)), (h_copy, .inr (3, [.ref h_copy_cells])), (h_copy_cells, .inl (cI, 400, .inl sx.2.1)), (h_past, .inr (2, [.ref h_past_cells, .int 14])), (h_past_cells, .inl (cI, 5600, .inl sx.2.2.1)), (h_slots, .inr (2, [.ref h_slots_cells, .int 2])), (h_slots_cells, .inl (cI, 800, .inl sx.2.2.2.1)), (h_saved, .inl (cZ, 2, .inl sx.2.2.2.2.1)), (h_text, .inr (0, [.ref h_text_signs, .int sx.2.2.2.2.2.2.1, .int sx.2.2.2.2.2.2.2.1, .int sx.2.2.2.2.2.2.2.2.1, .int sx.2.2.2.2.2.2.2.2.2.1, .int sx.2.2.2.2.2.2.2.2.2.2.1, .int sx.2.2.2.2.2.2.2.2.2.2.2.1])), (h_text_signs, .inl (cC, 120, .inl sx.2.2.2.2.2.1)), (h_shown, .inr (1, [.ref h_shown_signs, .int sx.2.2.2.2.2.2.2.2.2.2.2.2.2.1])), (h_shown_signs, .inl (cC, 80, .inl sx.2.2.2.2.2.2.2.2.2.2.2.2.1)), (hm, .inr (5, [.int sm.1, .ref hm_text, .int sm.2.2.1, .ref hm_now, .ref hm_trial, .ref hm_diary, .int sm.2.2.2.2.2.2.1, .ref hm_kept, .ref hm_isKept, .ref hm_line, .int sm.2.2.2.2.2.2.2.2.2.2.1, .int sm.2.2.2.2.2.2.2.2.2.2.2.1, .int sm.2.2.2.2.2.2.2.2.2.2.2.2])), (hm_text, .inl (cI, 120, .inl sm.2.1)), (hm_now, .inl (cI, 377, .inl sm.2.2.2.1)), (hm_trial, .inl (cI, 377, .inl sm.2.2.2.2.1)), (hm_diary, .inl (cI, 5278, .inl sm.2.2.2.2.2.1)), (hm_kept, .inl (cI, 754, .inl sm.2.2.2.2.2.2.2.1)), (hm_isKept, .inl (cZ, 2, .inl sm.2.2.2.2.2.2.2.2.1)), (hm_line, .inl (cI, 60, .inl sm.2.2.2.2.2.2.2.2.2.1)), (go, .inl (cL, 1, .inr (.inl f_out)))] → va_S (fun q : Nat => s.heap.size ≤ q) s.heap H locs → lv_has ls 7 [(0, .ref b), (1, .ref h), (2, .ref hm), (3, .ref go), (4, .int v4)] → W p l e room_1 s m #[Value.ref b] below meth c H locs (C + 1) (S + 6) (lw_Z below #[Value.ref b] s) (F0 m 23 ls [])) : ∀ (sx : SX) (sm : SM) (f_out : Nat → Int64) (v4 : Int32), xp_L_law_23 xs L X sx sm f_out v4 → ∀ (H : Heap) (locs : List Loc) (ls : Array Slot), va_P D vwCl [(h, .inr (4, [.ref h_now, .ref h_copy, .ref h_past, .ref h_slots, .ref h_saved, .ref h_text, .ref h_shown, .int sx.2.2.2.2.2.2.2.2.2.2.2.2.2.2.1, .int sx.2.2.2.2.2.2.2.2.2.2.2.2.2.2.2])), (h_now, .inr (3, [.ref h_now_cells])), (h_now_cells, .inl (cI, 400, .inl sx.1)), (h_copy, .inr (3, [.ref h_copy_cells])), (h_copy_cells, .inl (cI, 400, .inl sx.2.1)), (h_past, .inr (2, [.ref h_past_cells, .int 14])), (h_past_cells, .inl (cI, 5600, .inl sx.2.2.1)), (h_slots, .inr (2, [.ref h_slots_cells, .int 2])), (h_slots_cells, .inl (cI, 800, .inl sx.2.2.2.1)), (h_saved, .inl (cZ, 2, .inl sx.2.2.2.2.1)), (h_text, .inr (0, [.ref h_text_signs, .int sx.2.2.2.2.2.2.1, .int sx.2.2.2.2.2.2.2.1, .int sx.2.2.2.2.2.2.2.2.1, .int sx.2.2.2.2.2.2.2.2.2.1, .int sx.2.2.2.2.2.2.2.2.2.2.1, .int sx.2.2.2.2.2.2.2.2.2.2.2.1])), (h_text_signs, .inl (cC, 120, .inl sx.2.2.2.2.2.1)), (h_shown, .inr (1, [.ref h_shown_signs, .int sx.2.2.2.2.2.2.2.2.2.2.2.2.2.1])), (h_shown_signs, .inl (cC, 80, .inl sx.2.2.2.2.2.2.2.2.2.2.2.2.1)), (hm, .inr (5, [.int sm.1, .ref hm_text, .int sm.2.2.1, .ref hm_now, .ref hm_trial, .ref hm_diary, .int sm.2.2.2.2.2.2.1, .ref hm_kept, .ref hm_isKept, .ref hm_line, .int sm.2.2.2.2.2.2.2.2.2.2.1, .int sm.2.2.2.2.2.2.2.2.2.2.2.1, .int sm.2.2.2.2.2.2.2.2.2.2.2.2])), (hm_text, .inl (cI, 120, .inl sm.2.1)), (hm_now, .inl (cI, 377, .inl sm.2.2.2.1)), (hm_trial, .inl (cI, 377, .inl sm.2.2.2.2.1)), (hm_diary, .inl (cI, 5278, .inl sm.2.2.2.2.2.1)), (hm_kept, .inl (cI, 754, .inl sm.2.2.2.2.2.2.2.1)), (hm_isKept, .inl (cZ, 2, .inl sm.2.2.2.2.2.2.2.2.1)), (hm_line, .inl (cI, 60, .inl sm.2.2.2.2.2.2.2.2.2.1)), (go, .inl (cL, 1, .inr (.inl f_out)))] H → va_D (fun q : Nat => s.heap.size ≤ q) [(h, .inr (4, [.ref h_now, .ref h_copy, .ref h_past, .ref h_slots, .ref h_saved, .ref h_text, .ref h_shown, .int sx.2.2.2.2.2.2.2.2.2.2.2.2.2.2.1, .int sx.2.2.2.2.2.2.2.2.2.2.2.2.2.2.2])), (h_now, .inr (3, [.ref h_now_cells])), (h_now_cells, .inl (cI, 400, .inl sx.1)), (h_copy, .inr (3, [.ref h_copy_cells])), (h_copy_cells, .inl (cI, 400, .inl sx.2.1)), (h_past, .inr (2, [.ref h_past_cells, .int 14])), (h_past_cells, .inl (cI, 5600, .inl sx.2.2.1)), (h_slots, .inr (2, [.ref h_slots_cells, .int 2])), (h_slots_cells, .inl (cI, 800, .inl sx.2.2.2.1)), (h_saved, .inl (cZ, 2, .inl sx.2.2.2.2.1)), (h_text, .inr (0, [.ref h_text_signs, .int sx.2.2.2.2.2.2.1, .int sx.2.2.2.2.2.2.2.1, .int sx.2.2.2.2.2.2.2.2.1, .int sx.2.2.2.2.2.2.2.2.2.1, .int sx.2.2.2.2.2.2.2.2.2.2.1, .int sx.2.2.2.2.2.2.2.2.2.2.2.1])), (h_text_signs, .inl (cC, 120, .inl sx.2.2.2.2.2.1)), (h_shown, .inr (1, [.ref h_shown_signs, .int sx.2.2.2.2.2.2.2.2.2.2.2.2.2.1])), (h_shown_signs, .inl (cC, 80, .inl sx.2.2.2.2.2.2.2.2.2.2.2.2.1)), (hm, .inr (5, [.int sm.1, .ref hm_text, .int sm.2.2.1, .ref hm_now, .ref hm_trial, .ref hm_diary, .int sm.2.2.2.2.2.2.1, .ref hm_kept, .ref hm_isKept, .ref hm_line, .int sm.2.2.2.2.2.2.2.2.2.2.1, .int sm.2.2.2.2.2.2.2.2.2.2.2.1, .int sm.2.2.2.2.2.2.2.2.2.2.2.2])), (hm_text, .inl (cI, 120, .inl sm.2.1)), (hm_now, .inl (cI, 377, .inl sm.2.2.2.1)), (hm_trial, .inl (cI, 377, .inl sm.2.2.2.2.1)), (hm_diary, .inl (cI, 5278, .inl sm.2.2.2.2.2.1)), (hm_kept, .inl (cI, 754, .inl sm.2.2.2.2.2.2.2.1)), (hm_isKept, .inl (cZ, 2, .inl sm.2.2.2.2.2.2.2.2.1)), (hm_line, .inl (cI, 60, .inl sm.2.2.2.2.2.2.2.2.2.1)), (go, .inl (cL, 1, .inr (.inl f_out)))] → va_S (fun q : Nat => s.heap.size ≤ q) s.heap H locs → lv_has ls 7 [(0, .ref b), (1, .ref h), (2, .ref hm), (3, .ref go), (4, .int v4)] → W p l e room_1 s m #[Value.ref b] below meth c H locs C S (lw_Z below #[Value.ref b] s) (F0 m 23 ls []) := by
  obtain ⟨hx, hb, hr, hml, hown, hts, hlocks, hK, hN⟩ := id C0
  have hA : ∀ q : Nat, s.heap.size ≤ q → (fun q : Nat => s.heap.size ≤ q) q := fun _ h => h
  have hc0 : C ≤ room_1.cells ∧ S ≤ room_1.slots := ⟨by omega, by omega⟩
  have hcZ : C ≤ 601024 ∧ S ≤ 7293033 := hc0
  intro sx sm f_out v4 hk H locs ls hP hD hS hl
  rw [xp_L_law_23] at hk
  refine lv_iload hx hb dL_law_23 (lv_at hl 4 rfl) ?_
  refine lv_aload_n hx hb dL_law_25 rfl (lv_at hl 0 rfl) ?_
  refine va_slen hx hb hX0 hbl (Nat.not_le.mpr hbl) hS dL_law_26 ?_
  refine lv_iconst (v := 5) hx hb dL_law_27 (by decide) ?_
  refine lv_isub hx hb dL_law_28 ?_
  refine lv_icmp_gt (tgt := 2017) hx hb dL_law_29 (by decide) (fun c1 => ?_) (fun c1 => ?_)
  · have hk := hk.1 c1
    refine lv_iconst (v := 1) hx hb dL_law_2017 (by decide) ?_
    refine va_forget (fun q hq => hS.2.2 q hq) ?_
    refine W.widen (k := 601024) (n := 7293033) hcZ.1 hcZ.2 ?_
    exact lw_ret hx hb hr hlocks dL_law_2018
  · have hk := hk.2 c1
    refine lv_aload_n hx hb dL_law_32 rfl (lv_at hl 0 rfl) ?_
    refine lv_iload hx hb dL_law_33 (lv_at hl 4 rfl) ?_
    refine va_sld hx hb hX0 hbl (Nat.not_le.mpr hbl) hS hk.1 dL_law_35 ?_
    have hk := hk.2
    refine lv_bipush (v := 63) hx hb dL_law_36 (by decide) ?_
    refine lv_iand hx hb dL_law_38 ?_
    by_cases c3 : ((xs v4.toNatClampNeg) &&& 63) = 0
    · have hk := hk.1 c3
      refine lv_tableIn (x := ((xs v4.toNatClampNeg) &&& 63)) (off := 149) (tgt := 188) hx hb dL_law_39 (by rw [c3]; decide) (by rw [c3]; decide) (by rw [c3]; rfl) (by decide) ?_
      exact xb_L_law_188 C0 T0 hNc hl0 hX0 hbl hc1 hX sx sm f_out _ hk H locs ls hP hD hS (lv_sub hl [0, 1, 2, 3, 4] rfl)
    have hk := hk.2 c3
    by_cases c4 : ((xs v4.toNatClampNeg) &&& 63) = 1
    · have hk := hk.1 c4
      refine lv_tableIn (x := ((xs v4.toNatClampNeg) &&& 63)) (off := 205) (tgt := 244) hx hb dL_law_39 (by rw [c4]; decide) (by rw [c4]; decide) (by rw [c4]; rfl) (by decide) ?_
      exact xb_L_law_244 C0 T0 hNc hl0 hX0 hbl hc1 hX sx sm f_out _ hk H locs ls hP hD hS (lv_sub hl [0, 1, 2, 3, 4] rfl)
    have hk := hk.2 c4
    by_cases c5 : ((xs v4.toNatClampNeg) &&& 63) = 2
    · have hk := hk.1 c5
      refine lv_tableIn (x := ((xs v4.toNatClampNeg) &&& 63)) (off := 218) (tgt := 257) hx hb dL_law_39 (by rw [c5]; decide) (by rw [c5]; decide) (by rw [c5]; rfl) (by decide) ?_
      exact xb_L_law_257 C0 T0 hNc hl0 hX0 hbl hc1 hX sx sm f_out _ hk H locs ls hP hD hS (lv_sub hl [0, 1, 2, 3, 4] rfl)
    have hk := hk.2 c5
    by_cases c6 : ((xs v4.toNatClampNeg) &&& 63) = 3
    · have hk := hk.1 c6
      refine lv_tableIn (x := ((xs v4.toNatClampNeg) &&& 63)) (off := 231) (tgt := 270) hx hb dL_law_39 (by rw [c6]; decide) (by rw [c6]; decide) (by rw [c6]; rfl) (by decide) ?_
      exact xb_L_law_270 C0 T0 hNc hl0 hX0 hbl hc1 hX sx sm f_out _ hk H locs ls hP hD hS (lv_sub hl [0, 1, 2, 3, 4] rfl)
    have hk := hk.2 c6
    by_cases c7 : ((xs v4.toNatClampNeg) &&& 63) = 4
    · have hk := hk.1 c7
      refine lv_tableIn (x := ((xs v4.toNatClampNeg) &&& 63)) (off := 275) (tgt := 314) hx hb dL_law_39 (by rw [c7]; decide) (by rw [c7]; decide) (by rw [c7]; rfl) (by decide) ?_
      exact xb_L_law_314 C0 T0 hNc hl0 hX0 hbl hc1 hX sx sm f_out _ hk H locs ls hP hD hS (lv_sub hl [0, 1, 2, 3, 4] rfl)
    have hk := hk.2 c7
    by_cases c8 : ((xs v4.toNatClampNeg) &&& 63) = 5
    · have hk := hk.1 c8
      refine lv_tableIn (x := ((xs v4.toNatClampNeg) &&& 63)) (off := 331) (tgt := 370) hx hb dL_law_39 (by rw [c8]; decide) (by rw [c8]; decide) (by rw [c8]; rfl) (by decide) ?_
      exact xb_L_law_370 C0 T0 hNc hl0 hX0 hbl hc1 hX sx sm f_out _ hk H locs ls hP hD hS (lv_sub hl [0, 1, 2, 3, 4] rfl)
    have hk := hk.2 c8
    by_cases c9 : ((xs v4.toNatClampNeg) &&& 63) = 6
    · have hk := hk.1 c9
      refine lv_tableIn (x := ((xs v4.toNatClampNeg) &&& 63)) (off := 399) (tgt := 438) hx hb dL_law_39 (by rw [c9]; decide) (by rw [c9]; decide) (by rw [c9]; rfl) (by decide) ?_
      exact xb_L_law_438 C0 T0 hNc hl0 hX0 hbl hc1 hX sx sm f_out _ hk H locs ls hP hD hS (lv_sub hl [0, 1, 2, 3, 4] rfl)
    have hk := hk.2 c9
    by_cases c10 : ((xs v4.toNatClampNeg) &&& 63) = 7
    · have hk := hk.1 c10
      refine lv_tableIn (x := ((xs v4.toNatClampNeg) &&& 63)) (off := 467) (tgt := 506) hx hb dL_law_39 (by rw [c10]; decide) (by rw [c10]; decide) (by rw [c10]; rfl) (by decide) ?_
      exact xb_L_law_506 C0 T0 hNc hl0 hX0 hbl hc1 hX sx sm f_out _ hk H locs ls hP hD hS (lv_sub hl [0, 1, 2, 3, 4] rfl)
    have hk := hk.2 c10
    by_cases c11 : ((xs v4.toNatClampNeg) &&& 63) = 8
    · have hk := hk.1 c11
      refine lv_tableIn (x := ((xs v4.toNatClampNeg) &&& 63)) (off := 523) (tgt := 562) hx hb dL_law_39 (by rw [c11]; decide) (by rw [c11]; decide) (by rw [c11]; rfl) (by decide) ?_
      exact xb_L_law_562 C0 T0 hNc hl0 hX0 hbl hc1 hX sx sm f_out _ hk H locs ls hP hD hS (lv_sub hl [0, 1, 2, 3, 4] rfl)
    have hk := hk.2 c11
    by_cases c12 : ((xs v4.toNatClampNeg) &&& 63) = 9
    · have hk := hk.1 c12
      refine lv_tableIn (x := ((xs v4.toNatClampNeg) &&& 63)) (off := 591) (tgt := 630) hx hb dL_law_39 (by rw [c12]; decide) (by rw [c12]; decide) (by rw [c12]; rfl) (by decide) ?_
      exact xb_L_law_630 C0 T0 hNc hl0 hX0 hbl hc1 hX sx sm f_out _ hk H locs ls hP hD hS (lv_sub hl [0, 1, 2, 3, 4] rfl)
    have hk := hk.2 c12
    by_cases c13 : ((xs v4.toNatClampNeg) &&& 63) = 10
    · have hk := hk.1 c13
      refine lv_tableIn (x := ((xs v4.toNatClampNeg) &&& 63)) (off := 671) (tgt := 710) hx hb dL_law_39 (by rw [c13]; decide) (by rw [c13]; decide) (by rw [c13]; rfl) (by decide) ?_
      exact xb_L_law_710 C0 T0 hNc hl0 hX0 hbl hc1 hX sx sm f_out _ hk H locs ls hP hD hS (lv_sub hl [0, 1, 2, 3, 4] rfl)
    have hk := hk.2 c13
    by_cases c14 : ((xs v4.toNatClampNeg) &&& 63) = 11
    · have hk := hk.1 c14
      refine lv_tableIn (x := ((xs v4.toNatClampNeg) &&& 63)) (off := 684) (tgt := 723) hx hb dL_law_39 (by rw [c14]; decide) (by rw [c14]; decide) (by rw [c14]; rfl) (by decide) ?_
      exact xb_L_law_723 C0 T0 hNc hl0 hX0 hbl hc1 hX sx sm f_out _ hk H locs ls hP hD hS (lv_sub hl [0, 1, 2, 3, 4] rfl)
    have hk := hk.2 c14
    by_cases c15 : ((xs v4.toNatClampNeg) &&& 63) = 12
    · have hk := hk.1 c15
      refine lv_tableIn (x := ((xs v4.toNatClampNeg) &&& 63)) (off := 768) (tgt := 807) hx hb dL_law_39 (by rw [c15]; decide) (by rw [c15]; decide) (by rw [c15]; rfl) (by decide) ?_
      exact xb_L_law_807 C0 T0 hNc hl0 hX0 hbl hc1 hX sx sm f_out _ hk H locs ls hP hD hS (lv_sub hl [0, 1, 2, 3, 4] rfl)
    have hk := hk.2 c15
    by_cases c16 : ((xs v4.toNatClampNeg) &&& 63) = 13
    · have hk := hk.1 c16
      refine lv_tableIn (x := ((xs v4.toNatClampNeg) &&& 63)) (off := 781) (tgt := 820) hx hb dL_law_39 (by rw [c16]; decide) (by rw [c16]; decide) (by rw [c16]; rfl) (by decide) ?_
      exact xb_L_law_820 C0 T0 hNc hl0 hX0 hbl hc1 hX sx sm f_out _ hk H locs ls hP hD hS (lv_sub hl [0, 1, 2, 3, 4] rfl)
    have hk := hk.2 c16
    by_cases c17 : ((xs v4.toNatClampNeg) &&& 63) = 14
    · have hk := hk.1 c17
      refine lv_tableIn (x := ((xs v4.toNatClampNeg) &&& 63)) (off := 794) (tgt := 833) hx hb dL_law_39 (by rw [c17]; decide) (by rw [c17]; decide) (by rw [c17]; rfl) (by decide) ?_
      exact xb_L_law_833 C0 T0 hNc hl0 hX0 hbl hc1 hX sx sm f_out _ hk H locs ls hP hD hS (lv_sub hl [0, 1, 2, 3, 4] rfl)
    have hk := hk.2 c17
    by_cases c18 : ((xs v4.toNatClampNeg) &&& 63) = 15
    · have hk := hk.1 c18
      refine lv_tableIn (x := ((xs v4.toNatClampNeg) &&& 63)) (off := 878) (tgt := 917) hx hb dL_law_39 (by rw [c18]; decide) (by rw [c18]; decide) (by rw [c18]; rfl) (by decide) ?_
      exact xb_L_law_917 C0 T0 hNc hl0 hX0 hbl hc1 hX sx sm f_out _ hk H locs ls hP hD hS (lv_sub hl [0, 1, 2, 3, 4] rfl)
    have hk := hk.2 c18
    by_cases c19 : ((xs v4.toNatClampNeg) &&& 63) = 16
    · have hk := hk.1 c19
      refine lv_tableIn (x := ((xs v4.toNatClampNeg) &&& 63)) (off := 962) (tgt := 1001) hx hb dL_law_39 (by rw [c19]; decide) (by rw [c19]; decide) (by rw [c19]; rfl) (by decide) ?_
      exact xb_L_law_1001 C0 T0 hNc hl0 hX0 hbl hc1 hX sx sm f_out _ hk H locs ls hP hD hS (lv_sub hl [0, 1, 2, 3, 4] rfl)
    have hk := hk.2 c19
    by_cases c20 : ((xs v4.toNatClampNeg) &&& 63) = 17
    · have hk := hk.1 c20
      refine lv_tableIn (x := ((xs v4.toNatClampNeg) &&& 63)) (off := 1018) (tgt := 1057) hx hb dL_law_39 (by rw [c20]; decide) (by rw [c20]; decide) (by rw [c20]; rfl) (by decide) ?_
      exact xb_L_law_1057 C0 T0 hNc hl0 hX0 hbl hc1 hX sx sm f_out _ hk H locs ls hP hD hS (lv_sub hl [0, 1, 2, 3, 4] rfl)
    have hk := hk.2 c20
    by_cases c21 : ((xs v4.toNatClampNeg) &&& 63) = 18
    · have hk := hk.1 c21
      refine lv_tableIn (x := ((xs v4.toNatClampNeg) &&& 63)) (off := 1074) (tgt := 1113) hx hb dL_law_39 (by rw [c21]; decide) (by rw [c21]; decide) (by rw [c21]; rfl) (by decide) ?_
      exact xb_L_law_1113 C0 T0 hNc hl0 hX0 hbl hc1 hX sx sm f_out _ hk H locs ls hP hD hS (lv_sub hl [0, 1, 2, 3, 4] rfl)
    have hk := hk.2 c21
    by_cases c22 : ((xs v4.toNatClampNeg) &&& 63) = 19
    · have hk := hk.1 c22
      refine lv_tableIn (x := ((xs v4.toNatClampNeg) &&& 63)) (off := 1142) (tgt := 1181) hx hb dL_law_39 (by rw [c22]; decide) (by rw [c22]; decide) (by rw [c22]; rfl) (by decide) ?_
      exact xb_L_law_1181 C0 T0 hNc hl0 hX0 hbl hc1 hX sx sm f_out _ hk H locs ls hP hD hS (lv_sub hl [0, 1, 2, 3, 4] rfl)
    have hk := hk.2 c22
    by_cases c23 : ((xs v4.toNatClampNeg) &&& 63) = 20
    · have hk := hk.1 c23
      refine lv_tableIn (x := ((xs v4.toNatClampNeg) &&& 63)) (off := 1186) (tgt := 1225) hx hb dL_law_39 (by rw [c23]; decide) (by rw [c23]; decide) (by rw [c23]; rfl) (by decide) ?_
      exact xb_L_law_1225 C0 T0 hNc hl0 hX0 hbl hc1 hX sx sm f_out _ hk H locs ls hP hD hS (lv_sub hl [0, 1, 2, 3, 4] rfl)
    have hk := hk.2 c23
    by_cases c24 : ((xs v4.toNatClampNeg) &&& 63) = 21
    · have hk := hk.1 c24
      refine lv_tableIn (x := ((xs v4.toNatClampNeg) &&& 63)) (off := 1263) (tgt := 1302) hx hb dL_law_39 (by rw [c24]; decide) (by rw [c24]; decide) (by rw [c24]; rfl) (by decide) ?_
      exact xb_L_law_1302 C0 T0 hNc hl0 hX0 hbl hc1 hX sx sm f_out _ hk H locs ls hP hD hS (lv_sub hl [0, 1, 2, 3, 4] rfl)
    have hk := hk.2 c24
    by_cases c25 : ((xs v4.toNatClampNeg) &&& 63) = 22
    · have hk := hk.1 c25
      refine lv_tableIn (x := ((xs v4.toNatClampNeg) &&& 63)) (off := 1300) (tgt := 1339) hx hb dL_law_39 (by rw [c25]; decide) (by rw [c25]; decide) (by rw [c25]; rfl) (by decide) ?_
      exact xb_L_law_1339 C0 T0 hNc hl0 hX0 hbl hc1 hX sx sm f_out _ hk H locs ls hP hD hS (lv_sub hl [0, 1, 2, 3, 4] rfl)
    have hk := hk.2 c25
    by_cases c26 : ((xs v4.toNatClampNeg) &&& 63) = 23
    · have hk := hk.1 c26
      refine lv_tableIn (x := ((xs v4.toNatClampNeg) &&& 63)) (off := 1337) (tgt := 1376) hx hb dL_law_39 (by rw [c26]; decide) (by rw [c26]; decide) (by rw [c26]; rfl) (by decide) ?_
      exact xb_L_law_1376 C0 T0 hNc hl0 hX0 hbl hc1 hX sx sm f_out _ hk H locs ls hP hD hS (lv_sub hl [0, 1, 2, 3, 4] rfl)
    have hk := hk.2 c26
    by_cases c27 : ((xs v4.toNatClampNeg) &&& 63) = 24
    · have hk := hk.1 c27
      refine lv_tableIn (x := ((xs v4.toNatClampNeg) &&& 63)) (off := 1362) (tgt := 1401) hx hb dL_law_39 (by rw [c27]; decide) (by rw [c27]; decide) (by rw [c27]; rfl) (by decide) ?_
      exact xb_L_law_1401 C0 T0 hNc hl0 hX0 hbl hc1 hX sx sm f_out _ hk H locs ls hP hD hS (lv_sub hl [0, 1, 2, 3, 4] rfl)
    have hk := hk.2 c27
    by_cases c28 : ((xs v4.toNatClampNeg) &&& 63) = 25
    · have hk := hk.1 c28
      refine lv_tableIn (x := ((xs v4.toNatClampNeg) &&& 63)) (off := 1399) (tgt := 1438) hx hb dL_law_39 (by rw [c28]; decide) (by rw [c28]; decide) (by rw [c28]; rfl) (by decide) ?_
      exact xb_L_law_1438 C0 T0 hNc hl0 hX0 hbl hc1 hX sx sm f_out _ hk H locs ls hP hD hS (lv_sub hl [0, 1, 2, 3, 4] rfl)
    have hk := hk.2 c28
    by_cases c29 : ((xs v4.toNatClampNeg) &&& 63) = 26
    · have hk := hk.1 c29
      refine lv_tableIn (x := ((xs v4.toNatClampNeg) &&& 63)) (off := 1455) (tgt := 1494) hx hb dL_law_39 (by rw [c29]; decide) (by rw [c29]; decide) (by rw [c29]; rfl) (by decide) ?_
      exact xb_L_law_1494 C0 T0 hNc hl0 hX0 hbl hc1 hX sx sm f_out _ hk H locs ls hP hD hS (lv_sub hl [0, 1, 2, 3, 4] rfl)
    have hk := hk.2 c29
    by_cases c30 : ((xs v4.toNatClampNeg) &&& 63) = 27
    · have hk := hk.1 c30
      refine lv_tableIn (x := ((xs v4.toNatClampNeg) &&& 63)) (off := 1468) (tgt := 1507) hx hb dL_law_39 (by rw [c30]; decide) (by rw [c30]; decide) (by rw [c30]; rfl) (by decide) ?_
      exact xb_L_law_1507 C0 T0 hNc hl0 hX0 hbl hc1 hX sx sm f_out _ hk H locs ls hP hD hS (lv_sub hl [0, 1, 2, 3, 4] rfl)
    have hk := hk.2 c30
    by_cases c31 : ((xs v4.toNatClampNeg) &&& 63) = 28
    · have hk := hk.1 c31
      refine lv_tableIn (x := ((xs v4.toNatClampNeg) &&& 63)) (off := 1536) (tgt := 1575) hx hb dL_law_39 (by rw [c31]; decide) (by rw [c31]; decide) (by rw [c31]; rfl) (by decide) ?_
      exact xb_L_law_1575 C0 T0 hNc hl0 hX0 hbl hc1 hX sx sm f_out _ hk H locs ls hP hD hS (lv_sub hl [0, 1, 2, 3, 4] rfl)
    have hk := hk.2 c31
    by_cases c32 : ((xs v4.toNatClampNeg) &&& 63) = 29
    · have hk := hk.1 c32
      refine lv_tableIn (x := ((xs v4.toNatClampNeg) &&& 63)) (off := 1592) (tgt := 1631) hx hb dL_law_39 (by rw [c32]; decide) (by rw [c32]; decide) (by rw [c32]; rfl) (by decide) ?_
      exact xb_L_law_1631 C0 T0 hNc hl0 hX0 hbl hc1 hX sx sm f_out _ hk H locs ls hP hD hS (lv_sub hl [0, 1, 2, 3, 4] rfl)
    have hk := hk.2 c32
    by_cases c33 : ((xs v4.toNatClampNeg) &&& 63) = 30
    · have hk := hk.1 c33
      refine lv_tableIn (x := ((xs v4.toNatClampNeg) &&& 63)) (off := 1660) (tgt := 1699) hx hb dL_law_39 (by rw [c33]; decide) (by rw [c33]; decide) (by rw [c33]; rfl) (by decide) ?_
      exact xb_L_law_1699 C0 T0 hNc hl0 hX0 hbl hc1 hX sx sm f_out _ hk H locs ls hP hD hS (lv_sub hl [0, 1, 2, 3, 4] rfl)
    have hk := hk.2 c33
    by_cases c34 : ((xs v4.toNatClampNeg) &&& 63) = 31
    · have hk := hk.1 c34
      refine lv_tableIn (x := ((xs v4.toNatClampNeg) &&& 63)) (off := 1760) (tgt := 1799) hx hb dL_law_39 (by rw [c34]; decide) (by rw [c34]; decide) (by rw [c34]; rfl) (by decide) ?_
      exact xb_L_law_1799 C0 T0 hNc hl0 hX0 hbl hc1 hX sx sm f_out _ hk H locs ls hP hD hS (lv_sub hl [0, 1, 2, 3, 4] rfl)
    have hk := hk.2 c34
    by_cases c35 : ((xs v4.toNatClampNeg) &&& 63) = 32
    · have hk := hk.1 c35
      refine lv_tableIn (x := ((xs v4.toNatClampNeg) &&& 63)) (off := 1860) (tgt := 1899) hx hb dL_law_39 (by rw [c35]; decide) (by rw [c35]; decide) (by rw [c35]; rfl) (by decide) ?_
      exact xb_L_law_1899 C0 T0 hNc hl0 hX0 hbl hc1 hX sx sm f_out _ hk H locs ls hP hD hS (lv_sub hl [0, 1, 2, 3, 4] rfl)
    have hk := hk.2 c35
    by_cases c36 : ((xs v4.toNatClampNeg) &&& 63) = 33
    · have hk := hk.1 c36
      refine lv_tableIn (x := ((xs v4.toNatClampNeg) &&& 63)) (off := 1916) (tgt := 1955) hx hb dL_law_39 (by rw [c36]; decide) (by rw [c36]; decide) (by rw [c36]; rfl) (by decide) ?_
      exact xb_L_law_1955 C0 T0 hNc hl0 hX0 hbl hc1 hX sx sm f_out _ hk H locs ls hP hD hS (lv_sub hl [0, 1, 2, 3, 4] rfl)
    have hk := hk.2 c36
    have ec3 := x_ne c3 (k := 0) rfl
    have ec4 := x_ne c4 (k := 1) rfl
    have ec5 := x_ne c5 (k := 2) rfl
    have ec6 := x_ne c6 (k := 3) rfl
    have ec7 := x_ne c7 (k := 4) rfl
    have ec8 := x_ne c8 (k := 5) rfl
    have ec9 := x_ne c9 (k := 6) rfl
    have ec10 := x_ne c10 (k := 7) rfl
    have ec11 := x_ne c11 (k := 8) rfl
    have ec12 := x_ne c12 (k := 9) rfl
    have ec13 := x_ne c13 (k := 10) rfl
    have ec14 := x_ne c14 (k := 11) rfl
    have ec15 := x_ne c15 (k := 12) rfl
    have ec16 := x_ne c16 (k := 13) rfl
    have ec17 := x_ne c17 (k := 14) rfl
    have ec18 := x_ne c18 (k := 15) rfl
    have ec19 := x_ne c19 (k := 16) rfl
    have ec20 := x_ne c20 (k := 17) rfl
    have ec21 := x_ne c21 (k := 18) rfl
    have ec22 := x_ne c22 (k := 19) rfl
    have ec23 := x_ne c23 (k := 20) rfl
    have ec24 := x_ne c24 (k := 21) rfl
    have ec25 := x_ne c25 (k := 22) rfl
    have ec26 := x_ne c26 (k := 23) rfl
    have ec27 := x_ne c27 (k := 24) rfl
    have ec28 := x_ne c28 (k := 25) rfl
    have ec29 := x_ne c29 (k := 26) rfl
    have ec30 := x_ne c30 (k := 27) rfl
    have ec31 := x_ne c31 (k := 28) rfl
    have ec32 := x_ne c32 (k := 29) rfl
    have ec33 := x_ne c33 (k := 30) rfl
    have ec34 := x_ne c34 (k := 31) rfl
    have ec35 := x_ne c35 (k := 32) rfl
    have ec36 := x_ne c36 (k := 33) rfl
    refine lv_tableOut (x := ((xs v4.toNatClampNeg) &&& 63)) (tgt := 2011) hx hb dL_law_39 (by omega) (by decide) ?_
    refine lv_iinc (v := (v4 + 5)) (lv' := [(4, .int (v4 + 5)), (0, .ref b), (1, .ref h), (2, .ref hm), (3, .ref go)]) hx hb dL_law_2011 hl (k := 4) rfl rfl (by decide) rfl (fun ls hl => ?_)
    refine lv_goto (tgt := 23) hx hb dL_law_2014 (by decide) ?_
    refine W.widen (k := C + 1) (n := S + 6) (by omega) (by omega) ?_
    exact hX sx sm f_out _ hk H locs ls hP hD hS (lv_sub hl [1, 2, 3, 4, 0] rfl)
