set_option maxRecDepth 20000 in
theorem xin_X4_clearText_X0 : ∀ w ∈ u_ws RX0 TX0 7, w ∈ wsX4_clearText := by decide +kernel
set_option maxRecDepth 20000 in
theorem xin_X4_clearText_X4 : ∀ w ∈ u_ws RX4 TX4 9, w ∈ wsX4_clearText := by decide +kernel
set_option maxHeartbeats 4000000 in
set_option maxRecDepth 100000 in
theorem xb_X4_clearText_0 {p : Program} {l : Launch} {e : Env} {s : State} {m : MethodId} {args : Array Value} {below : List Frame} {meth : Method} {c : Code} {A : Nat → Prop} {D : va_G} {cI cC cZ cL : ClassId} {h h_now h_copy h_past h_slots h_saved h_text h_shown h_text_signs : Nat}  {f_remembered : Int32} {f_oldest : Int32} {f_text_at : Int32} {f_text_command : Int32} {f_text_scene : Int32} {f_text_letter : Int32} {f_text_number : Int32} {K : Int32 → Int32 → Prop}  (C0 : xC p s m args meth c cX4_clearText 1 (some .int) wsX4_clearText RX4 D (xTY cI cC cZ cL)) (hA : ∀ q : Nat, s.heap.size ≤ q → A q)  : ∀ (f_text_length : Int32) , xp_X4_clearText f_text_length K → ∀ (H : Heap) (locs : List Loc) (ls : Array Slot), va_P D vwCl [(h, .inr (4, [.ref h_now, .ref h_copy, .ref h_past, .ref h_slots, .ref h_saved, .ref h_text, .ref h_shown, .int f_remembered, .int f_oldest])), (h_text, .inr (0, [.ref h_text_signs, .int f_text_length, .int f_text_at, .int f_text_command, .int f_text_scene, .int f_text_letter, .int f_text_number]))] H → va_D A [(h, .inr (4, [.ref h_now, .ref h_copy, .ref h_past, .ref h_slots, .ref h_saved, .ref h_text, .ref h_shown, .int f_remembered, .int f_oldest])), (h_text, .inr (0, [.ref h_text_signs, .int f_text_length, .int f_text_at, .int f_text_command, .int f_text_scene, .int f_text_letter, .int f_text_number]))] → va_S A s.heap H locs → lv_has ls 1 [(0, .ref h)] → W p l e ({ frames := 1, cells := 0, slots := 0, locals := 21 } : Room) s m args below meth c H locs 0 0 (MQ below (va_Qi (fun (r : Int32) (u : Int32) => K r u) (fun u t => xE D A ((fun (u : Int32) => [(h, .inr (4, [.ref h_now, .ref h_copy, .ref h_past, .ref h_slots, .ref h_saved, .ref h_text, .ref h_shown, .int f_remembered, .int f_oldest])), (h_text, .inr (0, [.ref h_text_signs, .int u, .int f_text_at, .int f_text_command, .int f_text_scene, .int f_text_letter, .int f_text_number]))]) u) t) A) args s 0 0 A) (F0 m 0 ls []) := by
  obtain ⟨hx, hb, hr, hml, hown, hts, hlocks, hK, hN⟩ := id C0
  intro f_text_length hk H locs ls hP hD hS hl
  rw [xp_X4_clearText] at hk
  refine lv_aload_n hx hb dX4_clearText_0 rfl (lv_at hl 0 rfl) ?_
  refine va_get (D := D) (ci := 4) (v := .ref h_text) (C := RX4) (T := TX4) (N := 9) hx hb hts xin_X4_clearText_X4 hown hK hP 0 rfl rfl 5 (by decide) (hts (.fieldLink RX4 38 "TakeLog" "text" "LTakeLog$Day;") (by decide +kernel)) (fun _ h9 => h9) rfl dX4_clearText_1 ?_
  refine x_joini (ws1 := fun (u1 : Int32) => [(h, .inr (4, [.ref h_now, .ref h_copy, .ref h_past, .ref h_slots, .ref h_saved, .ref h_text, .ref h_shown, .int f_remembered, .int f_oldest])), (h_text, .inr (0, [.ref h_text_signs, .int u1, .int f_text_at, .int f_text_command, .int f_text_scene, .int f_text_letter, .int f_text_number]))]) (x_runV (n0 := 0) (As := []) (rest := []) C0 (xc_X0_empty l D cI cC cZ cL h_text h_text_signs H.size f_text_length f_text_at f_text_command f_text_scene f_text_letter f_text_number _ hk) gX4_clearText_X0_empty rfl ⟨rfl, rfl⟩ (by decide +kernel) rfl ⟨by decide, by decide⟩ ⟨Nat.zero_le _, Nat.zero_le _⟩ hP hD [1] rfl rfl (k := 1) rfl rfl rfl hl.1 rfl (Nat.le_of_ble_eq_true rfl) dX4_clearText_4) hP hD hS hA [1] [0] [0, 1] rfl rfl rfl (by decide) (fun _ => rfl) rfl (fun r1 u1 H locs hk hP hD hS => ?_)
  exact x_reti C0 (u1) hk hP hD hS dX4_clearText_7
theorem xc_X4_clearText (l : Launch) (D : va_G) (cI cC cZ cL : ClassId) (h h_now h_copy h_past h_slots h_saved h_text h_shown h_text_signs : Nat)  (sz : Nat) (f_remembered : Int32) (f_oldest : Int32) (f_text_length : Int32) (f_text_at : Int32) (f_text_command : Int32) (f_text_scene : Int32) (f_text_letter : Int32) (f_text_number : Int32)  (K : Int32 → Int32 → Prop) (hk : xp_X4_clearText f_text_length K) : XMi l yX4_clearText wsX4_clearText ({ frames := 1, cells := 0, slots := 0, locals := 21 } : Room) D (xTY cI cC cZ cL) [.ref h] [(h, .inr (4, [.ref h_now, .ref h_copy, .ref h_past, .ref h_slots, .ref h_saved, .ref h_text, .ref h_shown, .int f_remembered, .int f_oldest])), (h_text, .inr (0, [.ref h_text_signs, .int f_text_length, .int f_text_at, .int f_text_command, .int f_text_scene, .int f_text_letter, .int f_text_number]))] sz (fun (r : Int32) (u : Int32) => K r u) (fun (u : Int32) => [(h, .inr (4, [.ref h_now, .ref h_copy, .ref h_past, .ref h_slots, .ref h_saved, .ref h_text, .ref h_shown, .int f_remembered, .int f_oldest])), (h_text, .inr (0, [.ref h_text_signs, .int u, .int f_text_at, .int f_text_command, .int f_text_scene, .int f_text_letter, .int f_text_number]))]) :=
  x_enter (cc := cX4_clearText) (maxL := 1) (ret := (some .int)) (own := RX4) (by decide) rfl rfl (Nat.le_of_ble_eq_true rfl) (fun p e s m below meth c ls C0 hA hP hD hS hl => xb_X4_clearText_0 C0 hA _ hk s.heap [] ls hP hD hS hl)
set_option maxRecDepth 20000 in
theorem xin_X4_errorPosition_X0 : ∀ w ∈ u_ws RX0 TX0 7, w ∈ wsX4_errorPosition := by decide +kernel
set_option maxRecDepth 20000 in
theorem xin_X4_errorPosition_X4 : ∀ w ∈ u_ws RX4 TX4 9, w ∈ wsX4_errorPosition := by decide +kernel
set_option maxHeartbeats 4000000 in
set_option maxRecDepth 100000 in
theorem xb_X4_errorPosition_0 {p : Program} {l : Launch} {e : Env} {s : State} {m : MethodId} {args : Array Value} {below : List Frame} {meth : Method} {c : Code} {A : Nat → Prop} {D : va_G} {cI cC cZ cL : ClassId} {h h_now h_copy h_past h_slots h_saved h_text h_shown h_text_signs : Nat}  {f_remembered : Int32} {f_oldest : Int32} {f_text_length : Int32} {f_text_signs : Nat → Int32} {K : Int32 → (Int32 × Int32 × Int32 × Int32 × Int32) → Prop}  (C0 : xC p s m args meth c cX4_errorPosition 1 (some .int) wsX4_errorPosition RX4 D (xTY cI cC cZ cL)) (hA : ∀ q : Nat, s.heap.size ≤ q → A q)  : ∀ (f_text_at : Int32) (f_text_command : Int32) (f_text_scene : Int32) (f_text_letter : Int32) (f_text_number : Int32) , xp_X4_errorPosition f_text_signs f_text_length f_text_at f_text_command f_text_scene f_text_letter f_text_number K → ∀ (H : Heap) (locs : List Loc) (ls : Array Slot), va_P D vwCl [(h, .inr (4, [.ref h_now, .ref h_copy, .ref h_past, .ref h_slots, .ref h_saved, .ref h_text, .ref h_shown, .int f_remembered, .int f_oldest])), (h_text, .inr (0, [.ref h_text_signs, .int f_text_length, .int f_text_at, .int f_text_command, .int f_text_scene, .int f_text_letter, .int f_text_number])), (h_text_signs, .inl (cC, 120, .inl f_text_signs))] H → va_D A [(h, .inr (4, [.ref h_now, .ref h_copy, .ref h_past, .ref h_slots, .ref h_saved, .ref h_text, .ref h_shown, .int f_remembered, .int f_oldest])), (h_text, .inr (0, [.ref h_text_signs, .int f_text_length, .int f_text_at, .int f_text_command, .int f_text_scene, .int f_text_letter, .int f_text_number])), (h_text_signs, .inl (cC, 120, .inl f_text_signs))] → va_S A s.heap H locs → lv_has ls 1 [(0, .ref h)] → W p l e ({ frames := 5, cells := 0, slots := 0, locals := 110 } : Room) s m args below meth c H locs 0 0 (MQ below (va_Qi (fun (r : Int32) (u : Int32 × Int32 × Int32 × Int32 × Int32) => K r u) (fun u t => xE D A ((fun (u : Int32 × Int32 × Int32 × Int32 × Int32) => [(h, .inr (4, [.ref h_now, .ref h_copy, .ref h_past, .ref h_slots, .ref h_saved, .ref h_text, .ref h_shown, .int f_remembered, .int f_oldest])), (h_text, .inr (0, [.ref h_text_signs, .int f_text_length, .int u.1, .int u.2.1, .int u.2.2.1, .int u.2.2.2.1, .int u.2.2.2.2])), (h_text_signs, .inl (cC, 120, .inl f_text_signs))]) u) t) A) args s 0 0 A) (F0 m 0 ls []) := by
  obtain ⟨hx, hb, hr, hml, hown, hts, hlocks, hK, hN⟩ := id C0
  intro f_text_at f_text_command f_text_scene f_text_letter f_text_number hk H locs ls hP hD hS hl
  rw [xp_X4_errorPosition] at hk
  refine lv_aload_n hx hb dX4_errorPosition_0 rfl (lv_at hl 0 rfl) ?_
  refine va_get (D := D) (ci := 4) (v := .ref h_text) (C := RX4) (T := TX4) (N := 9) hx hb hts xin_X4_errorPosition_X4 hown hK hP 0 rfl rfl 5 (by decide) (hts (.fieldLink RX4 38 "TakeLog" "text" "LTakeLog$Day;") (by decide +kernel)) (fun _ h9 => h9) rfl dX4_errorPosition_1 ?_
  refine x_joini (ws1 := fun (u1 : Int32 × Int32 × Int32 × Int32 × Int32) => [(h, .inr (4, [.ref h_now, .ref h_copy, .ref h_past, .ref h_slots, .ref h_saved, .ref h_text, .ref h_shown, .int f_remembered, .int f_oldest])), (h_text, .inr (0, [.ref h_text_signs, .int f_text_length, .int u1.1, .int u1.2.1, .int u1.2.2.1, .int u1.2.2.2.1, .int u1.2.2.2.2])), (h_text_signs, .inl (cC, 120, .inl f_text_signs))]) (x_runV (n0 := 0) (As := []) (rest := []) C0 (xc_X0_firstError l D cI cC cZ cL h_text h_text_signs H.size f_text_length f_text_at f_text_command f_text_scene f_text_letter f_text_number f_text_signs _ hk) gX4_errorPosition_X0_firstError rfl ⟨rfl, rfl⟩ (by decide +kernel) rfl ⟨by decide, by decide⟩ ⟨Nat.zero_le _, Nat.zero_le _⟩ hP hD [1, 2] rfl rfl (k := 1) rfl rfl rfl hl.1 rfl (Nat.le_of_ble_eq_true rfl) dX4_errorPosition_4) hP hD hS hA [1, 2] [0] [0, 1, 2] rfl rfl rfl (by decide) (fun _ => rfl) rfl (fun r1 u1 H locs hk hP hD hS => ?_)
  exact x_reti C0 (u1.1, u1.2.1, u1.2.2.1, u1.2.2.2.1, u1.2.2.2.2) hk hP hD hS dX4_errorPosition_7
theorem xc_X4_errorPosition (l : Launch) (D : va_G) (cI cC cZ cL : ClassId) (h h_now h_copy h_past h_slots h_saved h_text h_shown h_text_signs : Nat)  (sz : Nat) (f_remembered : Int32) (f_oldest : Int32) (f_text_length : Int32) (f_text_at : Int32) (f_text_command : Int32) (f_text_scene : Int32) (f_text_letter : Int32) (f_text_number : Int32) (f_text_signs : Nat → Int32)  (K : Int32 → (Int32 × Int32 × Int32 × Int32 × Int32) → Prop) (hk : xp_X4_errorPosition f_text_signs f_text_length f_text_at f_text_command f_text_scene f_text_letter f_text_number K) : XMi l yX4_errorPosition wsX4_errorPosition ({ frames := 5, cells := 0, slots := 0, locals := 110 } : Room) D (xTY cI cC cZ cL) [.ref h] [(h, .inr (4, [.ref h_now, .ref h_copy, .ref h_past, .ref h_slots, .ref h_saved, .ref h_text, .ref h_shown, .int f_remembered, .int f_oldest])), (h_text, .inr (0, [.ref h_text_signs, .int f_text_length, .int f_text_at, .int f_text_command, .int f_text_scene, .int f_text_letter, .int f_text_number])), (h_text_signs, .inl (cC, 120, .inl f_text_signs))] sz (fun (r : Int32) (u : Int32 × Int32 × Int32 × Int32 × Int32) => K r u) (fun (u : Int32 × Int32 × Int32 × Int32 × Int32) => [(h, .inr (4, [.ref h_now, .ref h_copy, .ref h_past, .ref h_slots, .ref h_saved, .ref h_text, .ref h_shown, .int f_remembered, .int f_oldest])), (h_text, .inr (0, [.ref h_text_signs, .int f_text_length, .int u.1, .int u.2.1, .int u.2.2.1, .int u.2.2.2.1, .int u.2.2.2.2])), (h_text_signs, .inl (cC, 120, .inl f_text_signs))]) :=
  x_enter (cc := cX4_errorPosition) (maxL := 1) (ret := (some .int)) (own := RX4) (by decide) rfl rfl (Nat.le_of_ble_eq_true rfl) (fun p e s m below meth c ls C0 hA hP hD hS hl => xb_X4_errorPosition_0 C0 hA _ _ _ _ _ hk s.heap [] ls hP hD hS hl)
set_option maxRecDepth 20000 in
theorem xin_X4_forget_X4 : ∀ w ∈ u_ws RX4 TX4 9, w ∈ wsX4_forget := by decide +kernel
set_option maxHeartbeats 4000000 in
set_option maxRecDepth 100000 in
theorem xb_X4_forget_0 {p : Program} {l : Launch} {e : Env} {s : State} {m : MethodId} {args : Array Value} {below : List Frame} {meth : Method} {c : Code} {A : Nat → Prop} {D : va_G} {cI cC cZ cL : ClassId} {h h_now h_copy h_past h_slots h_saved h_text h_shown : Nat}   {K : (Int32 × Int32) → Prop}  (C0 : xC p s m args meth c cX4_forget 1 none wsX4_forget RX4 D (xTY cI cC cZ cL)) (hA : ∀ q : Nat, s.heap.size ≤ q → A q)  : ∀ (f_remembered : Int32) (f_oldest : Int32) , xp_X4_forget f_remembered f_oldest K → ∀ (H : Heap) (locs : List Loc) (ls : Array Slot), va_P D vwCl [(h, .inr (4, [.ref h_now, .ref h_copy, .ref h_past, .ref h_slots, .ref h_saved, .ref h_text, .ref h_shown, .int f_remembered, .int f_oldest]))] H → va_D A [(h, .inr (4, [.ref h_now, .ref h_copy, .ref h_past, .ref h_slots, .ref h_saved, .ref h_text, .ref h_shown, .int f_remembered, .int f_oldest]))] → va_S A s.heap H locs → lv_has ls 1 [(0, .ref h)] → W p l e ({ frames := 0, cells := 0, slots := 0, locals := 0 } : Room) s m args below meth c H locs 0 0 (MQ below (va_Qv (fun (u : Int32 × Int32) => K u) (fun u t => xE D A ((fun (u : Int32 × Int32) => [(h, .inr (4, [.ref h_now, .ref h_copy, .ref h_past, .ref h_slots, .ref h_saved, .ref h_text, .ref h_shown, .int u.1, .int u.2]))]) u) t) A) args s 0 0 A) (F0 m 0 ls []) := by
  obtain ⟨hx, hb, hr, hml, hown, hts, hlocks, hK, hN⟩ := id C0
  intro f_remembered f_oldest hk H locs ls hP hD hS hl
  rw [xp_X4_forget] at hk
  refine lv_aload_n hx hb dX4_forget_0 rfl (lv_at hl 0 rfl) ?_
  refine lv_iconst (v := 0) hx hb dX4_forget_1 (by decide) ?_
  refine va_put (D := D) (ci := 4) (v := .int 0) (ty := .int) (C := RX4) (T := TX4) (N := 9) hx hb hts xin_X4_forget_X4 tyX4 tyX4_ok nmX4 hown hK hP hD hS 0 rfl rfl 7 (by decide) (hts (.fieldLink RX4 192 "TakeLog" "remembered" "I") (by decide +kernel)) (fun _ h9 => h9) rfl (by decide +kernel) rfl rfl (Nat.le_of_ble_eq_true rfl) dX4_forget_2 (fun H locs hP hD hS => ?_)
  have hP : va_P D vwCl [(h, .inr (4, [.ref h_now, .ref h_copy, .ref h_past, .ref h_slots, .ref h_saved, .ref h_text, .ref h_shown, .int 0, .int f_oldest]))] H := hP
  have hD : va_D A [(h, .inr (4, [.ref h_now, .ref h_copy, .ref h_past, .ref h_slots, .ref h_saved, .ref h_text, .ref h_shown, .int 0, .int f_oldest]))] := hD
  refine lv_aload_n hx hb dX4_forget_5 rfl (lv_at hl 0 rfl) ?_
  refine lv_iconst (v := 0) hx hb dX4_forget_6 (by decide) ?_
  refine va_put (D := D) (ci := 4) (v := .int 0) (ty := .int) (C := RX4) (T := TX4) (N := 9) hx hb hts xin_X4_forget_X4 tyX4 tyX4_ok nmX4 hown hK hP hD hS 0 rfl rfl 8 (by decide) (hts (.fieldLink RX4 198 "TakeLog" "oldest" "I") (by decide +kernel)) (fun _ h9 => h9) rfl (by decide +kernel) rfl rfl (Nat.le_of_ble_eq_true rfl) dX4_forget_7 (fun H locs hP hD hS => ?_)
  have hP : va_P D vwCl [(h, .inr (4, [.ref h_now, .ref h_copy, .ref h_past, .ref h_slots, .ref h_saved, .ref h_text, .ref h_shown, .int 0, .int 0]))] H := hP
  have hD : va_D A [(h, .inr (4, [.ref h_now, .ref h_copy, .ref h_past, .ref h_slots, .ref h_saved, .ref h_text, .ref h_shown, .int 0, .int 0]))] := hD
  exact x_retv C0 (0, 0) hk hP hD hS dX4_forget_10
theorem xc_X4_forget (l : Launch) (D : va_G) (cI cC cZ cL : ClassId) (h h_now h_copy h_past h_slots h_saved h_text h_shown : Nat)  (sz : Nat) (f_remembered : Int32) (f_oldest : Int32)  (K : (Int32 × Int32) → Prop) (hk : xp_X4_forget f_remembered f_oldest K) : XMv l yX4_forget wsX4_forget ({ frames := 0, cells := 0, slots := 0, locals := 0 } : Room) D (xTY cI cC cZ cL) [.ref h] [(h, .inr (4, [.ref h_now, .ref h_copy, .ref h_past, .ref h_slots, .ref h_saved, .ref h_text, .ref h_shown, .int f_remembered, .int f_oldest]))] sz (fun (u : Int32 × Int32) => K u) (fun (u : Int32 × Int32) => [(h, .inr (4, [.ref h_now, .ref h_copy, .ref h_past, .ref h_slots, .ref h_saved, .ref h_text, .ref h_shown, .int u.1, .int u.2]))]) :=
  x_enter (cc := cX4_forget) (maxL := 1) (ret := none) (own := RX4) (by decide) rfl rfl (Nat.le_of_ble_eq_true rfl) (fun p e s m below meth c ls C0 hA hP hD hS hl => xb_X4_forget_0 C0 hA _ _ hk s.heap [] ls hP hD hS hl)
set_option maxRecDepth 20000 in
theorem xin_X4_obeyCommand_X0 : ∀ w ∈ u_ws RX0 TX0 7, w ∈ wsX4_obeyCommand := by decide +kernel
set_option maxRecDepth 20000 in
theorem xin_X4_obeyCommand_X3 : ∀ w ∈ u_ws RX3 TX3 1, w ∈ wsX4_obeyCommand := by decide +kernel
set_option maxRecDepth 20000 in
theorem xin_X4_obeyCommand_X4 : ∀ w ∈ u_ws RX4 TX4 9, w ∈ wsX4_obeyCommand := by decide +kernel
set_option maxHeartbeats 4000000 in
set_option maxRecDepth 100000 in
theorem xb_X4_obeyCommand_0 {p : Program} {l : Launch} {e : Env} {s : State} {m : MethodId} {args : Array Value} {below : List Frame} {meth : Method} {c : Code} {A : Nat → Prop} {D : va_G} {cI cC cZ cL : ClassId} {h h_now h_copy h_past h_slots h_saved h_text h_shown h_now_cells h_text_signs : Nat}  {f_remembered : Int32} {f_oldest : Int32} {f_text_length : Int32} {f_text_at : Int32} {f_text_command : Int32} {f_text_scene : Int32} {f_text_letter : Int32} {f_text_number : Int32} {K : Int32 → ((Nat → Int32)) → Prop}  (C0 : xC p s m args meth c cX4_obeyCommand 1 (some .boolean) wsX4_obeyCommand RX4 D (xTY cI cC cZ cL)) (hA : ∀ q : Nat, s.heap.size ≤ q → A q)  : ∀ (f_now_cells : Nat → Int32) , xp_X4_obeyCommand f_text_command f_text_scene f_text_letter f_text_number f_now_cells K → ∀ (H : Heap) (locs : List Loc) (ls : Array Slot), va_P D vwCl [(h, .inr (4, [.ref h_now, .ref h_copy, .ref h_past, .ref h_slots, .ref h_saved, .ref h_text, .ref h_shown, .int f_remembered, .int f_oldest])), (h_now, .inr (3, [.ref h_now_cells])), (h_now_cells, .inl (cI, 400, .inl f_now_cells)), (h_text, .inr (0, [.ref h_text_signs, .int f_text_length, .int f_text_at, .int f_text_command, .int f_text_scene, .int f_text_letter, .int f_text_number]))] H → va_D A [(h, .inr (4, [.ref h_now, .ref h_copy, .ref h_past, .ref h_slots, .ref h_saved, .ref h_text, .ref h_shown, .int f_remembered, .int f_oldest])), (h_now, .inr (3, [.ref h_now_cells])), (h_now_cells, .inl (cI, 400, .inl f_now_cells)), (h_text, .inr (0, [.ref h_text_signs, .int f_text_length, .int f_text_at, .int f_text_command, .int f_text_scene, .int f_text_letter, .int f_text_number]))] → va_S A s.heap H locs → lv_has ls 1 [(0, .ref h)] → W p l e ({ frames := 5, cells := 0, slots := 0, locals := 113 } : Room) s m args below meth c H locs 0 0 (MQ below (va_Qi (fun (r : Int32) (u : (Nat → Int32)) => K r u) (fun u t => xE D A ((fun (u : (Nat → Int32)) => [(h, .inr (4, [.ref h_now, .ref h_copy, .ref h_past, .ref h_slots, .ref h_saved, .ref h_text, .ref h_shown, .int f_remembered, .int f_oldest])), (h_now, .inr (3, [.ref h_now_cells])), (h_now_cells, .inl (cI, 400, .inl u)), (h_text, .inr (0, [.ref h_text_signs, .int f_text_length, .int f_text_at, .int f_text_command, .int f_text_scene, .int f_text_letter, .int f_text_number]))]) u) t) A) args s 0 0 A) (F0 m 0 ls []) := by
  obtain ⟨hx, hb, hr, hml, hown, hts, hlocks, hK, hN⟩ := id C0
  intro f_now_cells hk H locs ls hP hD hS hl
  rw [xp_X4_obeyCommand] at hk
  refine lv_aload_n hx hb dX4_obeyCommand_0 rfl (lv_at hl 0 rfl) ?_
  refine va_get (D := D) (ci := 4) (v := .ref h_text) (C := RX4) (T := TX4) (N := 9) hx hb hts xin_X4_obeyCommand_X4 hown hK hP 0 rfl rfl 5 (by decide) (hts (.fieldLink RX4 38 "TakeLog" "text" "LTakeLog$Day;") (by decide +kernel)) (fun _ h9 => h9) rfl dX4_obeyCommand_1 ?_
  refine va_getN (D := D) (ci := 0) (v := .int f_text_command) (C := RX0) (T := TX0) (N := 7) hx hb hts xin_X4_obeyCommand_X0 hown hK hP 3 rfl rfl 3 (by decide) (va_Nw.use rfl hN.2.1) (fun _ h9 => h9) rfl dX4_obeyCommand_4 ?_
  by_cases c2 : f_text_command = 98
  · have hk := hk.1 c2
    refine lv_tableIn (x := f_text_command) (off := 113) (tgt := 120) hx hb dX4_obeyCommand_7 (by rw [c2]; decide) (by rw [c2]; decide) (by rw [c2]; rfl) (by decide) ?_
    refine lv_aload_n hx hb dX4_obeyCommand_120 rfl (lv_at hl 0 rfl) ?_
    refine va_get (D := D) (ci := 4) (v := .ref h_now) (C := RX4) (T := TX4) (N := 9) hx hb hts xin_X4_obeyCommand_X4 hown hK hP 0 rfl rfl 0 (by decide) (hts (.fieldLink RX4 12 "TakeLog" "now" "LTakeLog$State;") (by decide +kernel)) (fun _ h9 => h9) rfl dX4_obeyCommand_121 ?_
    refine lv_aload_n hx hb dX4_obeyCommand_124 rfl (lv_at hl 0 rfl) ?_
    refine va_get (D := D) (ci := 4) (v := .ref h_text) (C := RX4) (T := TX4) (N := 9) hx hb hts xin_X4_obeyCommand_X4 hown hK hP 0 rfl rfl 5 (by decide) (hts (.fieldLink RX4 38 "TakeLog" "text" "LTakeLog$Day;") (by decide +kernel)) (fun _ h9 => h9) rfl dX4_obeyCommand_125 ?_
    refine va_getN (D := D) (ci := 0) (v := .int f_text_scene) (C := RX0) (T := TX0) (N := 7) hx hb hts xin_X4_obeyCommand_X0 hown hK hP 3 rfl rfl 4 (by decide) (va_Nw.use rfl hN.2.2.1) (fun _ h9 => h9) rfl dX4_obeyCommand_128 ?_
    refine lv_aload_n hx hb dX4_obeyCommand_131 rfl (lv_at hl 0 rfl) ?_
    refine va_get (D := D) (ci := 4) (v := .ref h_text) (C := RX4) (T := TX4) (N := 9) hx hb hts xin_X4_obeyCommand_X4 hown hK hP 0 rfl rfl 5 (by decide) (hts (.fieldLink RX4 38 "TakeLog" "text" "LTakeLog$Day;") (by decide +kernel)) (fun _ h9 => h9) rfl dX4_obeyCommand_132 ?_
    refine va_getN (D := D) (ci := 0) (v := .int f_text_letter) (C := RX0) (T := TX0) (N := 7) hx hb hts xin_X4_obeyCommand_X0 hown hK hP 3 rfl rfl 5 (by decide) (va_Nw.use rfl hN.2.2.2.1) (fun _ h9 => h9) rfl dX4_obeyCommand_135 ?_
    refine lv_aload_n hx hb dX4_obeyCommand_138 rfl (lv_at hl 0 rfl) ?_
    refine va_get (D := D) (ci := 4) (v := .ref h_text) (C := RX4) (T := TX4) (N := 9) hx hb hts xin_X4_obeyCommand_X4 hown hK hP 0 rfl rfl 5 (by decide) (hts (.fieldLink RX4 38 "TakeLog" "text" "LTakeLog$Day;") (by decide +kernel)) (fun _ h9 => h9) rfl dX4_obeyCommand_139 ?_
    refine va_getN (D := D) (ci := 0) (v := .int f_text_number) (C := RX0) (T := TX0) (N := 7) hx hb hts xin_X4_obeyCommand_X0 hown hK hP 3 rfl rfl 6 (by decide) (va_Nw.use rfl hN.2.2.2.2.1) (fun _ h9 => h9) rfl dX4_obeyCommand_142 ?_
    refine x_joinv (ws1 := fun (u3 : (Nat → Int32)) => [(h, .inr (4, [.ref h_now, .ref h_copy, .ref h_past, .ref h_slots, .ref h_saved, .ref h_text, .ref h_shown, .int f_remembered, .int f_oldest])), (h_now, .inr (3, [.ref h_now_cells])), (h_now_cells, .inl (cI, 400, .inl u3)), (h_text, .inr (0, [.ref h_text_signs, .int f_text_length, .int f_text_at, .int f_text_command, .int f_text_scene, .int f_text_letter, .int f_text_number]))]) (x_runV (n0 := 3) (As := [.int f_text_scene, .int f_text_letter, .int f_text_number]) (rest := []) C0 (xc_X3_write l D cI cC cZ cL h_now h_now_cells H.size f_now_cells f_text_scene f_text_letter f_text_number _ hk) gX4_obeyCommand_X3_write rfl ⟨rfl, rfl⟩ (by decide +kernel) rfl ⟨by decide, by decide⟩ ⟨Nat.zero_le _, Nat.zero_le _⟩ hP hD [1, 2] rfl rfl (k := 1) rfl rfl rfl hl.1 rfl (Nat.le_of_ble_eq_true rfl) dX4_obeyCommand_145) hP hD hS hA [1, 2] [0, 3] [0, 2, 3, 1] rfl rfl rfl (by decide) (fun _ => rfl) rfl (fun u3 H locs hk hP hD hS => ?_)
    refine lv_iconst (v := 1) hx hb dX4_obeyCommand_148 (by decide) ?_
    exact x_retz rfl C0 (u3) hk hP hD hS dX4_obeyCommand_149
  have hk := hk.2 c2
  by_cases c4 : f_text_command = 99
  · have hk := hk.1 c4
    refine lv_tableIn (x := f_text_command) (off := 89) (tgt := 96) hx hb dX4_obeyCommand_7 (by rw [c4]; decide) (by rw [c4]; decide) (by rw [c4]; rfl) (by decide) ?_
    refine lv_aload_n hx hb dX4_obeyCommand_96 rfl (lv_at hl 0 rfl) ?_
    refine va_get (D := D) (ci := 4) (v := .ref h_now) (C := RX4) (T := TX4) (N := 9) hx hb hts xin_X4_obeyCommand_X4 hown hK hP 0 rfl rfl 0 (by decide) (hts (.fieldLink RX4 12 "TakeLog" "now" "LTakeLog$State;") (by decide +kernel)) (fun _ h9 => h9) rfl dX4_obeyCommand_97 ?_
    refine lv_aload_n hx hb dX4_obeyCommand_100 rfl (lv_at hl 0 rfl) ?_
    refine va_get (D := D) (ci := 4) (v := .ref h_text) (C := RX4) (T := TX4) (N := 9) hx hb hts xin_X4_obeyCommand_X4 hown hK hP 0 rfl rfl 5 (by decide) (hts (.fieldLink RX4 38 "TakeLog" "text" "LTakeLog$Day;") (by decide +kernel)) (fun _ h9 => h9) rfl dX4_obeyCommand_101 ?_
    refine va_getN (D := D) (ci := 0) (v := .int f_text_scene) (C := RX0) (T := TX0) (N := 7) hx hb hts xin_X4_obeyCommand_X0 hown hK hP 3 rfl rfl 4 (by decide) (va_Nw.use rfl hN.2.2.1) (fun _ h9 => h9) rfl dX4_obeyCommand_104 ?_
    refine lv_aload_n hx hb dX4_obeyCommand_107 rfl (lv_at hl 0 rfl) ?_
    refine va_get (D := D) (ci := 4) (v := .ref h_text) (C := RX4) (T := TX4) (N := 9) hx hb hts xin_X4_obeyCommand_X4 hown hK hP 0 rfl rfl 5 (by decide) (hts (.fieldLink RX4 38 "TakeLog" "text" "LTakeLog$Day;") (by decide +kernel)) (fun _ h9 => h9) rfl dX4_obeyCommand_108 ?_
    refine va_getN (D := D) (ci := 0) (v := .int f_text_letter) (C := RX0) (T := TX0) (N := 7) hx hb hts xin_X4_obeyCommand_X0 hown hK hP 3 rfl rfl 5 (by decide) (va_Nw.use rfl hN.2.2.2.1) (fun _ h9 => h9) rfl dX4_obeyCommand_111 ?_
    refine x_joini (ws1 := fun (u5 : (Nat → Int32)) => [(h, .inr (4, [.ref h_now, .ref h_copy, .ref h_past, .ref h_slots, .ref h_saved, .ref h_text, .ref h_shown, .int f_remembered, .int f_oldest])), (h_now, .inr (3, [.ref h_now_cells])), (h_now_cells, .inl (cI, 400, .inl u5)), (h_text, .inr (0, [.ref h_text_signs, .int f_text_length, .int f_text_at, .int f_text_command, .int f_text_scene, .int f_text_letter, .int f_text_number]))]) (x_runV (n0 := 2) (As := [.int f_text_scene, .int f_text_letter]) (rest := []) C0 (xc_X3_mean l D cI cC cZ cL h_now h_now_cells H.size f_now_cells f_text_scene f_text_letter _ hk) gX4_obeyCommand_X3_mean rfl ⟨rfl, rfl⟩ (by decide +kernel) rfl ⟨by decide, by decide⟩ ⟨Nat.zero_le _, Nat.zero_le _⟩ hP hD [1, 2] rfl rfl (k := 1) rfl rfl rfl hl.1 rfl (Nat.le_of_ble_eq_true rfl) dX4_obeyCommand_114) hP hD hS hA [1, 2] [0, 3] [0, 2, 3, 1] rfl rfl rfl (by decide) (fun _ => rfl) rfl (fun r5 u5 H locs hk hP hD hS => ?_)
    refine lv_pop hx hb dX4_obeyCommand_117 rfl ?_
    refine lv_iconst (v := 1) hx hb dX4_obeyCommand_118 (by decide) ?_
    exact x_retz rfl C0 (u5) hk hP hD hS dX4_obeyCommand_119
  have hk := hk.2 c4
  by_cases c6 : f_text_command = 100
  · have hk := hk.1 c6
    refine lv_tableIn (x := f_text_command) (off := 241) (tgt := 248) hx hb dX4_obeyCommand_7 (by rw [c6]; decide) (by rw [c6]; decide) (by rw [c6]; rfl) (by decide) ?_
    refine lv_aload_n hx hb dX4_obeyCommand_248 rfl (lv_at hl 0 rfl) ?_
    refine va_get (D := D) (ci := 4) (v := .ref h_now) (C := RX4) (T := TX4) (N := 9) hx hb hts xin_X4_obeyCommand_X4 hown hK hP 0 rfl rfl 0 (by decide) (hts (.fieldLink RX4 12 "TakeLog" "now" "LTakeLog$State;") (by decide +kernel)) (fun _ h9 => h9) rfl dX4_obeyCommand_249 ?_
    refine lv_aload_n hx hb dX4_obeyCommand_252 rfl (lv_at hl 0 rfl) ?_
    refine va_get (D := D) (ci := 4) (v := .ref h_text) (C := RX4) (T := TX4) (N := 9) hx hb hts xin_X4_obeyCommand_X4 hown hK hP 0 rfl rfl 5 (by decide) (hts (.fieldLink RX4 38 "TakeLog" "text" "LTakeLog$Day;") (by decide +kernel)) (fun _ h9 => h9) rfl dX4_obeyCommand_253 ?_
    refine va_getN (D := D) (ci := 0) (v := .int f_text_number) (C := RX0) (T := TX0) (N := 7) hx hb hts xin_X4_obeyCommand_X0 hown hK hP 3 rfl rfl 6 (by decide) (va_Nw.use rfl hN.2.2.2.2.1) (fun _ h9 => h9) rfl dX4_obeyCommand_256 ?_
    refine lv_bipush (v := 50) hx hb dX4_obeyCommand_259 (by decide) ?_
    refine lv_isub hx hb dX4_obeyCommand_261 ?_
    refine x_joini (ws1 := fun (u7 : (Nat → Int32)) => [(h, .inr (4, [.ref h_now, .ref h_copy, .ref h_past, .ref h_slots, .ref h_saved, .ref h_text, .ref h_shown, .int f_remembered, .int f_oldest])), (h_now, .inr (3, [.ref h_now_cells])), (h_now_cells, .inl (cI, 400, .inl u7)), (h_text, .inr (0, [.ref h_text_signs, .int f_text_length, .int f_text_at, .int f_text_command, .int f_text_scene, .int f_text_letter, .int f_text_number]))]) (x_runV (n0 := 1) (As := [.int (f_text_number - 50)]) (rest := []) C0 (xc_X3_setOff l D cI cC cZ cL h_now h_now_cells H.size f_now_cells (f_text_number - 50) _ hk) gX4_obeyCommand_X3_setOff rfl ⟨rfl, rfl⟩ (by decide +kernel) rfl ⟨by decide, by decide⟩ ⟨Nat.zero_le _, Nat.zero_le _⟩ hP hD [1, 2] rfl rfl (k := 1) rfl rfl rfl hl.1 rfl (Nat.le_of_ble_eq_true rfl) dX4_obeyCommand_262) hP hD hS hA [1, 2] [0, 3] [0, 2, 3, 1] rfl rfl rfl (by decide) (fun _ => rfl) rfl (fun r7 u7 H locs hk hP hD hS => ?_)
    refine lv_pop hx hb dX4_obeyCommand_265 rfl ?_
    refine lv_iconst (v := 1) hx hb dX4_obeyCommand_266 (by decide) ?_
    exact x_retz rfl C0 (u7) hk hP hD hS dX4_obeyCommand_267
  have hk := hk.2 c6
  by_cases c8 : f_text_command = 101
  · have hk := hk.1 c8
    refine lv_tableIn (x := f_text_command) (off := 241) (tgt := 248) hx hb dX4_obeyCommand_7 (by rw [c8]; decide) (by rw [c8]; decide) (by rw [c8]; rfl) (by decide) ?_
    refine lv_aload_n hx hb dX4_obeyCommand_248 rfl (lv_at hl 0 rfl) ?_
    refine va_get (D := D) (ci := 4) (v := .ref h_now) (C := RX4) (T := TX4) (N := 9) hx hb hts xin_X4_obeyCommand_X4 hown hK hP 0 rfl rfl 0 (by decide) (hts (.fieldLink RX4 12 "TakeLog" "now" "LTakeLog$State;") (by decide +kernel)) (fun _ h9 => h9) rfl dX4_obeyCommand_249 ?_
    refine lv_aload_n hx hb dX4_obeyCommand_252 rfl (lv_at hl 0 rfl) ?_
    refine va_get (D := D) (ci := 4) (v := .ref h_text) (C := RX4) (T := TX4) (N := 9) hx hb hts xin_X4_obeyCommand_X4 hown hK hP 0 rfl rfl 5 (by decide) (hts (.fieldLink RX4 38 "TakeLog" "text" "LTakeLog$Day;") (by decide +kernel)) (fun _ h9 => h9) rfl dX4_obeyCommand_253 ?_
    refine va_getN (D := D) (ci := 0) (v := .int f_text_number) (C := RX0) (T := TX0) (N := 7) hx hb hts xin_X4_obeyCommand_X0 hown hK hP 3 rfl rfl 6 (by decide) (va_Nw.use rfl hN.2.2.2.2.1) (fun _ h9 => h9) rfl dX4_obeyCommand_256 ?_
    refine lv_bipush (v := 50) hx hb dX4_obeyCommand_259 (by decide) ?_
    refine lv_isub hx hb dX4_obeyCommand_261 ?_
    refine x_joini (ws1 := fun (u9 : (Nat → Int32)) => [(h, .inr (4, [.ref h_now, .ref h_copy, .ref h_past, .ref h_slots, .ref h_saved, .ref h_text, .ref h_shown, .int f_remembered, .int f_oldest])), (h_now, .inr (3, [.ref h_now_cells])), (h_now_cells, .inl (cI, 400, .inl u9)), (h_text, .inr (0, [.ref h_text_signs, .int f_text_length, .int f_text_at, .int f_text_command, .int f_text_scene, .int f_text_letter, .int f_text_number]))]) (x_runV (n0 := 1) (As := [.int (f_text_number - 50)]) (rest := []) C0 (xc_X3_setOff l D cI cC cZ cL h_now h_now_cells H.size f_now_cells (f_text_number - 50) _ hk) gX4_obeyCommand_X3_setOff rfl ⟨rfl, rfl⟩ (by decide +kernel) rfl ⟨by decide, by decide⟩ ⟨Nat.zero_le _, Nat.zero_le _⟩ hP hD [1, 2] rfl rfl (k := 1) rfl rfl rfl hl.1 rfl (Nat.le_of_ble_eq_true rfl) dX4_obeyCommand_262) hP hD hS hA [1, 2] [0, 3] [0, 2, 3, 1] rfl rfl rfl (by decide) (fun _ => rfl) rfl (fun r9 u9 H locs hk hP hD hS => ?_)
    refine lv_pop hx hb dX4_obeyCommand_265 rfl ?_
    refine lv_iconst (v := 1) hx hb dX4_obeyCommand_266 (by decide) ?_
    exact x_retz rfl C0 (u9) hk hP hD hS dX4_obeyCommand_267
  have hk := hk.2 c8
  by_cases c10 : f_text_command = 102
  · have hk := hk.1 c10
    refine lv_tableIn (x := f_text_command) (off := 205) (tgt := 212) hx hb dX4_obeyCommand_7 (by rw [c10]; decide) (by rw [c10]; decide) (by rw [c10]; rfl) (by decide) ?_
    refine lv_aload_n hx hb dX4_obeyCommand_212 rfl (lv_at hl 0 rfl) ?_
    refine va_get (D := D) (ci := 4) (v := .ref h_now) (C := RX4) (T := TX4) (N := 9) hx hb hts xin_X4_obeyCommand_X4 hown hK hP 0 rfl rfl 0 (by decide) (hts (.fieldLink RX4 12 "TakeLog" "now" "LTakeLog$State;") (by decide +kernel)) (fun _ h9 => h9) rfl dX4_obeyCommand_213 ?_
    refine lv_aload_n hx hb dX4_obeyCommand_216 rfl (lv_at hl 0 rfl) ?_
    refine va_get (D := D) (ci := 4) (v := .ref h_text) (C := RX4) (T := TX4) (N := 9) hx hb hts xin_X4_obeyCommand_X4 hown hK hP 0 rfl rfl 5 (by decide) (hts (.fieldLink RX4 38 "TakeLog" "text" "LTakeLog$Day;") (by decide +kernel)) (fun _ h9 => h9) rfl dX4_obeyCommand_217 ?_
    refine va_getN (D := D) (ci := 0) (v := .int f_text_number) (C := RX0) (T := TX0) (N := 7) hx hb hts xin_X4_obeyCommand_X0 hown hK hP 3 rfl rfl 6 (by decide) (va_Nw.use rfl hN.2.2.2.2.1) (fun _ h9 => h9) rfl dX4_obeyCommand_220 ?_
    refine lv_bipush (v := 15) hx hb dX4_obeyCommand_223 (by decide) ?_
    refine lv_iconst (v := 1) hx hb dX4_obeyCommand_225 (by decide) ?_
    refine x_joini (ws1 := fun (u11 : (Nat → Int32)) => [(h, .inr (4, [.ref h_now, .ref h_copy, .ref h_past, .ref h_slots, .ref h_saved, .ref h_text, .ref h_shown, .int f_remembered, .int f_oldest])), (h_now, .inr (3, [.ref h_now_cells])), (h_now_cells, .inl (cI, 400, .inl u11)), (h_text, .inr (0, [.ref h_text_signs, .int f_text_length, .int f_text_at, .int f_text_command, .int f_text_scene, .int f_text_letter, .int f_text_number]))]) (x_runV (n0 := 3) (As := [.int f_text_number, .int 15, .int 1]) (rest := []) C0 (xc_X3_mark l D cI cC cZ cL h_now h_now_cells H.size f_now_cells f_text_number 15 1 _ hk) gX4_obeyCommand_X3_mark rfl ⟨rfl, rfl⟩ (by decide +kernel) rfl ⟨by decide, by decide⟩ ⟨Nat.zero_le _, Nat.zero_le _⟩ hP hD [1, 2] rfl rfl (k := 1) rfl rfl rfl hl.1 rfl (Nat.le_of_ble_eq_true rfl) dX4_obeyCommand_226) hP hD hS hA [1, 2] [0, 3] [0, 2, 3, 1] rfl rfl rfl (by decide) (fun _ => rfl) rfl (fun r11 u11 H locs hk hP hD hS => ?_)
    exact x_retz hk.1 C0 (u11) hk.2 hP hD hS dX4_obeyCommand_229
  have hk := hk.2 c10
  by_cases c12 : f_text_command = 103
  · have hk := hk.1 c12
    refine lv_tableIn (x := f_text_command) (off := 241) (tgt := 248) hx hb dX4_obeyCommand_7 (by rw [c12]; decide) (by rw [c12]; decide) (by rw [c12]; rfl) (by decide) ?_
    refine lv_aload_n hx hb dX4_obeyCommand_248 rfl (lv_at hl 0 rfl) ?_
    refine va_get (D := D) (ci := 4) (v := .ref h_now) (C := RX4) (T := TX4) (N := 9) hx hb hts xin_X4_obeyCommand_X4 hown hK hP 0 rfl rfl 0 (by decide) (hts (.fieldLink RX4 12 "TakeLog" "now" "LTakeLog$State;") (by decide +kernel)) (fun _ h9 => h9) rfl dX4_obeyCommand_249 ?_
    refine lv_aload_n hx hb dX4_obeyCommand_252 rfl (lv_at hl 0 rfl) ?_
    refine va_get (D := D) (ci := 4) (v := .ref h_text) (C := RX4) (T := TX4) (N := 9) hx hb hts xin_X4_obeyCommand_X4 hown hK hP 0 rfl rfl 5 (by decide) (hts (.fieldLink RX4 38 "TakeLog" "text" "LTakeLog$Day;") (by decide +kernel)) (fun _ h9 => h9) rfl dX4_obeyCommand_253 ?_
    refine va_getN (D := D) (ci := 0) (v := .int f_text_number) (C := RX0) (T := TX0) (N := 7) hx hb hts xin_X4_obeyCommand_X0 hown hK hP 3 rfl rfl 6 (by decide) (va_Nw.use rfl hN.2.2.2.2.1) (fun _ h9 => h9) rfl dX4_obeyCommand_256 ?_
    refine lv_bipush (v := 50) hx hb dX4_obeyCommand_259 (by decide) ?_
    refine lv_isub hx hb dX4_obeyCommand_261 ?_
    refine x_joini (ws1 := fun (u13 : (Nat → Int32)) => [(h, .inr (4, [.ref h_now, .ref h_copy, .ref h_past, .ref h_slots, .ref h_saved, .ref h_text, .ref h_shown, .int f_remembered, .int f_oldest])), (h_now, .inr (3, [.ref h_now_cells])), (h_now_cells, .inl (cI, 400, .inl u13)), (h_text, .inr (0, [.ref h_text_signs, .int f_text_length, .int f_text_at, .int f_text_command, .int f_text_scene, .int f_text_letter, .int f_text_number]))]) (x_runV (n0 := 1) (As := [.int (f_text_number - 50)]) (rest := []) C0 (xc_X3_setOff l D cI cC cZ cL h_now h_now_cells H.size f_now_cells (f_text_number - 50) _ hk) gX4_obeyCommand_X3_setOff rfl ⟨rfl, rfl⟩ (by decide +kernel) rfl ⟨by decide, by decide⟩ ⟨Nat.zero_le _, Nat.zero_le _⟩ hP hD [1, 2] rfl rfl (k := 1) rfl rfl rfl hl.1 rfl (Nat.le_of_ble_eq_true rfl) dX4_obeyCommand_262) hP hD hS hA [1, 2] [0, 3] [0, 2, 3, 1] rfl rfl rfl (by decide) (fun _ => rfl) rfl (fun r13 u13 H locs hk hP hD hS => ?_)
    refine lv_pop hx hb dX4_obeyCommand_265 rfl ?_
    refine lv_iconst (v := 1) hx hb dX4_obeyCommand_266 (by decide) ?_
    exact x_retz rfl C0 (u13) hk hP hD hS dX4_obeyCommand_267
  have hk := hk.2 c12
  by_cases c14 : f_text_command = 104
  · have hk := hk.1 c14
    refine lv_tableIn (x := f_text_command) (off := 241) (tgt := 248) hx hb dX4_obeyCommand_7 (by rw [c14]; decide) (by rw [c14]; decide) (by rw [c14]; rfl) (by decide) ?_
    refine lv_aload_n hx hb dX4_obeyCommand_248 rfl (lv_at hl 0 rfl) ?_
    refine va_get (D := D) (ci := 4) (v := .ref h_now) (C := RX4) (T := TX4) (N := 9) hx hb hts xin_X4_obeyCommand_X4 hown hK hP 0 rfl rfl 0 (by decide) (hts (.fieldLink RX4 12 "TakeLog" "now" "LTakeLog$State;") (by decide +kernel)) (fun _ h9 => h9) rfl dX4_obeyCommand_249 ?_
    refine lv_aload_n hx hb dX4_obeyCommand_252 rfl (lv_at hl 0 rfl) ?_
    refine va_get (D := D) (ci := 4) (v := .ref h_text) (C := RX4) (T := TX4) (N := 9) hx hb hts xin_X4_obeyCommand_X4 hown hK hP 0 rfl rfl 5 (by decide) (hts (.fieldLink RX4 38 "TakeLog" "text" "LTakeLog$Day;") (by decide +kernel)) (fun _ h9 => h9) rfl dX4_obeyCommand_253 ?_
    refine va_getN (D := D) (ci := 0) (v := .int f_text_number) (C := RX0) (T := TX0) (N := 7) hx hb hts xin_X4_obeyCommand_X0 hown hK hP 3 rfl rfl 6 (by decide) (va_Nw.use rfl hN.2.2.2.2.1) (fun _ h9 => h9) rfl dX4_obeyCommand_256 ?_
    refine lv_bipush (v := 50) hx hb dX4_obeyCommand_259 (by decide) ?_
    refine lv_isub hx hb dX4_obeyCommand_261 ?_
    refine x_joini (ws1 := fun (u15 : (Nat → Int32)) => [(h, .inr (4, [.ref h_now, .ref h_copy, .ref h_past, .ref h_slots, .ref h_saved, .ref h_text, .ref h_shown, .int f_remembered, .int f_oldest])), (h_now, .inr (3, [.ref h_now_cells])), (h_now_cells, .inl (cI, 400, .inl u15)), (h_text, .inr (0, [.ref h_text_signs, .int f_text_length, .int f_text_at, .int f_text_command, .int f_text_scene, .int f_text_letter, .int f_text_number]))]) (x_runV (n0 := 1) (As := [.int (f_text_number - 50)]) (rest := []) C0 (xc_X3_setOff l D cI cC cZ cL h_now h_now_cells H.size f_now_cells (f_text_number - 50) _ hk) gX4_obeyCommand_X3_setOff rfl ⟨rfl, rfl⟩ (by decide +kernel) rfl ⟨by decide, by decide⟩ ⟨Nat.zero_le _, Nat.zero_le _⟩ hP hD [1, 2] rfl rfl (k := 1) rfl rfl rfl hl.1 rfl (Nat.le_of_ble_eq_true rfl) dX4_obeyCommand_262) hP hD hS hA [1, 2] [0, 3] [0, 2, 3, 1] rfl rfl rfl (by decide) (fun _ => rfl) rfl (fun r15 u15 H locs hk hP hD hS => ?_)
    refine lv_pop hx hb dX4_obeyCommand_265 rfl ?_
    refine lv_iconst (v := 1) hx hb dX4_obeyCommand_266 (by decide) ?_
    exact x_retz rfl C0 (u15) hk hP hD hS dX4_obeyCommand_267
  have hk := hk.2 c14
  by_cases c16 : f_text_command = 105
  · have hk := hk.1 c16
    refine lv_tableIn (x := f_text_command) (off := 241) (tgt := 248) hx hb dX4_obeyCommand_7 (by rw [c16]; decide) (by rw [c16]; decide) (by rw [c16]; rfl) (by decide) ?_
    refine lv_aload_n hx hb dX4_obeyCommand_248 rfl (lv_at hl 0 rfl) ?_
    refine va_get (D := D) (ci := 4) (v := .ref h_now) (C := RX4) (T := TX4) (N := 9) hx hb hts xin_X4_obeyCommand_X4 hown hK hP 0 rfl rfl 0 (by decide) (hts (.fieldLink RX4 12 "TakeLog" "now" "LTakeLog$State;") (by decide +kernel)) (fun _ h9 => h9) rfl dX4_obeyCommand_249 ?_
    refine lv_aload_n hx hb dX4_obeyCommand_252 rfl (lv_at hl 0 rfl) ?_
    refine va_get (D := D) (ci := 4) (v := .ref h_text) (C := RX4) (T := TX4) (N := 9) hx hb hts xin_X4_obeyCommand_X4 hown hK hP 0 rfl rfl 5 (by decide) (hts (.fieldLink RX4 38 "TakeLog" "text" "LTakeLog$Day;") (by decide +kernel)) (fun _ h9 => h9) rfl dX4_obeyCommand_253 ?_
    refine va_getN (D := D) (ci := 0) (v := .int f_text_number) (C := RX0) (T := TX0) (N := 7) hx hb hts xin_X4_obeyCommand_X0 hown hK hP 3 rfl rfl 6 (by decide) (va_Nw.use rfl hN.2.2.2.2.1) (fun _ h9 => h9) rfl dX4_obeyCommand_256 ?_
    refine lv_bipush (v := 50) hx hb dX4_obeyCommand_259 (by decide) ?_
    refine lv_isub hx hb dX4_obeyCommand_261 ?_
    refine x_joini (ws1 := fun (u17 : (Nat → Int32)) => [(h, .inr (4, [.ref h_now, .ref h_copy, .ref h_past, .ref h_slots, .ref h_saved, .ref h_text, .ref h_shown, .int f_remembered, .int f_oldest])), (h_now, .inr (3, [.ref h_now_cells])), (h_now_cells, .inl (cI, 400, .inl u17)), (h_text, .inr (0, [.ref h_text_signs, .int f_text_length, .int f_text_at, .int f_text_command, .int f_text_scene, .int f_text_letter, .int f_text_number]))]) (x_runV (n0 := 1) (As := [.int (f_text_number - 50)]) (rest := []) C0 (xc_X3_setOff l D cI cC cZ cL h_now h_now_cells H.size f_now_cells (f_text_number - 50) _ hk) gX4_obeyCommand_X3_setOff rfl ⟨rfl, rfl⟩ (by decide +kernel) rfl ⟨by decide, by decide⟩ ⟨Nat.zero_le _, Nat.zero_le _⟩ hP hD [1, 2] rfl rfl (k := 1) rfl rfl rfl hl.1 rfl (Nat.le_of_ble_eq_true rfl) dX4_obeyCommand_262) hP hD hS hA [1, 2] [0, 3] [0, 2, 3, 1] rfl rfl rfl (by decide) (fun _ => rfl) rfl (fun r17 u17 H locs hk hP hD hS => ?_)
    refine lv_pop hx hb dX4_obeyCommand_265 rfl ?_
    refine lv_iconst (v := 1) hx hb dX4_obeyCommand_266 (by decide) ?_
    exact x_retz rfl C0 (u17) hk hP hD hS dX4_obeyCommand_267
  have hk := hk.2 c16
  by_cases c18 : f_text_command = 106
  · have hk := hk.1 c18
    refine lv_tableIn (x := f_text_command) (off := 241) (tgt := 248) hx hb dX4_obeyCommand_7 (by rw [c18]; decide) (by rw [c18]; decide) (by rw [c18]; rfl) (by decide) ?_
    refine lv_aload_n hx hb dX4_obeyCommand_248 rfl (lv_at hl 0 rfl) ?_
    refine va_get (D := D) (ci := 4) (v := .ref h_now) (C := RX4) (T := TX4) (N := 9) hx hb hts xin_X4_obeyCommand_X4 hown hK hP 0 rfl rfl 0 (by decide) (hts (.fieldLink RX4 12 "TakeLog" "now" "LTakeLog$State;") (by decide +kernel)) (fun _ h9 => h9) rfl dX4_obeyCommand_249 ?_
    refine lv_aload_n hx hb dX4_obeyCommand_252 rfl (lv_at hl 0 rfl) ?_
    refine va_get (D := D) (ci := 4) (v := .ref h_text) (C := RX4) (T := TX4) (N := 9) hx hb hts xin_X4_obeyCommand_X4 hown hK hP 0 rfl rfl 5 (by decide) (hts (.fieldLink RX4 38 "TakeLog" "text" "LTakeLog$Day;") (by decide +kernel)) (fun _ h9 => h9) rfl dX4_obeyCommand_253 ?_
    refine va_getN (D := D) (ci := 0) (v := .int f_text_number) (C := RX0) (T := TX0) (N := 7) hx hb hts xin_X4_obeyCommand_X0 hown hK hP 3 rfl rfl 6 (by decide) (va_Nw.use rfl hN.2.2.2.2.1) (fun _ h9 => h9) rfl dX4_obeyCommand_256 ?_
    refine lv_bipush (v := 50) hx hb dX4_obeyCommand_259 (by decide) ?_
    refine lv_isub hx hb dX4_obeyCommand_261 ?_
    refine x_joini (ws1 := fun (u19 : (Nat → Int32)) => [(h, .inr (4, [.ref h_now, .ref h_copy, .ref h_past, .ref h_slots, .ref h_saved, .ref h_text, .ref h_shown, .int f_remembered, .int f_oldest])), (h_now, .inr (3, [.ref h_now_cells])), (h_now_cells, .inl (cI, 400, .inl u19)), (h_text, .inr (0, [.ref h_text_signs, .int f_text_length, .int f_text_at, .int f_text_command, .int f_text_scene, .int f_text_letter, .int f_text_number]))]) (x_runV (n0 := 1) (As := [.int (f_text_number - 50)]) (rest := []) C0 (xc_X3_setOff l D cI cC cZ cL h_now h_now_cells H.size f_now_cells (f_text_number - 50) _ hk) gX4_obeyCommand_X3_setOff rfl ⟨rfl, rfl⟩ (by decide +kernel) rfl ⟨by decide, by decide⟩ ⟨Nat.zero_le _, Nat.zero_le _⟩ hP hD [1, 2] rfl rfl (k := 1) rfl rfl rfl hl.1 rfl (Nat.le_of_ble_eq_true rfl) dX4_obeyCommand_262) hP hD hS hA [1, 2] [0, 3] [0, 2, 3, 1] rfl rfl rfl (by decide) (fun _ => rfl) rfl (fun r19 u19 H locs hk hP hD hS => ?_)
    refine lv_pop hx hb dX4_obeyCommand_265 rfl ?_
    refine lv_iconst (v := 1) hx hb dX4_obeyCommand_266 (by decide) ?_
    exact x_retz rfl C0 (u19) hk hP hD hS dX4_obeyCommand_267
  have hk := hk.2 c18
  by_cases c20 : f_text_command = 107
  · have hk := hk.1 c20
    refine lv_tableIn (x := f_text_command) (off := 241) (tgt := 248) hx hb dX4_obeyCommand_7 (by rw [c20]; decide) (by rw [c20]; decide) (by rw [c20]; rfl) (by decide) ?_
    refine lv_aload_n hx hb dX4_obeyCommand_248 rfl (lv_at hl 0 rfl) ?_
    refine va_get (D := D) (ci := 4) (v := .ref h_now) (C := RX4) (T := TX4) (N := 9) hx hb hts xin_X4_obeyCommand_X4 hown hK hP 0 rfl rfl 0 (by decide) (hts (.fieldLink RX4 12 "TakeLog" "now" "LTakeLog$State;") (by decide +kernel)) (fun _ h9 => h9) rfl dX4_obeyCommand_249 ?_
    refine lv_aload_n hx hb dX4_obeyCommand_252 rfl (lv_at hl 0 rfl) ?_
    refine va_get (D := D) (ci := 4) (v := .ref h_text) (C := RX4) (T := TX4) (N := 9) hx hb hts xin_X4_obeyCommand_X4 hown hK hP 0 rfl rfl 5 (by decide) (hts (.fieldLink RX4 38 "TakeLog" "text" "LTakeLog$Day;") (by decide +kernel)) (fun _ h9 => h9) rfl dX4_obeyCommand_253 ?_
    refine va_getN (D := D) (ci := 0) (v := .int f_text_number) (C := RX0) (T := TX0) (N := 7) hx hb hts xin_X4_obeyCommand_X0 hown hK hP 3 rfl rfl 6 (by decide) (va_Nw.use rfl hN.2.2.2.2.1) (fun _ h9 => h9) rfl dX4_obeyCommand_256 ?_
    refine lv_bipush (v := 50) hx hb dX4_obeyCommand_259 (by decide) ?_
    refine lv_isub hx hb dX4_obeyCommand_261 ?_
    refine x_joini (ws1 := fun (u21 : (Nat → Int32)) => [(h, .inr (4, [.ref h_now, .ref h_copy, .ref h_past, .ref h_slots, .ref h_saved, .ref h_text, .ref h_shown, .int f_remembered, .int f_oldest])), (h_now, .inr (3, [.ref h_now_cells])), (h_now_cells, .inl (cI, 400, .inl u21)), (h_text, .inr (0, [.ref h_text_signs, .int f_text_length, .int f_text_at, .int f_text_command, .int f_text_scene, .int f_text_letter, .int f_text_number]))]) (x_runV (n0 := 1) (As := [.int (f_text_number - 50)]) (rest := []) C0 (xc_X3_setOff l D cI cC cZ cL h_now h_now_cells H.size f_now_cells (f_text_number - 50) _ hk) gX4_obeyCommand_X3_setOff rfl ⟨rfl, rfl⟩ (by decide +kernel) rfl ⟨by decide, by decide⟩ ⟨Nat.zero_le _, Nat.zero_le _⟩ hP hD [1, 2] rfl rfl (k := 1) rfl rfl rfl hl.1 rfl (Nat.le_of_ble_eq_true rfl) dX4_obeyCommand_262) hP hD hS hA [1, 2] [0, 3] [0, 2, 3, 1] rfl rfl rfl (by decide) (fun _ => rfl) rfl (fun r21 u21 H locs hk hP hD hS => ?_)
    refine lv_pop hx hb dX4_obeyCommand_265 rfl ?_
    refine lv_iconst (v := 1) hx hb dX4_obeyCommand_266 (by decide) ?_
    exact x_retz rfl C0 (u21) hk hP hD hS dX4_obeyCommand_267
  have hk := hk.2 c20
  by_cases c22 : f_text_command = 108
  · have hk := hk.1 c22
    refine lv_tableIn (x := f_text_command) (off := 241) (tgt := 248) hx hb dX4_obeyCommand_7 (by rw [c22]; decide) (by rw [c22]; decide) (by rw [c22]; rfl) (by decide) ?_
    refine lv_aload_n hx hb dX4_obeyCommand_248 rfl (lv_at hl 0 rfl) ?_
    refine va_get (D := D) (ci := 4) (v := .ref h_now) (C := RX4) (T := TX4) (N := 9) hx hb hts xin_X4_obeyCommand_X4 hown hK hP 0 rfl rfl 0 (by decide) (hts (.fieldLink RX4 12 "TakeLog" "now" "LTakeLog$State;") (by decide +kernel)) (fun _ h9 => h9) rfl dX4_obeyCommand_249 ?_
    refine lv_aload_n hx hb dX4_obeyCommand_252 rfl (lv_at hl 0 rfl) ?_
    refine va_get (D := D) (ci := 4) (v := .ref h_text) (C := RX4) (T := TX4) (N := 9) hx hb hts xin_X4_obeyCommand_X4 hown hK hP 0 rfl rfl 5 (by decide) (hts (.fieldLink RX4 38 "TakeLog" "text" "LTakeLog$Day;") (by decide +kernel)) (fun _ h9 => h9) rfl dX4_obeyCommand_253 ?_
    refine va_getN (D := D) (ci := 0) (v := .int f_text_number) (C := RX0) (T := TX0) (N := 7) hx hb hts xin_X4_obeyCommand_X0 hown hK hP 3 rfl rfl 6 (by decide) (va_Nw.use rfl hN.2.2.2.2.1) (fun _ h9 => h9) rfl dX4_obeyCommand_256 ?_
    refine lv_bipush (v := 50) hx hb dX4_obeyCommand_259 (by decide) ?_
    refine lv_isub hx hb dX4_obeyCommand_261 ?_
    refine x_joini (ws1 := fun (u23 : (Nat → Int32)) => [(h, .inr (4, [.ref h_now, .ref h_copy, .ref h_past, .ref h_slots, .ref h_saved, .ref h_text, .ref h_shown, .int f_remembered, .int f_oldest])), (h_now, .inr (3, [.ref h_now_cells])), (h_now_cells, .inl (cI, 400, .inl u23)), (h_text, .inr (0, [.ref h_text_signs, .int f_text_length, .int f_text_at, .int f_text_command, .int f_text_scene, .int f_text_letter, .int f_text_number]))]) (x_runV (n0 := 1) (As := [.int (f_text_number - 50)]) (rest := []) C0 (xc_X3_setOff l D cI cC cZ cL h_now h_now_cells H.size f_now_cells (f_text_number - 50) _ hk) gX4_obeyCommand_X3_setOff rfl ⟨rfl, rfl⟩ (by decide +kernel) rfl ⟨by decide, by decide⟩ ⟨Nat.zero_le _, Nat.zero_le _⟩ hP hD [1, 2] rfl rfl (k := 1) rfl rfl rfl hl.1 rfl (Nat.le_of_ble_eq_true rfl) dX4_obeyCommand_262) hP hD hS hA [1, 2] [0, 3] [0, 2, 3, 1] rfl rfl rfl (by decide) (fun _ => rfl) rfl (fun r23 u23 H locs hk hP hD hS => ?_)
    refine lv_pop hx hb dX4_obeyCommand_265 rfl ?_
    refine lv_iconst (v := 1) hx hb dX4_obeyCommand_266 (by decide) ?_
    exact x_retz rfl C0 (u23) hk hP hD hS dX4_obeyCommand_267
  have hk := hk.2 c22
  by_cases c24 : f_text_command = 109
  · have hk := hk.1 c24
    refine lv_tableIn (x := f_text_command) (off := 153) (tgt := 160) hx hb dX4_obeyCommand_7 (by rw [c24]; decide) (by rw [c24]; decide) (by rw [c24]; rfl) (by decide) ?_
    refine lv_aload_n hx hb dX4_obeyCommand_160 rfl (lv_at hl 0 rfl) ?_
    refine va_get (D := D) (ci := 4) (v := .ref h_now) (C := RX4) (T := TX4) (N := 9) hx hb hts xin_X4_obeyCommand_X4 hown hK hP 0 rfl rfl 0 (by decide) (hts (.fieldLink RX4 12 "TakeLog" "now" "LTakeLog$State;") (by decide +kernel)) (fun _ h9 => h9) rfl dX4_obeyCommand_161 ?_
    refine lv_aload_n hx hb dX4_obeyCommand_164 rfl (lv_at hl 0 rfl) ?_
    refine va_get (D := D) (ci := 4) (v := .ref h_text) (C := RX4) (T := TX4) (N := 9) hx hb hts xin_X4_obeyCommand_X4 hown hK hP 0 rfl rfl 5 (by decide) (hts (.fieldLink RX4 38 "TakeLog" "text" "LTakeLog$Day;") (by decide +kernel)) (fun _ h9 => h9) rfl dX4_obeyCommand_165 ?_
    refine va_getN (D := D) (ci := 0) (v := .int f_text_number) (C := RX0) (T := TX0) (N := 7) hx hb hts xin_X4_obeyCommand_X0 hown hK hP 3 rfl rfl 6 (by decide) (va_Nw.use rfl hN.2.2.2.2.1) (fun _ h9 => h9) rfl dX4_obeyCommand_168 ?_
    refine lv_aload_n hx hb dX4_obeyCommand_171 rfl (lv_at hl 0 rfl) ?_
    refine va_get (D := D) (ci := 4) (v := .ref h_text) (C := RX4) (T := TX4) (N := 9) hx hb hts xin_X4_obeyCommand_X4 hown hK hP 0 rfl rfl 5 (by decide) (hts (.fieldLink RX4 38 "TakeLog" "text" "LTakeLog$Day;") (by decide +kernel)) (fun _ h9 => h9) rfl dX4_obeyCommand_172 ?_
    refine va_getN (D := D) (ci := 0) (v := .int f_text_command) (C := RX0) (T := TX0) (N := 7) hx hb hts xin_X4_obeyCommand_X0 hown hK hP 3 rfl rfl 3 (by decide) (va_Nw.use rfl hN.2.1) (fun _ h9 => h9) rfl dX4_obeyCommand_175 ?_
    refine lv_bipush (v := 116) hx hb dX4_obeyCommand_178 (by decide) ?_
    refine lv_icmp_ne (tgt := 187) hx hb dX4_obeyCommand_180 (by decide) (fun c25 => ?_) (fun c25 => ?_)
    · have hk := hk.1 c25
      refine lv_iconst (v := 0) hx hb dX4_obeyCommand_187 (by decide) ?_
      refine x_joini (ws1 := fun (u26 : (Nat → Int32)) => [(h, .inr (4, [.ref h_now, .ref h_copy, .ref h_past, .ref h_slots, .ref h_saved, .ref h_text, .ref h_shown, .int f_remembered, .int f_oldest])), (h_now, .inr (3, [.ref h_now_cells])), (h_now_cells, .inl (cI, 400, .inl u26)), (h_text, .inr (0, [.ref h_text_signs, .int f_text_length, .int f_text_at, .int f_text_command, .int f_text_scene, .int f_text_letter, .int f_text_number]))]) (x_runV (n0 := 2) (As := [.int f_text_number, .int 0]) (rest := []) C0 (xc_X3_tryToFilm l D cI cC cZ cL h_now h_now_cells H.size f_now_cells f_text_number 0 _ hk) gX4_obeyCommand_X3_tryToFilm rfl ⟨rfl, rfl⟩ (by decide +kernel) rfl ⟨by decide, by decide⟩ ⟨Nat.zero_le _, Nat.zero_le _⟩ hP hD [1, 2] rfl rfl (k := 1) rfl rfl rfl hl.1 rfl (Nat.le_of_ble_eq_true rfl) dX4_obeyCommand_188) hP hD hS hA [1, 2] [0, 3] [0, 2, 3, 1] rfl rfl rfl (by decide) (fun _ => rfl) rfl (fun r26 u26 H locs hk hP hD hS => ?_)
      exact x_retz hk.1 C0 (u26) hk.2 hP hD hS dX4_obeyCommand_191
    · have hk := hk.2 c25
      refine lv_iconst (v := 1) hx hb dX4_obeyCommand_183 (by decide) ?_
      refine lv_goto (tgt := 188) hx hb dX4_obeyCommand_184 (by decide) ?_
      refine x_joini (ws1 := fun (u27 : (Nat → Int32)) => [(h, .inr (4, [.ref h_now, .ref h_copy, .ref h_past, .ref h_slots, .ref h_saved, .ref h_text, .ref h_shown, .int f_remembered, .int f_oldest])), (h_now, .inr (3, [.ref h_now_cells])), (h_now_cells, .inl (cI, 400, .inl u27)), (h_text, .inr (0, [.ref h_text_signs, .int f_text_length, .int f_text_at, .int f_text_command, .int f_text_scene, .int f_text_letter, .int f_text_number]))]) (x_runV (n0 := 2) (As := [.int f_text_number, .int 1]) (rest := []) C0 (xc_X3_tryToFilm l D cI cC cZ cL h_now h_now_cells H.size f_now_cells f_text_number 1 _ hk) gX4_obeyCommand_X3_tryToFilm rfl ⟨rfl, rfl⟩ (by decide +kernel) rfl ⟨by decide, by decide⟩ ⟨Nat.zero_le _, Nat.zero_le _⟩ hP hD [1, 2] rfl rfl (k := 1) rfl rfl rfl hl.1 rfl (Nat.le_of_ble_eq_true rfl) dX4_obeyCommand_188) hP hD hS hA [1, 2] [0, 3] [0, 2, 3, 1] rfl rfl rfl (by decide) (fun _ => rfl) rfl (fun r27 u27 H locs hk hP hD hS => ?_)
      exact x_retz hk.1 C0 (u27) hk.2 hP hD hS dX4_obeyCommand_191
  have hk := hk.2 c24
  by_cases c28 : f_text_command = 110
  · have hk := hk.1 c28
    refine lv_tableIn (x := f_text_command) (off := 185) (tgt := 192) hx hb dX4_obeyCommand_7 (by rw [c28]; decide) (by rw [c28]; decide) (by rw [c28]; rfl) (by decide) ?_
    refine lv_aload_n hx hb dX4_obeyCommand_192 rfl (lv_at hl 0 rfl) ?_
    refine va_get (D := D) (ci := 4) (v := .ref h_now) (C := RX4) (T := TX4) (N := 9) hx hb hts xin_X4_obeyCommand_X4 hown hK hP 0 rfl rfl 0 (by decide) (hts (.fieldLink RX4 12 "TakeLog" "now" "LTakeLog$State;") (by decide +kernel)) (fun _ h9 => h9) rfl dX4_obeyCommand_193 ?_
    refine x_joini (ws1 := fun (u29 : (Nat → Int32)) => [(h, .inr (4, [.ref h_now, .ref h_copy, .ref h_past, .ref h_slots, .ref h_saved, .ref h_text, .ref h_shown, .int f_remembered, .int f_oldest])), (h_now, .inr (3, [.ref h_now_cells])), (h_now_cells, .inl (cI, 400, .inl u29)), (h_text, .inr (0, [.ref h_text_signs, .int f_text_length, .int f_text_at, .int f_text_command, .int f_text_scene, .int f_text_letter, .int f_text_number]))]) (x_runV (n0 := 0) (As := []) (rest := []) C0 (xc_X3_loadCamera l D cI cC cZ cL h_now h_now_cells H.size f_now_cells _ hk) gX4_obeyCommand_X3_loadCamera rfl ⟨rfl, rfl⟩ (by decide +kernel) rfl ⟨by decide, by decide⟩ ⟨Nat.zero_le _, Nat.zero_le _⟩ hP hD [1, 2] rfl rfl (k := 1) rfl rfl rfl hl.1 rfl (Nat.le_of_ble_eq_true rfl) dX4_obeyCommand_196) hP hD hS hA [1, 2] [0, 3] [0, 2, 3, 1] rfl rfl rfl (by decide) (fun _ => rfl) rfl (fun r29 u29 H locs hk hP hD hS => ?_)
    refine lv_pop hx hb dX4_obeyCommand_199 rfl ?_
    refine lv_iconst (v := 1) hx hb dX4_obeyCommand_200 (by decide) ?_
    exact x_retz rfl C0 (u29) hk hP hD hS dX4_obeyCommand_201
  have hk := hk.2 c28
  by_cases c30 : f_text_command = 111
  · have hk := hk.1 c30
    refine lv_tableIn (x := f_text_command) (off := 223) (tgt := 230) hx hb dX4_obeyCommand_7 (by rw [c30]; decide) (by rw [c30]; decide) (by rw [c30]; rfl) (by decide) ?_
    refine lv_aload_n hx hb dX4_obeyCommand_230 rfl (lv_at hl 0 rfl) ?_
    refine va_get (D := D) (ci := 4) (v := .ref h_now) (C := RX4) (T := TX4) (N := 9) hx hb hts xin_X4_obeyCommand_X4 hown hK hP 0 rfl rfl 0 (by decide) (hts (.fieldLink RX4 12 "TakeLog" "now" "LTakeLog$State;") (by decide +kernel)) (fun _ h9 => h9) rfl dX4_obeyCommand_231 ?_
    refine lv_aload_n hx hb dX4_obeyCommand_234 rfl (lv_at hl 0 rfl) ?_
    refine va_get (D := D) (ci := 4) (v := .ref h_text) (C := RX4) (T := TX4) (N := 9) hx hb hts xin_X4_obeyCommand_X4 hown hK hP 0 rfl rfl 5 (by decide) (hts (.fieldLink RX4 38 "TakeLog" "text" "LTakeLog$Day;") (by decide +kernel)) (fun _ h9 => h9) rfl dX4_obeyCommand_235 ?_
    refine va_getN (D := D) (ci := 0) (v := .int f_text_number) (C := RX0) (T := TX0) (N := 7) hx hb hts xin_X4_obeyCommand_X0 hown hK hP 3 rfl rfl 6 (by decide) (va_Nw.use rfl hN.2.2.2.2.1) (fun _ h9 => h9) rfl dX4_obeyCommand_238 ?_
    refine lv_bipush (v := 14) hx hb dX4_obeyCommand_241 (by decide) ?_
    refine lv_iconst (v := 1) hx hb dX4_obeyCommand_243 (by decide) ?_
    refine x_joini (ws1 := fun (u31 : (Nat → Int32)) => [(h, .inr (4, [.ref h_now, .ref h_copy, .ref h_past, .ref h_slots, .ref h_saved, .ref h_text, .ref h_shown, .int f_remembered, .int f_oldest])), (h_now, .inr (3, [.ref h_now_cells])), (h_now_cells, .inl (cI, 400, .inl u31)), (h_text, .inr (0, [.ref h_text_signs, .int f_text_length, .int f_text_at, .int f_text_command, .int f_text_scene, .int f_text_letter, .int f_text_number]))]) (x_runV (n0 := 3) (As := [.int f_text_number, .int 14, .int 1]) (rest := []) C0 (xc_X3_mark l D cI cC cZ cL h_now h_now_cells H.size f_now_cells f_text_number 14 1 _ hk) gX4_obeyCommand_X3_mark rfl ⟨rfl, rfl⟩ (by decide +kernel) rfl ⟨by decide, by decide⟩ ⟨Nat.zero_le _, Nat.zero_le _⟩ hP hD [1, 2] rfl rfl (k := 1) rfl rfl rfl hl.1 rfl (Nat.le_of_ble_eq_true rfl) dX4_obeyCommand_244) hP hD hS hA [1, 2] [0, 3] [0, 2, 3, 1] rfl rfl rfl (by decide) (fun _ => rfl) rfl (fun r31 u31 H locs hk hP hD hS => ?_)
    exact x_retz hk.1 C0 (u31) hk.2 hP hD hS dX4_obeyCommand_247
  have hk := hk.2 c30
  by_cases c32 : f_text_command = 112
  · have hk := hk.1 c32
    refine lv_tableIn (x := f_text_command) (off := 241) (tgt := 248) hx hb dX4_obeyCommand_7 (by rw [c32]; decide) (by rw [c32]; decide) (by rw [c32]; rfl) (by decide) ?_
    refine lv_aload_n hx hb dX4_obeyCommand_248 rfl (lv_at hl 0 rfl) ?_
    refine va_get (D := D) (ci := 4) (v := .ref h_now) (C := RX4) (T := TX4) (N := 9) hx hb hts xin_X4_obeyCommand_X4 hown hK hP 0 rfl rfl 0 (by decide) (hts (.fieldLink RX4 12 "TakeLog" "now" "LTakeLog$State;") (by decide +kernel)) (fun _ h9 => h9) rfl dX4_obeyCommand_249 ?_
    refine lv_aload_n hx hb dX4_obeyCommand_252 rfl (lv_at hl 0 rfl) ?_
    refine va_get (D := D) (ci := 4) (v := .ref h_text) (C := RX4) (T := TX4) (N := 9) hx hb hts xin_X4_obeyCommand_X4 hown hK hP 0 rfl rfl 5 (by decide) (hts (.fieldLink RX4 38 "TakeLog" "text" "LTakeLog$Day;") (by decide +kernel)) (fun _ h9 => h9) rfl dX4_obeyCommand_253 ?_
    refine va_getN (D := D) (ci := 0) (v := .int f_text_number) (C := RX0) (T := TX0) (N := 7) hx hb hts xin_X4_obeyCommand_X0 hown hK hP 3 rfl rfl 6 (by decide) (va_Nw.use rfl hN.2.2.2.2.1) (fun _ h9 => h9) rfl dX4_obeyCommand_256 ?_
    refine lv_bipush (v := 50) hx hb dX4_obeyCommand_259 (by decide) ?_
    refine lv_isub hx hb dX4_obeyCommand_261 ?_
    refine x_joini (ws1 := fun (u33 : (Nat → Int32)) => [(h, .inr (4, [.ref h_now, .ref h_copy, .ref h_past, .ref h_slots, .ref h_saved, .ref h_text, .ref h_shown, .int f_remembered, .int f_oldest])), (h_now, .inr (3, [.ref h_now_cells])), (h_now_cells, .inl (cI, 400, .inl u33)), (h_text, .inr (0, [.ref h_text_signs, .int f_text_length, .int f_text_at, .int f_text_command, .int f_text_scene, .int f_text_letter, .int f_text_number]))]) (x_runV (n0 := 1) (As := [.int (f_text_number - 50)]) (rest := []) C0 (xc_X3_setOff l D cI cC cZ cL h_now h_now_cells H.size f_now_cells (f_text_number - 50) _ hk) gX4_obeyCommand_X3_setOff rfl ⟨rfl, rfl⟩ (by decide +kernel) rfl ⟨by decide, by decide⟩ ⟨Nat.zero_le _, Nat.zero_le _⟩ hP hD [1, 2] rfl rfl (k := 1) rfl rfl rfl hl.1 rfl (Nat.le_of_ble_eq_true rfl) dX4_obeyCommand_262) hP hD hS hA [1, 2] [0, 3] [0, 2, 3, 1] rfl rfl rfl (by decide) (fun _ => rfl) rfl (fun r33 u33 H locs hk hP hD hS => ?_)
    refine lv_pop hx hb dX4_obeyCommand_265 rfl ?_
    refine lv_iconst (v := 1) hx hb dX4_obeyCommand_266 (by decide) ?_
    exact x_retz rfl C0 (u33) hk hP hD hS dX4_obeyCommand_267
  have hk := hk.2 c32
  by_cases c34 : f_text_command = 113
  · have hk := hk.1 c34
    refine lv_tableIn (x := f_text_command) (off := 241) (tgt := 248) hx hb dX4_obeyCommand_7 (by rw [c34]; decide) (by rw [c34]; decide) (by rw [c34]; rfl) (by decide) ?_
    refine lv_aload_n hx hb dX4_obeyCommand_248 rfl (lv_at hl 0 rfl) ?_
    refine va_get (D := D) (ci := 4) (v := .ref h_now) (C := RX4) (T := TX4) (N := 9) hx hb hts xin_X4_obeyCommand_X4 hown hK hP 0 rfl rfl 0 (by decide) (hts (.fieldLink RX4 12 "TakeLog" "now" "LTakeLog$State;") (by decide +kernel)) (fun _ h9 => h9) rfl dX4_obeyCommand_249 ?_
    refine lv_aload_n hx hb dX4_obeyCommand_252 rfl (lv_at hl 0 rfl) ?_
    refine va_get (D := D) (ci := 4) (v := .ref h_text) (C := RX4) (T := TX4) (N := 9) hx hb hts xin_X4_obeyCommand_X4 hown hK hP 0 rfl rfl 5 (by decide) (hts (.fieldLink RX4 38 "TakeLog" "text" "LTakeLog$Day;") (by decide +kernel)) (fun _ h9 => h9) rfl dX4_obeyCommand_253 ?_
    refine va_getN (D := D) (ci := 0) (v := .int f_text_number) (C := RX0) (T := TX0) (N := 7) hx hb hts xin_X4_obeyCommand_X0 hown hK hP 3 rfl rfl 6 (by decide) (va_Nw.use rfl hN.2.2.2.2.1) (fun _ h9 => h9) rfl dX4_obeyCommand_256 ?_
    refine lv_bipush (v := 50) hx hb dX4_obeyCommand_259 (by decide) ?_
    refine lv_isub hx hb dX4_obeyCommand_261 ?_
    refine x_joini (ws1 := fun (u35 : (Nat → Int32)) => [(h, .inr (4, [.ref h_now, .ref h_copy, .ref h_past, .ref h_slots, .ref h_saved, .ref h_text, .ref h_shown, .int f_remembered, .int f_oldest])), (h_now, .inr (3, [.ref h_now_cells])), (h_now_cells, .inl (cI, 400, .inl u35)), (h_text, .inr (0, [.ref h_text_signs, .int f_text_length, .int f_text_at, .int f_text_command, .int f_text_scene, .int f_text_letter, .int f_text_number]))]) (x_runV (n0 := 1) (As := [.int (f_text_number - 50)]) (rest := []) C0 (xc_X3_setOff l D cI cC cZ cL h_now h_now_cells H.size f_now_cells (f_text_number - 50) _ hk) gX4_obeyCommand_X3_setOff rfl ⟨rfl, rfl⟩ (by decide +kernel) rfl ⟨by decide, by decide⟩ ⟨Nat.zero_le _, Nat.zero_le _⟩ hP hD [1, 2] rfl rfl (k := 1) rfl rfl rfl hl.1 rfl (Nat.le_of_ble_eq_true rfl) dX4_obeyCommand_262) hP hD hS hA [1, 2] [0, 3] [0, 2, 3, 1] rfl rfl rfl (by decide) (fun _ => rfl) rfl (fun r35 u35 H locs hk hP hD hS => ?_)
    refine lv_pop hx hb dX4_obeyCommand_265 rfl ?_
    refine lv_iconst (v := 1) hx hb dX4_obeyCommand_266 (by decide) ?_
    exact x_retz rfl C0 (u35) hk hP hD hS dX4_obeyCommand_267
  have hk := hk.2 c34
  by_cases c36 : f_text_command = 114
  · have hk := hk.1 c36
    refine lv_tableIn (x := f_text_command) (off := 143) (tgt := 150) hx hb dX4_obeyCommand_7 (by rw [c36]; decide) (by rw [c36]; decide) (by rw [c36]; rfl) (by decide) ?_
    refine lv_aload_n hx hb dX4_obeyCommand_150 rfl (lv_at hl 0 rfl) ?_
    refine va_get (D := D) (ci := 4) (v := .ref h_now) (C := RX4) (T := TX4) (N := 9) hx hb hts xin_X4_obeyCommand_X4 hown hK hP 0 rfl rfl 0 (by decide) (hts (.fieldLink RX4 12 "TakeLog" "now" "LTakeLog$State;") (by decide +kernel)) (fun _ h9 => h9) rfl dX4_obeyCommand_151 ?_
    refine x_joini (ws1 := fun (u37 : (Nat → Int32)) => [(h, .inr (4, [.ref h_now, .ref h_copy, .ref h_past, .ref h_slots, .ref h_saved, .ref h_text, .ref h_shown, .int f_remembered, .int f_oldest])), (h_now, .inr (3, [.ref h_now_cells])), (h_now_cells, .inl (cI, 400, .inl u37)), (h_text, .inr (0, [.ref h_text_signs, .int f_text_length, .int f_text_at, .int f_text_command, .int f_text_scene, .int f_text_letter, .int f_text_number]))]) (x_runV (n0 := 0) (As := []) (rest := []) C0 (xc_X3_writeRight l D cI cC cZ cL h_now h_now_cells H.size f_now_cells _ hk) gX4_obeyCommand_X3_writeRight rfl ⟨rfl, rfl⟩ (by decide +kernel) rfl ⟨by decide, by decide⟩ ⟨Nat.zero_le _, Nat.zero_le _⟩ hP hD [1, 2] rfl rfl (k := 1) rfl rfl rfl hl.1 rfl (Nat.le_of_ble_eq_true rfl) dX4_obeyCommand_154) hP hD hS hA [1, 2] [0, 3] [0, 2, 3, 1] rfl rfl rfl (by decide) (fun _ => rfl) rfl (fun r37 u37 H locs hk hP hD hS => ?_)
    refine lv_pop hx hb dX4_obeyCommand_157 rfl ?_
    refine lv_iconst (v := 1) hx hb dX4_obeyCommand_158 (by decide) ?_
    exact x_retz rfl C0 (u37) hk hP hD hS dX4_obeyCommand_159
  have hk := hk.2 c36
  by_cases c38 : f_text_command = 115
  · have hk := hk.1 c38
    refine lv_tableIn (x := f_text_command) (off := 195) (tgt := 202) hx hb dX4_obeyCommand_7 (by rw [c38]; decide) (by rw [c38]; decide) (by rw [c38]; rfl) (by decide) ?_
    refine lv_aload_n hx hb dX4_obeyCommand_202 rfl (lv_at hl 0 rfl) ?_
    refine va_get (D := D) (ci := 4) (v := .ref h_now) (C := RX4) (T := TX4) (N := 9) hx hb hts xin_X4_obeyCommand_X4 hown hK hP 0 rfl rfl 0 (by decide) (hts (.fieldLink RX4 12 "TakeLog" "now" "LTakeLog$State;") (by decide +kernel)) (fun _ h9 => h9) rfl dX4_obeyCommand_203 ?_
    refine x_joini (ws1 := fun (u39 : (Nat → Int32)) => [(h, .inr (4, [.ref h_now, .ref h_copy, .ref h_past, .ref h_slots, .ref h_saved, .ref h_text, .ref h_shown, .int f_remembered, .int f_oldest])), (h_now, .inr (3, [.ref h_now_cells])), (h_now_cells, .inl (cI, 400, .inl u39)), (h_text, .inr (0, [.ref h_text_signs, .int f_text_length, .int f_text_at, .int f_text_command, .int f_text_scene, .int f_text_letter, .int f_text_number]))]) (x_runV (n0 := 0) (As := []) (rest := []) C0 (xc_X3_loadSound l D cI cC cZ cL h_now h_now_cells H.size f_now_cells _ hk) gX4_obeyCommand_X3_loadSound rfl ⟨rfl, rfl⟩ (by decide +kernel) rfl ⟨by decide, by decide⟩ ⟨Nat.zero_le _, Nat.zero_le _⟩ hP hD [1, 2] rfl rfl (k := 1) rfl rfl rfl hl.1 rfl (Nat.le_of_ble_eq_true rfl) dX4_obeyCommand_206) hP hD hS hA [1, 2] [0, 3] [0, 2, 3, 1] rfl rfl rfl (by decide) (fun _ => rfl) rfl (fun r39 u39 H locs hk hP hD hS => ?_)
    refine lv_pop hx hb dX4_obeyCommand_209 rfl ?_
    refine lv_iconst (v := 1) hx hb dX4_obeyCommand_210 (by decide) ?_
    exact x_retz rfl C0 (u39) hk hP hD hS dX4_obeyCommand_211
  have hk := hk.2 c38
  by_cases c40 : f_text_command = 116
  · have hk := hk.1 c40
    refine lv_tableIn (x := f_text_command) (off := 153) (tgt := 160) hx hb dX4_obeyCommand_7 (by rw [c40]; decide) (by rw [c40]; decide) (by rw [c40]; rfl) (by decide) ?_
    refine lv_aload_n hx hb dX4_obeyCommand_160 rfl (lv_at hl 0 rfl) ?_
    refine va_get (D := D) (ci := 4) (v := .ref h_now) (C := RX4) (T := TX4) (N := 9) hx hb hts xin_X4_obeyCommand_X4 hown hK hP 0 rfl rfl 0 (by decide) (hts (.fieldLink RX4 12 "TakeLog" "now" "LTakeLog$State;") (by decide +kernel)) (fun _ h9 => h9) rfl dX4_obeyCommand_161 ?_
    refine lv_aload_n hx hb dX4_obeyCommand_164 rfl (lv_at hl 0 rfl) ?_
    refine va_get (D := D) (ci := 4) (v := .ref h_text) (C := RX4) (T := TX4) (N := 9) hx hb hts xin_X4_obeyCommand_X4 hown hK hP 0 rfl rfl 5 (by decide) (hts (.fieldLink RX4 38 "TakeLog" "text" "LTakeLog$Day;") (by decide +kernel)) (fun _ h9 => h9) rfl dX4_obeyCommand_165 ?_
    refine va_getN (D := D) (ci := 0) (v := .int f_text_number) (C := RX0) (T := TX0) (N := 7) hx hb hts xin_X4_obeyCommand_X0 hown hK hP 3 rfl rfl 6 (by decide) (va_Nw.use rfl hN.2.2.2.2.1) (fun _ h9 => h9) rfl dX4_obeyCommand_168 ?_
    refine lv_aload_n hx hb dX4_obeyCommand_171 rfl (lv_at hl 0 rfl) ?_
    refine va_get (D := D) (ci := 4) (v := .ref h_text) (C := RX4) (T := TX4) (N := 9) hx hb hts xin_X4_obeyCommand_X4 hown hK hP 0 rfl rfl 5 (by decide) (hts (.fieldLink RX4 38 "TakeLog" "text" "LTakeLog$Day;") (by decide +kernel)) (fun _ h9 => h9) rfl dX4_obeyCommand_172 ?_
    refine va_getN (D := D) (ci := 0) (v := .int f_text_command) (C := RX0) (T := TX0) (N := 7) hx hb hts xin_X4_obeyCommand_X0 hown hK hP 3 rfl rfl 3 (by decide) (va_Nw.use rfl hN.2.1) (fun _ h9 => h9) rfl dX4_obeyCommand_175 ?_
    refine lv_bipush (v := 116) hx hb dX4_obeyCommand_178 (by decide) ?_
    refine lv_icmp_ne (tgt := 187) hx hb dX4_obeyCommand_180 (by decide) (fun c41 => ?_) (fun c41 => ?_)
    · have hk := hk.1 c41
      refine lv_iconst (v := 0) hx hb dX4_obeyCommand_187 (by decide) ?_
      refine x_joini (ws1 := fun (u42 : (Nat → Int32)) => [(h, .inr (4, [.ref h_now, .ref h_copy, .ref h_past, .ref h_slots, .ref h_saved, .ref h_text, .ref h_shown, .int f_remembered, .int f_oldest])), (h_now, .inr (3, [.ref h_now_cells])), (h_now_cells, .inl (cI, 400, .inl u42)), (h_text, .inr (0, [.ref h_text_signs, .int f_text_length, .int f_text_at, .int f_text_command, .int f_text_scene, .int f_text_letter, .int f_text_number]))]) (x_runV (n0 := 2) (As := [.int f_text_number, .int 0]) (rest := []) C0 (xc_X3_tryToFilm l D cI cC cZ cL h_now h_now_cells H.size f_now_cells f_text_number 0 _ hk) gX4_obeyCommand_X3_tryToFilm rfl ⟨rfl, rfl⟩ (by decide +kernel) rfl ⟨by decide, by decide⟩ ⟨Nat.zero_le _, Nat.zero_le _⟩ hP hD [1, 2] rfl rfl (k := 1) rfl rfl rfl hl.1 rfl (Nat.le_of_ble_eq_true rfl) dX4_obeyCommand_188) hP hD hS hA [1, 2] [0, 3] [0, 2, 3, 1] rfl rfl rfl (by decide) (fun _ => rfl) rfl (fun r42 u42 H locs hk hP hD hS => ?_)
      exact x_retz hk.1 C0 (u42) hk.2 hP hD hS dX4_obeyCommand_191
    · have hk := hk.2 c41
      refine lv_iconst (v := 1) hx hb dX4_obeyCommand_183 (by decide) ?_
      refine lv_goto (tgt := 188) hx hb dX4_obeyCommand_184 (by decide) ?_
      refine x_joini (ws1 := fun (u43 : (Nat → Int32)) => [(h, .inr (4, [.ref h_now, .ref h_copy, .ref h_past, .ref h_slots, .ref h_saved, .ref h_text, .ref h_shown, .int f_remembered, .int f_oldest])), (h_now, .inr (3, [.ref h_now_cells])), (h_now_cells, .inl (cI, 400, .inl u43)), (h_text, .inr (0, [.ref h_text_signs, .int f_text_length, .int f_text_at, .int f_text_command, .int f_text_scene, .int f_text_letter, .int f_text_number]))]) (x_runV (n0 := 2) (As := [.int f_text_number, .int 1]) (rest := []) C0 (xc_X3_tryToFilm l D cI cC cZ cL h_now h_now_cells H.size f_now_cells f_text_number 1 _ hk) gX4_obeyCommand_X3_tryToFilm rfl ⟨rfl, rfl⟩ (by decide +kernel) rfl ⟨by decide, by decide⟩ ⟨Nat.zero_le _, Nat.zero_le _⟩ hP hD [1, 2] rfl rfl (k := 1) rfl rfl rfl hl.1 rfl (Nat.le_of_ble_eq_true rfl) dX4_obeyCommand_188) hP hD hS hA [1, 2] [0, 3] [0, 2, 3, 1] rfl rfl rfl (by decide) (fun _ => rfl) rfl (fun r43 u43 H locs hk hP hD hS => ?_)
      exact x_retz hk.1 C0 (u43) hk.2 hP hD hS dX4_obeyCommand_191
  have hk := hk.2 c40
  have ec2 := x_ne c2 (k := 98) rfl
  have ec4 := x_ne c4 (k := 99) rfl
  have ec6 := x_ne c6 (k := 100) rfl
  have ec8 := x_ne c8 (k := 101) rfl
  have ec10 := x_ne c10 (k := 102) rfl
  have ec12 := x_ne c12 (k := 103) rfl
  have ec14 := x_ne c14 (k := 104) rfl
  have ec16 := x_ne c16 (k := 105) rfl
  have ec18 := x_ne c18 (k := 106) rfl
  have ec20 := x_ne c20 (k := 107) rfl
  have ec22 := x_ne c22 (k := 108) rfl
  have ec24 := x_ne c24 (k := 109) rfl
  have ec28 := x_ne c28 (k := 110) rfl
  have ec30 := x_ne c30 (k := 111) rfl
  have ec32 := x_ne c32 (k := 112) rfl
  have ec34 := x_ne c34 (k := 113) rfl
  have ec36 := x_ne c36 (k := 114) rfl
  have ec38 := x_ne c38 (k := 115) rfl
  have ec40 := x_ne c40 (k := 116) rfl
  refine lv_tableOut (x := f_text_command) (tgt := 248) hx hb dX4_obeyCommand_7 (by omega) (by decide) ?_
  refine lv_aload_n hx hb dX4_obeyCommand_248 rfl (lv_at hl 0 rfl) ?_
  refine va_get (D := D) (ci := 4) (v := .ref h_now) (C := RX4) (T := TX4) (N := 9) hx hb hts xin_X4_obeyCommand_X4 hown hK hP 0 rfl rfl 0 (by decide) (hts (.fieldLink RX4 12 "TakeLog" "now" "LTakeLog$State;") (by decide +kernel)) (fun _ h9 => h9) rfl dX4_obeyCommand_249 ?_
  refine lv_aload_n hx hb dX4_obeyCommand_252 rfl (lv_at hl 0 rfl) ?_
  refine va_get (D := D) (ci := 4) (v := .ref h_text) (C := RX4) (T := TX4) (N := 9) hx hb hts xin_X4_obeyCommand_X4 hown hK hP 0 rfl rfl 5 (by decide) (hts (.fieldLink RX4 38 "TakeLog" "text" "LTakeLog$Day;") (by decide +kernel)) (fun _ h9 => h9) rfl dX4_obeyCommand_253 ?_
  refine va_getN (D := D) (ci := 0) (v := .int f_text_number) (C := RX0) (T := TX0) (N := 7) hx hb hts xin_X4_obeyCommand_X0 hown hK hP 3 rfl rfl 6 (by decide) (va_Nw.use rfl hN.2.2.2.2.1) (fun _ h9 => h9) rfl dX4_obeyCommand_256 ?_
  refine lv_bipush (v := 50) hx hb dX4_obeyCommand_259 (by decide) ?_
  refine lv_isub hx hb dX4_obeyCommand_261 ?_
  refine x_joini (ws1 := fun (u44 : (Nat → Int32)) => [(h, .inr (4, [.ref h_now, .ref h_copy, .ref h_past, .ref h_slots, .ref h_saved, .ref h_text, .ref h_shown, .int f_remembered, .int f_oldest])), (h_now, .inr (3, [.ref h_now_cells])), (h_now_cells, .inl (cI, 400, .inl u44)), (h_text, .inr (0, [.ref h_text_signs, .int f_text_length, .int f_text_at, .int f_text_command, .int f_text_scene, .int f_text_letter, .int f_text_number]))]) (x_runV (n0 := 1) (As := [.int (f_text_number - 50)]) (rest := []) C0 (xc_X3_setOff l D cI cC cZ cL h_now h_now_cells H.size f_now_cells (f_text_number - 50) _ hk) gX4_obeyCommand_X3_setOff rfl ⟨rfl, rfl⟩ (by decide +kernel) rfl ⟨by decide, by decide⟩ ⟨Nat.zero_le _, Nat.zero_le _⟩ hP hD [1, 2] rfl rfl (k := 1) rfl rfl rfl hl.1 rfl (Nat.le_of_ble_eq_true rfl) dX4_obeyCommand_262) hP hD hS hA [1, 2] [0, 3] [0, 2, 3, 1] rfl rfl rfl (by decide) (fun _ => rfl) rfl (fun r44 u44 H locs hk hP hD hS => ?_)
  refine lv_pop hx hb dX4_obeyCommand_265 rfl ?_
  refine lv_iconst (v := 1) hx hb dX4_obeyCommand_266 (by decide) ?_
  exact x_retz rfl C0 (u44) hk hP hD hS dX4_obeyCommand_267
theorem xc_X4_obeyCommand (l : Launch) (D : va_G) (cI cC cZ cL : ClassId) (h h_now h_copy h_past h_slots h_saved h_text h_shown h_now_cells h_text_signs : Nat)  (sz : Nat) (f_remembered : Int32) (f_oldest : Int32) (f_now_cells : Nat → Int32) (f_text_length : Int32) (f_text_at : Int32) (f_text_command : Int32) (f_text_scene : Int32) (f_text_letter : Int32) (f_text_number : Int32)  (K : Int32 → ((Nat → Int32)) → Prop) (hk : xp_X4_obeyCommand f_text_command f_text_scene f_text_letter f_text_number f_now_cells K) : XMi l yX4_obeyCommand wsX4_obeyCommand ({ frames := 5, cells := 0, slots := 0, locals := 113 } : Room) D (xTY cI cC cZ cL) [.ref h] [(h, .inr (4, [.ref h_now, .ref h_copy, .ref h_past, .ref h_slots, .ref h_saved, .ref h_text, .ref h_shown, .int f_remembered, .int f_oldest])), (h_now, .inr (3, [.ref h_now_cells])), (h_now_cells, .inl (cI, 400, .inl f_now_cells)), (h_text, .inr (0, [.ref h_text_signs, .int f_text_length, .int f_text_at, .int f_text_command, .int f_text_scene, .int f_text_letter, .int f_text_number]))] sz (fun (r : Int32) (u : (Nat → Int32)) => K r u) (fun (u : (Nat → Int32)) => [(h, .inr (4, [.ref h_now, .ref h_copy, .ref h_past, .ref h_slots, .ref h_saved, .ref h_text, .ref h_shown, .int f_remembered, .int f_oldest])), (h_now, .inr (3, [.ref h_now_cells])), (h_now_cells, .inl (cI, 400, .inl u)), (h_text, .inr (0, [.ref h_text_signs, .int f_text_length, .int f_text_at, .int f_text_command, .int f_text_scene, .int f_text_letter, .int f_text_number]))]) :=
  x_enter (cc := cX4_obeyCommand) (maxL := 1) (ret := (some .boolean)) (own := RX4) (by decide) rfl rfl (Nat.le_of_ble_eq_true rfl) (fun p e s m below meth c ls C0 hA hP hD hS hl => xb_X4_obeyCommand_0 C0 hA _ hk s.heap [] ls hP hD hS hl)
set_option maxRecDepth 20000 in
theorem xin_X4_obeyText_X4 : ∀ w ∈ u_ws RX4 TX4 9, w ∈ wsX4_obeyText := by decide +kernel
set_option maxRecDepth 20000 in
theorem xin_X4_obeyText_X3 : ∀ w ∈ u_ws RX3 TX3 1, w ∈ wsX4_obeyText := by decide +kernel
set_option maxRecDepth 20000 in
theorem xin_X4_obeyText_X0 : ∀ w ∈ u_ws RX0 TX0 7, w ∈ wsX4_obeyText := by decide +kernel
set_option maxHeartbeats 4000000 in
set_option maxRecDepth 100000 in
theorem xb_X4_obeyText_12 {p : Program} {l : Launch} {e : Env} {s : State} {m : MethodId} {args : Array Value} {below : List Frame} {meth : Method} {c : Code} {A : Nat → Prop} {D : va_G} {cI cC cZ cL : ClassId} {h h_now h_copy h_past h_slots h_saved h_text h_shown h_now_cells h_text_signs : Nat}  {f_remembered : Int32} {f_oldest : Int32} {f_text_length : Int32} {f_text_signs : Nat → Int32} {K : Int32 → ((Nat → Int32) × Int32 × Int32 × Int32 × Int32 × Int32) → Prop}  (C0 : xC p s m args meth c cX4_obeyText 3 (some .int) wsX4_obeyText RX4 D (xTY cI cC cZ cL)) (hA : ∀ q : Nat, s.heap.size ≤ q → A q)  : ∀ (n : Nat) (f_now_cells : Nat → Int32) (f_text_at : Int32) (f_text_command : Int32) (f_text_scene : Int32) (f_text_letter : Int32) (f_text_number : Int32) (v1 : Int32) (v2 : Int32) , xp_X4_obeyText_12 f_text_signs f_text_length K n f_now_cells f_text_at f_text_command f_text_scene f_text_letter f_text_number v1 v2 → ∀ (H : Heap) (locs : List Loc) (ls : Array Slot), va_P D vwCl [(h, .inr (4, [.ref h_now, .ref h_copy, .ref h_past, .ref h_slots, .ref h_saved, .ref h_text, .ref h_shown, .int f_remembered, .int f_oldest])), (h_now, .inr (3, [.ref h_now_cells])), (h_now_cells, .inl (cI, 400, .inl f_now_cells)), (h_text, .inr (0, [.ref h_text_signs, .int f_text_length, .int f_text_at, .int f_text_command, .int f_text_scene, .int f_text_letter, .int f_text_number])), (h_text_signs, .inl (cC, 120, .inl f_text_signs))] H → va_D A [(h, .inr (4, [.ref h_now, .ref h_copy, .ref h_past, .ref h_slots, .ref h_saved, .ref h_text, .ref h_shown, .int f_remembered, .int f_oldest])), (h_now, .inr (3, [.ref h_now_cells])), (h_now_cells, .inl (cI, 400, .inl f_now_cells)), (h_text, .inr (0, [.ref h_text_signs, .int f_text_length, .int f_text_at, .int f_text_command, .int f_text_scene, .int f_text_letter, .int f_text_number])), (h_text_signs, .inl (cC, 120, .inl f_text_signs))] → va_S A s.heap H locs → lv_has ls 3 [(0, .ref h), (1, .int v1), (2, .int v2)] → W p l e ({ frames := 6, cells := 0, slots := 0, locals := 133 } : Room) s m args below meth c H locs 0 0 (MQ below (va_Qi (fun (r : Int32) (u : (Nat → Int32) × Int32 × Int32 × Int32 × Int32 × Int32) => K r u) (fun u t => xE D A ((fun (u : (Nat → Int32) × Int32 × Int32 × Int32 × Int32 × Int32) => [(h, .inr (4, [.ref h_now, .ref h_copy, .ref h_past, .ref h_slots, .ref h_saved, .ref h_text, .ref h_shown, .int f_remembered, .int f_oldest])), (h_now, .inr (3, [.ref h_now_cells])), (h_now_cells, .inl (cI, 400, .inl u.1)), (h_text, .inr (0, [.ref h_text_signs, .int f_text_length, .int u.2.1, .int u.2.2.1, .int u.2.2.2.1, .int u.2.2.2.2.1, .int u.2.2.2.2.2])), (h_text_signs, .inl (cC, 120, .inl f_text_signs))]) u) t) A) args s 0 0 A) (F0 m 12 ls []) := by
  obtain ⟨hx, hb, hr, hml, hown, hts, hlocks, hK, hN⟩ := id C0
  intro n
  induction n with
  | zero => intro f_now_cells f_text_at f_text_command f_text_scene f_text_letter f_text_number v1 v2 hk; exact hk.elim
  | succ n ih =>
    intro f_now_cells f_text_at f_text_command f_text_scene f_text_letter f_text_number v1 v2 hk H locs ls hP hD hS hl
    rw [xp_X4_obeyText_12] at hk
    refine lv_iload_n hx hb dX4_obeyText_12 rfl (lv_at hl 2 rfl) ?_
    refine lv_bipush (v := 120) hx hb dX4_obeyText_13 (by decide) ?_
    refine lv_icmp_ge (tgt := 54) hx hb dX4_obeyText_15 (by decide) (fun c1 => ?_) (fun c1 => ?_)
    · have hk := hk.1 c1
      refine lv_iload_n hx hb dX4_obeyText_54 rfl (lv_at hl 1 rfl) ?_
      exact x_reti C0 (f_now_cells, f_text_at, f_text_command, f_text_scene, f_text_letter, f_text_number) hk hP hD hS dX4_obeyText_55
    · have hk := hk.2 c1
      refine lv_aload_n hx hb dX4_obeyText_18 rfl (lv_at hl 0 rfl) ?_
      refine va_get (D := D) (ci := 4) (v := .ref h_text) (C := RX4) (T := TX4) (N := 9) hx hb hts xin_X4_obeyText_X4 hown hK hP 0 rfl rfl 5 (by decide) (hts (.fieldLink RX4 38 "TakeLog" "text" "LTakeLog$Day;") (by decide +kernel)) (fun _ h9 => h9) rfl dX4_obeyText_19 ?_
      refine x_joini (ws1 := fun (_ : Unit) => [(h, .inr (4, [.ref h_now, .ref h_copy, .ref h_past, .ref h_slots, .ref h_saved, .ref h_text, .ref h_shown, .int f_remembered, .int f_oldest])), (h_now, .inr (3, [.ref h_now_cells])), (h_now_cells, .inl (cI, 400, .inl f_now_cells)), (h_text, .inr (0, [.ref h_text_signs, .int f_text_length, .int f_text_at, .int f_text_command, .int f_text_scene, .int f_text_letter, .int f_text_number])), (h_text_signs, .inl (cC, 120, .inl f_text_signs))]) (x_runV (n0 := 0) (As := []) (rest := []) C0 (xc_X0_hasMore l D cI cC cZ cL h_text h_text_signs H.size f_text_length f_text_at f_text_command f_text_scene f_text_letter f_text_number _ hk) gX4_obeyText_X0_hasMore rfl ⟨rfl, rfl⟩ (by decide +kernel) rfl ⟨by decide, by decide⟩ ⟨Nat.zero_le _, Nat.zero_le _⟩ hP hD [3] rfl rfl (k := 3) rfl rfl rfl hl.1 rfl (Nat.le_of_ble_eq_true rfl) dX4_obeyText_22) hP hD hS hA [3] [0, 1, 2, 4] [0, 1, 2, 4, 3] rfl rfl rfl (by decide) (fun _ => rfl) rfl (fun r2 u2 H locs hk hP hD hS => ?_)
      refine lv_if_eq (tgt := 54) hx hb dX4_obeyText_25 (by decide) (fun c3 => ?_) (fun c3 => ?_)
      · have hk := hk.1 c3
        refine lv_iload_n hx hb dX4_obeyText_54 rfl (lv_at hl 1 rfl) ?_
        exact x_reti C0 (f_now_cells, f_text_at, f_text_command, f_text_scene, f_text_letter, f_text_number) hk hP hD hS dX4_obeyText_55
      · have hk := hk.2 c3
        refine lv_aload_n hx hb dX4_obeyText_28 rfl (lv_at hl 0 rfl) ?_
        refine va_get (D := D) (ci := 4) (v := .ref h_text) (C := RX4) (T := TX4) (N := 9) hx hb hts xin_X4_obeyText_X4 hown hK hP 0 rfl rfl 5 (by decide) (hts (.fieldLink RX4 38 "TakeLog" "text" "LTakeLog$Day;") (by decide +kernel)) (fun _ h9 => h9) rfl dX4_obeyText_29 ?_
        refine x_joini (ws1 := fun (u4 : Int32 × Int32 × Int32 × Int32 × Int32) => [(h, .inr (4, [.ref h_now, .ref h_copy, .ref h_past, .ref h_slots, .ref h_saved, .ref h_text, .ref h_shown, .int f_remembered, .int f_oldest])), (h_now, .inr (3, [.ref h_now_cells])), (h_now_cells, .inl (cI, 400, .inl f_now_cells)), (h_text, .inr (0, [.ref h_text_signs, .int f_text_length, .int u4.1, .int u4.2.1, .int u4.2.2.1, .int u4.2.2.2.1, .int u4.2.2.2.2])), (h_text_signs, .inl (cC, 120, .inl f_text_signs))]) (x_runV (n0 := 0) (As := []) (rest := []) C0 (xc_X0_readCommand l D cI cC cZ cL h_text h_text_signs H.size f_text_length f_text_at f_text_command f_text_scene f_text_letter f_text_number f_text_signs _ hk) gX4_obeyText_X0_readCommand rfl ⟨rfl, rfl⟩ (by decide +kernel) rfl ⟨by decide, by decide⟩ ⟨Nat.zero_le _, Nat.zero_le _⟩ hP hD [3, 4] rfl rfl (k := 3) rfl rfl rfl hl.1 rfl (Nat.le_of_ble_eq_true rfl) dX4_obeyText_32) hP hD hS hA [3, 4] [0, 1, 2] [0, 1, 2, 3, 4] rfl rfl rfl (by decide) (fun _ => rfl) rfl (fun r4 u4 H locs hk hP hD hS => ?_)
        refine lv_if_eq (tgt := 54) hx hb dX4_obeyText_35 (by decide) (fun c5 => ?_) (fun c5 => ?_)
        · have hk := hk.1 c5
          refine lv_iload_n hx hb dX4_obeyText_54 rfl (lv_at hl 1 rfl) ?_
          exact x_reti C0 (f_now_cells, u4.1, u4.2.1, u4.2.2.1, u4.2.2.2.1, u4.2.2.2.2) hk hP hD hS dX4_obeyText_55
        · have hk := hk.2 c5
          refine lv_aload_n hx hb dX4_obeyText_38 rfl (lv_at hl 0 rfl) ?_
          refine x_joini (ws1 := fun (u6 : (Nat → Int32)) => [(h, .inr (4, [.ref h_now, .ref h_copy, .ref h_past, .ref h_slots, .ref h_saved, .ref h_text, .ref h_shown, .int f_remembered, .int f_oldest])), (h_now, .inr (3, [.ref h_now_cells])), (h_now_cells, .inl (cI, 400, .inl u6)), (h_text, .inr (0, [.ref h_text_signs, .int f_text_length, .int u4.1, .int u4.2.1, .int u4.2.2.1, .int u4.2.2.2.1, .int u4.2.2.2.2])), (h_text_signs, .inl (cC, 120, .inl f_text_signs))]) (x_runV (n0 := 0) (As := []) (rest := []) C0 (xc_X4_obeyCommand l D cI cC cZ cL h h_now h_copy h_past h_slots h_saved h_text h_shown h_now_cells h_text_signs H.size f_remembered f_oldest f_now_cells f_text_length u4.1 u4.2.1 u4.2.2.1 u4.2.2.2.1 u4.2.2.2.2 _ hk) gX4_obeyText_X4_obeyCommand rfl ⟨rfl, rfl⟩ (by decide +kernel) rfl ⟨by decide, by decide⟩ ⟨Nat.zero_le _, Nat.zero_le _⟩ hP hD [0, 1, 2, 3] rfl rfl (k := 0) rfl rfl rfl hl.1 rfl (Nat.le_of_ble_eq_true rfl) dX4_obeyText_39) hP hD hS hA [0, 1, 2, 3] [4] [1, 2, 3, 4, 0] rfl rfl rfl (by decide) (fun _ => rfl) rfl (fun r6 u6 H locs hk hP hD hS => ?_)
          refine lv_if_ne (tgt := 48) hx hb dX4_obeyText_42 (by decide) (fun c7 => ?_) (fun c7 => ?_)
          · have hk := hk.1 c7
            refine lv_iinc (v := (v2 + 1)) (lv' := [(2, .int (v2 + 1)), (0, .ref h), (1, .int v1)]) hx hb dX4_obeyText_48 hl (k := 2) rfl rfl (by decide) rfl (fun ls hl => ?_)
            refine lv_goto (tgt := 12) hx hb dX4_obeyText_51 (by decide) ?_
            exact ih _ _ _ _ _ _ _ _ hk H locs ls hP hD hS (lv_sub hl [1, 2, 0] rfl)
          · have hk := hk.2 c7
            refine lv_iinc (v := (v1 + 1)) (lv' := [(1, .int (v1 + 1)), (0, .ref h), (2, .int v2)]) hx hb dX4_obeyText_45 hl (k := 1) rfl rfl (by decide) rfl (fun ls hl => ?_)
            refine lv_iinc (v := (v2 + 1)) (lv' := [(2, .int (v2 + 1)), (1, .int (v1 + 1)), (0, .ref h)]) hx hb dX4_obeyText_48 hl (k := 2) rfl rfl (by decide) rfl (fun ls hl => ?_)
            refine lv_goto (tgt := 12) hx hb dX4_obeyText_51 (by decide) ?_
            exact ih _ _ _ _ _ _ _ _ hk H locs ls hP hD hS (lv_sub hl [2, 1, 0] rfl)
set_option maxHeartbeats 4000000 in
set_option maxRecDepth 100000 in
theorem xb_X4_obeyText_0 {p : Program} {l : Launch} {e : Env} {s : State} {m : MethodId} {args : Array Value} {below : List Frame} {meth : Method} {c : Code} {A : Nat → Prop} {D : va_G} {cI cC cZ cL : ClassId} {h h_now h_copy h_past h_slots h_saved h_text h_shown h_now_cells h_text_signs : Nat}  {f_remembered : Int32} {f_oldest : Int32} {f_text_length : Int32} {f_text_signs : Nat → Int32} {K : Int32 → ((Nat → Int32) × Int32 × Int32 × Int32 × Int32 × Int32) → Prop}  (C0 : xC p s m args meth c cX4_obeyText 3 (some .int) wsX4_obeyText RX4 D (xTY cI cC cZ cL)) (hA : ∀ q : Nat, s.heap.size ≤ q → A q)  : ∀ (f_now_cells : Nat → Int32) (f_text_at : Int32) (f_text_command : Int32) (f_text_scene : Int32) (f_text_letter : Int32) (f_text_number : Int32) , xp_X4_obeyText f_text_signs f_text_length f_now_cells f_text_at f_text_command f_text_scene f_text_letter f_text_number K → ∀ (H : Heap) (locs : List Loc) (ls : Array Slot), va_P D vwCl [(h, .inr (4, [.ref h_now, .ref h_copy, .ref h_past, .ref h_slots, .ref h_saved, .ref h_text, .ref h_shown, .int f_remembered, .int f_oldest])), (h_now, .inr (3, [.ref h_now_cells])), (h_now_cells, .inl (cI, 400, .inl f_now_cells)), (h_text, .inr (0, [.ref h_text_signs, .int f_text_length, .int f_text_at, .int f_text_command, .int f_text_scene, .int f_text_letter, .int f_text_number])), (h_text_signs, .inl (cC, 120, .inl f_text_signs))] H → va_D A [(h, .inr (4, [.ref h_now, .ref h_copy, .ref h_past, .ref h_slots, .ref h_saved, .ref h_text, .ref h_shown, .int f_remembered, .int f_oldest])), (h_now, .inr (3, [.ref h_now_cells])), (h_now_cells, .inl (cI, 400, .inl f_now_cells)), (h_text, .inr (0, [.ref h_text_signs, .int f_text_length, .int f_text_at, .int f_text_command, .int f_text_scene, .int f_text_letter, .int f_text_number])), (h_text_signs, .inl (cC, 120, .inl f_text_signs))] → va_S A s.heap H locs → lv_has ls 3 [(0, .ref h)] → W p l e ({ frames := 6, cells := 0, slots := 0, locals := 133 } : Room) s m args below meth c H locs 0 0 (MQ below (va_Qi (fun (r : Int32) (u : (Nat → Int32) × Int32 × Int32 × Int32 × Int32 × Int32) => K r u) (fun u t => xE D A ((fun (u : (Nat → Int32) × Int32 × Int32 × Int32 × Int32 × Int32) => [(h, .inr (4, [.ref h_now, .ref h_copy, .ref h_past, .ref h_slots, .ref h_saved, .ref h_text, .ref h_shown, .int f_remembered, .int f_oldest])), (h_now, .inr (3, [.ref h_now_cells])), (h_now_cells, .inl (cI, 400, .inl u.1)), (h_text, .inr (0, [.ref h_text_signs, .int f_text_length, .int u.2.1, .int u.2.2.1, .int u.2.2.2.1, .int u.2.2.2.2.1, .int u.2.2.2.2.2])), (h_text_signs, .inl (cC, 120, .inl f_text_signs))]) u) t) A) args s 0 0 A) (F0 m 0 ls []) := by
  obtain ⟨hx, hb, hr, hml, hown, hts, hlocks, hK, hN⟩ := id C0
  intro f_now_cells f_text_at f_text_command f_text_scene f_text_letter f_text_number hk H locs ls hP hD hS hl
  rw [xp_X4_obeyText] at hk
  refine lv_iconst (v := 0) hx hb dX4_obeyText_0 (by decide) ?_
  refine lv_istore_n (lv' := [(1, .int 0), (0, .ref h)]) hx hb dX4_obeyText_1 rfl hl (by decide) rfl (fun ls hl => ?_)
  refine lv_aload_n hx hb dX4_obeyText_2 rfl (lv_at hl 1 rfl) ?_
  refine va_get (D := D) (ci := 4) (v := .ref h_text) (C := RX4) (T := TX4) (N := 9) hx hb hts xin_X4_obeyText_X4 hown hK hP 0 rfl rfl 5 (by decide) (hts (.fieldLink RX4 38 "TakeLog" "text" "LTakeLog$Day;") (by decide +kernel)) (fun _ h9 => h9) rfl dX4_obeyText_3 ?_
  refine x_joini (ws1 := fun (u1 : Int32) => [(h, .inr (4, [.ref h_now, .ref h_copy, .ref h_past, .ref h_slots, .ref h_saved, .ref h_text, .ref h_shown, .int f_remembered, .int f_oldest])), (h_now, .inr (3, [.ref h_now_cells])), (h_now_cells, .inl (cI, 400, .inl f_now_cells)), (h_text, .inr (0, [.ref h_text_signs, .int f_text_length, .int u1, .int f_text_command, .int f_text_scene, .int f_text_letter, .int f_text_number])), (h_text_signs, .inl (cC, 120, .inl f_text_signs))]) (x_runV (n0 := 0) (As := []) (rest := []) C0 (xc_X0_startReading l D cI cC cZ cL h_text h_text_signs H.size f_text_length f_text_at f_text_command f_text_scene f_text_letter f_text_number f_text_signs _ hk) gX4_obeyText_X0_startReading rfl ⟨rfl, rfl⟩ (by decide +kernel) rfl ⟨by decide, by decide⟩ ⟨Nat.zero_le _, Nat.zero_le _⟩ hP hD [3, 4] rfl rfl (k := 3) rfl rfl rfl hl.1 rfl (Nat.le_of_ble_eq_true rfl) dX4_obeyText_6) hP hD hS hA [3, 4] [0, 1, 2] [0, 1, 2, 3, 4] rfl rfl rfl (by decide) (fun _ => rfl) rfl (fun r1 u1 H locs hk hP hD hS => ?_)
  refine lv_pop hx hb dX4_obeyText_9 rfl ?_
  refine lv_iconst (v := 0) hx hb dX4_obeyText_10 (by decide) ?_
  refine lv_istore_n (lv' := [(2, .int 0), (1, .int 0), (0, .ref h)]) hx hb dX4_obeyText_11 rfl hl (by decide) rfl (fun ls hl => ?_)
  obtain ⟨n9, hk⟩ := hk
  exact xb_X4_obeyText_12 C0 hA  n9 _ _ _ _ _ _ _ _ hk H locs ls hP hD hS (lv_sub hl [2, 1, 0] rfl)
theorem xc_X4_obeyText (l : Launch) (D : va_G) (cI cC cZ cL : ClassId) (h h_now h_copy h_past h_slots h_saved h_text h_shown h_now_cells h_text_signs : Nat)  (sz : Nat) (f_remembered : Int32) (f_oldest : Int32) (f_now_cells : Nat → Int32) (f_text_length : Int32) (f_text_at : Int32) (f_text_command : Int32) (f_text_scene : Int32) (f_text_letter : Int32) (f_text_number : Int32) (f_text_signs : Nat → Int32)  (K : Int32 → ((Nat → Int32) × Int32 × Int32 × Int32 × Int32 × Int32) → Prop) (hk : xp_X4_obeyText f_text_signs f_text_length f_now_cells f_text_at f_text_command f_text_scene f_text_letter f_text_number K) : XMi l yX4_obeyText wsX4_obeyText ({ frames := 6, cells := 0, slots := 0, locals := 133 } : Room) D (xTY cI cC cZ cL) [.ref h] [(h, .inr (4, [.ref h_now, .ref h_copy, .ref h_past, .ref h_slots, .ref h_saved, .ref h_text, .ref h_shown, .int f_remembered, .int f_oldest])), (h_now, .inr (3, [.ref h_now_cells])), (h_now_cells, .inl (cI, 400, .inl f_now_cells)), (h_text, .inr (0, [.ref h_text_signs, .int f_text_length, .int f_text_at, .int f_text_command, .int f_text_scene, .int f_text_letter, .int f_text_number])), (h_text_signs, .inl (cC, 120, .inl f_text_signs))] sz (fun (r : Int32) (u : (Nat → Int32) × Int32 × Int32 × Int32 × Int32 × Int32) => K r u) (fun (u : (Nat → Int32) × Int32 × Int32 × Int32 × Int32 × Int32) => [(h, .inr (4, [.ref h_now, .ref h_copy, .ref h_past, .ref h_slots, .ref h_saved, .ref h_text, .ref h_shown, .int f_remembered, .int f_oldest])), (h_now, .inr (3, [.ref h_now_cells])), (h_now_cells, .inl (cI, 400, .inl u.1)), (h_text, .inr (0, [.ref h_text_signs, .int f_text_length, .int u.2.1, .int u.2.2.1, .int u.2.2.2.1, .int u.2.2.2.2.1, .int u.2.2.2.2.2])), (h_text_signs, .inl (cC, 120, .inl f_text_signs))]) :=
  x_enter (cc := cX4_obeyText) (maxL := 3) (ret := (some .int)) (own := RX4) (by decide) rfl rfl (Nat.le_of_ble_eq_true rfl) (fun p e s m below meth c ls C0 hA hP hD hS hl => xb_X4_obeyText_0 C0 hA _ _ _ _ _ _ hk s.heap [] ls hP hD hS hl)
set_option maxHeartbeats 4000000 in
set_option maxRecDepth 100000 in
theorem xb_X4_isSetup_0 {p : Program} {l : Launch} {e : Env} {s : State} {m : MethodId} {args : Array Value} {below : List Frame} {meth : Method} {c : Code} {A : Nat → Prop} {D : va_G} {cI cC cZ cL : ClassId}    {K : Int32 → Prop}  (C0 : xC p s m args meth c cX4_isSetup 2 (some .boolean) wsX4_isSetup RX4 D (xTY cI cC cZ cL)) (hA : ∀ q : Nat, s.heap.size ≤ q → A q)  : ∀ (x1 : Int32) (x2 : Int32) , xp_X4_isSetup x1 x2 K → ∀ (H : Heap) (locs : List Loc) (ls : Array Slot), va_P D vwCl [] H → va_D A [] → va_S A s.heap H locs → lv_has ls 2 [(0, .int x1), (1, .int x2)] → W p l e ({ frames := 0, cells := 0, slots := 0, locals := 0 } : Room) s m args below meth c H locs 0 0 (MQ below (va_Qi (fun (r : Int32) (_ : Unit) => K r) (fun u t => xE D A ((fun (_ : Unit) => []) u) t) A) args s 0 0 A) (F0 m 0 ls []) := by
  obtain ⟨hx, hb, hr, hml, hown, hts, hlocks, hK, hN⟩ := id C0
  intro x1 x2 hk H locs ls hP hD hS hl
  rw [xp_X4_isSetup] at hk
  refine lv_iload_n hx hb dX4_isSetup_0 rfl (lv_at hl 0 rfl) ?_
  refine lv_iconst (v := 1) hx hb dX4_isSetup_1 (by decide) ?_
  refine lv_icmp_lt (tgt := 25) hx hb dX4_isSetup_2 (by decide) (fun c1 => ?_) (fun c1 => ?_)
  · have hk := hk.1 c1
    refine lv_iconst (v := 0) hx hb dX4_isSetup_25 (by decide) ?_
    exact x_retz rfl C0 () hk hP hD hS dX4_isSetup_26
  · have hk := hk.2 c1
    refine lv_iload_n hx hb dX4_isSetup_5 rfl (lv_at hl 0 rfl) ?_
    refine lv_bipush (v := 99) hx hb dX4_isSetup_6 (by decide) ?_
    refine lv_icmp_gt (tgt := 25) hx hb dX4_isSetup_8 (by decide) (fun c2 => ?_) (fun c2 => ?_)
    · have hk := hk.1 c2
      refine lv_iconst (v := 0) hx hb dX4_isSetup_25 (by decide) ?_
      exact x_retz rfl C0 () hk hP hD hS dX4_isSetup_26
    · have hk := hk.2 c2
      refine lv_iload_n hx hb dX4_isSetup_11 rfl (lv_at hl 1 rfl) ?_
      refine lv_if_lt (tgt := 25) hx hb dX4_isSetup_12 (by decide) (fun c3 => ?_) (fun c3 => ?_)
      · have hk := hk.1 c3
        refine lv_iconst (v := 0) hx hb dX4_isSetup_25 (by decide) ?_
        exact x_retz rfl C0 () hk hP hD hS dX4_isSetup_26
      · have hk := hk.2 c3
        refine lv_iload_n hx hb dX4_isSetup_15 rfl (lv_at hl 1 rfl) ?_
        refine lv_bipush (v := 25) hx hb dX4_isSetup_16 (by decide) ?_
        refine lv_icmp_gt (tgt := 25) hx hb dX4_isSetup_18 (by decide) (fun c4 => ?_) (fun c4 => ?_)
        · have hk := hk.1 c4
          refine lv_iconst (v := 0) hx hb dX4_isSetup_25 (by decide) ?_
          exact x_retz rfl C0 () hk hP hD hS dX4_isSetup_26
        · have hk := hk.2 c4
          refine lv_iconst (v := 1) hx hb dX4_isSetup_21 (by decide) ?_
          refine lv_goto (tgt := 26) hx hb dX4_isSetup_22 (by decide) ?_
          exact x_retz rfl C0 () hk hP hD hS dX4_isSetup_26
theorem xc_X4_isSetup (l : Launch) (D : va_G) (cI cC cZ cL : ClassId)   (sz : Nat)  (x1 : Int32) (x2 : Int32) (K : Int32 → Prop) (hk : xp_X4_isSetup x1 x2 K) : XMi l yX4_isSetup wsX4_isSetup ({ frames := 0, cells := 0, slots := 0, locals := 0 } : Room) D (xTY cI cC cZ cL) [.int x1, .int x2] [] sz (fun (r : Int32) (_ : Unit) => K r) (fun (_ : Unit) => []) :=
  x_enter (cc := cX4_isSetup) (maxL := 2) (ret := (some .boolean)) (own := RX4) (by decide) rfl rfl (Nat.le_of_ble_eq_true rfl) (fun p e s m below meth c ls C0 hA hP hD hS hl => xb_X4_isSetup_0 C0 hA _ _ hk s.heap [] ls hP hD hS hl)
set_option maxRecDepth 20000 in
theorem xin_X4_remember_X4 : ∀ w ∈ u_ws RX4 TX4 9, w ∈ wsX4_remember := by decide +kernel
set_option maxRecDepth 20000 in
theorem xin_X4_remember_X3 : ∀ w ∈ u_ws RX3 TX3 1, w ∈ wsX4_remember := by decide +kernel
set_option maxRecDepth 20000 in
theorem xin_X4_remember_X2 : ∀ w ∈ u_ws RX2 TX2 2, w ∈ wsX4_remember := by decide +kernel
set_option maxHeartbeats 4000000 in
set_option maxRecDepth 100000 in
theorem xb_X4_remember_32 {p : Program} {l : Launch} {e : Env} {s : State} {m : MethodId} {args : Array Value} {below : List Frame} {meth : Method} {c : Code} {A : Nat → Prop} {D : va_G} {cI cC cZ cL : ClassId} {h h_now h_copy h_past h_slots h_saved h_text h_shown h_now_cells h_past_cells : Nat}  {f_now_cells : Nat → Int32} {K : ((Nat → Int32) × Int32 × Int32) → Prop}  (C0 : xC p s m args meth c cX4_remember 1 none wsX4_remember RX4 D (xTY cI cC cZ cL)) (hA : ∀ q : Nat, s.heap.size ≤ q → A q)  : ∀ (f_past_cells : Nat → Int32) (f_remembered : Int32) (f_oldest : Int32) , xp_X4_remember_32 f_now_cells K f_past_cells f_remembered f_oldest → ∀ (H : Heap) (locs : List Loc) (ls : Array Slot), va_P D vwCl [(h, .inr (4, [.ref h_now, .ref h_copy, .ref h_past, .ref h_slots, .ref h_saved, .ref h_text, .ref h_shown, .int f_remembered, .int f_oldest])), (h_now, .inr (3, [.ref h_now_cells])), (h_now_cells, .inl (cI, 400, .inl f_now_cells)), (h_past, .inr (2, [.ref h_past_cells, .int 14])), (h_past_cells, .inl (cI, 5600, .inl f_past_cells))] H → va_D A [(h, .inr (4, [.ref h_now, .ref h_copy, .ref h_past, .ref h_slots, .ref h_saved, .ref h_text, .ref h_shown, .int f_remembered, .int f_oldest])), (h_now, .inr (3, [.ref h_now_cells])), (h_now_cells, .inl (cI, 400, .inl f_now_cells)), (h_past, .inr (2, [.ref h_past_cells, .int 14])), (h_past_cells, .inl (cI, 5600, .inl f_past_cells))] → va_S A s.heap H locs → lv_has ls 1 [(0, .ref h)] → W p l e ({ frames := 2, cells := 0, slots := 0, locals := 59 } : Room) s m args below meth c H locs 0 0 (MQ below (va_Qv (fun (u : (Nat → Int32) × Int32 × Int32) => K u) (fun u t => xE D A ((fun (u : (Nat → Int32) × Int32 × Int32) => [(h, .inr (4, [.ref h_now, .ref h_copy, .ref h_past, .ref h_slots, .ref h_saved, .ref h_text, .ref h_shown, .int u.2.1, .int u.2.2])), (h_now, .inr (3, [.ref h_now_cells])), (h_now_cells, .inl (cI, 400, .inl f_now_cells)), (h_past, .inr (2, [.ref h_past_cells, .int 14])), (h_past_cells, .inl (cI, 5600, .inl u.1))]) u) t) A) args s 0 0 A) (F0 m 32 ls []) := by
  obtain ⟨hx, hb, hr, hml, hown, hts, hlocks, hK, hN⟩ := id C0
  intro f_past_cells f_remembered f_oldest hk H locs ls hP hD hS hl
  rw [xp_X4_remember_32] at hk
  refine lv_aload_n hx hb dX4_remember_32 rfl (lv_at hl 0 rfl) ?_
  refine va_get (D := D) (ci := 4) (v := .ref h_past) (C := RX4) (T := TX4) (N := 9) hx hb hts xin_X4_remember_X4 hown hK hP 0 rfl rfl 2 (by decide) (hts (.fieldLink RX4 24 "TakeLog" "past" "LTakeLog$Shelf;") (by decide +kernel)) (fun _ h9 => h9) rfl dX4_remember_33 ?_
  refine lv_aload_n hx hb dX4_remember_36 rfl (lv_at hl 0 rfl) ?_
  refine va_get (D := D) (ci := 4) (v := .int f_oldest) (C := RX4) (T := TX4) (N := 9) hx hb hts xin_X4_remember_X4 hown hK hP 0 rfl rfl 8 (by decide) (hts (.fieldLink RX4 198 "TakeLog" "oldest" "I") (by decide +kernel)) (fun _ h9 => h9) rfl dX4_remember_37 ?_
  refine lv_aload_n hx hb dX4_remember_40 rfl (lv_at hl 0 rfl) ?_
  refine va_get (D := D) (ci := 4) (v := .int f_remembered) (C := RX4) (T := TX4) (N := 9) hx hb hts xin_X4_remember_X4 hown hK hP 0 rfl rfl 7 (by decide) (hts (.fieldLink RX4 192 "TakeLog" "remembered" "I") (by decide +kernel)) (fun _ h9 => h9) rfl dX4_remember_41 ?_
  refine lv_iadd hx hb dX4_remember_44 ?_
  refine lv_bipush (v := 14) hx hb dX4_remember_45 (by decide) ?_
  refine lv_irem hx hb dX4_remember_47 (by decide) ?_
  refine lv_aload_n hx hb dX4_remember_48 rfl (lv_at hl 0 rfl) ?_
  refine va_get (D := D) (ci := 4) (v := .ref h_now) (C := RX4) (T := TX4) (N := 9) hx hb hts xin_X4_remember_X4 hown hK hP 0 rfl rfl 0 (by decide) (hts (.fieldLink RX4 12 "TakeLog" "now" "LTakeLog$State;") (by decide +kernel)) (fun _ h9 => h9) rfl dX4_remember_49 ?_
  refine x_joinv (ws1 := fun (u1 : (Nat → Int32)) => [(h, .inr (4, [.ref h_now, .ref h_copy, .ref h_past, .ref h_slots, .ref h_saved, .ref h_text, .ref h_shown, .int f_remembered, .int f_oldest])), (h_now, .inr (3, [.ref h_now_cells])), (h_now_cells, .inl (cI, 400, .inl f_now_cells)), (h_past, .inr (2, [.ref h_past_cells, .int 14])), (h_past_cells, .inl (cI, 5600, .inl u1))]) (x_runV (n0 := 2) (As := [.int ((f_oldest + f_remembered) - (f_oldest + f_remembered) / 14 * 14), .ref h_now]) (rest := []) C0 (xc_X2_store l D cI cC cZ cL h_past h_past_cells h_now h_now_cells 5600 H.size 14 f_past_cells f_now_cells ((f_oldest + f_remembered) - (f_oldest + f_remembered) / 14 * 14) _ hk) gX4_remember_X2_store rfl ⟨rfl, rfl⟩ (by decide +kernel) rfl ⟨by decide, by decide⟩ ⟨Nat.zero_le _, Nat.zero_le _⟩ hP hD [3, 4, 1, 2] rfl rfl (k := 3) rfl rfl rfl hl.1 rfl (Nat.le_of_ble_eq_true rfl) dX4_remember_52) hP hD hS hA [3, 4, 1, 2] [0] [0, 3, 4, 1, 2] rfl rfl rfl (by decide) (fun _ => rfl) rfl (fun u1 H locs hk hP hD hS => ?_)
  refine lv_aload_n hx hb dX4_remember_55 rfl (lv_at hl 0 rfl) ?_
  refine lv_dup hx hb dX4_remember_56 rfl ?_
  refine va_get (D := D) (ci := 4) (v := .int f_remembered) (C := RX4) (T := TX4) (N := 9) hx hb hts xin_X4_remember_X4 hown hK hP 0 rfl rfl 7 (by decide) (hts (.fieldLink RX4 192 "TakeLog" "remembered" "I") (by decide +kernel)) (fun _ h9 => h9) rfl dX4_remember_57 ?_
  refine lv_iconst (v := 1) hx hb dX4_remember_60 (by decide) ?_
  refine lv_iadd hx hb dX4_remember_61 ?_
  refine va_put (D := D) (ci := 4) (v := .int (f_remembered + 1)) (ty := .int) (C := RX4) (T := TX4) (N := 9) hx hb hts xin_X4_remember_X4 tyX4 tyX4_ok nmX4 hown hK hP hD hS 0 rfl rfl 7 (by decide) (hts (.fieldLink RX4 192 "TakeLog" "remembered" "I") (by decide +kernel)) (fun _ h9 => h9) rfl (by decide +kernel) rfl rfl (Nat.le_of_ble_eq_true rfl) dX4_remember_62 (fun H locs hP hD hS => ?_)
  have hP : va_P D vwCl [(h, .inr (4, [.ref h_now, .ref h_copy, .ref h_past, .ref h_slots, .ref h_saved, .ref h_text, .ref h_shown, .int (f_remembered + 1), .int f_oldest])), (h_now, .inr (3, [.ref h_now_cells])), (h_now_cells, .inl (cI, 400, .inl f_now_cells)), (h_past, .inr (2, [.ref h_past_cells, .int 14])), (h_past_cells, .inl (cI, 5600, .inl u1))] H := hP
  have hD : va_D A [(h, .inr (4, [.ref h_now, .ref h_copy, .ref h_past, .ref h_slots, .ref h_saved, .ref h_text, .ref h_shown, .int (f_remembered + 1), .int f_oldest])), (h_now, .inr (3, [.ref h_now_cells])), (h_now_cells, .inl (cI, 400, .inl f_now_cells)), (h_past, .inr (2, [.ref h_past_cells, .int 14])), (h_past_cells, .inl (cI, 5600, .inl u1))] := hD
  exact x_retv C0 (u1, f_remembered + 1, f_oldest) hk hP hD hS dX4_remember_65
set_option maxHeartbeats 4000000 in
set_option maxRecDepth 100000 in
theorem xb_X4_remember_0 {p : Program} {l : Launch} {e : Env} {s : State} {m : MethodId} {args : Array Value} {below : List Frame} {meth : Method} {c : Code} {A : Nat → Prop} {D : va_G} {cI cC cZ cL : ClassId} {h h_now h_copy h_past h_slots h_saved h_text h_shown h_now_cells h_past_cells : Nat}  {f_now_cells : Nat → Int32} {K : ((Nat → Int32) × Int32 × Int32) → Prop}  (C0 : xC p s m args meth c cX4_remember 1 none wsX4_remember RX4 D (xTY cI cC cZ cL)) (hA : ∀ q : Nat, s.heap.size ≤ q → A q)  : ∀ (f_past_cells : Nat → Int32) (f_remembered : Int32) (f_oldest : Int32) , xp_X4_remember f_now_cells f_past_cells f_remembered f_oldest K → ∀ (H : Heap) (locs : List Loc) (ls : Array Slot), va_P D vwCl [(h, .inr (4, [.ref h_now, .ref h_copy, .ref h_past, .ref h_slots, .ref h_saved, .ref h_text, .ref h_shown, .int f_remembered, .int f_oldest])), (h_now, .inr (3, [.ref h_now_cells])), (h_now_cells, .inl (cI, 400, .inl f_now_cells)), (h_past, .inr (2, [.ref h_past_cells, .int 14])), (h_past_cells, .inl (cI, 5600, .inl f_past_cells))] H → va_D A [(h, .inr (4, [.ref h_now, .ref h_copy, .ref h_past, .ref h_slots, .ref h_saved, .ref h_text, .ref h_shown, .int f_remembered, .int f_oldest])), (h_now, .inr (3, [.ref h_now_cells])), (h_now_cells, .inl (cI, 400, .inl f_now_cells)), (h_past, .inr (2, [.ref h_past_cells, .int 14])), (h_past_cells, .inl (cI, 5600, .inl f_past_cells))] → va_S A s.heap H locs → lv_has ls 1 [(0, .ref h)] → W p l e ({ frames := 2, cells := 0, slots := 0, locals := 59 } : Room) s m args below meth c H locs 0 0 (MQ below (va_Qv (fun (u : (Nat → Int32) × Int32 × Int32) => K u) (fun u t => xE D A ((fun (u : (Nat → Int32) × Int32 × Int32) => [(h, .inr (4, [.ref h_now, .ref h_copy, .ref h_past, .ref h_slots, .ref h_saved, .ref h_text, .ref h_shown, .int u.2.1, .int u.2.2])), (h_now, .inr (3, [.ref h_now_cells])), (h_now_cells, .inl (cI, 400, .inl f_now_cells)), (h_past, .inr (2, [.ref h_past_cells, .int 14])), (h_past_cells, .inl (cI, 5600, .inl u.1))]) u) t) A) args s 0 0 A) (F0 m 0 ls []) := by
  obtain ⟨hx, hb, hr, hml, hown, hts, hlocks, hK, hN⟩ := id C0
  intro f_past_cells f_remembered f_oldest hk H locs ls hP hD hS hl
  rw [xp_X4_remember] at hk
  refine lv_aload_n hx hb dX4_remember_0 rfl (lv_at hl 0 rfl) ?_
  refine va_get (D := D) (ci := 4) (v := .int f_remembered) (C := RX4) (T := TX4) (N := 9) hx hb hts xin_X4_remember_X4 hown hK hP 0 rfl rfl 7 (by decide) (hts (.fieldLink RX4 192 "TakeLog" "remembered" "I") (by decide +kernel)) (fun _ h9 => h9) rfl dX4_remember_1 ?_
  refine lv_bipush (v := 14) hx hb dX4_remember_4 (by decide) ?_
  refine lv_icmp_ne (tgt := 32) hx hb dX4_remember_6 (by decide) (fun c1 => ?_) (fun c1 => ?_)
  · have hk := hk.1 c1
    exact xb_X4_remember_32 C0 hA  _ _ _ hk H locs ls hP hD hS (lv_sub hl [0] rfl)
  · have hk := hk.2 c1
    refine lv_aload_n hx hb dX4_remember_9 rfl (lv_at hl 0 rfl) ?_
    refine lv_aload_n hx hb dX4_remember_10 rfl (lv_at hl 0 rfl) ?_
    refine va_get (D := D) (ci := 4) (v := .int f_oldest) (C := RX4) (T := TX4) (N := 9) hx hb hts xin_X4_remember_X4 hown hK hP 0 rfl rfl 8 (by decide) (hts (.fieldLink RX4 198 "TakeLog" "oldest" "I") (by decide +kernel)) (fun _ h9 => h9) rfl dX4_remember_11 ?_
    refine lv_iconst (v := 1) hx hb dX4_remember_14 (by decide) ?_
    refine lv_iadd hx hb dX4_remember_15 ?_
    refine lv_bipush (v := 14) hx hb dX4_remember_16 (by decide) ?_
    refine lv_irem hx hb dX4_remember_18 (by decide) ?_
    refine va_put (D := D) (ci := 4) (v := .int ((f_oldest + 1) - (f_oldest + 1) / 14 * 14)) (ty := .int) (C := RX4) (T := TX4) (N := 9) hx hb hts xin_X4_remember_X4 tyX4 tyX4_ok nmX4 hown hK hP hD hS 0 rfl rfl 8 (by decide) (hts (.fieldLink RX4 198 "TakeLog" "oldest" "I") (by decide +kernel)) (fun _ h9 => h9) rfl (by decide +kernel) rfl rfl (Nat.le_of_ble_eq_true rfl) dX4_remember_19 (fun H locs hP hD hS => ?_)
    have hP : va_P D vwCl [(h, .inr (4, [.ref h_now, .ref h_copy, .ref h_past, .ref h_slots, .ref h_saved, .ref h_text, .ref h_shown, .int f_remembered, .int ((f_oldest + 1) - (f_oldest + 1) / 14 * 14)])), (h_now, .inr (3, [.ref h_now_cells])), (h_now_cells, .inl (cI, 400, .inl f_now_cells)), (h_past, .inr (2, [.ref h_past_cells, .int 14])), (h_past_cells, .inl (cI, 5600, .inl f_past_cells))] H := hP
    have hD : va_D A [(h, .inr (4, [.ref h_now, .ref h_copy, .ref h_past, .ref h_slots, .ref h_saved, .ref h_text, .ref h_shown, .int f_remembered, .int ((f_oldest + 1) - (f_oldest + 1) / 14 * 14)])), (h_now, .inr (3, [.ref h_now_cells])), (h_now_cells, .inl (cI, 400, .inl f_now_cells)), (h_past, .inr (2, [.ref h_past_cells, .int 14])), (h_past_cells, .inl (cI, 5600, .inl f_past_cells))] := hD
    refine lv_aload_n hx hb dX4_remember_22 rfl (lv_at hl 0 rfl) ?_
    refine lv_dup hx hb dX4_remember_23 rfl ?_
    refine va_get (D := D) (ci := 4) (v := .int f_remembered) (C := RX4) (T := TX4) (N := 9) hx hb hts xin_X4_remember_X4 hown hK hP 0 rfl rfl 7 (by decide) (hts (.fieldLink RX4 192 "TakeLog" "remembered" "I") (by decide +kernel)) (fun _ h9 => h9) rfl dX4_remember_24 ?_
    refine lv_iconst (v := 1) hx hb dX4_remember_27 (by decide) ?_
    refine lv_isub hx hb dX4_remember_28 ?_
    refine va_put (D := D) (ci := 4) (v := .int (f_remembered - 1)) (ty := .int) (C := RX4) (T := TX4) (N := 9) hx hb hts xin_X4_remember_X4 tyX4 tyX4_ok nmX4 hown hK hP hD hS 0 rfl rfl 7 (by decide) (hts (.fieldLink RX4 192 "TakeLog" "remembered" "I") (by decide +kernel)) (fun _ h9 => h9) rfl (by decide +kernel) rfl rfl (Nat.le_of_ble_eq_true rfl) dX4_remember_29 (fun H locs hP hD hS => ?_)
    have hP : va_P D vwCl [(h, .inr (4, [.ref h_now, .ref h_copy, .ref h_past, .ref h_slots, .ref h_saved, .ref h_text, .ref h_shown, .int (f_remembered - 1), .int ((f_oldest + 1) - (f_oldest + 1) / 14 * 14)])), (h_now, .inr (3, [.ref h_now_cells])), (h_now_cells, .inl (cI, 400, .inl f_now_cells)), (h_past, .inr (2, [.ref h_past_cells, .int 14])), (h_past_cells, .inl (cI, 5600, .inl f_past_cells))] H := hP
    have hD : va_D A [(h, .inr (4, [.ref h_now, .ref h_copy, .ref h_past, .ref h_slots, .ref h_saved, .ref h_text, .ref h_shown, .int (f_remembered - 1), .int ((f_oldest + 1) - (f_oldest + 1) / 14 * 14)])), (h_now, .inr (3, [.ref h_now_cells])), (h_now_cells, .inl (cI, 400, .inl f_now_cells)), (h_past, .inr (2, [.ref h_past_cells, .int 14])), (h_past_cells, .inl (cI, 5600, .inl f_past_cells))] := hD
    exact xb_X4_remember_32 C0 hA  _ _ _ hk H locs ls hP hD hS (lv_sub hl [0] rfl)
theorem xc_X4_remember (l : Launch) (D : va_G) (cI cC cZ cL : ClassId) (h h_now h_copy h_past h_slots h_saved h_text h_shown h_now_cells h_past_cells : Nat)  (sz : Nat) (f_remembered : Int32) (f_oldest : Int32) (f_now_cells : Nat → Int32) (f_past_cells : Nat → Int32)  (K : ((Nat → Int32) × Int32 × Int32) → Prop) (hk : xp_X4_remember f_now_cells f_past_cells f_remembered f_oldest K) : XMv l yX4_remember wsX4_remember ({ frames := 2, cells := 0, slots := 0, locals := 59 } : Room) D (xTY cI cC cZ cL) [.ref h] [(h, .inr (4, [.ref h_now, .ref h_copy, .ref h_past, .ref h_slots, .ref h_saved, .ref h_text, .ref h_shown, .int f_remembered, .int f_oldest])), (h_now, .inr (3, [.ref h_now_cells])), (h_now_cells, .inl (cI, 400, .inl f_now_cells)), (h_past, .inr (2, [.ref h_past_cells, .int 14])), (h_past_cells, .inl (cI, 5600, .inl f_past_cells))] sz (fun (u : (Nat → Int32) × Int32 × Int32) => K u) (fun (u : (Nat → Int32) × Int32 × Int32) => [(h, .inr (4, [.ref h_now, .ref h_copy, .ref h_past, .ref h_slots, .ref h_saved, .ref h_text, .ref h_shown, .int u.2.1, .int u.2.2])), (h_now, .inr (3, [.ref h_now_cells])), (h_now_cells, .inl (cI, 400, .inl f_now_cells)), (h_past, .inr (2, [.ref h_past_cells, .int 14])), (h_past_cells, .inl (cI, 5600, .inl u.1))]) :=
  x_enter (cc := cX4_remember) (maxL := 1) (ret := none) (own := RX4) (by decide) rfl rfl (Nat.le_of_ble_eq_true rfl) (fun p e s m below meth c ls C0 hA hP hD hS hl => xb_X4_remember_0 C0 hA _ _ _ hk s.heap [] ls hP hD hS hl)
set_option maxRecDepth 20000 in
theorem xin_X4_right_X2 : ∀ w ∈ u_ws RX2 TX2 2, w ∈ wsX4_right := by decide +kernel
set_option maxRecDepth 20000 in
theorem xin_X4_right_X3 : ∀ w ∈ u_ws RX3 TX3 1, w ∈ wsX4_right := by decide +kernel
set_option maxRecDepth 20000 in
theorem xin_X4_right_X4 : ∀ w ∈ u_ws RX4 TX4 9, w ∈ wsX4_right := by decide +kernel
set_option maxHeartbeats 4000000 in
set_option maxRecDepth 100000 in
theorem xb_X4_right_0 {p : Program} {l : Launch} {e : Env} {s : State} {m : MethodId} {args : Array Value} {below : List Frame} {meth : Method} {c : Code} {A : Nat → Prop} {D : va_G} {cI cC cZ cL : ClassId} {h h_now h_copy h_past h_slots h_saved h_text h_shown h_now_cells h_past_cells : Nat}   {K : Int32 → ((Nat → Int32) × (Nat → Int32) × Int32 × Int32) → Prop}  (C0 : xC p s m args meth c cX4_right 1 (some .int) wsX4_right RX4 D (xTY cI cC cZ cL)) (hA : ∀ q : Nat, s.heap.size ≤ q → A q)  : ∀ (f_now_cells : Nat → Int32) (f_past_cells : Nat → Int32) (f_remembered : Int32) (f_oldest : Int32) , xp_X4_right f_now_cells f_past_cells f_remembered f_oldest K → ∀ (H : Heap) (locs : List Loc) (ls : Array Slot), va_P D vwCl [(h, .inr (4, [.ref h_now, .ref h_copy, .ref h_past, .ref h_slots, .ref h_saved, .ref h_text, .ref h_shown, .int f_remembered, .int f_oldest])), (h_now, .inr (3, [.ref h_now_cells])), (h_now_cells, .inl (cI, 400, .inl f_now_cells)), (h_past, .inr (2, [.ref h_past_cells, .int 14])), (h_past_cells, .inl (cI, 5600, .inl f_past_cells))] H → va_D A [(h, .inr (4, [.ref h_now, .ref h_copy, .ref h_past, .ref h_slots, .ref h_saved, .ref h_text, .ref h_shown, .int f_remembered, .int f_oldest])), (h_now, .inr (3, [.ref h_now_cells])), (h_now_cells, .inl (cI, 400, .inl f_now_cells)), (h_past, .inr (2, [.ref h_past_cells, .int 14])), (h_past_cells, .inl (cI, 5600, .inl f_past_cells))] → va_S A s.heap H locs → lv_has ls 1 [(0, .ref h)] → W p l e ({ frames := 4, cells := 0, slots := 0, locals := 88 } : Room) s m args below meth c H locs 0 0 (MQ below (va_Qi (fun (r : Int32) (u : (Nat → Int32) × (Nat → Int32) × Int32 × Int32) => K r u) (fun u t => xE D A ((fun (u : (Nat → Int32) × (Nat → Int32) × Int32 × Int32) => [(h, .inr (4, [.ref h_now, .ref h_copy, .ref h_past, .ref h_slots, .ref h_saved, .ref h_text, .ref h_shown, .int u.2.2.1, .int u.2.2.2])), (h_now, .inr (3, [.ref h_now_cells])), (h_now_cells, .inl (cI, 400, .inl u.1)), (h_past, .inr (2, [.ref h_past_cells, .int 14])), (h_past_cells, .inl (cI, 5600, .inl u.2.1))]) u) t) A) args s 0 0 A) (F0 m 0 ls []) := by
  obtain ⟨hx, hb, hr, hml, hown, hts, hlocks, hK, hN⟩ := id C0
  intro f_now_cells f_past_cells f_remembered f_oldest hk H locs ls hP hD hS hl
  rw [xp_X4_right] at hk
  refine lv_aload_n hx hb dX4_right_0 rfl (lv_at hl 0 rfl) ?_
  refine x_joinv (ws1 := fun (u1 : (Nat → Int32) × Int32 × Int32) => [(h, .inr (4, [.ref h_now, .ref h_copy, .ref h_past, .ref h_slots, .ref h_saved, .ref h_text, .ref h_shown, .int u1.2.1, .int u1.2.2])), (h_now, .inr (3, [.ref h_now_cells])), (h_now_cells, .inl (cI, 400, .inl f_now_cells)), (h_past, .inr (2, [.ref h_past_cells, .int 14])), (h_past_cells, .inl (cI, 5600, .inl u1.1))]) (x_runV (n0 := 0) (As := []) (rest := []) C0 (xc_X4_remember l D cI cC cZ cL h h_now h_copy h_past h_slots h_saved h_text h_shown h_now_cells h_past_cells H.size f_remembered f_oldest f_now_cells f_past_cells _ hk) gX4_right_X4_remember rfl ⟨rfl, rfl⟩ (by decide +kernel) rfl ⟨by decide, by decide⟩ ⟨Nat.zero_le _, Nat.zero_le _⟩ hP hD [0, 1, 2, 3, 4] rfl rfl (k := 0) rfl rfl rfl hl.1 rfl (Nat.le_of_ble_eq_true rfl) dX4_right_1) hP hD hS hA [0, 1, 2, 3, 4] [] [0, 1, 2, 3, 4] rfl rfl rfl (by decide) (fun _ => rfl) rfl (fun u1 H locs hk hP hD hS => ?_)
  refine lv_aload_n hx hb dX4_right_4 rfl (lv_at hl 0 rfl) ?_
  refine va_get (D := D) (ci := 4) (v := .ref h_now) (C := RX4) (T := TX4) (N := 9) hx hb hts xin_X4_right_X4 hown hK hP 0 rfl rfl 0 (by decide) (hts (.fieldLink RX4 12 "TakeLog" "now" "LTakeLog$State;") (by decide +kernel)) (fun _ h9 => h9) rfl dX4_right_5 ?_
  refine x_joini (ws1 := fun (u2 : (Nat → Int32)) => [(h, .inr (4, [.ref h_now, .ref h_copy, .ref h_past, .ref h_slots, .ref h_saved, .ref h_text, .ref h_shown, .int u1.2.1, .int u1.2.2])), (h_now, .inr (3, [.ref h_now_cells])), (h_now_cells, .inl (cI, 400, .inl u2)), (h_past, .inr (2, [.ref h_past_cells, .int 14])), (h_past_cells, .inl (cI, 5600, .inl u1.1))]) (x_runV (n0 := 0) (As := []) (rest := []) C0 (xc_X3_writeRight l D cI cC cZ cL h_now h_now_cells H.size f_now_cells _ hk) gX4_right_X3_writeRight rfl ⟨rfl, rfl⟩ (by decide +kernel) rfl ⟨by decide, by decide⟩ ⟨Nat.zero_le _, Nat.zero_le _⟩ hP hD [1, 2] rfl rfl (k := 1) rfl rfl rfl hl.1 rfl (Nat.le_of_ble_eq_true rfl) dX4_right_8) hP hD hS hA [1, 2] [0, 3, 4] [0, 3, 4, 1, 2] rfl rfl rfl (by decide) (fun _ => rfl) rfl (fun r2 u2 H locs hk hP hD hS => ?_)
  refine lv_pop hx hb dX4_right_11 rfl ?_
  refine lv_aload_n hx hb dX4_right_12 rfl (lv_at hl 0 rfl) ?_
  refine va_get (D := D) (ci := 4) (v := .ref h_now) (C := RX4) (T := TX4) (N := 9) hx hb hts xin_X4_right_X4 hown hK hP 0 rfl rfl 0 (by decide) (hts (.fieldLink RX4 12 "TakeLog" "now" "LTakeLog$State;") (by decide +kernel)) (fun _ h9 => h9) rfl dX4_right_13 ?_
  refine x_joini (ws1 := fun (_ : Unit) => [(h, .inr (4, [.ref h_now, .ref h_copy, .ref h_past, .ref h_slots, .ref h_saved, .ref h_text, .ref h_shown, .int u1.2.1, .int u1.2.2])), (h_now, .inr (3, [.ref h_now_cells])), (h_now_cells, .inl (cI, 400, .inl u2)), (h_past, .inr (2, [.ref h_past_cells, .int 14])), (h_past_cells, .inl (cI, 5600, .inl u1.1))]) (x_runV (n0 := 0) (As := []) (rest := []) C0 (xc_X3_nextNumber l D cI cC cZ cL h_now h_now_cells H.size u2 _ hk) gX4_right_X3_nextNumber rfl ⟨rfl, rfl⟩ (by decide +kernel) rfl ⟨by decide, by decide⟩ ⟨Nat.zero_le _, Nat.zero_le _⟩ hP hD [1, 2] rfl rfl (k := 1) rfl rfl rfl hl.1 rfl (Nat.le_of_ble_eq_true rfl) dX4_right_16) hP hD hS hA [1, 2] [0, 3, 4] [0, 3, 4, 1, 2] rfl rfl rfl (by decide) (fun _ => rfl) rfl (fun r3 u3 H locs hk hP hD hS => ?_)
  exact x_reti C0 (u2, u1.1, u1.2.1, u1.2.2) hk hP hD hS dX4_right_19
theorem xc_X4_right (l : Launch) (D : va_G) (cI cC cZ cL : ClassId) (h h_now h_copy h_past h_slots h_saved h_text h_shown h_now_cells h_past_cells : Nat)  (sz : Nat) (f_remembered : Int32) (f_oldest : Int32) (f_now_cells : Nat → Int32) (f_past_cells : Nat → Int32)  (K : Int32 → ((Nat → Int32) × (Nat → Int32) × Int32 × Int32) → Prop) (hk : xp_X4_right f_now_cells f_past_cells f_remembered f_oldest K) : XMi l yX4_right wsX4_right ({ frames := 4, cells := 0, slots := 0, locals := 88 } : Room) D (xTY cI cC cZ cL) [.ref h] [(h, .inr (4, [.ref h_now, .ref h_copy, .ref h_past, .ref h_slots, .ref h_saved, .ref h_text, .ref h_shown, .int f_remembered, .int f_oldest])), (h_now, .inr (3, [.ref h_now_cells])), (h_now_cells, .inl (cI, 400, .inl f_now_cells)), (h_past, .inr (2, [.ref h_past_cells, .int 14])), (h_past_cells, .inl (cI, 5600, .inl f_past_cells))] sz (fun (r : Int32) (u : (Nat → Int32) × (Nat → Int32) × Int32 × Int32) => K r u) (fun (u : (Nat → Int32) × (Nat → Int32) × Int32 × Int32) => [(h, .inr (4, [.ref h_now, .ref h_copy, .ref h_past, .ref h_slots, .ref h_saved, .ref h_text, .ref h_shown, .int u.2.2.1, .int u.2.2.2])), (h_now, .inr (3, [.ref h_now_cells])), (h_now_cells, .inl (cI, 400, .inl u.1)), (h_past, .inr (2, [.ref h_past_cells, .int 14])), (h_past_cells, .inl (cI, 5600, .inl u.2.1))]) :=
  x_enter (cc := cX4_right) (maxL := 1) (ret := (some .int)) (own := RX4) (by decide) rfl rfl (Nat.le_of_ble_eq_true rfl) (fun p e s m below meth c ls C0 hA hP hD hS hl => xb_X4_right_0 C0 hA _ _ _ _ hk s.heap [] ls hP hD hS hl)
set_option maxRecDepth 20000 in
theorem xin_X4_newCamera_X2 : ∀ w ∈ u_ws RX2 TX2 2, w ∈ wsX4_newCamera := by decide +kernel
set_option maxRecDepth 20000 in
theorem xin_X4_newCamera_X3 : ∀ w ∈ u_ws RX3 TX3 1, w ∈ wsX4_newCamera := by decide +kernel
set_option maxRecDepth 20000 in
theorem xin_X4_newCamera_X4 : ∀ w ∈ u_ws RX4 TX4 9, w ∈ wsX4_newCamera := by decide +kernel
set_option maxHeartbeats 4000000 in
set_option maxRecDepth 100000 in
theorem xb_X4_newCamera_0 {p : Program} {l : Launch} {e : Env} {s : State} {m : MethodId} {args : Array Value} {below : List Frame} {meth : Method} {c : Code} {A : Nat → Prop} {D : va_G} {cI cC cZ cL : ClassId} {h h_now h_copy h_past h_slots h_saved h_text h_shown h_now_cells h_past_cells : Nat}   {K : Int32 → ((Nat → Int32) × (Nat → Int32) × Int32 × Int32) → Prop}  (C0 : xC p s m args meth c cX4_newCamera 1 (some .int) wsX4_newCamera RX4 D (xTY cI cC cZ cL)) (hA : ∀ q : Nat, s.heap.size ≤ q → A q)  : ∀ (f_now_cells : Nat → Int32) (f_past_cells : Nat → Int32) (f_remembered : Int32) (f_oldest : Int32) , xp_X4_newCamera f_now_cells f_past_cells f_remembered f_oldest K → ∀ (H : Heap) (locs : List Loc) (ls : Array Slot), va_P D vwCl [(h, .inr (4, [.ref h_now, .ref h_copy, .ref h_past, .ref h_slots, .ref h_saved, .ref h_text, .ref h_shown, .int f_remembered, .int f_oldest])), (h_now, .inr (3, [.ref h_now_cells])), (h_now_cells, .inl (cI, 400, .inl f_now_cells)), (h_past, .inr (2, [.ref h_past_cells, .int 14])), (h_past_cells, .inl (cI, 5600, .inl f_past_cells))] H → va_D A [(h, .inr (4, [.ref h_now, .ref h_copy, .ref h_past, .ref h_slots, .ref h_saved, .ref h_text, .ref h_shown, .int f_remembered, .int f_oldest])), (h_now, .inr (3, [.ref h_now_cells])), (h_now_cells, .inl (cI, 400, .inl f_now_cells)), (h_past, .inr (2, [.ref h_past_cells, .int 14])), (h_past_cells, .inl (cI, 5600, .inl f_past_cells))] → va_S A s.heap H locs → lv_has ls 1 [(0, .ref h)] → W p l e ({ frames := 3, cells := 0, slots := 0, locals := 79 } : Room) s m args below meth c H locs 0 0 (MQ below (va_Qi (fun (r : Int32) (u : (Nat → Int32) × (Nat → Int32) × Int32 × Int32) => K r u) (fun u t => xE D A ((fun (u : (Nat → Int32) × (Nat → Int32) × Int32 × Int32) => [(h, .inr (4, [.ref h_now, .ref h_copy, .ref h_past, .ref h_slots, .ref h_saved, .ref h_text, .ref h_shown, .int u.2.2.1, .int u.2.2.2])), (h_now, .inr (3, [.ref h_now_cells])), (h_now_cells, .inl (cI, 400, .inl u.1)), (h_past, .inr (2, [.ref h_past_cells, .int 14])), (h_past_cells, .inl (cI, 5600, .inl u.2.1))]) u) t) A) args s 0 0 A) (F0 m 0 ls []) := by
  obtain ⟨hx, hb, hr, hml, hown, hts, hlocks, hK, hN⟩ := id C0
  intro f_now_cells f_past_cells f_remembered f_oldest hk H locs ls hP hD hS hl
  rw [xp_X4_newCamera] at hk
  refine lv_aload_n hx hb dX4_newCamera_0 rfl (lv_at hl 0 rfl) ?_
  refine x_joinv (ws1 := fun (u1 : (Nat → Int32) × Int32 × Int32) => [(h, .inr (4, [.ref h_now, .ref h_copy, .ref h_past, .ref h_slots, .ref h_saved, .ref h_text, .ref h_shown, .int u1.2.1, .int u1.2.2])), (h_now, .inr (3, [.ref h_now_cells])), (h_now_cells, .inl (cI, 400, .inl f_now_cells)), (h_past, .inr (2, [.ref h_past_cells, .int 14])), (h_past_cells, .inl (cI, 5600, .inl u1.1))]) (x_runV (n0 := 0) (As := []) (rest := []) C0 (xc_X4_remember l D cI cC cZ cL h h_now h_copy h_past h_slots h_saved h_text h_shown h_now_cells h_past_cells H.size f_remembered f_oldest f_now_cells f_past_cells _ hk) gX4_newCamera_X4_remember rfl ⟨rfl, rfl⟩ (by decide +kernel) rfl ⟨by decide, by decide⟩ ⟨Nat.zero_le _, Nat.zero_le _⟩ hP hD [0, 1, 2, 3, 4] rfl rfl (k := 0) rfl rfl rfl hl.1 rfl (Nat.le_of_ble_eq_true rfl) dX4_newCamera_1) hP hD hS hA [0, 1, 2, 3, 4] [] [0, 1, 2, 3, 4] rfl rfl rfl (by decide) (fun _ => rfl) rfl (fun u1 H locs hk hP hD hS => ?_)
  refine lv_aload_n hx hb dX4_newCamera_4 rfl (lv_at hl 0 rfl) ?_
  refine va_get (D := D) (ci := 4) (v := .ref h_now) (C := RX4) (T := TX4) (N := 9) hx hb hts xin_X4_newCamera_X4 hown hK hP 0 rfl rfl 0 (by decide) (hts (.fieldLink RX4 12 "TakeLog" "now" "LTakeLog$State;") (by decide +kernel)) (fun _ h9 => h9) rfl dX4_newCamera_5 ?_
  refine x_joini (ws1 := fun (u2 : (Nat → Int32)) => [(h, .inr (4, [.ref h_now, .ref h_copy, .ref h_past, .ref h_slots, .ref h_saved, .ref h_text, .ref h_shown, .int u1.2.1, .int u1.2.2])), (h_now, .inr (3, [.ref h_now_cells])), (h_now_cells, .inl (cI, 400, .inl u2)), (h_past, .inr (2, [.ref h_past_cells, .int 14])), (h_past_cells, .inl (cI, 5600, .inl u1.1))]) (x_runV (n0 := 0) (As := []) (rest := []) C0 (xc_X3_loadCamera l D cI cC cZ cL h_now h_now_cells H.size f_now_cells _ hk) gX4_newCamera_X3_loadCamera rfl ⟨rfl, rfl⟩ (by decide +kernel) rfl ⟨by decide, by decide⟩ ⟨Nat.zero_le _, Nat.zero_le _⟩ hP hD [1, 2] rfl rfl (k := 1) rfl rfl rfl hl.1 rfl (Nat.le_of_ble_eq_true rfl) dX4_newCamera_8) hP hD hS hA [1, 2] [0, 3, 4] [0, 3, 4, 1, 2] rfl rfl rfl (by decide) (fun _ => rfl) rfl (fun r2 u2 H locs hk hP hD hS => ?_)
  exact x_reti C0 (u2, u1.1, u1.2.1, u1.2.2) hk hP hD hS dX4_newCamera_11
theorem xc_X4_newCamera (l : Launch) (D : va_G) (cI cC cZ cL : ClassId) (h h_now h_copy h_past h_slots h_saved h_text h_shown h_now_cells h_past_cells : Nat)  (sz : Nat) (f_remembered : Int32) (f_oldest : Int32) (f_now_cells : Nat → Int32) (f_past_cells : Nat → Int32)  (K : Int32 → ((Nat → Int32) × (Nat → Int32) × Int32 × Int32) → Prop) (hk : xp_X4_newCamera f_now_cells f_past_cells f_remembered f_oldest K) : XMi l yX4_newCamera wsX4_newCamera ({ frames := 3, cells := 0, slots := 0, locals := 79 } : Room) D (xTY cI cC cZ cL) [.ref h] [(h, .inr (4, [.ref h_now, .ref h_copy, .ref h_past, .ref h_slots, .ref h_saved, .ref h_text, .ref h_shown, .int f_remembered, .int f_oldest])), (h_now, .inr (3, [.ref h_now_cells])), (h_now_cells, .inl (cI, 400, .inl f_now_cells)), (h_past, .inr (2, [.ref h_past_cells, .int 14])), (h_past_cells, .inl (cI, 5600, .inl f_past_cells))] sz (fun (r : Int32) (u : (Nat → Int32) × (Nat → Int32) × Int32 × Int32) => K r u) (fun (u : (Nat → Int32) × (Nat → Int32) × Int32 × Int32) => [(h, .inr (4, [.ref h_now, .ref h_copy, .ref h_past, .ref h_slots, .ref h_saved, .ref h_text, .ref h_shown, .int u.2.2.1, .int u.2.2.2])), (h_now, .inr (3, [.ref h_now_cells])), (h_now_cells, .inl (cI, 400, .inl u.1)), (h_past, .inr (2, [.ref h_past_cells, .int 14])), (h_past_cells, .inl (cI, 5600, .inl u.2.1))]) :=
  x_enter (cc := cX4_newCamera) (maxL := 1) (ret := (some .int)) (own := RX4) (by decide) rfl rfl (Nat.le_of_ble_eq_true rfl) (fun p e s m below meth c ls C0 hA hP hD hS hl => xb_X4_newCamera_0 C0 hA _ _ _ _ hk s.heap [] ls hP hD hS hl)
set_option maxRecDepth 20000 in
theorem xin_X4_newSound_X2 : ∀ w ∈ u_ws RX2 TX2 2, w ∈ wsX4_newSound := by decide +kernel
set_option maxRecDepth 20000 in
theorem xin_X4_newSound_X3 : ∀ w ∈ u_ws RX3 TX3 1, w ∈ wsX4_newSound := by decide +kernel
set_option maxRecDepth 20000 in
theorem xin_X4_newSound_X4 : ∀ w ∈ u_ws RX4 TX4 9, w ∈ wsX4_newSound := by decide +kernel
set_option maxHeartbeats 4000000 in
set_option maxRecDepth 100000 in
theorem xb_X4_newSound_0 {p : Program} {l : Launch} {e : Env} {s : State} {m : MethodId} {args : Array Value} {below : List Frame} {meth : Method} {c : Code} {A : Nat → Prop} {D : va_G} {cI cC cZ cL : ClassId} {h h_now h_copy h_past h_slots h_saved h_text h_shown h_now_cells h_past_cells : Nat}   {K : Int32 → ((Nat → Int32) × (Nat → Int32) × Int32 × Int32) → Prop}  (C0 : xC p s m args meth c cX4_newSound 1 (some .int) wsX4_newSound RX4 D (xTY cI cC cZ cL)) (hA : ∀ q : Nat, s.heap.size ≤ q → A q)  : ∀ (f_now_cells : Nat → Int32) (f_past_cells : Nat → Int32) (f_remembered : Int32) (f_oldest : Int32) , xp_X4_newSound f_now_cells f_past_cells f_remembered f_oldest K → ∀ (H : Heap) (locs : List Loc) (ls : Array Slot), va_P D vwCl [(h, .inr (4, [.ref h_now, .ref h_copy, .ref h_past, .ref h_slots, .ref h_saved, .ref h_text, .ref h_shown, .int f_remembered, .int f_oldest])), (h_now, .inr (3, [.ref h_now_cells])), (h_now_cells, .inl (cI, 400, .inl f_now_cells)), (h_past, .inr (2, [.ref h_past_cells, .int 14])), (h_past_cells, .inl (cI, 5600, .inl f_past_cells))] H → va_D A [(h, .inr (4, [.ref h_now, .ref h_copy, .ref h_past, .ref h_slots, .ref h_saved, .ref h_text, .ref h_shown, .int f_remembered, .int f_oldest])), (h_now, .inr (3, [.ref h_now_cells])), (h_now_cells, .inl (cI, 400, .inl f_now_cells)), (h_past, .inr (2, [.ref h_past_cells, .int 14])), (h_past_cells, .inl (cI, 5600, .inl f_past_cells))] → va_S A s.heap H locs → lv_has ls 1 [(0, .ref h)] → W p l e ({ frames := 3, cells := 0, slots := 0, locals := 79 } : Room) s m args below meth c H locs 0 0 (MQ below (va_Qi (fun (r : Int32) (u : (Nat → Int32) × (Nat → Int32) × Int32 × Int32) => K r u) (fun u t => xE D A ((fun (u : (Nat → Int32) × (Nat → Int32) × Int32 × Int32) => [(h, .inr (4, [.ref h_now, .ref h_copy, .ref h_past, .ref h_slots, .ref h_saved, .ref h_text, .ref h_shown, .int u.2.2.1, .int u.2.2.2])), (h_now, .inr (3, [.ref h_now_cells])), (h_now_cells, .inl (cI, 400, .inl u.1)), (h_past, .inr (2, [.ref h_past_cells, .int 14])), (h_past_cells, .inl (cI, 5600, .inl u.2.1))]) u) t) A) args s 0 0 A) (F0 m 0 ls []) := by
  obtain ⟨hx, hb, hr, hml, hown, hts, hlocks, hK, hN⟩ := id C0
  intro f_now_cells f_past_cells f_remembered f_oldest hk H locs ls hP hD hS hl
  rw [xp_X4_newSound] at hk
  refine lv_aload_n hx hb dX4_newSound_0 rfl (lv_at hl 0 rfl) ?_
  refine x_joinv (ws1 := fun (u1 : (Nat → Int32) × Int32 × Int32) => [(h, .inr (4, [.ref h_now, .ref h_copy, .ref h_past, .ref h_slots, .ref h_saved, .ref h_text, .ref h_shown, .int u1.2.1, .int u1.2.2])), (h_now, .inr (3, [.ref h_now_cells])), (h_now_cells, .inl (cI, 400, .inl f_now_cells)), (h_past, .inr (2, [.ref h_past_cells, .int 14])), (h_past_cells, .inl (cI, 5600, .inl u1.1))]) (x_runV (n0 := 0) (As := []) (rest := []) C0 (xc_X4_remember l D cI cC cZ cL h h_now h_copy h_past h_slots h_saved h_text h_shown h_now_cells h_past_cells H.size f_remembered f_oldest f_now_cells f_past_cells _ hk) gX4_newSound_X4_remember rfl ⟨rfl, rfl⟩ (by decide +kernel) rfl ⟨by decide, by decide⟩ ⟨Nat.zero_le _, Nat.zero_le _⟩ hP hD [0, 1, 2, 3, 4] rfl rfl (k := 0) rfl rfl rfl hl.1 rfl (Nat.le_of_ble_eq_true rfl) dX4_newSound_1) hP hD hS hA [0, 1, 2, 3, 4] [] [0, 1, 2, 3, 4] rfl rfl rfl (by decide) (fun _ => rfl) rfl (fun u1 H locs hk hP hD hS => ?_)
  refine lv_aload_n hx hb dX4_newSound_4 rfl (lv_at hl 0 rfl) ?_
  refine va_get (D := D) (ci := 4) (v := .ref h_now) (C := RX4) (T := TX4) (N := 9) hx hb hts xin_X4_newSound_X4 hown hK hP 0 rfl rfl 0 (by decide) (hts (.fieldLink RX4 12 "TakeLog" "now" "LTakeLog$State;") (by decide +kernel)) (fun _ h9 => h9) rfl dX4_newSound_5 ?_
  refine x_joini (ws1 := fun (u2 : (Nat → Int32)) => [(h, .inr (4, [.ref h_now, .ref h_copy, .ref h_past, .ref h_slots, .ref h_saved, .ref h_text, .ref h_shown, .int u1.2.1, .int u1.2.2])), (h_now, .inr (3, [.ref h_now_cells])), (h_now_cells, .inl (cI, 400, .inl u2)), (h_past, .inr (2, [.ref h_past_cells, .int 14])), (h_past_cells, .inl (cI, 5600, .inl u1.1))]) (x_runV (n0 := 0) (As := []) (rest := []) C0 (xc_X3_loadSound l D cI cC cZ cL h_now h_now_cells H.size f_now_cells _ hk) gX4_newSound_X3_loadSound rfl ⟨rfl, rfl⟩ (by decide +kernel) rfl ⟨by decide, by decide⟩ ⟨Nat.zero_le _, Nat.zero_le _⟩ hP hD [1, 2] rfl rfl (k := 1) rfl rfl rfl hl.1 rfl (Nat.le_of_ble_eq_true rfl) dX4_newSound_8) hP hD hS hA [1, 2] [0, 3, 4] [0, 3, 4, 1, 2] rfl rfl rfl (by decide) (fun _ => rfl) rfl (fun r2 u2 H locs hk hP hD hS => ?_)
  exact x_reti C0 (u2, u1.1, u1.2.1, u1.2.2) hk hP hD hS dX4_newSound_11
theorem xc_X4_newSound (l : Launch) (D : va_G) (cI cC cZ cL : ClassId) (h h_now h_copy h_past h_slots h_saved h_text h_shown h_now_cells h_past_cells : Nat)  (sz : Nat) (f_remembered : Int32) (f_oldest : Int32) (f_now_cells : Nat → Int32) (f_past_cells : Nat → Int32)  (K : Int32 → ((Nat → Int32) × (Nat → Int32) × Int32 × Int32) → Prop) (hk : xp_X4_newSound f_now_cells f_past_cells f_remembered f_oldest K) : XMi l yX4_newSound wsX4_newSound ({ frames := 3, cells := 0, slots := 0, locals := 79 } : Room) D (xTY cI cC cZ cL) [.ref h] [(h, .inr (4, [.ref h_now, .ref h_copy, .ref h_past, .ref h_slots, .ref h_saved, .ref h_text, .ref h_shown, .int f_remembered, .int f_oldest])), (h_now, .inr (3, [.ref h_now_cells])), (h_now_cells, .inl (cI, 400, .inl f_now_cells)), (h_past, .inr (2, [.ref h_past_cells, .int 14])), (h_past_cells, .inl (cI, 5600, .inl f_past_cells))] sz (fun (r : Int32) (u : (Nat → Int32) × (Nat → Int32) × Int32 × Int32) => K r u) (fun (u : (Nat → Int32) × (Nat → Int32) × Int32 × Int32) => [(h, .inr (4, [.ref h_now, .ref h_copy, .ref h_past, .ref h_slots, .ref h_saved, .ref h_text, .ref h_shown, .int u.2.2.1, .int u.2.2.2])), (h_now, .inr (3, [.ref h_now_cells])), (h_now_cells, .inl (cI, 400, .inl u.1)), (h_past, .inr (2, [.ref h_past_cells, .int 14])), (h_past_cells, .inl (cI, 5600, .inl u.2.1))]) :=
  x_enter (cc := cX4_newSound) (maxL := 1) (ret := (some .int)) (own := RX4) (by decide) rfl rfl (Nat.le_of_ble_eq_true rfl) (fun p e s m below meth c ls C0 hA hP hD hS hl => xb_X4_newSound_0 C0 hA _ _ _ _ hk s.heap [] ls hP hD hS hl)
set_option maxRecDepth 20000 in
theorem xin_X4_find_X3 : ∀ w ∈ u_ws RX3 TX3 1, w ∈ wsX4_find := by decide +kernel
set_option maxRecDepth 20000 in
theorem xin_X4_find_X4 : ∀ w ∈ u_ws RX4 TX4 9, w ∈ wsX4_find := by decide +kernel
set_option maxHeartbeats 4000000 in
set_option maxRecDepth 100000 in
theorem xb_X4_find_0 {p : Program} {l : Launch} {e : Env} {s : State} {m : MethodId} {args : Array Value} {below : List Frame} {meth : Method} {c : Code} {A : Nat → Prop} {D : va_G} {cI cC cZ cL : ClassId} {h h_now h_copy h_past h_slots h_saved h_text h_shown h_now_cells : Nat}  {f_remembered : Int32} {f_oldest : Int32} {f_now_cells : Nat → Int32} {K : Int32 → Prop}  (C0 : xC p s m args meth c cX4_find 5 (some .int) wsX4_find RX4 D (xTY cI cC cZ cL)) (hA : ∀ q : Nat, s.heap.size ≤ q → A q)  : ∀ (x1 : Int32) (x2 : Int32) (x3 : Int32) (x4 : Int32) , xp_X4_find f_now_cells x1 x2 x3 x4 K → ∀ (H : Heap) (locs : List Loc) (ls : Array Slot), va_P D vwCl [(h, .inr (4, [.ref h_now, .ref h_copy, .ref h_past, .ref h_slots, .ref h_saved, .ref h_text, .ref h_shown, .int f_remembered, .int f_oldest])), (h_now, .inr (3, [.ref h_now_cells])), (h_now_cells, .inl (cI, 400, .inl f_now_cells))] H → va_D A [(h, .inr (4, [.ref h_now, .ref h_copy, .ref h_past, .ref h_slots, .ref h_saved, .ref h_text, .ref h_shown, .int f_remembered, .int f_oldest])), (h_now, .inr (3, [.ref h_now_cells])), (h_now_cells, .inl (cI, 400, .inl f_now_cells))] → va_S A s.heap H locs → lv_has ls 5 [(0, .ref h), (1, .int x1), (2, .int x2), (3, .int x3), (4, .int x4)] → W p l e ({ frames := 4, cells := 0, slots := 0, locals := 93 } : Room) s m args below meth c H locs 0 0 (MQ below (va_Qi (fun (r : Int32) (_ : Unit) => K r) (fun u t => xE D A ((fun (_ : Unit) => [(h, .inr (4, [.ref h_now, .ref h_copy, .ref h_past, .ref h_slots, .ref h_saved, .ref h_text, .ref h_shown, .int f_remembered, .int f_oldest])), (h_now, .inr (3, [.ref h_now_cells])), (h_now_cells, .inl (cI, 400, .inl f_now_cells))]) u) t) A) args s 0 0 A) (F0 m 0 ls []) := by
  obtain ⟨hx, hb, hr, hml, hown, hts, hlocks, hK, hN⟩ := id C0
  intro x1 x2 x3 x4 hk H locs ls hP hD hS hl
  rw [xp_X4_find] at hk
  refine lv_iload hx hb dX4_find_0 (lv_at hl 4 rfl) ?_
  refine lv_if_eq (tgt := 18) hx hb dX4_find_2 (by decide) (fun c1 => ?_) (fun c1 => ?_)
  · have hk := hk.1 c1
    refine lv_aload_n hx hb dX4_find_18 rfl (lv_at hl 0 rfl) ?_
    refine va_get (D := D) (ci := 4) (v := .ref h_now) (C := RX4) (T := TX4) (N := 9) hx hb hts xin_X4_find_X4 hown hK hP 0 rfl rfl 0 (by decide) (hts (.fieldLink RX4 12 "TakeLog" "now" "LTakeLog$State;") (by decide +kernel)) (fun _ h9 => h9) rfl dX4_find_19 ?_
    refine lv_iload_n hx hb dX4_find_22 rfl (lv_at hl 1 rfl) ?_
    refine lv_iload_n hx hb dX4_find_23 rfl (lv_at hl 2 rfl) ?_
    refine lv_iload_n hx hb dX4_find_24 rfl (lv_at hl 3 rfl) ?_
    refine x_joini (ws1 := fun (_ : Unit) => [(h, .inr (4, [.ref h_now, .ref h_copy, .ref h_past, .ref h_slots, .ref h_saved, .ref h_text, .ref h_shown, .int f_remembered, .int f_oldest])), (h_now, .inr (3, [.ref h_now_cells])), (h_now_cells, .inl (cI, 400, .inl f_now_cells))]) (x_runV (n0 := 3) (As := [.int x1, .int x2, .int x3]) (rest := []) C0 (xc_X3_meantSo l D cI cC cZ cL h_now h_now_cells H.size f_now_cells x1 x2 x3 _ hk) gX4_find_X3_meantSo rfl ⟨rfl, rfl⟩ (by decide +kernel) rfl ⟨by decide, by decide⟩ ⟨Nat.zero_le _, Nat.zero_le _⟩ hP hD [1, 2] rfl rfl (k := 1) rfl rfl rfl hl.1 rfl (Nat.le_of_ble_eq_true rfl) dX4_find_25) hP hD hS hA [1, 2] [0] [0, 1, 2] rfl rfl rfl (by decide) (fun _ => rfl) rfl (fun r2 u2 H locs hk hP hD hS => ?_)
    exact x_reti C0 () hk hP hD hS dX4_find_28
  · have hk := hk.2 c1
    refine lv_aload_n hx hb dX4_find_5 rfl (lv_at hl 0 rfl) ?_
    refine va_get (D := D) (ci := 4) (v := .ref h_now) (C := RX4) (T := TX4) (N := 9) hx hb hts xin_X4_find_X4 hown hK hP 0 rfl rfl 0 (by decide) (hts (.fieldLink RX4 12 "TakeLog" "now" "LTakeLog$State;") (by decide +kernel)) (fun _ h9 => h9) rfl dX4_find_6 ?_
    refine lv_iload_n hx hb dX4_find_9 rfl (lv_at hl 1 rfl) ?_
    refine lv_iload_n hx hb dX4_find_10 rfl (lv_at hl 2 rfl) ?_
    refine lv_iload_n hx hb dX4_find_11 rfl (lv_at hl 3 rfl) ?_
    refine x_joini (ws1 := fun (_ : Unit) => [(h, .inr (4, [.ref h_now, .ref h_copy, .ref h_past, .ref h_slots, .ref h_saved, .ref h_text, .ref h_shown, .int f_remembered, .int f_oldest])), (h_now, .inr (3, [.ref h_now_cells])), (h_now_cells, .inl (cI, 400, .inl f_now_cells))]) (x_runV (n0 := 3) (As := [.int x1, .int x2, .int x3]) (rest := []) C0 (xc_X3_saidSo l D cI cC cZ cL h_now h_now_cells H.size f_now_cells x1 x2 x3 _ hk) gX4_find_X3_saidSo rfl ⟨rfl, rfl⟩ (by decide +kernel) rfl ⟨by decide, by decide⟩ ⟨Nat.zero_le _, Nat.zero_le _⟩ hP hD [1, 2] rfl rfl (k := 1) rfl rfl rfl hl.1 rfl (Nat.le_of_ble_eq_true rfl) dX4_find_12) hP hD hS hA [1, 2] [0] [0, 1, 2] rfl rfl rfl (by decide) (fun _ => rfl) rfl (fun r3 u3 H locs hk hP hD hS => ?_)
    refine lv_goto (tgt := 28) hx hb dX4_find_15 (by decide) ?_
    exact x_reti C0 () hk hP hD hS dX4_find_28
theorem xc_X4_find (l : Launch) (D : va_G) (cI cC cZ cL : ClassId) (h h_now h_copy h_past h_slots h_saved h_text h_shown h_now_cells : Nat)  (sz : Nat) (f_remembered : Int32) (f_oldest : Int32) (f_now_cells : Nat → Int32) (x1 : Int32) (x2 : Int32) (x3 : Int32) (x4 : Int32) (K : Int32 → Prop) (hk : xp_X4_find f_now_cells x1 x2 x3 x4 K) : XMi l yX4_find wsX4_find ({ frames := 4, cells := 0, slots := 0, locals := 93 } : Room) D (xTY cI cC cZ cL) [.ref h, .int x1, .int x2, .int x3, .int x4] [(h, .inr (4, [.ref h_now, .ref h_copy, .ref h_past, .ref h_slots, .ref h_saved, .ref h_text, .ref h_shown, .int f_remembered, .int f_oldest])), (h_now, .inr (3, [.ref h_now_cells])), (h_now_cells, .inl (cI, 400, .inl f_now_cells))] sz (fun (r : Int32) (_ : Unit) => K r) (fun (_ : Unit) => [(h, .inr (4, [.ref h_now, .ref h_copy, .ref h_past, .ref h_slots, .ref h_saved, .ref h_text, .ref h_shown, .int f_remembered, .int f_oldest])), (h_now, .inr (3, [.ref h_now_cells])), (h_now_cells, .inl (cI, 400, .inl f_now_cells))]) :=
  x_enter (cc := cX4_find) (maxL := 5) (ret := (some .int)) (own := RX4) (by decide) rfl rfl (Nat.le_of_ble_eq_true rfl) (fun p e s m below meth c ls C0 hA hP hD hS hl => xb_X4_find_0 C0 hA _ _ _ _ hk s.heap [] ls hP hD hS hl)
set_option maxRecDepth 20000 in
theorem xin_X4_atCamera_X4 : ∀ w ∈ u_ws RX4 TX4 9, w ∈ wsX4_atCamera := by decide +kernel
set_option maxRecDepth 20000 in
theorem xin_X4_atCamera_X3 : ∀ w ∈ u_ws RX3 TX3 1, w ∈ wsX4_atCamera := by decide +kernel
set_option maxHeartbeats 4000000 in
set_option maxRecDepth 100000 in
theorem xb_X4_atCamera_2 {p : Program} {l : Launch} {e : Env} {s : State} {m : MethodId} {args : Array Value} {below : List Frame} {meth : Method} {c : Code} {A : Nat → Prop} {D : va_G} {cI cC cZ cL : ClassId} {h h_now h_copy h_past h_slots h_saved h_text h_shown h_now_cells : Nat}  {f_remembered : Int32} {f_oldest : Int32} {f_now_cells : Nat → Int32} {K : Int32 → Prop}  (C0 : xC p s m args meth c cX4_atCamera 4 (some .int) wsX4_atCamera RX4 D (xTY cI cC cZ cL)) (hA : ∀ q : Nat, s.heap.size ≤ q → A q)  : ∀ (n : Nat) (v1 : Int32) (v2 : Int32) (v3 : Int32) , xp_X4_atCamera_2 f_now_cells K n v1 v2 v3 → ∀ (H : Heap) (locs : List Loc) (ls : Array Slot), va_P D vwCl [(h, .inr (4, [.ref h_now, .ref h_copy, .ref h_past, .ref h_slots, .ref h_saved, .ref h_text, .ref h_shown, .int f_remembered, .int f_oldest])), (h_now, .inr (3, [.ref h_now_cells])), (h_now_cells, .inl (cI, 400, .inl f_now_cells))] H → va_D A [(h, .inr (4, [.ref h_now, .ref h_copy, .ref h_past, .ref h_slots, .ref h_saved, .ref h_text, .ref h_shown, .int f_remembered, .int f_oldest])), (h_now, .inr (3, [.ref h_now_cells])), (h_now_cells, .inl (cI, 400, .inl f_now_cells))] → va_S A s.heap H locs → lv_has ls 4 [(0, .ref h), (1, .int v1), (2, .int v2), (3, .int v3)] → W p l e ({ frames := 2, cells := 0, slots := 0, locals := 46 } : Room) s m args below meth c H locs 0 0 (MQ below (va_Qi (fun (r : Int32) (_ : Unit) => K r) (fun u t => xE D A ((fun (_ : Unit) => [(h, .inr (4, [.ref h_now, .ref h_copy, .ref h_past, .ref h_slots, .ref h_saved, .ref h_text, .ref h_shown, .int f_remembered, .int f_oldest])), (h_now, .inr (3, [.ref h_now_cells])), (h_now_cells, .inl (cI, 400, .inl f_now_cells))]) u) t) A) args s 0 0 A) (F0 m 2 ls []) := by
  obtain ⟨hx, hb, hr, hml, hown, hts, hlocks, hK, hN⟩ := id C0
  intro n
  induction n with
  | zero => intro v1 v2 v3 hk; exact hk.elim
  | succ n ih =>
    intro v1 v2 v3 hk H locs ls hP hD hS hl
    rw [xp_X4_atCamera_2] at hk
    refine lv_iload_n hx hb dX4_atCamera_2 rfl (lv_at hl 3 rfl) ?_
    refine lv_aload_n hx hb dX4_atCamera_3 rfl (lv_at hl 0 rfl) ?_
    refine va_get (D := D) (ci := 4) (v := .ref h_now) (C := RX4) (T := TX4) (N := 9) hx hb hts xin_X4_atCamera_X4 hown hK hP 0 rfl rfl 0 (by decide) (hts (.fieldLink RX4 12 "TakeLog" "now" "LTakeLog$State;") (by decide +kernel)) (fun _ h9 => h9) rfl dX4_atCamera_4 ?_
    refine x_joini (ws1 := fun (_ : Unit) => [(h, .inr (4, [.ref h_now, .ref h_copy, .ref h_past, .ref h_slots, .ref h_saved, .ref h_text, .ref h_shown, .int f_remembered, .int f_oldest])), (h_now, .inr (3, [.ref h_now_cells])), (h_now_cells, .inl (cI, 400, .inl f_now_cells))]) (x_runV (n0 := 0) (As := []) (rest := [.int v3]) C0 (xc_X3_takes l D cI cC cZ cL h_now h_now_cells H.size f_now_cells _ hk) gX4_atCamera_X3_takes rfl ⟨rfl, rfl⟩ (by decide +kernel) rfl ⟨by decide, by decide⟩ ⟨Nat.zero_le _, Nat.zero_le _⟩ hP hD [1, 2] rfl rfl (k := 1) rfl rfl rfl hl.1 rfl (Nat.le_of_ble_eq_true rfl) dX4_atCamera_7) hP hD hS hA [1, 2] [0] [0, 1, 2] rfl rfl rfl (by decide) (fun _ => rfl) rfl (fun r1 u1 H locs hk hP hD hS => ?_)
    refine lv_icmp_ge (tgt := 49) hx hb dX4_atCamera_10 (by decide) (fun c2 => ?_) (fun c2 => ?_)
    · have hk := hk.1 c2
      refine lv_iconst (v := (-1 : Int32)) hx hb dX4_atCamera_49 (by decide) ?_
      exact x_reti C0 () hk hP hD hS dX4_atCamera_50
    · have hk := hk.2 c2
      refine lv_aload_n hx hb dX4_atCamera_13 rfl (lv_at hl 0 rfl) ?_
      refine va_get (D := D) (ci := 4) (v := .ref h_now) (C := RX4) (T := TX4) (N := 9) hx hb hts xin_X4_atCamera_X4 hown hK hP 0 rfl rfl 0 (by decide) (hts (.fieldLink RX4 12 "TakeLog" "now" "LTakeLog$State;") (by decide +kernel)) (fun _ h9 => h9) rfl dX4_atCamera_14 ?_
      refine lv_iload_n hx hb dX4_atCamera_17 rfl (lv_at hl 3 rfl) ?_
      refine lv_bipush (v := 6) hx hb dX4_atCamera_18 (by decide) ?_
      refine x_joini (ws1 := fun (_ : Unit) => [(h, .inr (4, [.ref h_now, .ref h_copy, .ref h_past, .ref h_slots, .ref h_saved, .ref h_text, .ref h_shown, .int f_remembered, .int f_oldest])), (h_now, .inr (3, [.ref h_now_cells])), (h_now_cells, .inl (cI, 400, .inl f_now_cells))]) (x_runV (n0 := 2) (As := [.int v3, .int 6]) (rest := []) C0 (xc_X3_of l D cI cC cZ cL h_now h_now_cells H.size f_now_cells v3 6 _ hk) gX4_atCamera_X3_of rfl ⟨rfl, rfl⟩ (by decide +kernel) rfl ⟨by decide, by decide⟩ ⟨Nat.zero_le _, Nat.zero_le _⟩ hP hD [1, 2] rfl rfl (k := 1) rfl rfl rfl hl.1 rfl (Nat.le_of_ble_eq_true rfl) dX4_atCamera_20) hP hD hS hA [1, 2] [0] [0, 1, 2] rfl rfl rfl (by decide) (fun _ => rfl) rfl (fun r3 u3 H locs hk hP hD hS => ?_)
      refine lv_iload_n hx hb dX4_atCamera_23 rfl (lv_at hl 1 rfl) ?_
      refine lv_icmp_ne (tgt := 43) hx hb dX4_atCamera_24 (by decide) (fun c4 => ?_) (fun c4 => ?_)
      · have hk := hk.1 c4
        refine lv_iinc (v := (v3 + 1)) (lv' := [(3, .int (v3 + 1)), (0, .ref h), (1, .int v1), (2, .int v2)]) hx hb dX4_atCamera_43 hl (k := 3) rfl rfl (by decide) rfl (fun ls hl => ?_)
        refine lv_goto (tgt := 2) hx hb dX4_atCamera_46 (by decide) ?_
        exact ih _ _ _ hk H locs ls hP hD hS (lv_sub hl [1, 2, 3, 0] rfl)
      · have hk := hk.2 c4
        refine lv_aload_n hx hb dX4_atCamera_27 rfl (lv_at hl 0 rfl) ?_
        refine va_get (D := D) (ci := 4) (v := .ref h_now) (C := RX4) (T := TX4) (N := 9) hx hb hts xin_X4_atCamera_X4 hown hK hP 0 rfl rfl 0 (by decide) (hts (.fieldLink RX4 12 "TakeLog" "now" "LTakeLog$State;") (by decide +kernel)) (fun _ h9 => h9) rfl dX4_atCamera_28 ?_
        refine lv_iload_n hx hb dX4_atCamera_31 rfl (lv_at hl 3 rfl) ?_
        refine lv_bipush (v := 7) hx hb dX4_atCamera_32 (by decide) ?_
        refine lv_iload_n hx hb dX4_atCamera_34 rfl (lv_at hl 2 rfl) ?_
        refine x_joini (ws1 := fun (_ : Unit) => [(h, .inr (4, [.ref h_now, .ref h_copy, .ref h_past, .ref h_slots, .ref h_saved, .ref h_text, .ref h_shown, .int f_remembered, .int f_oldest])), (h_now, .inr (3, [.ref h_now_cells])), (h_now_cells, .inl (cI, 400, .inl f_now_cells))]) (x_runV (n0 := 3) (As := [.int v3, .int 7, .int v2]) (rest := []) C0 (xc_X3_holds l D cI cC cZ cL h_now h_now_cells H.size f_now_cells v3 7 v2 _ hk) gX4_atCamera_X3_holds rfl ⟨rfl, rfl⟩ (by decide +kernel) rfl ⟨by decide, by decide⟩ ⟨Nat.zero_le _, Nat.zero_le _⟩ hP hD [1, 2] rfl rfl (k := 1) rfl rfl rfl hl.1 rfl (Nat.le_of_ble_eq_true rfl) dX4_atCamera_35) hP hD hS hA [1, 2] [0] [0, 1, 2] rfl rfl rfl (by decide) (fun _ => rfl) rfl (fun r5 u5 H locs hk hP hD hS => ?_)
        refine lv_if_eq (tgt := 43) hx hb dX4_atCamera_38 (by decide) (fun c6 => ?_) (fun c6 => ?_)
        · have hk := hk.1 c6
          refine lv_iinc (v := (v3 + 1)) (lv' := [(3, .int (v3 + 1)), (0, .ref h), (1, .int v1), (2, .int v2)]) hx hb dX4_atCamera_43 hl (k := 3) rfl rfl (by decide) rfl (fun ls hl => ?_)
          refine lv_goto (tgt := 2) hx hb dX4_atCamera_46 (by decide) ?_
          exact ih _ _ _ hk H locs ls hP hD hS (lv_sub hl [1, 2, 3, 0] rfl)
        · have hk := hk.2 c6
          refine lv_iload_n hx hb dX4_atCamera_41 rfl (lv_at hl 3 rfl) ?_
          exact x_reti C0 () hk hP hD hS dX4_atCamera_42
set_option maxHeartbeats 4000000 in
set_option maxRecDepth 100000 in
theorem xb_X4_atCamera_0 {p : Program} {l : Launch} {e : Env} {s : State} {m : MethodId} {args : Array Value} {below : List Frame} {meth : Method} {c : Code} {A : Nat → Prop} {D : va_G} {cI cC cZ cL : ClassId} {h h_now h_copy h_past h_slots h_saved h_text h_shown h_now_cells : Nat}  {f_remembered : Int32} {f_oldest : Int32} {f_now_cells : Nat → Int32} {K : Int32 → Prop}  (C0 : xC p s m args meth c cX4_atCamera 4 (some .int) wsX4_atCamera RX4 D (xTY cI cC cZ cL)) (hA : ∀ q : Nat, s.heap.size ≤ q → A q)  : ∀ (x1 : Int32) (x2 : Int32) , xp_X4_atCamera f_now_cells x1 x2 K → ∀ (H : Heap) (locs : List Loc) (ls : Array Slot), va_P D vwCl [(h, .inr (4, [.ref h_now, .ref h_copy, .ref h_past, .ref h_slots, .ref h_saved, .ref h_text, .ref h_shown, .int f_remembered, .int f_oldest])), (h_now, .inr (3, [.ref h_now_cells])), (h_now_cells, .inl (cI, 400, .inl f_now_cells))] H → va_D A [(h, .inr (4, [.ref h_now, .ref h_copy, .ref h_past, .ref h_slots, .ref h_saved, .ref h_text, .ref h_shown, .int f_remembered, .int f_oldest])), (h_now, .inr (3, [.ref h_now_cells])), (h_now_cells, .inl (cI, 400, .inl f_now_cells))] → va_S A s.heap H locs → lv_has ls 4 [(0, .ref h), (1, .int x1), (2, .int x2)] → W p l e ({ frames := 2, cells := 0, slots := 0, locals := 46 } : Room) s m args below meth c H locs 0 0 (MQ below (va_Qi (fun (r : Int32) (_ : Unit) => K r) (fun u t => xE D A ((fun (_ : Unit) => [(h, .inr (4, [.ref h_now, .ref h_copy, .ref h_past, .ref h_slots, .ref h_saved, .ref h_text, .ref h_shown, .int f_remembered, .int f_oldest])), (h_now, .inr (3, [.ref h_now_cells])), (h_now_cells, .inl (cI, 400, .inl f_now_cells))]) u) t) A) args s 0 0 A) (F0 m 0 ls []) := by
  obtain ⟨hx, hb, hr, hml, hown, hts, hlocks, hK, hN⟩ := id C0
  intro x1 x2 hk H locs ls hP hD hS hl
  rw [xp_X4_atCamera] at hk
  refine lv_iconst (v := 0) hx hb dX4_atCamera_0 (by decide) ?_
  refine lv_istore_n (lv' := [(3, .int 0), (0, .ref h), (1, .int x1), (2, .int x2)]) hx hb dX4_atCamera_1 rfl hl (by decide) rfl (fun ls hl => ?_)
  obtain ⟨n9, hk⟩ := hk
  exact xb_X4_atCamera_2 C0 hA  n9 _ _ _ hk H locs ls hP hD hS (lv_sub hl [1, 2, 3, 0] rfl)
theorem xc_X4_atCamera (l : Launch) (D : va_G) (cI cC cZ cL : ClassId) (h h_now h_copy h_past h_slots h_saved h_text h_shown h_now_cells : Nat)  (sz : Nat) (f_remembered : Int32) (f_oldest : Int32) (f_now_cells : Nat → Int32) (x1 : Int32) (x2 : Int32) (K : Int32 → Prop) (hk : xp_X4_atCamera f_now_cells x1 x2 K) : XMi l yX4_atCamera wsX4_atCamera ({ frames := 2, cells := 0, slots := 0, locals := 46 } : Room) D (xTY cI cC cZ cL) [.ref h, .int x1, .int x2] [(h, .inr (4, [.ref h_now, .ref h_copy, .ref h_past, .ref h_slots, .ref h_saved, .ref h_text, .ref h_shown, .int f_remembered, .int f_oldest])), (h_now, .inr (3, [.ref h_now_cells])), (h_now_cells, .inl (cI, 400, .inl f_now_cells))] sz (fun (r : Int32) (_ : Unit) => K r) (fun (_ : Unit) => [(h, .inr (4, [.ref h_now, .ref h_copy, .ref h_past, .ref h_slots, .ref h_saved, .ref h_text, .ref h_shown, .int f_remembered, .int f_oldest])), (h_now, .inr (3, [.ref h_now_cells])), (h_now_cells, .inl (cI, 400, .inl f_now_cells))]) :=
  x_enter (cc := cX4_atCamera) (maxL := 4) (ret := (some .int)) (own := RX4) (by decide) rfl rfl (Nat.le_of_ble_eq_true rfl) (fun p e s m below meth c ls C0 hA hP hD hS hl => xb_X4_atCamera_0 C0 hA _ _ hk s.heap [] ls hP hD hS hl)
set_option maxRecDepth 20000 in
theorem xin_X4_atSound_X4 : ∀ w ∈ u_ws RX4 TX4 9, w ∈ wsX4_atSound := by decide +kernel
set_option maxRecDepth 20000 in
theorem xin_X4_atSound_X3 : ∀ w ∈ u_ws RX3 TX3 1, w ∈ wsX4_atSound := by decide +kernel
set_option maxHeartbeats 4000000 in
set_option maxRecDepth 100000 in
theorem xb_X4_atSound_2 {p : Program} {l : Launch} {e : Env} {s : State} {m : MethodId} {args : Array Value} {below : List Frame} {meth : Method} {c : Code} {A : Nat → Prop} {D : va_G} {cI cC cZ cL : ClassId} {h h_now h_copy h_past h_slots h_saved h_text h_shown h_now_cells : Nat}  {f_remembered : Int32} {f_oldest : Int32} {f_now_cells : Nat → Int32} {K : Int32 → Prop}  (C0 : xC p s m args meth c cX4_atSound 4 (some .int) wsX4_atSound RX4 D (xTY cI cC cZ cL)) (hA : ∀ q : Nat, s.heap.size ≤ q → A q)  : ∀ (n : Nat) (v1 : Int32) (v2 : Int32) (v3 : Int32) , xp_X4_atSound_2 f_now_cells K n v1 v2 v3 → ∀ (H : Heap) (locs : List Loc) (ls : Array Slot), va_P D vwCl [(h, .inr (4, [.ref h_now, .ref h_copy, .ref h_past, .ref h_slots, .ref h_saved, .ref h_text, .ref h_shown, .int f_remembered, .int f_oldest])), (h_now, .inr (3, [.ref h_now_cells])), (h_now_cells, .inl (cI, 400, .inl f_now_cells))] H → va_D A [(h, .inr (4, [.ref h_now, .ref h_copy, .ref h_past, .ref h_slots, .ref h_saved, .ref h_text, .ref h_shown, .int f_remembered, .int f_oldest])), (h_now, .inr (3, [.ref h_now_cells])), (h_now_cells, .inl (cI, 400, .inl f_now_cells))] → va_S A s.heap H locs → lv_has ls 4 [(0, .ref h), (1, .int v1), (2, .int v2), (3, .int v3)] → W p l e ({ frames := 2, cells := 0, slots := 0, locals := 46 } : Room) s m args below meth c H locs 0 0 (MQ below (va_Qi (fun (r : Int32) (_ : Unit) => K r) (fun u t => xE D A ((fun (_ : Unit) => [(h, .inr (4, [.ref h_now, .ref h_copy, .ref h_past, .ref h_slots, .ref h_saved, .ref h_text, .ref h_shown, .int f_remembered, .int f_oldest])), (h_now, .inr (3, [.ref h_now_cells])), (h_now_cells, .inl (cI, 400, .inl f_now_cells))]) u) t) A) args s 0 0 A) (F0 m 2 ls []) := by
  obtain ⟨hx, hb, hr, hml, hown, hts, hlocks, hK, hN⟩ := id C0
  intro n
  induction n with
  | zero => intro v1 v2 v3 hk; exact hk.elim
  | succ n ih =>
    intro v1 v2 v3 hk H locs ls hP hD hS hl
    rw [xp_X4_atSound_2] at hk
    refine lv_iload_n hx hb dX4_atSound_2 rfl (lv_at hl 3 rfl) ?_
    refine lv_aload_n hx hb dX4_atSound_3 rfl (lv_at hl 0 rfl) ?_
    refine va_get (D := D) (ci := 4) (v := .ref h_now) (C := RX4) (T := TX4) (N := 9) hx hb hts xin_X4_atSound_X4 hown hK hP 0 rfl rfl 0 (by decide) (hts (.fieldLink RX4 12 "TakeLog" "now" "LTakeLog$State;") (by decide +kernel)) (fun _ h9 => h9) rfl dX4_atSound_4 ?_
    refine x_joini (ws1 := fun (_ : Unit) => [(h, .inr (4, [.ref h_now, .ref h_copy, .ref h_past, .ref h_slots, .ref h_saved, .ref h_text, .ref h_shown, .int f_remembered, .int f_oldest])), (h_now, .inr (3, [.ref h_now_cells])), (h_now_cells, .inl (cI, 400, .inl f_now_cells))]) (x_runV (n0 := 0) (As := []) (rest := [.int v3]) C0 (xc_X3_takes l D cI cC cZ cL h_now h_now_cells H.size f_now_cells _ hk) gX4_atSound_X3_takes rfl ⟨rfl, rfl⟩ (by decide +kernel) rfl ⟨by decide, by decide⟩ ⟨Nat.zero_le _, Nat.zero_le _⟩ hP hD [1, 2] rfl rfl (k := 1) rfl rfl rfl hl.1 rfl (Nat.le_of_ble_eq_true rfl) dX4_atSound_7) hP hD hS hA [1, 2] [0] [0, 1, 2] rfl rfl rfl (by decide) (fun _ => rfl) rfl (fun r1 u1 H locs hk hP hD hS => ?_)
    refine lv_icmp_ge (tgt := 60) hx hb dX4_atSound_10 (by decide) (fun c2 => ?_) (fun c2 => ?_)
    · have hk := hk.1 c2
      refine lv_iconst (v := (-1 : Int32)) hx hb dX4_atSound_60 (by decide) ?_
      exact x_reti C0 () hk hP hD hS dX4_atSound_61
    · have hk := hk.2 c2
      refine lv_aload_n hx hb dX4_atSound_13 rfl (lv_at hl 0 rfl) ?_
      refine va_get (D := D) (ci := 4) (v := .ref h_now) (C := RX4) (T := TX4) (N := 9) hx hb hts xin_X4_atSound_X4 hown hK hP 0 rfl rfl 0 (by decide) (hts (.fieldLink RX4 12 "TakeLog" "now" "LTakeLog$State;") (by decide +kernel)) (fun _ h9 => h9) rfl dX4_atSound_14 ?_
      refine lv_iload_n hx hb dX4_atSound_17 rfl (lv_at hl 3 rfl) ?_
      refine x_joini (ws1 := fun (_ : Unit) => [(h, .inr (4, [.ref h_now, .ref h_copy, .ref h_past, .ref h_slots, .ref h_saved, .ref h_text, .ref h_shown, .int f_remembered, .int f_oldest])), (h_now, .inr (3, [.ref h_now_cells])), (h_now_cells, .inl (cI, 400, .inl f_now_cells))]) (x_runV (n0 := 1) (As := [.int v3]) (rest := []) C0 (xc_X3_hasSound l D cI cC cZ cL h_now h_now_cells H.size f_now_cells v3 _ hk) gX4_atSound_X3_hasSound rfl ⟨rfl, rfl⟩ (by decide +kernel) rfl ⟨by decide, by decide⟩ ⟨Nat.zero_le _, Nat.zero_le _⟩ hP hD [1, 2] rfl rfl (k := 1) rfl rfl rfl hl.1 rfl (Nat.le_of_ble_eq_true rfl) dX4_atSound_18) hP hD hS hA [1, 2] [0] [0, 1, 2] rfl rfl rfl (by decide) (fun _ => rfl) rfl (fun r3 u3 H locs hk hP hD hS => ?_)
      refine lv_if_eq (tgt := 54) hx hb dX4_atSound_21 (by decide) (fun c4 => ?_) (fun c4 => ?_)
      · have hk := hk.1 c4
        refine lv_iinc (v := (v3 + 1)) (lv' := [(3, .int (v3 + 1)), (0, .ref h), (1, .int v1), (2, .int v2)]) hx hb dX4_atSound_54 hl (k := 3) rfl rfl (by decide) rfl (fun ls hl => ?_)
        refine lv_goto (tgt := 2) hx hb dX4_atSound_57 (by decide) ?_
        exact ih _ _ _ hk H locs ls hP hD hS (lv_sub hl [1, 2, 3, 0] rfl)
      · have hk := hk.2 c4
        refine lv_aload_n hx hb dX4_atSound_24 rfl (lv_at hl 0 rfl) ?_
        refine va_get (D := D) (ci := 4) (v := .ref h_now) (C := RX4) (T := TX4) (N := 9) hx hb hts xin_X4_atSound_X4 hown hK hP 0 rfl rfl 0 (by decide) (hts (.fieldLink RX4 12 "TakeLog" "now" "LTakeLog$State;") (by decide +kernel)) (fun _ h9 => h9) rfl dX4_atSound_25 ?_
        refine lv_iload_n hx hb dX4_atSound_28 rfl (lv_at hl 3 rfl) ?_
        refine lv_bipush (v := 9) hx hb dX4_atSound_29 (by decide) ?_
        refine x_joini (ws1 := fun (_ : Unit) => [(h, .inr (4, [.ref h_now, .ref h_copy, .ref h_past, .ref h_slots, .ref h_saved, .ref h_text, .ref h_shown, .int f_remembered, .int f_oldest])), (h_now, .inr (3, [.ref h_now_cells])), (h_now_cells, .inl (cI, 400, .inl f_now_cells))]) (x_runV (n0 := 2) (As := [.int v3, .int 9]) (rest := []) C0 (xc_X3_of l D cI cC cZ cL h_now h_now_cells H.size f_now_cells v3 9 _ hk) gX4_atSound_X3_of rfl ⟨rfl, rfl⟩ (by decide +kernel) rfl ⟨by decide, by decide⟩ ⟨Nat.zero_le _, Nat.zero_le _⟩ hP hD [1, 2] rfl rfl (k := 1) rfl rfl rfl hl.1 rfl (Nat.le_of_ble_eq_true rfl) dX4_atSound_31) hP hD hS hA [1, 2] [0] [0, 1, 2] rfl rfl rfl (by decide) (fun _ => rfl) rfl (fun r5 u5 H locs hk hP hD hS => ?_)
        refine lv_iload_n hx hb dX4_atSound_34 rfl (lv_at hl 1 rfl) ?_
        refine lv_icmp_ne (tgt := 54) hx hb dX4_atSound_35 (by decide) (fun c6 => ?_) (fun c6 => ?_)
        · have hk := hk.1 c6
          refine lv_iinc (v := (v3 + 1)) (lv' := [(3, .int (v3 + 1)), (0, .ref h), (1, .int v1), (2, .int v2)]) hx hb dX4_atSound_54 hl (k := 3) rfl rfl (by decide) rfl (fun ls hl => ?_)
          refine lv_goto (tgt := 2) hx hb dX4_atSound_57 (by decide) ?_
          exact ih _ _ _ hk H locs ls hP hD hS (lv_sub hl [1, 2, 3, 0] rfl)
        · have hk := hk.2 c6
          refine lv_aload_n hx hb dX4_atSound_38 rfl (lv_at hl 0 rfl) ?_
          refine va_get (D := D) (ci := 4) (v := .ref h_now) (C := RX4) (T := TX4) (N := 9) hx hb hts xin_X4_atSound_X4 hown hK hP 0 rfl rfl 0 (by decide) (hts (.fieldLink RX4 12 "TakeLog" "now" "LTakeLog$State;") (by decide +kernel)) (fun _ h9 => h9) rfl dX4_atSound_39 ?_
          refine lv_iload_n hx hb dX4_atSound_42 rfl (lv_at hl 3 rfl) ?_
          refine lv_bipush (v := 10) hx hb dX4_atSound_43 (by decide) ?_
          refine lv_iload_n hx hb dX4_atSound_45 rfl (lv_at hl 2 rfl) ?_
          refine x_joini (ws1 := fun (_ : Unit) => [(h, .inr (4, [.ref h_now, .ref h_copy, .ref h_past, .ref h_slots, .ref h_saved, .ref h_text, .ref h_shown, .int f_remembered, .int f_oldest])), (h_now, .inr (3, [.ref h_now_cells])), (h_now_cells, .inl (cI, 400, .inl f_now_cells))]) (x_runV (n0 := 3) (As := [.int v3, .int 10, .int v2]) (rest := []) C0 (xc_X3_holds l D cI cC cZ cL h_now h_now_cells H.size f_now_cells v3 10 v2 _ hk) gX4_atSound_X3_holds rfl ⟨rfl, rfl⟩ (by decide +kernel) rfl ⟨by decide, by decide⟩ ⟨Nat.zero_le _, Nat.zero_le _⟩ hP hD [1, 2] rfl rfl (k := 1) rfl rfl rfl hl.1 rfl (Nat.le_of_ble_eq_true rfl) dX4_atSound_46) hP hD hS hA [1, 2] [0] [0, 1, 2] rfl rfl rfl (by decide) (fun _ => rfl) rfl (fun r7 u7 H locs hk hP hD hS => ?_)
          refine lv_if_eq (tgt := 54) hx hb dX4_atSound_49 (by decide) (fun c8 => ?_) (fun c8 => ?_)
          · have hk := hk.1 c8
            refine lv_iinc (v := (v3 + 1)) (lv' := [(3, .int (v3 + 1)), (0, .ref h), (1, .int v1), (2, .int v2)]) hx hb dX4_atSound_54 hl (k := 3) rfl rfl (by decide) rfl (fun ls hl => ?_)
            refine lv_goto (tgt := 2) hx hb dX4_atSound_57 (by decide) ?_
            exact ih _ _ _ hk H locs ls hP hD hS (lv_sub hl [1, 2, 3, 0] rfl)
          · have hk := hk.2 c8
            refine lv_iload_n hx hb dX4_atSound_52 rfl (lv_at hl 3 rfl) ?_
            exact x_reti C0 () hk hP hD hS dX4_atSound_53
set_option maxHeartbeats 4000000 in
set_option maxRecDepth 100000 in
theorem xb_X4_atSound_0 {p : Program} {l : Launch} {e : Env} {s : State} {m : MethodId} {args : Array Value} {below : List Frame} {meth : Method} {c : Code} {A : Nat → Prop} {D : va_G} {cI cC cZ cL : ClassId} {h h_now h_copy h_past h_slots h_saved h_text h_shown h_now_cells : Nat}  {f_remembered : Int32} {f_oldest : Int32} {f_now_cells : Nat → Int32} {K : Int32 → Prop}  (C0 : xC p s m args meth c cX4_atSound 4 (some .int) wsX4_atSound RX4 D (xTY cI cC cZ cL)) (hA : ∀ q : Nat, s.heap.size ≤ q → A q)  : ∀ (x1 : Int32) (x2 : Int32) , xp_X4_atSound f_now_cells x1 x2 K → ∀ (H : Heap) (locs : List Loc) (ls : Array Slot), va_P D vwCl [(h, .inr (4, [.ref h_now, .ref h_copy, .ref h_past, .ref h_slots, .ref h_saved, .ref h_text, .ref h_shown, .int f_remembered, .int f_oldest])), (h_now, .inr (3, [.ref h_now_cells])), (h_now_cells, .inl (cI, 400, .inl f_now_cells))] H → va_D A [(h, .inr (4, [.ref h_now, .ref h_copy, .ref h_past, .ref h_slots, .ref h_saved, .ref h_text, .ref h_shown, .int f_remembered, .int f_oldest])), (h_now, .inr (3, [.ref h_now_cells])), (h_now_cells, .inl (cI, 400, .inl f_now_cells))] → va_S A s.heap H locs → lv_has ls 4 [(0, .ref h), (1, .int x1), (2, .int x2)] → W p l e ({ frames := 2, cells := 0, slots := 0, locals := 46 } : Room) s m args below meth c H locs 0 0 (MQ below (va_Qi (fun (r : Int32) (_ : Unit) => K r) (fun u t => xE D A ((fun (_ : Unit) => [(h, .inr (4, [.ref h_now, .ref h_copy, .ref h_past, .ref h_slots, .ref h_saved, .ref h_text, .ref h_shown, .int f_remembered, .int f_oldest])), (h_now, .inr (3, [.ref h_now_cells])), (h_now_cells, .inl (cI, 400, .inl f_now_cells))]) u) t) A) args s 0 0 A) (F0 m 0 ls []) := by
  obtain ⟨hx, hb, hr, hml, hown, hts, hlocks, hK, hN⟩ := id C0
  intro x1 x2 hk H locs ls hP hD hS hl
  rw [xp_X4_atSound] at hk
  refine lv_iconst (v := 0) hx hb dX4_atSound_0 (by decide) ?_
  refine lv_istore_n (lv' := [(3, .int 0), (0, .ref h), (1, .int x1), (2, .int x2)]) hx hb dX4_atSound_1 rfl hl (by decide) rfl (fun ls hl => ?_)
  obtain ⟨n9, hk⟩ := hk
  exact xb_X4_atSound_2 C0 hA  n9 _ _ _ hk H locs ls hP hD hS (lv_sub hl [1, 2, 3, 0] rfl)
theorem xc_X4_atSound (l : Launch) (D : va_G) (cI cC cZ cL : ClassId) (h h_now h_copy h_past h_slots h_saved h_text h_shown h_now_cells : Nat)  (sz : Nat) (f_remembered : Int32) (f_oldest : Int32) (f_now_cells : Nat → Int32) (x1 : Int32) (x2 : Int32) (K : Int32 → Prop) (hk : xp_X4_atSound f_now_cells x1 x2 K) : XMi l yX4_atSound wsX4_atSound ({ frames := 2, cells := 0, slots := 0, locals := 46 } : Room) D (xTY cI cC cZ cL) [.ref h, .int x1, .int x2] [(h, .inr (4, [.ref h_now, .ref h_copy, .ref h_past, .ref h_slots, .ref h_saved, .ref h_text, .ref h_shown, .int f_remembered, .int f_oldest])), (h_now, .inr (3, [.ref h_now_cells])), (h_now_cells, .inl (cI, 400, .inl f_now_cells))] sz (fun (r : Int32) (_ : Unit) => K r) (fun (_ : Unit) => [(h, .inr (4, [.ref h_now, .ref h_copy, .ref h_past, .ref h_slots, .ref h_saved, .ref h_text, .ref h_shown, .int f_remembered, .int f_oldest])), (h_now, .inr (3, [.ref h_now_cells])), (h_now_cells, .inl (cI, 400, .inl f_now_cells))]) :=
  x_enter (cc := cX4_atSound) (maxL := 4) (ret := (some .int)) (own := RX4) (by decide) rfl rfl (Nat.le_of_ble_eq_true rfl) (fun p e s m below meth c ls C0 hA hP hD hS hl => xb_X4_atSound_0 C0 hA _ _ hk s.heap [] ls hP hD hS hl)
set_option maxRecDepth 20000 in
theorem xin_X4_atTime_X4 : ∀ w ∈ u_ws RX4 TX4 9, w ∈ wsX4_atTime := by decide +kernel
set_option maxRecDepth 20000 in
theorem xin_X4_atTime_X3 : ∀ w ∈ u_ws RX3 TX3 1, w ∈ wsX4_atTime := by decide +kernel
set_option maxHeartbeats 4000000 in
set_option maxRecDepth 100000 in
theorem xb_X4_atTime_2 {p : Program} {l : Launch} {e : Env} {s : State} {m : MethodId} {args : Array Value} {below : List Frame} {meth : Method} {c : Code} {A : Nat → Prop} {D : va_G} {cI cC cZ cL : ClassId} {h h_now h_copy h_past h_slots h_saved h_text h_shown h_now_cells : Nat}  {f_remembered : Int32} {f_oldest : Int32} {f_now_cells : Nat → Int32} {K : Int32 → Prop}  (C0 : xC p s m args meth c cX4_atTime 3 (some .int) wsX4_atTime RX4 D (xTY cI cC cZ cL)) (hA : ∀ q : Nat, s.heap.size ≤ q → A q)  : ∀ (n : Nat) (v1 : Int32) (v2 : Int32) , xp_X4_atTime_2 f_now_cells K n v1 v2 → ∀ (H : Heap) (locs : List Loc) (ls : Array Slot), va_P D vwCl [(h, .inr (4, [.ref h_now, .ref h_copy, .ref h_past, .ref h_slots, .ref h_saved, .ref h_text, .ref h_shown, .int f_remembered, .int f_oldest])), (h_now, .inr (3, [.ref h_now_cells])), (h_now_cells, .inl (cI, 400, .inl f_now_cells))] H → va_D A [(h, .inr (4, [.ref h_now, .ref h_copy, .ref h_past, .ref h_slots, .ref h_saved, .ref h_text, .ref h_shown, .int f_remembered, .int f_oldest])), (h_now, .inr (3, [.ref h_now_cells])), (h_now_cells, .inl (cI, 400, .inl f_now_cells))] → va_S A s.heap H locs → lv_has ls 3 [(0, .ref h), (1, .int v1), (2, .int v2)] → W p l e ({ frames := 2, cells := 0, slots := 0, locals := 46 } : Room) s m args below meth c H locs 0 0 (MQ below (va_Qi (fun (r : Int32) (_ : Unit) => K r) (fun u t => xE D A ((fun (_ : Unit) => [(h, .inr (4, [.ref h_now, .ref h_copy, .ref h_past, .ref h_slots, .ref h_saved, .ref h_text, .ref h_shown, .int f_remembered, .int f_oldest])), (h_now, .inr (3, [.ref h_now_cells])), (h_now_cells, .inl (cI, 400, .inl f_now_cells))]) u) t) A) args s 0 0 A) (F0 m 2 ls []) := by
  obtain ⟨hx, hb, hr, hml, hown, hts, hlocks, hK, hN⟩ := id C0
  intro n
  induction n with
  | zero => intro v1 v2 hk; exact hk.elim
  | succ n ih =>
    intro v1 v2 hk H locs ls hP hD hS hl
    rw [xp_X4_atTime_2] at hk
    refine lv_iload_n hx hb dX4_atTime_2 rfl (lv_at hl 2 rfl) ?_
    refine lv_aload_n hx hb dX4_atTime_3 rfl (lv_at hl 0 rfl) ?_
    refine va_get (D := D) (ci := 4) (v := .ref h_now) (C := RX4) (T := TX4) (N := 9) hx hb hts xin_X4_atTime_X4 hown hK hP 0 rfl rfl 0 (by decide) (hts (.fieldLink RX4 12 "TakeLog" "now" "LTakeLog$State;") (by decide +kernel)) (fun _ h9 => h9) rfl dX4_atTime_4 ?_
    refine x_joini (ws1 := fun (_ : Unit) => [(h, .inr (4, [.ref h_now, .ref h_copy, .ref h_past, .ref h_slots, .ref h_saved, .ref h_text, .ref h_shown, .int f_remembered, .int f_oldest])), (h_now, .inr (3, [.ref h_now_cells])), (h_now_cells, .inl (cI, 400, .inl f_now_cells))]) (x_runV (n0 := 0) (As := []) (rest := [.int v2]) C0 (xc_X3_takes l D cI cC cZ cL h_now h_now_cells H.size f_now_cells _ hk) gX4_atTime_X3_takes rfl ⟨rfl, rfl⟩ (by decide +kernel) rfl ⟨by decide, by decide⟩ ⟨Nat.zero_le _, Nat.zero_le _⟩ hP hD [1, 2] rfl rfl (k := 1) rfl rfl rfl hl.1 rfl (Nat.le_of_ble_eq_true rfl) dX4_atTime_7) hP hD hS hA [1, 2] [0] [0, 1, 2] rfl rfl rfl (by decide) (fun _ => rfl) rfl (fun r1 u1 H locs hk hP hD hS => ?_)
    refine lv_icmp_ge (tgt := 35) hx hb dX4_atTime_10 (by decide) (fun c2 => ?_) (fun c2 => ?_)
    · have hk := hk.1 c2
      refine lv_iconst (v := (-1 : Int32)) hx hb dX4_atTime_35 (by decide) ?_
      exact x_reti C0 () hk hP hD hS dX4_atTime_36
    · have hk := hk.2 c2
      refine lv_aload_n hx hb dX4_atTime_13 rfl (lv_at hl 0 rfl) ?_
      refine va_get (D := D) (ci := 4) (v := .ref h_now) (C := RX4) (T := TX4) (N := 9) hx hb hts xin_X4_atTime_X4 hown hK hP 0 rfl rfl 0 (by decide) (hts (.fieldLink RX4 12 "TakeLog" "now" "LTakeLog$State;") (by decide +kernel)) (fun _ h9 => h9) rfl dX4_atTime_14 ?_
      refine lv_iload_n hx hb dX4_atTime_17 rfl (lv_at hl 2 rfl) ?_
      refine lv_bipush (v := 12) hx hb dX4_atTime_18 (by decide) ?_
      refine lv_iload_n hx hb dX4_atTime_20 rfl (lv_at hl 1 rfl) ?_
      refine x_joini (ws1 := fun (_ : Unit) => [(h, .inr (4, [.ref h_now, .ref h_copy, .ref h_past, .ref h_slots, .ref h_saved, .ref h_text, .ref h_shown, .int f_remembered, .int f_oldest])), (h_now, .inr (3, [.ref h_now_cells])), (h_now_cells, .inl (cI, 400, .inl f_now_cells))]) (x_runV (n0 := 3) (As := [.int v2, .int 12, .int v1]) (rest := []) C0 (xc_X3_holds l D cI cC cZ cL h_now h_now_cells H.size f_now_cells v2 12 v1 _ hk) gX4_atTime_X3_holds rfl ⟨rfl, rfl⟩ (by decide +kernel) rfl ⟨by decide, by decide⟩ ⟨Nat.zero_le _, Nat.zero_le _⟩ hP hD [1, 2] rfl rfl (k := 1) rfl rfl rfl hl.1 rfl (Nat.le_of_ble_eq_true rfl) dX4_atTime_21) hP hD hS hA [1, 2] [0] [0, 1, 2] rfl rfl rfl (by decide) (fun _ => rfl) rfl (fun r3 u3 H locs hk hP hD hS => ?_)
      refine lv_if_eq (tgt := 29) hx hb dX4_atTime_24 (by decide) (fun c4 => ?_) (fun c4 => ?_)
      · have hk := hk.1 c4
        refine lv_iinc (v := (v2 + 1)) (lv' := [(2, .int (v2 + 1)), (0, .ref h), (1, .int v1)]) hx hb dX4_atTime_29 hl (k := 2) rfl rfl (by decide) rfl (fun ls hl => ?_)
        refine lv_goto (tgt := 2) hx hb dX4_atTime_32 (by decide) ?_
        exact ih _ _ hk H locs ls hP hD hS (lv_sub hl [1, 2, 0] rfl)
      · have hk := hk.2 c4
        refine lv_iload_n hx hb dX4_atTime_27 rfl (lv_at hl 2 rfl) ?_
        exact x_reti C0 () hk hP hD hS dX4_atTime_28
set_option maxHeartbeats 4000000 in
set_option maxRecDepth 100000 in
theorem xb_X4_atTime_0 {p : Program} {l : Launch} {e : Env} {s : State} {m : MethodId} {args : Array Value} {below : List Frame} {meth : Method} {c : Code} {A : Nat → Prop} {D : va_G} {cI cC cZ cL : ClassId} {h h_now h_copy h_past h_slots h_saved h_text h_shown h_now_cells : Nat}  {f_remembered : Int32} {f_oldest : Int32} {f_now_cells : Nat → Int32} {K : Int32 → Prop}  (C0 : xC p s m args meth c cX4_atTime 3 (some .int) wsX4_atTime RX4 D (xTY cI cC cZ cL)) (hA : ∀ q : Nat, s.heap.size ≤ q → A q)  : ∀ (x1 : Int32) , xp_X4_atTime f_now_cells x1 K → ∀ (H : Heap) (locs : List Loc) (ls : Array Slot), va_P D vwCl [(h, .inr (4, [.ref h_now, .ref h_copy, .ref h_past, .ref h_slots, .ref h_saved, .ref h_text, .ref h_shown, .int f_remembered, .int f_oldest])), (h_now, .inr (3, [.ref h_now_cells])), (h_now_cells, .inl (cI, 400, .inl f_now_cells))] H → va_D A [(h, .inr (4, [.ref h_now, .ref h_copy, .ref h_past, .ref h_slots, .ref h_saved, .ref h_text, .ref h_shown, .int f_remembered, .int f_oldest])), (h_now, .inr (3, [.ref h_now_cells])), (h_now_cells, .inl (cI, 400, .inl f_now_cells))] → va_S A s.heap H locs → lv_has ls 3 [(0, .ref h), (1, .int x1)] → W p l e ({ frames := 2, cells := 0, slots := 0, locals := 46 } : Room) s m args below meth c H locs 0 0 (MQ below (va_Qi (fun (r : Int32) (_ : Unit) => K r) (fun u t => xE D A ((fun (_ : Unit) => [(h, .inr (4, [.ref h_now, .ref h_copy, .ref h_past, .ref h_slots, .ref h_saved, .ref h_text, .ref h_shown, .int f_remembered, .int f_oldest])), (h_now, .inr (3, [.ref h_now_cells])), (h_now_cells, .inl (cI, 400, .inl f_now_cells))]) u) t) A) args s 0 0 A) (F0 m 0 ls []) := by
  obtain ⟨hx, hb, hr, hml, hown, hts, hlocks, hK, hN⟩ := id C0
  intro x1 hk H locs ls hP hD hS hl
  rw [xp_X4_atTime] at hk
  refine lv_iconst (v := 0) hx hb dX4_atTime_0 (by decide) ?_
  refine lv_istore_n (lv' := [(2, .int 0), (0, .ref h), (1, .int x1)]) hx hb dX4_atTime_1 rfl hl (by decide) rfl (fun ls hl => ?_)
  obtain ⟨n9, hk⟩ := hk
  exact xb_X4_atTime_2 C0 hA  n9 _ _ hk H locs ls hP hD hS (lv_sub hl [1, 2, 0] rfl)
theorem xc_X4_atTime (l : Launch) (D : va_G) (cI cC cZ cL : ClassId) (h h_now h_copy h_past h_slots h_saved h_text h_shown h_now_cells : Nat)  (sz : Nat) (f_remembered : Int32) (f_oldest : Int32) (f_now_cells : Nat → Int32) (x1 : Int32) (K : Int32 → Prop) (hk : xp_X4_atTime f_now_cells x1 K) : XMi l yX4_atTime wsX4_atTime ({ frames := 2, cells := 0, slots := 0, locals := 46 } : Room) D (xTY cI cC cZ cL) [.ref h, .int x1] [(h, .inr (4, [.ref h_now, .ref h_copy, .ref h_past, .ref h_slots, .ref h_saved, .ref h_text, .ref h_shown, .int f_remembered, .int f_oldest])), (h_now, .inr (3, [.ref h_now_cells])), (h_now_cells, .inl (cI, 400, .inl f_now_cells))] sz (fun (r : Int32) (_ : Unit) => K r) (fun (_ : Unit) => [(h, .inr (4, [.ref h_now, .ref h_copy, .ref h_past, .ref h_slots, .ref h_saved, .ref h_text, .ref h_shown, .int f_remembered, .int f_oldest])), (h_now, .inr (3, [.ref h_now_cells])), (h_now_cells, .inl (cI, 400, .inl f_now_cells))]) :=
  x_enter (cc := cX4_atTime) (maxL := 3) (ret := (some .int)) (own := RX4) (by decide) rfl rfl (Nat.le_of_ble_eq_true rfl) (fun p e s m below meth c ls C0 hA hP hD hS hl => xb_X4_atTime_0 C0 hA _ hk s.heap [] ls hP hD hS hl)
set_option maxRecDepth 20000 in
theorem xin_X4_byFile_X4 : ∀ w ∈ u_ws RX4 TX4 9, w ∈ wsX4_byFile := by decide +kernel
set_option maxRecDepth 20000 in
theorem xin_X4_byFile_X3 : ∀ w ∈ u_ws RX3 TX3 1, w ∈ wsX4_byFile := by decide +kernel
set_option maxHeartbeats 4000000 in
set_option maxRecDepth 100000 in
theorem xb_X4_byFile_2 {p : Program} {l : Launch} {e : Env} {s : State} {m : MethodId} {args : Array Value} {below : List Frame} {meth : Method} {c : Code} {A : Nat → Prop} {D : va_G} {cI cC cZ cL : ClassId} {h h_now h_copy h_past h_slots h_saved h_text h_shown h_now_cells : Nat}  {f_remembered : Int32} {f_oldest : Int32} {f_now_cells : Nat → Int32} {K : Int32 → Prop}  (C0 : xC p s m args meth c cX4_byFile 4 (some .int) wsX4_byFile RX4 D (xTY cI cC cZ cL)) (hA : ∀ q : Nat, s.heap.size ≤ q → A q)  : ∀ (n : Nat) (v1 : Int32) (v2 : Int32) (v3 : Int32) , xp_X4_byFile_2 f_now_cells K n v1 v2 v3 → ∀ (H : Heap) (locs : List Loc) (ls : Array Slot), va_P D vwCl [(h, .inr (4, [.ref h_now, .ref h_copy, .ref h_past, .ref h_slots, .ref h_saved, .ref h_text, .ref h_shown, .int f_remembered, .int f_oldest])), (h_now, .inr (3, [.ref h_now_cells])), (h_now_cells, .inl (cI, 400, .inl f_now_cells))] H → va_D A [(h, .inr (4, [.ref h_now, .ref h_copy, .ref h_past, .ref h_slots, .ref h_saved, .ref h_text, .ref h_shown, .int f_remembered, .int f_oldest])), (h_now, .inr (3, [.ref h_now_cells])), (h_now_cells, .inl (cI, 400, .inl f_now_cells))] → va_S A s.heap H locs → lv_has ls 4 [(0, .ref h), (1, .int v1), (2, .int v2), (3, .int v3)] → W p l e ({ frames := 2, cells := 0, slots := 0, locals := 44 } : Room) s m args below meth c H locs 0 0 (MQ below (va_Qi (fun (r : Int32) (_ : Unit) => K r) (fun u t => xE D A ((fun (_ : Unit) => [(h, .inr (4, [.ref h_now, .ref h_copy, .ref h_past, .ref h_slots, .ref h_saved, .ref h_text, .ref h_shown, .int f_remembered, .int f_oldest])), (h_now, .inr (3, [.ref h_now_cells])), (h_now_cells, .inl (cI, 400, .inl f_now_cells))]) u) t) A) args s 0 0 A) (F0 m 2 ls []) := by
  obtain ⟨hx, hb, hr, hml, hown, hts, hlocks, hK, hN⟩ := id C0
  intro n
  induction n with
  | zero => intro v1 v2 v3 hk; exact hk.elim
  | succ n ih =>
    intro v1 v2 v3 hk H locs ls hP hD hS hl
    rw [xp_X4_byFile_2] at hk
    refine lv_iload_n hx hb dX4_byFile_2 rfl (lv_at hl 3 rfl) ?_
    refine lv_aload_n hx hb dX4_byFile_3 rfl (lv_at hl 0 rfl) ?_
    refine va_get (D := D) (ci := 4) (v := .ref h_now) (C := RX4) (T := TX4) (N := 9) hx hb hts xin_X4_byFile_X4 hown hK hP 0 rfl rfl 0 (by decide) (hts (.fieldLink RX4 12 "TakeLog" "now" "LTakeLog$State;") (by decide +kernel)) (fun _ h9 => h9) rfl dX4_byFile_4 ?_
    refine x_joini (ws1 := fun (_ : Unit) => [(h, .inr (4, [.ref h_now, .ref h_copy, .ref h_past, .ref h_slots, .ref h_saved, .ref h_text, .ref h_shown, .int f_remembered, .int f_oldest])), (h_now, .inr (3, [.ref h_now_cells])), (h_now_cells, .inl (cI, 400, .inl f_now_cells))]) (x_runV (n0 := 0) (As := []) (rest := [.int v3]) C0 (xc_X3_takes l D cI cC cZ cL h_now h_now_cells H.size f_now_cells _ hk) gX4_byFile_X3_takes rfl ⟨rfl, rfl⟩ (by decide +kernel) rfl ⟨by decide, by decide⟩ ⟨Nat.zero_le _, Nat.zero_le _⟩ hP hD [1, 2] rfl rfl (k := 1) rfl rfl rfl hl.1 rfl (Nat.le_of_ble_eq_true rfl) dX4_byFile_7) hP hD hS hA [1, 2] [0] [0, 1, 2] rfl rfl rfl (by decide) (fun _ => rfl) rfl (fun r1 u1 H locs hk hP hD hS => ?_)
    refine lv_icmp_ge (tgt := 60) hx hb dX4_byFile_10 (by decide) (fun c2 => ?_) (fun c2 => ?_)
    · have hk := hk.1 c2
      refine lv_iconst (v := (-1 : Int32)) hx hb dX4_byFile_60 (by decide) ?_
      exact x_reti C0 () hk hP hD hS dX4_byFile_61
    · have hk := hk.2 c2
      refine lv_aload_n hx hb dX4_byFile_13 rfl (lv_at hl 0 rfl) ?_
      refine va_get (D := D) (ci := 4) (v := .ref h_now) (C := RX4) (T := TX4) (N := 9) hx hb hts xin_X4_byFile_X4 hown hK hP 0 rfl rfl 0 (by decide) (hts (.fieldLink RX4 12 "TakeLog" "now" "LTakeLog$State;") (by decide +kernel)) (fun _ h9 => h9) rfl dX4_byFile_14 ?_
      refine lv_iload_n hx hb dX4_byFile_17 rfl (lv_at hl 3 rfl) ?_
      refine x_joini (ws1 := fun (_ : Unit) => [(h, .inr (4, [.ref h_now, .ref h_copy, .ref h_past, .ref h_slots, .ref h_saved, .ref h_text, .ref h_shown, .int f_remembered, .int f_oldest])), (h_now, .inr (3, [.ref h_now_cells])), (h_now_cells, .inl (cI, 400, .inl f_now_cells))]) (x_runV (n0 := 1) (As := [.int v3]) (rest := []) C0 (xc_X3_hasSound l D cI cC cZ cL h_now h_now_cells H.size f_now_cells v3 _ hk) gX4_byFile_X3_hasSound rfl ⟨rfl, rfl⟩ (by decide +kernel) rfl ⟨by decide, by decide⟩ ⟨Nat.zero_le _, Nat.zero_le _⟩ hP hD [1, 2] rfl rfl (k := 1) rfl rfl rfl hl.1 rfl (Nat.le_of_ble_eq_true rfl) dX4_byFile_18) hP hD hS hA [1, 2] [0] [0, 1, 2] rfl rfl rfl (by decide) (fun _ => rfl) rfl (fun r3 u3 H locs hk hP hD hS => ?_)
      refine lv_if_eq (tgt := 54) hx hb dX4_byFile_21 (by decide) (fun c4 => ?_) (fun c4 => ?_)
      · have hk := hk.1 c4
        refine lv_iinc (v := (v3 + 1)) (lv' := [(3, .int (v3 + 1)), (0, .ref h), (1, .int v1), (2, .int v2)]) hx hb dX4_byFile_54 hl (k := 3) rfl rfl (by decide) rfl (fun ls hl => ?_)
        refine lv_goto (tgt := 2) hx hb dX4_byFile_57 (by decide) ?_
        exact ih _ _ _ hk H locs ls hP hD hS (lv_sub hl [1, 2, 3, 0] rfl)
      · have hk := hk.2 c4
        refine lv_aload_n hx hb dX4_byFile_24 rfl (lv_at hl 0 rfl) ?_
        refine va_get (D := D) (ci := 4) (v := .ref h_now) (C := RX4) (T := TX4) (N := 9) hx hb hts xin_X4_byFile_X4 hown hK hP 0 rfl rfl 0 (by decide) (hts (.fieldLink RX4 12 "TakeLog" "now" "LTakeLog$State;") (by decide +kernel)) (fun _ h9 => h9) rfl dX4_byFile_25 ?_
        refine lv_iload_n hx hb dX4_byFile_28 rfl (lv_at hl 3 rfl) ?_
        refine lv_bipush (v := 9) hx hb dX4_byFile_29 (by decide) ?_
        refine x_joini (ws1 := fun (_ : Unit) => [(h, .inr (4, [.ref h_now, .ref h_copy, .ref h_past, .ref h_slots, .ref h_saved, .ref h_text, .ref h_shown, .int f_remembered, .int f_oldest])), (h_now, .inr (3, [.ref h_now_cells])), (h_now_cells, .inl (cI, 400, .inl f_now_cells))]) (x_runV (n0 := 2) (As := [.int v3, .int 9]) (rest := []) C0 (xc_X3_of l D cI cC cZ cL h_now h_now_cells H.size f_now_cells v3 9 _ hk) gX4_byFile_X3_of rfl ⟨rfl, rfl⟩ (by decide +kernel) rfl ⟨by decide, by decide⟩ ⟨Nat.zero_le _, Nat.zero_le _⟩ hP hD [1, 2] rfl rfl (k := 1) rfl rfl rfl hl.1 rfl (Nat.le_of_ble_eq_true rfl) dX4_byFile_31) hP hD hS hA [1, 2] [0] [0, 1, 2] rfl rfl rfl (by decide) (fun _ => rfl) rfl (fun r5 u5 H locs hk hP hD hS => ?_)
        refine lv_iload_n hx hb dX4_byFile_34 rfl (lv_at hl 1 rfl) ?_
        refine lv_icmp_ne (tgt := 54) hx hb dX4_byFile_35 (by decide) (fun c6 => ?_) (fun c6 => ?_)
        · have hk := hk.1 c6
          refine lv_iinc (v := (v3 + 1)) (lv' := [(3, .int (v3 + 1)), (0, .ref h), (1, .int v1), (2, .int v2)]) hx hb dX4_byFile_54 hl (k := 3) rfl rfl (by decide) rfl (fun ls hl => ?_)
          refine lv_goto (tgt := 2) hx hb dX4_byFile_57 (by decide) ?_
          exact ih _ _ _ hk H locs ls hP hD hS (lv_sub hl [1, 2, 3, 0] rfl)
        · have hk := hk.2 c6
          refine lv_aload_n hx hb dX4_byFile_38 rfl (lv_at hl 0 rfl) ?_
          refine va_get (D := D) (ci := 4) (v := .ref h_now) (C := RX4) (T := TX4) (N := 9) hx hb hts xin_X4_byFile_X4 hown hK hP 0 rfl rfl 0 (by decide) (hts (.fieldLink RX4 12 "TakeLog" "now" "LTakeLog$State;") (by decide +kernel)) (fun _ h9 => h9) rfl dX4_byFile_39 ?_
          refine lv_iload_n hx hb dX4_byFile_42 rfl (lv_at hl 3 rfl) ?_
          refine lv_bipush (v := 11) hx hb dX4_byFile_43 (by decide) ?_
          refine x_joini (ws1 := fun (_ : Unit) => [(h, .inr (4, [.ref h_now, .ref h_copy, .ref h_past, .ref h_slots, .ref h_saved, .ref h_text, .ref h_shown, .int f_remembered, .int f_oldest])), (h_now, .inr (3, [.ref h_now_cells])), (h_now_cells, .inl (cI, 400, .inl f_now_cells))]) (x_runV (n0 := 2) (As := [.int v3, .int 11]) (rest := []) C0 (xc_X3_of l D cI cC cZ cL h_now h_now_cells H.size f_now_cells v3 11 _ hk) gX4_byFile_X3_of rfl ⟨rfl, rfl⟩ (by decide +kernel) rfl ⟨by decide, by decide⟩ ⟨Nat.zero_le _, Nat.zero_le _⟩ hP hD [1, 2] rfl rfl (k := 1) rfl rfl rfl hl.1 rfl (Nat.le_of_ble_eq_true rfl) dX4_byFile_45) hP hD hS hA [1, 2] [0] [0, 1, 2] rfl rfl rfl (by decide) (fun _ => rfl) rfl (fun r7 u7 H locs hk hP hD hS => ?_)
          refine lv_iload_n hx hb dX4_byFile_48 rfl (lv_at hl 2 rfl) ?_
          refine lv_icmp_ne (tgt := 54) hx hb dX4_byFile_49 (by decide) (fun c8 => ?_) (fun c8 => ?_)
          · have hk := hk.1 c8
            refine lv_iinc (v := (v3 + 1)) (lv' := [(3, .int (v3 + 1)), (0, .ref h), (1, .int v1), (2, .int v2)]) hx hb dX4_byFile_54 hl (k := 3) rfl rfl (by decide) rfl (fun ls hl => ?_)
            refine lv_goto (tgt := 2) hx hb dX4_byFile_57 (by decide) ?_
            exact ih _ _ _ hk H locs ls hP hD hS (lv_sub hl [1, 2, 3, 0] rfl)
          · have hk := hk.2 c8
            refine lv_iload_n hx hb dX4_byFile_52 rfl (lv_at hl 3 rfl) ?_
            exact x_reti C0 () hk hP hD hS dX4_byFile_53
set_option maxHeartbeats 4000000 in
set_option maxRecDepth 100000 in
theorem xb_X4_byFile_0 {p : Program} {l : Launch} {e : Env} {s : State} {m : MethodId} {args : Array Value} {below : List Frame} {meth : Method} {c : Code} {A : Nat → Prop} {D : va_G} {cI cC cZ cL : ClassId} {h h_now h_copy h_past h_slots h_saved h_text h_shown h_now_cells : Nat}  {f_remembered : Int32} {f_oldest : Int32} {f_now_cells : Nat → Int32} {K : Int32 → Prop}  (C0 : xC p s m args meth c cX4_byFile 4 (some .int) wsX4_byFile RX4 D (xTY cI cC cZ cL)) (hA : ∀ q : Nat, s.heap.size ≤ q → A q)  : ∀ (x1 : Int32) (x2 : Int32) , xp_X4_byFile f_now_cells x1 x2 K → ∀ (H : Heap) (locs : List Loc) (ls : Array Slot), va_P D vwCl [(h, .inr (4, [.ref h_now, .ref h_copy, .ref h_past, .ref h_slots, .ref h_saved, .ref h_text, .ref h_shown, .int f_remembered, .int f_oldest])), (h_now, .inr (3, [.ref h_now_cells])), (h_now_cells, .inl (cI, 400, .inl f_now_cells))] H → va_D A [(h, .inr (4, [.ref h_now, .ref h_copy, .ref h_past, .ref h_slots, .ref h_saved, .ref h_text, .ref h_shown, .int f_remembered, .int f_oldest])), (h_now, .inr (3, [.ref h_now_cells])), (h_now_cells, .inl (cI, 400, .inl f_now_cells))] → va_S A s.heap H locs → lv_has ls 4 [(0, .ref h), (1, .int x1), (2, .int x2)] → W p l e ({ frames := 2, cells := 0, slots := 0, locals := 44 } : Room) s m args below meth c H locs 0 0 (MQ below (va_Qi (fun (r : Int32) (_ : Unit) => K r) (fun u t => xE D A ((fun (_ : Unit) => [(h, .inr (4, [.ref h_now, .ref h_copy, .ref h_past, .ref h_slots, .ref h_saved, .ref h_text, .ref h_shown, .int f_remembered, .int f_oldest])), (h_now, .inr (3, [.ref h_now_cells])), (h_now_cells, .inl (cI, 400, .inl f_now_cells))]) u) t) A) args s 0 0 A) (F0 m 0 ls []) := by
  obtain ⟨hx, hb, hr, hml, hown, hts, hlocks, hK, hN⟩ := id C0
  intro x1 x2 hk H locs ls hP hD hS hl
  rw [xp_X4_byFile] at hk
  refine lv_iconst (v := 0) hx hb dX4_byFile_0 (by decide) ?_
  refine lv_istore_n (lv' := [(3, .int 0), (0, .ref h), (1, .int x1), (2, .int x2)]) hx hb dX4_byFile_1 rfl hl (by decide) rfl (fun ls hl => ?_)
  obtain ⟨n9, hk⟩ := hk
  exact xb_X4_byFile_2 C0 hA  n9 _ _ _ hk H locs ls hP hD hS (lv_sub hl [1, 2, 3, 0] rfl)
theorem xc_X4_byFile (l : Launch) (D : va_G) (cI cC cZ cL : ClassId) (h h_now h_copy h_past h_slots h_saved h_text h_shown h_now_cells : Nat)  (sz : Nat) (f_remembered : Int32) (f_oldest : Int32) (f_now_cells : Nat → Int32) (x1 : Int32) (x2 : Int32) (K : Int32 → Prop) (hk : xp_X4_byFile f_now_cells x1 x2 K) : XMi l yX4_byFile wsX4_byFile ({ frames := 2, cells := 0, slots := 0, locals := 44 } : Room) D (xTY cI cC cZ cL) [.ref h, .int x1, .int x2] [(h, .inr (4, [.ref h_now, .ref h_copy, .ref h_past, .ref h_slots, .ref h_saved, .ref h_text, .ref h_shown, .int f_remembered, .int f_oldest])), (h_now, .inr (3, [.ref h_now_cells])), (h_now_cells, .inl (cI, 400, .inl f_now_cells))] sz (fun (r : Int32) (_ : Unit) => K r) (fun (_ : Unit) => [(h, .inr (4, [.ref h_now, .ref h_copy, .ref h_past, .ref h_slots, .ref h_saved, .ref h_text, .ref h_shown, .int f_remembered, .int f_oldest])), (h_now, .inr (3, [.ref h_now_cells])), (h_now_cells, .inl (cI, 400, .inl f_now_cells))]) :=
  x_enter (cc := cX4_byFile) (maxL := 4) (ret := (some .int)) (own := RX4) (by decide) rfl rfl (Nat.le_of_ble_eq_true rfl) (fun p e s m below meth c ls C0 hA hP hD hS hl => xb_X4_byFile_0 C0 hA _ _ hk s.heap [] ls hP hD hS hl)
set_option maxRecDepth 20000 in
theorem xin_X4_bestShift_X4 : ∀ w ∈ u_ws RX4 TX4 9, w ∈ wsX4_bestShift := by decide +kernel
set_option maxRecDepth 20000 in
theorem xin_X4_bestShift_X3 : ∀ w ∈ u_ws RX3 TX3 1, w ∈ wsX4_bestShift := by decide +kernel
set_option maxHeartbeats 4000000 in
set_option maxRecDepth 100000 in
theorem xb_X4_bestShift_54 {p : Program} {l : Launch} {e : Env} {s : State} {m : MethodId} {args : Array Value} {below : List Frame} {meth : Method} {c : Code} {A : Nat → Prop} {D : va_G} {cI cC cZ cL : ClassId} {h h_now h_copy h_past h_slots h_saved h_text h_shown h_now_cells : Nat}  {f_remembered : Int32} {f_oldest : Int32} {f_now_cells : Nat → Int32} {K : Int32 → Prop} {X22 : Int32 → Int32 → Int32 → Int32 → Prop} (C0 : xC p s m args meth c cX4_bestShift 7 (some .int) wsX4_bestShift RX4 D (xTY cI cC cZ cL)) (hA : ∀ q : Nat, s.heap.size ≤ q → A q) (hX22 : ∀ (v1 : Int32) (v2 : Int32) (v3 : Int32) (v4 : Int32), X22 v1 v2 v3 v4 → ∀ (H : Heap) (locs : List Loc) (ls : Array Slot), va_P D vwCl [(h, .inr (4, [.ref h_now, .ref h_copy, .ref h_past, .ref h_slots, .ref h_saved, .ref h_text, .ref h_shown, .int f_remembered, .int f_oldest])), (h_now, .inr (3, [.ref h_now_cells])), (h_now_cells, .inl (cI, 400, .inl f_now_cells))] H → va_D A [(h, .inr (4, [.ref h_now, .ref h_copy, .ref h_past, .ref h_slots, .ref h_saved, .ref h_text, .ref h_shown, .int f_remembered, .int f_oldest])), (h_now, .inr (3, [.ref h_now_cells])), (h_now_cells, .inl (cI, 400, .inl f_now_cells))] → va_S A s.heap H locs → lv_has ls 7 [(0, .ref h), (1, .int v1), (2, .int v2), (3, .int v3), (4, .int v4)] → W p l e ({ frames := 4, cells := 0, slots := 0, locals := 101 } : Room) s m args below meth c H locs 0 0 (MQ below (va_Qi (fun (r : Int32) (_ : Unit) => K r) (fun u t => xE D A ((fun (_ : Unit) => [(h, .inr (4, [.ref h_now, .ref h_copy, .ref h_past, .ref h_slots, .ref h_saved, .ref h_text, .ref h_shown, .int f_remembered, .int f_oldest])), (h_now, .inr (3, [.ref h_now_cells])), (h_now_cells, .inl (cI, 400, .inl f_now_cells))]) u) t) A) args s 0 0 A) (F0 m 22 ls [])) : ∀ (v1 : Int32) (v2 : Int32) (v3 : Int32) (v4 : Int32) (t0 : Int32) , xp_X4_bestShift_54 f_now_cells K X22 v1 v2 v3 v4 t0 → ∀ (H : Heap) (locs : List Loc) (ls : Array Slot), va_P D vwCl [(h, .inr (4, [.ref h_now, .ref h_copy, .ref h_past, .ref h_slots, .ref h_saved, .ref h_text, .ref h_shown, .int f_remembered, .int f_oldest])), (h_now, .inr (3, [.ref h_now_cells])), (h_now_cells, .inl (cI, 400, .inl f_now_cells))] H → va_D A [(h, .inr (4, [.ref h_now, .ref h_copy, .ref h_past, .ref h_slots, .ref h_saved, .ref h_text, .ref h_shown, .int f_remembered, .int f_oldest])), (h_now, .inr (3, [.ref h_now_cells])), (h_now_cells, .inl (cI, 400, .inl f_now_cells))] → va_S A s.heap H locs → lv_has ls 7 [(0, .ref h), (1, .int v1), (2, .int v2), (3, .int v3), (4, .int v4)] → W p l e ({ frames := 4, cells := 0, slots := 0, locals := 101 } : Room) s m args below meth c H locs 0 0 (MQ below (va_Qi (fun (r : Int32) (_ : Unit) => K r) (fun u t => xE D A ((fun (_ : Unit) => [(h, .inr (4, [.ref h_now, .ref h_copy, .ref h_past, .ref h_slots, .ref h_saved, .ref h_text, .ref h_shown, .int f_remembered, .int f_oldest])), (h_now, .inr (3, [.ref h_now_cells])), (h_now_cells, .inl (cI, 400, .inl f_now_cells))]) u) t) A) args s 0 0 A) (F0 m 54 ls [.int t0]) := by
  obtain ⟨hx, hb, hr, hml, hown, hts, hlocks, hK, hN⟩ := id C0
  intro v1 v2 v3 v4 t0 hk H locs ls hP hD hS hl
  rw [xp_X4_bestShift_54] at hk
  refine lv_istore (lv' := [(5, .int t0), (0, .ref h), (1, .int v1), (2, .int v2), (3, .int v3), (4, .int v4)]) hx hb dX4_bestShift_54 hl (by decide) rfl (fun ls hl => ?_)
  refine lv_aload_n hx hb dX4_bestShift_56 rfl (lv_at hl 1 rfl) ?_
  refine va_get (D := D) (ci := 4) (v := .ref h_now) (C := RX4) (T := TX4) (N := 9) hx hb hts xin_X4_bestShift_X4 hown hK hP 0 rfl rfl 0 (by decide) (hts (.fieldLink RX4 12 "TakeLog" "now" "LTakeLog$State;") (by decide +kernel)) (fun _ h9 => h9) rfl dX4_bestShift_57 ?_
  refine lv_iload hx hb dX4_bestShift_60 (lv_at hl 0 rfl) ?_
  refine x_joini (ws1 := fun (_ : Unit) => [(h, .inr (4, [.ref h_now, .ref h_copy, .ref h_past, .ref h_slots, .ref h_saved, .ref h_text, .ref h_shown, .int f_remembered, .int f_oldest])), (h_now, .inr (3, [.ref h_now_cells])), (h_now_cells, .inl (cI, 400, .inl f_now_cells))]) (x_runV (n0 := 1) (As := [.int t0]) (rest := []) C0 (xc_X3_keptSounds l D cI cC cZ cL h_now h_now_cells H.size f_now_cells t0 _ hk) gX4_bestShift_X3_keptSounds rfl ⟨rfl, rfl⟩ (by decide +kernel) rfl ⟨by decide, by decide⟩ ⟨Nat.zero_le _, Nat.zero_le _⟩ hP hD [1, 2] rfl rfl (k := 1) rfl rfl rfl hl.1 rfl (Nat.le_of_ble_eq_true rfl) dX4_bestShift_62) hP hD hS hA [1, 2] [0] [0, 1, 2] rfl rfl rfl (by decide) (fun _ => rfl) rfl (fun r1 u1 H locs hk hP hD hS => ?_)
  refine lv_istore (lv' := [(6, .int r1), (5, .int t0), (0, .ref h), (1, .int v1), (2, .int v2), (3, .int v3), (4, .int v4)]) hx hb dX4_bestShift_65 hl (by decide) rfl (fun ls hl => ?_)
  refine lv_iload hx hb dX4_bestShift_67 (lv_at hl 0 rfl) ?_
  refine lv_iload_n hx hb dX4_bestShift_69 rfl (lv_at hl 4 rfl) ?_
  refine lv_icmp_le (tgt := 79) hx hb dX4_bestShift_70 (by decide) (fun c2 => ?_) (fun c2 => ?_)
  · have hk := hk.1 c2
    refine lv_iinc (v := (v4 + 1)) (lv' := [(4, .int (v4 + 1)), (6, .int r1), (5, .int t0), (0, .ref h), (1, .int v1), (2, .int v2), (3, .int v3)]) hx hb dX4_bestShift_79 hl (k := 6) rfl rfl (by decide) rfl (fun ls hl => ?_)
    refine lv_goto (tgt := 22) hx hb dX4_bestShift_82 (by decide) ?_
    exact hX22 _ _ _ _ hk H locs ls hP hD hS (lv_sub hl [3, 4, 5, 6, 0] rfl)
  · have hk := hk.2 c2
    refine lv_iload hx hb dX4_bestShift_73 (lv_at hl 0 rfl) ?_
    refine lv_istore_n (lv' := [(2, .int r1), (6, .int r1), (5, .int t0), (0, .ref h), (1, .int v1), (3, .int v3), (4, .int v4)]) hx hb dX4_bestShift_75 rfl hl (by decide) rfl (fun ls hl => ?_)
    refine lv_iload hx hb dX4_bestShift_76 (lv_at hl 2 rfl) ?_
    refine lv_istore_n (lv' := [(1, .int t0), (2, .int r1), (6, .int r1), (5, .int t0), (0, .ref h), (3, .int v3), (4, .int v4)]) hx hb dX4_bestShift_78 rfl hl (by decide) rfl (fun ls hl => ?_)
    refine lv_iinc (v := (v4 + 1)) (lv' := [(4, .int (v4 + 1)), (1, .int t0), (2, .int r1), (6, .int r1), (5, .int t0), (0, .ref h), (3, .int v3)]) hx hb dX4_bestShift_79 hl (k := 6) rfl rfl (by decide) rfl (fun ls hl => ?_)
    refine lv_goto (tgt := 22) hx hb dX4_bestShift_82 (by decide) ?_
    exact hX22 _ _ _ _ hk H locs ls hP hD hS (lv_sub hl [5, 1, 2, 6, 0] rfl)
set_option maxHeartbeats 4000000 in
set_option maxRecDepth 100000 in
theorem xb_X4_bestShift_22 {p : Program} {l : Launch} {e : Env} {s : State} {m : MethodId} {args : Array Value} {below : List Frame} {meth : Method} {c : Code} {A : Nat → Prop} {D : va_G} {cI cC cZ cL : ClassId} {h h_now h_copy h_past h_slots h_saved h_text h_shown h_now_cells : Nat}  {f_remembered : Int32} {f_oldest : Int32} {f_now_cells : Nat → Int32} {K : Int32 → Prop}  (C0 : xC p s m args meth c cX4_bestShift 7 (some .int) wsX4_bestShift RX4 D (xTY cI cC cZ cL)) (hA : ∀ q : Nat, s.heap.size ≤ q → A q)  : ∀ (n : Nat) (v1 : Int32) (v2 : Int32) (v3 : Int32) (v4 : Int32) , xp_X4_bestShift_22 f_now_cells K n v1 v2 v3 v4 → ∀ (H : Heap) (locs : List Loc) (ls : Array Slot), va_P D vwCl [(h, .inr (4, [.ref h_now, .ref h_copy, .ref h_past, .ref h_slots, .ref h_saved, .ref h_text, .ref h_shown, .int f_remembered, .int f_oldest])), (h_now, .inr (3, [.ref h_now_cells])), (h_now_cells, .inl (cI, 400, .inl f_now_cells))] H → va_D A [(h, .inr (4, [.ref h_now, .ref h_copy, .ref h_past, .ref h_slots, .ref h_saved, .ref h_text, .ref h_shown, .int f_remembered, .int f_oldest])), (h_now, .inr (3, [.ref h_now_cells])), (h_now_cells, .inl (cI, 400, .inl f_now_cells))] → va_S A s.heap H locs → lv_has ls 7 [(0, .ref h), (1, .int v1), (2, .int v2), (3, .int v3), (4, .int v4)] → W p l e ({ frames := 4, cells := 0, slots := 0, locals := 101 } : Room) s m args below meth c H locs 0 0 (MQ below (va_Qi (fun (r : Int32) (_ : Unit) => K r) (fun u t => xE D A ((fun (_ : Unit) => [(h, .inr (4, [.ref h_now, .ref h_copy, .ref h_past, .ref h_slots, .ref h_saved, .ref h_text, .ref h_shown, .int f_remembered, .int f_oldest])), (h_now, .inr (3, [.ref h_now_cells])), (h_now_cells, .inl (cI, 400, .inl f_now_cells))]) u) t) A) args s 0 0 A) (F0 m 22 ls []) := by
  obtain ⟨hx, hb, hr, hml, hown, hts, hlocks, hK, hN⟩ := id C0
  intro n
  induction n with
  | zero => intro v1 v2 v3 v4 hk; exact hk.elim
  | succ n ih =>
    intro v1 v2 v3 v4 hk H locs ls hP hD hS hl
    rw [xp_X4_bestShift_22] at hk
    refine lv_iload hx hb dX4_bestShift_22 (lv_at hl 4 rfl) ?_
    refine lv_sipush (v := 199) hx hb dX4_bestShift_24 (by decide) ?_
    refine lv_icmp_gt (tgt := 85) hx hb dX4_bestShift_27 (by decide) (fun c1 => ?_) (fun c1 => ?_)
    · have hk := hk.1 c1
      refine lv_iload_n hx hb dX4_bestShift_85 rfl (lv_at hl 1 rfl) ?_
      exact x_reti C0 () hk hP hD hS dX4_bestShift_86
    · have hk := hk.2 c1
      refine lv_iload_n hx hb dX4_bestShift_30 rfl (lv_at hl 2 rfl) ?_
      refine lv_iload_n hx hb dX4_bestShift_31 rfl (lv_at hl 3 rfl) ?_
      refine lv_icmp_ge (tgt := 85) hx hb dX4_bestShift_32 (by decide) (fun c2 => ?_) (fun c2 => ?_)
      · have hk := hk.1 c2
        refine lv_iload_n hx hb dX4_bestShift_85 rfl (lv_at hl 1 rfl) ?_
        exact x_reti C0 () hk hP hD hS dX4_bestShift_86
      · have hk := hk.2 c2
        refine lv_iload hx hb dX4_bestShift_35 (lv_at hl 4 rfl) ?_
        refine lv_iconst (v := 2) hx hb dX4_bestShift_37 (by decide) ?_
        refine lv_irem hx hb dX4_bestShift_38 (by decide) ?_
        refine lv_if_ne (tgt := 50) hx hb dX4_bestShift_39 (by decide) (fun c3 => ?_) (fun c3 => ?_)
        · have hk := hk.1 c3
          refine lv_iload hx hb dX4_bestShift_50 (lv_at hl 4 rfl) ?_
          refine lv_iconst (v := 2) hx hb dX4_bestShift_52 (by decide) ?_
          refine lv_idiv hx hb dX4_bestShift_53 (by decide) ?_
          exact xb_X4_bestShift_54 C0 hA ih _ _ _ _ _ hk H locs ls hP hD hS (lv_sub hl [0, 1, 2, 3, 4] rfl)
        · have hk := hk.2 c3
          refine lv_iload hx hb dX4_bestShift_42 (lv_at hl 4 rfl) ?_
          refine lv_iconst (v := 2) hx hb dX4_bestShift_44 (by decide) ?_
          refine lv_idiv hx hb dX4_bestShift_45 (by decide) ?_
          refine lv_ineg hx hb dX4_bestShift_46 ?_
          refine lv_goto (tgt := 54) hx hb dX4_bestShift_47 (by decide) ?_
          exact xb_X4_bestShift_54 C0 hA ih _ _ _ _ _ hk H locs ls hP hD hS (lv_sub hl [0, 1, 2, 3, 4] rfl)
set_option maxHeartbeats 4000000 in
set_option maxRecDepth 100000 in
theorem xb_X4_bestShift_0 {p : Program} {l : Launch} {e : Env} {s : State} {m : MethodId} {args : Array Value} {below : List Frame} {meth : Method} {c : Code} {A : Nat → Prop} {D : va_G} {cI cC cZ cL : ClassId} {h h_now h_copy h_past h_slots h_saved h_text h_shown h_now_cells : Nat}  {f_remembered : Int32} {f_oldest : Int32} {f_now_cells : Nat → Int32} {K : Int32 → Prop}  (C0 : xC p s m args meth c cX4_bestShift 7 (some .int) wsX4_bestShift RX4 D (xTY cI cC cZ cL)) (hA : ∀ q : Nat, s.heap.size ≤ q → A q)  : xp_X4_bestShift f_now_cells K → ∀ (H : Heap) (locs : List Loc) (ls : Array Slot), va_P D vwCl [(h, .inr (4, [.ref h_now, .ref h_copy, .ref h_past, .ref h_slots, .ref h_saved, .ref h_text, .ref h_shown, .int f_remembered, .int f_oldest])), (h_now, .inr (3, [.ref h_now_cells])), (h_now_cells, .inl (cI, 400, .inl f_now_cells))] H → va_D A [(h, .inr (4, [.ref h_now, .ref h_copy, .ref h_past, .ref h_slots, .ref h_saved, .ref h_text, .ref h_shown, .int f_remembered, .int f_oldest])), (h_now, .inr (3, [.ref h_now_cells])), (h_now_cells, .inl (cI, 400, .inl f_now_cells))] → va_S A s.heap H locs → lv_has ls 7 [(0, .ref h)] → W p l e ({ frames := 4, cells := 0, slots := 0, locals := 101 } : Room) s m args below meth c H locs 0 0 (MQ below (va_Qi (fun (r : Int32) (_ : Unit) => K r) (fun u t => xE D A ((fun (_ : Unit) => [(h, .inr (4, [.ref h_now, .ref h_copy, .ref h_past, .ref h_slots, .ref h_saved, .ref h_text, .ref h_shown, .int f_remembered, .int f_oldest])), (h_now, .inr (3, [.ref h_now_cells])), (h_now_cells, .inl (cI, 400, .inl f_now_cells))]) u) t) A) args s 0 0 A) (F0 m 0 ls []) := by
  obtain ⟨hx, hb, hr, hml, hown, hts, hlocks, hK, hN⟩ := id C0
  intro  hk H locs ls hP hD hS hl
  rw [xp_X4_bestShift] at hk
  refine lv_iconst (v := 0) hx hb dX4_bestShift_0 (by decide) ?_
  refine lv_istore_n (lv' := [(1, .int 0), (0, .ref h)]) hx hb dX4_bestShift_1 rfl hl (by decide) rfl (fun ls hl => ?_)
  refine lv_aload_n hx hb dX4_bestShift_2 rfl (lv_at hl 1 rfl) ?_
  refine va_get (D := D) (ci := 4) (v := .ref h_now) (C := RX4) (T := TX4) (N := 9) hx hb hts xin_X4_bestShift_X4 hown hK hP 0 rfl rfl 0 (by decide) (hts (.fieldLink RX4 12 "TakeLog" "now" "LTakeLog$State;") (by decide +kernel)) (fun _ h9 => h9) rfl dX4_bestShift_3 ?_
  refine lv_iconst (v := 0) hx hb dX4_bestShift_6 (by decide) ?_
  refine x_joini (ws1 := fun (_ : Unit) => [(h, .inr (4, [.ref h_now, .ref h_copy, .ref h_past, .ref h_slots, .ref h_saved, .ref h_text, .ref h_shown, .int f_remembered, .int f_oldest])), (h_now, .inr (3, [.ref h_now_cells])), (h_now_cells, .inl (cI, 400, .inl f_now_cells))]) (x_runV (n0 := 1) (As := [.int 0]) (rest := []) C0 (xc_X3_keptSounds l D cI cC cZ cL h_now h_now_cells H.size f_now_cells 0 _ hk) gX4_bestShift_X3_keptSounds rfl ⟨rfl, rfl⟩ (by decide +kernel) rfl ⟨by decide, by decide⟩ ⟨Nat.zero_le _, Nat.zero_le _⟩ hP hD [1, 2] rfl rfl (k := 1) rfl rfl rfl hl.1 rfl (Nat.le_of_ble_eq_true rfl) dX4_bestShift_7) hP hD hS hA [1, 2] [0] [0, 1, 2] rfl rfl rfl (by decide) (fun _ => rfl) rfl (fun r1 u1 H locs hk hP hD hS => ?_)
  refine lv_istore_n (lv' := [(2, .int r1), (1, .int 0), (0, .ref h)]) hx hb dX4_bestShift_10 rfl hl (by decide) rfl (fun ls hl => ?_)
  refine lv_aload_n hx hb dX4_bestShift_11 rfl (lv_at hl 2 rfl) ?_
  refine va_get (D := D) (ci := 4) (v := .ref h_now) (C := RX4) (T := TX4) (N := 9) hx hb hts xin_X4_bestShift_X4 hown hK hP 0 rfl rfl 0 (by decide) (hts (.fieldLink RX4 12 "TakeLog" "now" "LTakeLog$State;") (by decide +kernel)) (fun _ h9 => h9) rfl dX4_bestShift_12 ?_
  refine x_joini (ws1 := fun (_ : Unit) => [(h, .inr (4, [.ref h_now, .ref h_copy, .ref h_past, .ref h_slots, .ref h_saved, .ref h_text, .ref h_shown, .int f_remembered, .int f_oldest])), (h_now, .inr (3, [.ref h_now_cells])), (h_now_cells, .inl (cI, 400, .inl f_now_cells))]) (x_runV (n0 := 0) (As := []) (rest := []) C0 (xc_X3_sounds l D cI cC cZ cL h_now h_now_cells H.size f_now_cells _ hk) gX4_bestShift_X3_sounds rfl ⟨rfl, rfl⟩ (by decide +kernel) rfl ⟨by decide, by decide⟩ ⟨Nat.zero_le _, Nat.zero_le _⟩ hP hD [1, 2] rfl rfl (k := 1) rfl rfl rfl hl.1 rfl (Nat.le_of_ble_eq_true rfl) dX4_bestShift_15) hP hD hS hA [1, 2] [0] [0, 1, 2] rfl rfl rfl (by decide) (fun _ => rfl) rfl (fun r2 u2 H locs hk hP hD hS => ?_)
  refine lv_istore_n (lv' := [(3, .int r2), (2, .int r1), (1, .int 0), (0, .ref h)]) hx hb dX4_bestShift_18 rfl hl (by decide) rfl (fun ls hl => ?_)
  refine lv_iconst (v := 2) hx hb dX4_bestShift_19 (by decide) ?_
  refine lv_istore (lv' := [(4, .int 2), (3, .int r2), (2, .int r1), (1, .int 0), (0, .ref h)]) hx hb dX4_bestShift_20 hl (by decide) rfl (fun ls hl => ?_)
  obtain ⟨n9, hk⟩ := hk
  exact xb_X4_bestShift_22 C0 hA  n9 _ _ _ _ hk H locs ls hP hD hS (lv_sub hl [4, 3, 2, 1, 0] rfl)
theorem xc_X4_bestShift (l : Launch) (D : va_G) (cI cC cZ cL : ClassId) (h h_now h_copy h_past h_slots h_saved h_text h_shown h_now_cells : Nat)  (sz : Nat) (f_remembered : Int32) (f_oldest : Int32) (f_now_cells : Nat → Int32)  (K : Int32 → Prop) (hk : xp_X4_bestShift f_now_cells K) : XMi l yX4_bestShift wsX4_bestShift ({ frames := 4, cells := 0, slots := 0, locals := 101 } : Room) D (xTY cI cC cZ cL) [.ref h] [(h, .inr (4, [.ref h_now, .ref h_copy, .ref h_past, .ref h_slots, .ref h_saved, .ref h_text, .ref h_shown, .int f_remembered, .int f_oldest])), (h_now, .inr (3, [.ref h_now_cells])), (h_now_cells, .inl (cI, 400, .inl f_now_cells))] sz (fun (r : Int32) (_ : Unit) => K r) (fun (_ : Unit) => [(h, .inr (4, [.ref h_now, .ref h_copy, .ref h_past, .ref h_slots, .ref h_saved, .ref h_text, .ref h_shown, .int f_remembered, .int f_oldest])), (h_now, .inr (3, [.ref h_now_cells])), (h_now_cells, .inl (cI, 400, .inl f_now_cells))]) :=
  x_enter (cc := cX4_bestShift) (maxL := 7) (ret := (some .int)) (own := RX4) (by decide) rfl rfl (Nat.le_of_ble_eq_true rfl) (fun p e s m below meth c ls C0 hA hP hD hS hl => xb_X4_bestShift_0 C0 hA  hk s.heap [] ls hP hD hS hl)
set_option maxHeartbeats 4000000 in
set_option maxRecDepth 100000 in
theorem xb_X4_withoutGroups_5 {p : Program} {l : Launch} {e : Env} {s : State} {m : MethodId} {args : Array Value} {below : List Frame} {meth : Method} {c : Code} {A : Nat → Prop} {D : va_G} {cI cC cZ cL : ClassId}    {K : Int64 → Prop}  (C0 : xC p s m args meth c cX4_withoutGroups 6 (some .long) wsX4_withoutGroups RX4 D (xTY cI cC cZ cL)) (hA : ∀ q : Nat, s.heap.size ≤ q → A q)  : ∀ (n : Nat) (v2 : Int32) (v3 : Int64) (v5 : Int32) , xp_X4_withoutGroups_5 K n v2 v3 v5 → ∀ (H : Heap) (locs : List Loc) (ls : Array Slot), va_P D vwCl [] H → va_D A [] → va_S A s.heap H locs → lv_has ls 6 [(2, .int v2), (3, .long v3), (5, .int v5)] → W p l e ({ frames := 0, cells := 0, slots := 0, locals := 0 } : Room) s m args below meth c H locs 0 0 (MQ below (va_Ql (fun (r : Int64) (_ : Unit) => K r) (fun u t => xE D A ((fun (_ : Unit) => []) u) t) A) args s 0 0 A) (F0 m 5 ls []) := by
  obtain ⟨hx, hb, hr, hml, hown, hts, hlocks, hK, hN⟩ := id C0
  intro n
  induction n with
  | zero => intro v2 v3 v5 hk; exact hk.elim
  | succ n ih =>
    intro v2 v3 v5 hk H locs ls hP hD hS hl
    rw [xp_X4_withoutGroups_5] at hk
    refine lv_iload hx hb dX4_withoutGroups_5 (lv_at hl 2 rfl) ?_
    refine lv_iload_n hx hb dX4_withoutGroups_7 rfl (lv_at hl 0 rfl) ?_
    refine lv_icmp_ge (tgt := 23) hx hb dX4_withoutGroups_8 (by decide) (fun c1 => ?_) (fun c1 => ?_)
    · have hk := hk.1 c1
      refine lv_lload_n hx hb dX4_withoutGroups_23 rfl (lv_at hl 1 rfl) ?_
      exact x_retl C0 () hk hP hD hS dX4_withoutGroups_24
    · have hk := hk.2 c1
      refine lv_lload_n hx hb dX4_withoutGroups_11 rfl (lv_at hl 1 rfl) ?_
      refine lv_ldc2 (own := RX4) hx hb hown (hts (.constantLong RX4 264 (100000)) (by decide +kernel)) dX4_withoutGroups_12 ?_
      refine lv_ldiv hx hb dX4_withoutGroups_15 (by decide) ?_
      refine lv_lstore_n (lv' := [(3, .long (v3 / 100000)), (2, .int v2), (5, .int v5)]) hx hb dX4_withoutGroups_16 rfl hl (by decide) rfl (fun ls hl => ?_)
      refine lv_iinc (v := (v5 + 1)) (lv' := [(5, .int (v5 + 1)), (3, .long (v3 / 100000)), (2, .int v2)]) hx hb dX4_withoutGroups_17 hl (k := 2) rfl rfl (by decide) rfl (fun ls hl => ?_)
      refine lv_goto (tgt := 5) hx hb dX4_withoutGroups_20 (by decide) ?_
      exact ih _ _ _ hk H locs ls hP hD hS (lv_sub hl [2, 1, 0] rfl)
set_option maxHeartbeats 4000000 in
set_option maxRecDepth 100000 in
theorem xb_X4_withoutGroups_0 {p : Program} {l : Launch} {e : Env} {s : State} {m : MethodId} {args : Array Value} {below : List Frame} {meth : Method} {c : Code} {A : Nat → Prop} {D : va_G} {cI cC cZ cL : ClassId}    {K : Int64 → Prop}  (C0 : xC p s m args meth c cX4_withoutGroups 6 (some .long) wsX4_withoutGroups RX4 D (xTY cI cC cZ cL)) (hA : ∀ q : Nat, s.heap.size ≤ q → A q)  : ∀ (x1 : Int64) (x2 : Int32) , xp_X4_withoutGroups x1 x2 K → ∀ (H : Heap) (locs : List Loc) (ls : Array Slot), va_P D vwCl [] H → va_D A [] → va_S A s.heap H locs → lv_has ls 6 [(0, .long x1), (2, .int x2)] → W p l e ({ frames := 0, cells := 0, slots := 0, locals := 0 } : Room) s m args below meth c H locs 0 0 (MQ below (va_Ql (fun (r : Int64) (_ : Unit) => K r) (fun u t => xE D A ((fun (_ : Unit) => []) u) t) A) args s 0 0 A) (F0 m 0 ls []) := by
  obtain ⟨hx, hb, hr, hml, hown, hts, hlocks, hK, hN⟩ := id C0
  intro x1 x2 hk H locs ls hP hD hS hl
  rw [xp_X4_withoutGroups] at hk
  refine lv_lload_n hx hb dX4_withoutGroups_0 rfl (lv_at hl 0 rfl) ?_
  refine lv_lstore_n (lv' := [(3, .long x1), (0, .long x1), (2, .int x2)]) hx hb dX4_withoutGroups_1 rfl hl (by decide) rfl (fun ls hl => ?_)
  refine lv_iconst (v := 0) hx hb dX4_withoutGroups_2 (by decide) ?_
  refine lv_istore (lv' := [(5, .int 0), (3, .long x1), (0, .long x1), (2, .int x2)]) hx hb dX4_withoutGroups_3 hl (by decide) rfl (fun ls hl => ?_)
  obtain ⟨n9, hk⟩ := hk
  exact xb_X4_withoutGroups_5 C0 hA  n9 _ _ _ hk H locs ls hP hD hS (lv_sub hl [3, 1, 0] rfl)
theorem xc_X4_withoutGroups (l : Launch) (D : va_G) (cI cC cZ cL : ClassId)   (sz : Nat)  (x1 : Int64) (x2 : Int32) (K : Int64 → Prop) (hk : xp_X4_withoutGroups x1 x2 K) : XMl l yX4_withoutGroups wsX4_withoutGroups ({ frames := 0, cells := 0, slots := 0, locals := 0 } : Room) D (xTY cI cC cZ cL) [.long x1, .int x2] [] sz (fun (r : Int64) (_ : Unit) => K r) (fun (_ : Unit) => []) :=
  x_enter (cc := cX4_withoutGroups) (maxL := 6) (ret := (some .long)) (own := RX4) (by decide) rfl rfl (Nat.le_of_ble_eq_true rfl) (fun p e s m below meth c ls C0 hA hP hD hS hl => xb_X4_withoutGroups_0 C0 hA _ _ hk s.heap [] ls hP hD hS hl)
set_option maxRecDepth 20000 in
theorem xin_X4_loadRoll_X3 : ∀ w ∈ u_ws RX3 TX3 1, w ∈ wsX4_loadRoll := by decide +kernel
set_option maxRecDepth 20000 in
theorem xin_X4_loadRoll_X4 : ∀ w ∈ u_ws RX4 TX4 9, w ∈ wsX4_loadRoll := by decide +kernel
set_option maxHeartbeats 4000000 in
set_option maxRecDepth 100000 in
theorem xb_X4_loadRoll_0 {p : Program} {l : Launch} {e : Env} {s : State} {m : MethodId} {args : Array Value} {below : List Frame} {meth : Method} {c : Code} {A : Nat → Prop} {D : va_G} {cI cC cZ cL : ClassId} {h h_now h_copy h_past h_slots h_saved h_text h_shown h_copy_cells : Nat}  {f_remembered : Int32} {f_oldest : Int32} {K : Int32 → ((Nat → Int32)) → Prop}  (C0 : xC p s m args meth c cX4_loadRoll 2 (some .boolean) wsX4_loadRoll RX4 D (xTY cI cC cZ cL)) (hA : ∀ q : Nat, s.heap.size ≤ q → A q)  : ∀ (f_copy_cells : Nat → Int32) (x1 : Int32) , xp_X4_loadRoll f_copy_cells x1 K → ∀ (H : Heap) (locs : List Loc) (ls : Array Slot), va_P D vwCl [(h, .inr (4, [.ref h_now, .ref h_copy, .ref h_past, .ref h_slots, .ref h_saved, .ref h_text, .ref h_shown, .int f_remembered, .int f_oldest])), (h_copy, .inr (3, [.ref h_copy_cells])), (h_copy_cells, .inl (cI, 400, .inl f_copy_cells))] H → va_D A [(h, .inr (4, [.ref h_now, .ref h_copy, .ref h_past, .ref h_slots, .ref h_saved, .ref h_text, .ref h_shown, .int f_remembered, .int f_oldest])), (h_copy, .inr (3, [.ref h_copy_cells])), (h_copy_cells, .inl (cI, 400, .inl f_copy_cells))] → va_S A s.heap H locs → lv_has ls 2 [(0, .ref h), (1, .int x1)] → W p l e ({ frames := 1, cells := 0, slots := 0, locals := 20 } : Room) s m args below meth c H locs 0 0 (MQ below (va_Qi (fun (r : Int32) (u : (Nat → Int32)) => K r u) (fun u t => xE D A ((fun (u : (Nat → Int32)) => [(h, .inr (4, [.ref h_now, .ref h_copy, .ref h_past, .ref h_slots, .ref h_saved, .ref h_text, .ref h_shown, .int f_remembered, .int f_oldest])), (h_copy, .inr (3, [.ref h_copy_cells])), (h_copy_cells, .inl (cI, 400, .inl u))]) u) t) A) args s 0 0 A) (F0 m 0 ls []) := by
  obtain ⟨hx, hb, hr, hml, hown, hts, hlocks, hK, hN⟩ := id C0
  intro f_copy_cells x1 hk H locs ls hP hD hS hl
  rw [xp_X4_loadRoll] at hk
  refine lv_iload_n hx hb dX4_loadRoll_0 rfl (lv_at hl 1 rfl) ?_
  refine lv_if_eq (tgt := 15) hx hb dX4_loadRoll_1 (by decide) (fun c1 => ?_) (fun c1 => ?_)
  · have hk := hk.1 c1
    refine lv_aload_n hx hb dX4_loadRoll_15 rfl (lv_at hl 0 rfl) ?_
    refine va_get (D := D) (ci := 4) (v := .ref h_copy) (C := RX4) (T := TX4) (N := 9) hx hb hts xin_X4_loadRoll_X4 hown hK hP 0 rfl rfl 1 (by decide) (hts (.fieldLink RX4 16 "TakeLog" "copy" "LTakeLog$State;") (by decide +kernel)) (fun _ h9 => h9) rfl dX4_loadRoll_16 ?_
    refine x_joini (ws1 := fun (u2 : (Nat → Int32)) => [(h, .inr (4, [.ref h_now, .ref h_copy, .ref h_past, .ref h_slots, .ref h_saved, .ref h_text, .ref h_shown, .int f_remembered, .int f_oldest])), (h_copy, .inr (3, [.ref h_copy_cells])), (h_copy_cells, .inl (cI, 400, .inl u2))]) (x_runV (n0 := 0) (As := []) (rest := []) C0 (xc_X3_loadCamera l D cI cC cZ cL h_copy h_copy_cells H.size f_copy_cells _ hk) gX4_loadRoll_X3_loadCamera rfl ⟨rfl, rfl⟩ (by decide +kernel) rfl ⟨by decide, by decide⟩ ⟨Nat.zero_le _, Nat.zero_le _⟩ hP hD [1, 2] rfl rfl (k := 1) rfl rfl rfl hl.1 rfl (Nat.le_of_ble_eq_true rfl) dX4_loadRoll_19) hP hD hS hA [1, 2] [0] [0, 1, 2] rfl rfl rfl (by decide) (fun _ => rfl) rfl (fun r2 u2 H locs hk hP hD hS => ?_)
    refine lv_pop hx hb dX4_loadRoll_22 rfl ?_
    refine lv_iconst (v := 1) hx hb dX4_loadRoll_23 (by decide) ?_
    exact x_retz rfl C0 (u2) hk hP hD hS dX4_loadRoll_24
  · have hk := hk.2 c1
    refine lv_aload_n hx hb dX4_loadRoll_4 rfl (lv_at hl 0 rfl) ?_
    refine va_get (D := D) (ci := 4) (v := .ref h_copy) (C := RX4) (T := TX4) (N := 9) hx hb hts xin_X4_loadRoll_X4 hown hK hP 0 rfl rfl 1 (by decide) (hts (.fieldLink RX4 16 "TakeLog" "copy" "LTakeLog$State;") (by decide +kernel)) (fun _ h9 => h9) rfl dX4_loadRoll_5 ?_
    refine x_joini (ws1 := fun (u3 : (Nat → Int32)) => [(h, .inr (4, [.ref h_now, .ref h_copy, .ref h_past, .ref h_slots, .ref h_saved, .ref h_text, .ref h_shown, .int f_remembered, .int f_oldest])), (h_copy, .inr (3, [.ref h_copy_cells])), (h_copy_cells, .inl (cI, 400, .inl u3))]) (x_runV (n0 := 0) (As := []) (rest := []) C0 (xc_X3_loadSound l D cI cC cZ cL h_copy h_copy_cells H.size f_copy_cells _ hk) gX4_loadRoll_X3_loadSound rfl ⟨rfl, rfl⟩ (by decide +kernel) rfl ⟨by decide, by decide⟩ ⟨Nat.zero_le _, Nat.zero_le _⟩ hP hD [1, 2] rfl rfl (k := 1) rfl rfl rfl hl.1 rfl (Nat.le_of_ble_eq_true rfl) dX4_loadRoll_8) hP hD hS hA [1, 2] [0] [0, 1, 2] rfl rfl rfl (by decide) (fun _ => rfl) rfl (fun r3 u3 H locs hk hP hD hS => ?_)
    refine lv_pop hx hb dX4_loadRoll_11 rfl ?_
    refine lv_goto (tgt := 23) hx hb dX4_loadRoll_12 (by decide) ?_
    refine lv_iconst (v := 1) hx hb dX4_loadRoll_23 (by decide) ?_
    exact x_retz rfl C0 (u3) hk hP hD hS dX4_loadRoll_24
theorem xc_X4_loadRoll (l : Launch) (D : va_G) (cI cC cZ cL : ClassId) (h h_now h_copy h_past h_slots h_saved h_text h_shown h_copy_cells : Nat)  (sz : Nat) (f_remembered : Int32) (f_oldest : Int32) (f_copy_cells : Nat → Int32) (x1 : Int32) (K : Int32 → ((Nat → Int32)) → Prop) (hk : xp_X4_loadRoll f_copy_cells x1 K) : XMi l yX4_loadRoll wsX4_loadRoll ({ frames := 1, cells := 0, slots := 0, locals := 20 } : Room) D (xTY cI cC cZ cL) [.ref h, .int x1] [(h, .inr (4, [.ref h_now, .ref h_copy, .ref h_past, .ref h_slots, .ref h_saved, .ref h_text, .ref h_shown, .int f_remembered, .int f_oldest])), (h_copy, .inr (3, [.ref h_copy_cells])), (h_copy_cells, .inl (cI, 400, .inl f_copy_cells))] sz (fun (r : Int32) (u : (Nat → Int32)) => K r u) (fun (u : (Nat → Int32)) => [(h, .inr (4, [.ref h_now, .ref h_copy, .ref h_past, .ref h_slots, .ref h_saved, .ref h_text, .ref h_shown, .int f_remembered, .int f_oldest])), (h_copy, .inr (3, [.ref h_copy_cells])), (h_copy_cells, .inl (cI, 400, .inl u))]) :=
  x_enter (cc := cX4_loadRoll) (maxL := 2) (ret := (some .boolean)) (own := RX4) (by decide) rfl rfl (Nat.le_of_ble_eq_true rfl) (fun p e s m below meth c ls C0 hA hP hD hS hl => xb_X4_loadRoll_0 C0 hA _ _ hk s.heap [] ls hP hD hS hl)
set_option maxRecDepth 20000 in
theorem xin_X4_succeeds_X4 : ∀ w ∈ u_ws RX4 TX4 9, w ∈ wsX4_succeeds := by decide +kernel
set_option maxRecDepth 20000 in
theorem xin_X4_succeeds_X3 : ∀ w ∈ u_ws RX3 TX3 1, w ∈ wsX4_succeeds := by decide +kernel
set_option maxHeartbeats 4000000 in
set_option maxRecDepth 100000 in
theorem xb_X4_succeeds_104 {p : Program} {l : Launch} {e : Env} {s : State} {m : MethodId} {args : Array Value} {below : List Frame} {meth : Method} {c : Code} {A : Nat → Prop} {D : va_G} {cI cC cZ cL : ClassId} {h h_now h_copy h_past h_slots h_saved h_text h_shown h_copy_cells : Nat}  {f_remembered : Int32} {f_oldest : Int32} {K : Int32 → ((Nat → Int32)) → Prop}  (C0 : xC p s m args meth c cX4_succeeds 5 (some .boolean) wsX4_succeeds RX4 D (xTY cI cC cZ cL)) (hA : ∀ q : Nat, s.heap.size ≤ q → A q)  : ∀ (f_copy_cells : Nat → Int32) (t0 : Int32) (t1 : Int32) , xp_X4_succeeds_104 K f_copy_cells t0 t1 → ∀ (H : Heap) (locs : List Loc) (ls : Array Slot), va_P D vwCl [(h, .inr (4, [.ref h_now, .ref h_copy, .ref h_past, .ref h_slots, .ref h_saved, .ref h_text, .ref h_shown, .int f_remembered, .int f_oldest])), (h_copy, .inr (3, [.ref h_copy_cells])), (h_copy_cells, .inl (cI, 400, .inl f_copy_cells))] H → va_D A [(h, .inr (4, [.ref h_now, .ref h_copy, .ref h_past, .ref h_slots, .ref h_saved, .ref h_text, .ref h_shown, .int f_remembered, .int f_oldest])), (h_copy, .inr (3, [.ref h_copy_cells])), (h_copy_cells, .inl (cI, 400, .inl f_copy_cells))] → va_S A s.heap H locs → lv_has ls 5 [] → W p l e ({ frames := 6, cells := 0, slots := 0, locals := 132 } : Room) s m args below meth c H locs 0 0 (MQ below (va_Qi (fun (r : Int32) (u : (Nat → Int32)) => K r u) (fun u t => xE D A ((fun (u : (Nat → Int32)) => [(h, .inr (4, [.ref h_now, .ref h_copy, .ref h_past, .ref h_slots, .ref h_saved, .ref h_text, .ref h_shown, .int f_remembered, .int f_oldest])), (h_copy, .inr (3, [.ref h_copy_cells])), (h_copy_cells, .inl (cI, 400, .inl u))]) u) t) A) args s 0 0 A) (F0 m 104 ls [.int t0, .int t1, .ref h_copy]) := by
  obtain ⟨hx, hb, hr, hml, hown, hts, hlocks, hK, hN⟩ := id C0
  intro f_copy_cells t0 t1 hk H locs ls hP hD hS hl
  rw [xp_X4_succeeds_104] at hk
  refine x_joini (ws1 := fun (u1 : (Nat → Int32)) => [(h, .inr (4, [.ref h_now, .ref h_copy, .ref h_past, .ref h_slots, .ref h_saved, .ref h_text, .ref h_shown, .int f_remembered, .int f_oldest])), (h_copy, .inr (3, [.ref h_copy_cells])), (h_copy_cells, .inl (cI, 400, .inl u1))]) (x_runV (n0 := 2) (As := [.int t1, .int t0]) (rest := []) C0 (xc_X3_tryToFilm l D cI cC cZ cL h_copy h_copy_cells H.size f_copy_cells t1 t0 _ hk) gX4_succeeds_X3_tryToFilm rfl ⟨rfl, rfl⟩ (by decide +kernel) rfl ⟨by decide, by decide⟩ ⟨Nat.zero_le _, Nat.zero_le _⟩ hP hD [1, 2] rfl rfl (k := 1) rfl rfl rfl hl.1 rfl (Nat.le_of_ble_eq_true rfl) dX4_succeeds_104) hP hD hS hA [1, 2] [0] [0, 1, 2] rfl rfl rfl (by decide) (fun _ => rfl) rfl (fun r1 u1 H locs hk hP hD hS => ?_)
  refine lv_if_eq (tgt := 114) hx hb dX4_succeeds_107 (by decide) (fun c2 => ?_) (fun c2 => ?_)
  · have hk := hk.1 c2
    refine lv_iconst (v := 0) hx hb dX4_succeeds_114 (by decide) ?_
    exact x_retz rfl C0 (u1) hk hP hD hS dX4_succeeds_115
  · have hk := hk.2 c2
    refine lv_iconst (v := 1) hx hb dX4_succeeds_110 (by decide) ?_
    refine lv_goto (tgt := 115) hx hb dX4_succeeds_111 (by decide) ?_
    exact x_retz rfl C0 (u1) hk hP hD hS dX4_succeeds_115
set_option maxHeartbeats 4000000 in
set_option maxRecDepth 100000 in
theorem xb_X4_succeeds_138 {p : Program} {l : Launch} {e : Env} {s : State} {m : MethodId} {args : Array Value} {below : List Frame} {meth : Method} {c : Code} {A : Nat → Prop} {D : va_G} {cI cC cZ cL : ClassId} {h h_now h_copy h_past h_slots h_saved h_text h_shown h_copy_cells : Nat}  {f_remembered : Int32} {f_oldest : Int32} {K : Int32 → ((Nat → Int32)) → Prop}  (C0 : xC p s m args meth c cX4_succeeds 5 (some .boolean) wsX4_succeeds RX4 D (xTY cI cC cZ cL)) (hA : ∀ q : Nat, s.heap.size ≤ q → A q)  : ∀ (f_copy_cells : Nat → Int32) (t0 : Int32) , xp_X4_succeeds_138 K f_copy_cells t0 → ∀ (H : Heap) (locs : List Loc) (ls : Array Slot), va_P D vwCl [(h, .inr (4, [.ref h_now, .ref h_copy, .ref h_past, .ref h_slots, .ref h_saved, .ref h_text, .ref h_shown, .int f_remembered, .int f_oldest])), (h_copy, .inr (3, [.ref h_copy_cells])), (h_copy_cells, .inl (cI, 400, .inl f_copy_cells))] H → va_D A [(h, .inr (4, [.ref h_now, .ref h_copy, .ref h_past, .ref h_slots, .ref h_saved, .ref h_text, .ref h_shown, .int f_remembered, .int f_oldest])), (h_copy, .inr (3, [.ref h_copy_cells])), (h_copy_cells, .inl (cI, 400, .inl f_copy_cells))] → va_S A s.heap H locs → lv_has ls 5 [] → W p l e ({ frames := 6, cells := 0, slots := 0, locals := 132 } : Room) s m args below meth c H locs 0 0 (MQ below (va_Qi (fun (r : Int32) (u : (Nat → Int32)) => K r u) (fun u t => xE D A ((fun (u : (Nat → Int32)) => [(h, .inr (4, [.ref h_now, .ref h_copy, .ref h_past, .ref h_slots, .ref h_saved, .ref h_text, .ref h_shown, .int f_remembered, .int f_oldest])), (h_copy, .inr (3, [.ref h_copy_cells])), (h_copy_cells, .inl (cI, 400, .inl u))]) u) t) A) args s 0 0 A) (F0 m 138 ls [.int t0, .ref h]) := by
  obtain ⟨hx, hb, hr, hml, hown, hts, hlocks, hK, hN⟩ := id C0
  intro f_copy_cells t0 hk H locs ls hP hD hS hl
  rw [xp_X4_succeeds_138] at hk
  refine x_joini (ws1 := fun (u1 : (Nat → Int32)) => [(h, .inr (4, [.ref h_now, .ref h_copy, .ref h_past, .ref h_slots, .ref h_saved, .ref h_text, .ref h_shown, .int f_remembered, .int f_oldest])), (h_copy, .inr (3, [.ref h_copy_cells])), (h_copy_cells, .inl (cI, 400, .inl u1))]) (x_runV (n0 := 1) (As := [.int t0]) (rest := []) C0 (xc_X4_loadRoll l D cI cC cZ cL h h_now h_copy h_past h_slots h_saved h_text h_shown h_copy_cells H.size f_remembered f_oldest f_copy_cells t0 _ hk) gX4_succeeds_X4_loadRoll rfl ⟨rfl, rfl⟩ (by decide +kernel) rfl ⟨by decide, by decide⟩ ⟨Nat.zero_le _, Nat.zero_le _⟩ hP hD [0, 1, 2] rfl rfl (k := 0) rfl rfl rfl hl.1 rfl (Nat.le_of_ble_eq_true rfl) dX4_succeeds_138) hP hD hS hA [0, 1, 2] [] [0, 1, 2] rfl rfl rfl (by decide) (fun _ => rfl) rfl (fun r1 u1 H locs hk hP hD hS => ?_)
  refine lv_if_eq (tgt := 148) hx hb dX4_succeeds_141 (by decide) (fun c2 => ?_) (fun c2 => ?_)
  · have hk := hk.1 c2
    refine lv_iconst (v := 0) hx hb dX4_succeeds_148 (by decide) ?_
    exact x_retz rfl C0 (u1) hk hP hD hS dX4_succeeds_149
  · have hk := hk.2 c2
    refine lv_iconst (v := 1) hx hb dX4_succeeds_144 (by decide) ?_
    refine lv_goto (tgt := 149) hx hb dX4_succeeds_145 (by decide) ?_
    exact x_retz rfl C0 (u1) hk hP hD hS dX4_succeeds_149
set_option maxHeartbeats 4000000 in
set_option maxRecDepth 100000 in
theorem xb_X4_succeeds_174 {p : Program} {l : Launch} {e : Env} {s : State} {m : MethodId} {args : Array Value} {below : List Frame} {meth : Method} {c : Code} {A : Nat → Prop} {D : va_G} {cI cC cZ cL : ClassId} {h h_now h_copy h_past h_slots h_saved h_text h_shown h_copy_cells : Nat}  {f_remembered : Int32} {f_oldest : Int32} {K : Int32 → ((Nat → Int32)) → Prop}  (C0 : xC p s m args meth c cX4_succeeds 5 (some .boolean) wsX4_succeeds RX4 D (xTY cI cC cZ cL)) (hA : ∀ q : Nat, s.heap.size ≤ q → A q)  : ∀ (f_copy_cells : Nat → Int32) (t0 : Int32) (t2 : Int32) , xp_X4_succeeds_174 K f_copy_cells t0 t2 → ∀ (H : Heap) (locs : List Loc) (ls : Array Slot), va_P D vwCl [(h, .inr (4, [.ref h_now, .ref h_copy, .ref h_past, .ref h_slots, .ref h_saved, .ref h_text, .ref h_shown, .int f_remembered, .int f_oldest])), (h_copy, .inr (3, [.ref h_copy_cells])), (h_copy_cells, .inl (cI, 400, .inl f_copy_cells))] H → va_D A [(h, .inr (4, [.ref h_now, .ref h_copy, .ref h_past, .ref h_slots, .ref h_saved, .ref h_text, .ref h_shown, .int f_remembered, .int f_oldest])), (h_copy, .inr (3, [.ref h_copy_cells])), (h_copy_cells, .inl (cI, 400, .inl f_copy_cells))] → va_S A s.heap H locs → lv_has ls 5 [] → W p l e ({ frames := 6, cells := 0, slots := 0, locals := 132 } : Room) s m args below meth c H locs 0 0 (MQ below (va_Qi (fun (r : Int32) (u : (Nat → Int32)) => K r u) (fun u t => xE D A ((fun (u : (Nat → Int32)) => [(h, .inr (4, [.ref h_now, .ref h_copy, .ref h_past, .ref h_slots, .ref h_saved, .ref h_text, .ref h_shown, .int f_remembered, .int f_oldest])), (h_copy, .inr (3, [.ref h_copy_cells])), (h_copy_cells, .inl (cI, 400, .inl u))]) u) t) A) args s 0 0 A) (F0 m 174 ls [.int t0, .int 15, .int t2, .ref h_copy]) := by
  obtain ⟨hx, hb, hr, hml, hown, hts, hlocks, hK, hN⟩ := id C0
  intro f_copy_cells t0 t2 hk H locs ls hP hD hS hl
  rw [xp_X4_succeeds_174] at hk
  refine x_joini (ws1 := fun (u1 : (Nat → Int32)) => [(h, .inr (4, [.ref h_now, .ref h_copy, .ref h_past, .ref h_slots, .ref h_saved, .ref h_text, .ref h_shown, .int f_remembered, .int f_oldest])), (h_copy, .inr (3, [.ref h_copy_cells])), (h_copy_cells, .inl (cI, 400, .inl u1))]) (x_runV (n0 := 3) (As := [.int t2, .int 15, .int t0]) (rest := []) C0 (xc_X3_mark l D cI cC cZ cL h_copy h_copy_cells H.size f_copy_cells t2 15 t0 _ hk) gX4_succeeds_X3_mark rfl ⟨rfl, rfl⟩ (by decide +kernel) rfl ⟨by decide, by decide⟩ ⟨Nat.zero_le _, Nat.zero_le _⟩ hP hD [1, 2] rfl rfl (k := 1) rfl rfl rfl hl.1 rfl (Nat.le_of_ble_eq_true rfl) dX4_succeeds_174) hP hD hS hA [1, 2] [0] [0, 1, 2] rfl rfl rfl (by decide) (fun _ => rfl) rfl (fun r1 u1 H locs hk hP hD hS => ?_)
  refine lv_if_eq (tgt := 184) hx hb dX4_succeeds_177 (by decide) (fun c2 => ?_) (fun c2 => ?_)
  · have hk := hk.1 c2
    refine lv_iconst (v := 0) hx hb dX4_succeeds_184 (by decide) ?_
    exact x_retz rfl C0 (u1) hk hP hD hS dX4_succeeds_185
  · have hk := hk.2 c2
    refine lv_iconst (v := 1) hx hb dX4_succeeds_180 (by decide) ?_
    refine lv_goto (tgt := 185) hx hb dX4_succeeds_181 (by decide) ?_
    exact x_retz rfl C0 (u1) hk hP hD hS dX4_succeeds_185
set_option maxHeartbeats 4000000 in
set_option maxRecDepth 100000 in
theorem xb_X4_succeeds_0 {p : Program} {l : Launch} {e : Env} {s : State} {m : MethodId} {args : Array Value} {below : List Frame} {meth : Method} {c : Code} {A : Nat → Prop} {D : va_G} {cI cC cZ cL : ClassId} {h h_now h_copy h_past h_slots h_saved h_text h_shown h_copy_cells : Nat}  {f_remembered : Int32} {f_oldest : Int32} {K : Int32 → ((Nat → Int32)) → Prop}  (C0 : xC p s m args meth c cX4_succeeds 5 (some .boolean) wsX4_succeeds RX4 D (xTY cI cC cZ cL)) (hA : ∀ q : Nat, s.heap.size ≤ q → A q)  : ∀ (f_copy_cells : Nat → Int32) (x1 : Int32) , xp_X4_succeeds f_copy_cells x1 K → ∀ (H : Heap) (locs : List Loc) (ls : Array Slot), va_P D vwCl [(h, .inr (4, [.ref h_now, .ref h_copy, .ref h_past, .ref h_slots, .ref h_saved, .ref h_text, .ref h_shown, .int f_remembered, .int f_oldest])), (h_copy, .inr (3, [.ref h_copy_cells])), (h_copy_cells, .inl (cI, 400, .inl f_copy_cells))] H → va_D A [(h, .inr (4, [.ref h_now, .ref h_copy, .ref h_past, .ref h_slots, .ref h_saved, .ref h_text, .ref h_shown, .int f_remembered, .int f_oldest])), (h_copy, .inr (3, [.ref h_copy_cells])), (h_copy_cells, .inl (cI, 400, .inl f_copy_cells))] → va_S A s.heap H locs → lv_has ls 5 [(0, .ref h), (1, .int x1)] → W p l e ({ frames := 6, cells := 0, slots := 0, locals := 132 } : Room) s m args below meth c H locs 0 0 (MQ below (va_Qi (fun (r : Int32) (u : (Nat → Int32)) => K r u) (fun u t => xE D A ((fun (u : (Nat → Int32)) => [(h, .inr (4, [.ref h_now, .ref h_copy, .ref h_past, .ref h_slots, .ref h_saved, .ref h_text, .ref h_shown, .int f_remembered, .int f_oldest])), (h_copy, .inr (3, [.ref h_copy_cells])), (h_copy_cells, .inl (cI, 400, .inl u))]) u) t) A) args s 0 0 A) (F0 m 0 ls []) := by
  obtain ⟨hx, hb, hr, hml, hown, hts, hlocks, hK, hN⟩ := id C0
  intro f_copy_cells x1 hk H locs ls hP hD hS hl
  rw [xp_X4_succeeds] at hk
  refine lv_iload_n hx hb dX4_succeeds_0 rfl (lv_at hl 1 rfl) ?_
  refine lv_sipush (v := 1000) hx hb dX4_succeeds_1 (by decide) ?_
  refine lv_idiv hx hb dX4_succeeds_4 (by decide) ?_
  refine lv_bipush (v := 10) hx hb dX4_succeeds_5 (by decide) ?_
  refine lv_irem hx hb dX4_succeeds_7 (by decide) ?_
  refine lv_istore_n (lv' := [(2, .int ((x1 / 1000) - (x1 / 1000) / 10 * 10)), (0, .ref h), (1, .int x1)]) hx hb dX4_succeeds_8 rfl hl (by decide) rfl (fun ls hl => ?_)
  refine lv_iload_n hx hb dX4_succeeds_9 rfl (lv_at hl 2 rfl) ?_
  refine lv_bipush (v := 100) hx hb dX4_succeeds_10 (by decide) ?_
  refine lv_idiv hx hb dX4_succeeds_12 (by decide) ?_
  refine lv_bipush (v := 100) hx hb dX4_succeeds_13 (by decide) ?_
  refine lv_irem hx hb dX4_succeeds_15 (by decide) ?_
  refine lv_istore_n (lv' := [(3, .int ((x1 / 100) - (x1 / 100) / 100 * 100)), (2, .int ((x1 / 1000) - (x1 / 1000) / 10 * 10)), (0, .ref h), (1, .int x1)]) hx hb dX4_succeeds_16 rfl hl (by decide) rfl (fun ls hl => ?_)
  refine lv_iload_n hx hb dX4_succeeds_17 rfl (lv_at hl 3 rfl) ?_
  refine lv_bipush (v := 100) hx hb dX4_succeeds_18 (by decide) ?_
  refine lv_irem hx hb dX4_succeeds_20 (by decide) ?_
  refine lv_istore (lv' := [(4, .int (x1 - x1 / 100 * 100)), (3, .int ((x1 / 100) - (x1 / 100) / 100 * 100)), (2, .int ((x1 / 1000) - (x1 / 1000) / 10 * 10)), (0, .ref h), (1, .int x1)]) hx hb dX4_succeeds_21 hl (by decide) rfl (fun ls hl => ?_)
  refine lv_iload_n hx hb dX4_succeeds_23 rfl (lv_at hl 4 rfl) ?_
  refine lv_sipush (v := 10000) hx hb dX4_succeeds_24 (by decide) ?_
  refine lv_idiv hx hb dX4_succeeds_27 (by decide) ?_
  by_cases c2 : (x1 / 10000) = 1
  · have hk := hk.1 c2
    refine lv_tableIn (x := (x1 / 10000)) (off := 52) (tgt := 80) hx hb dX4_succeeds_28 (by rw [c2]; decide) (by rw [c2]; decide) (by rw [c2]; rfl) (by decide) ?_
    refine lv_iload_n hx hb dX4_succeeds_80 rfl (lv_at hl 2 rfl) ?_
    refine lv_iconst (v := 1) hx hb dX4_succeeds_81 (by decide) ?_
    refine lv_icmp_gt (tgt := 114) hx hb dX4_succeeds_82 (by decide) (fun c3 => ?_) (fun c3 => ?_)
    · have hk := hk.1 c3
      refine lv_iconst (v := 0) hx hb dX4_succeeds_114 (by decide) ?_
      exact x_retz rfl C0 (f_copy_cells) hk hP hD hS dX4_succeeds_115
    · have hk := hk.2 c3
      refine lv_aload_n hx hb dX4_succeeds_85 rfl (lv_at hl 3 rfl) ?_
      refine va_get (D := D) (ci := 4) (v := .ref h_copy) (C := RX4) (T := TX4) (N := 9) hx hb hts xin_X4_succeeds_X4 hown hK hP 0 rfl rfl 1 (by decide) (hts (.fieldLink RX4 16 "TakeLog" "copy" "LTakeLog$State;") (by decide +kernel)) (fun _ h9 => h9) rfl dX4_succeeds_86 ?_
      refine lv_iload_n hx hb dX4_succeeds_89 rfl (lv_at hl 4 rfl) ?_
      refine lv_sipush (v := 1000) hx hb dX4_succeeds_90 (by decide) ?_
      refine lv_irem hx hb dX4_succeeds_93 (by decide) ?_
      refine lv_iload_n hx hb dX4_succeeds_94 rfl (lv_at hl 2 rfl) ?_
      refine lv_iconst (v := 1) hx hb dX4_succeeds_95 (by decide) ?_
      refine lv_icmp_ne (tgt := 103) hx hb dX4_succeeds_96 (by decide) (fun c4 => ?_) (fun c4 => ?_)
      · have hk := hk.1 c4
        refine lv_iconst (v := 0) hx hb dX4_succeeds_103 (by decide) ?_
        exact xb_X4_succeeds_104 C0 hA  _ _ _ hk H locs ls hP hD hS (lv_sub hl [] rfl)
      · have hk := hk.2 c4
        refine lv_iconst (v := 1) hx hb dX4_succeeds_99 (by decide) ?_
        refine lv_goto (tgt := 104) hx hb dX4_succeeds_100 (by decide) ?_
        exact xb_X4_succeeds_104 C0 hA  _ _ _ hk H locs ls hP hD hS (lv_sub hl [] rfl)
  have hk := hk.2 c2
  by_cases c5 : (x1 / 10000) = 2
  · have hk := hk.1 c5
    refine lv_tableIn (x := (x1 / 10000)) (off := 88) (tgt := 116) hx hb dX4_succeeds_28 (by rw [c5]; decide) (by rw [c5]; decide) (by rw [c5]; rfl) (by decide) ?_
    refine lv_iload_n hx hb dX4_succeeds_116 rfl (lv_at hl 1 rfl) ?_
    refine lv_if_ne (tgt := 148) hx hb dX4_succeeds_117 (by decide) (fun c6 => ?_) (fun c6 => ?_)
    · have hk := hk.1 c6
      refine lv_iconst (v := 0) hx hb dX4_succeeds_148 (by decide) ?_
      exact x_retz rfl C0 (f_copy_cells) hk hP hD hS dX4_succeeds_149
    · have hk := hk.2 c6
      refine lv_iload hx hb dX4_succeeds_120 (lv_at hl 0 rfl) ?_
      refine lv_iconst (v := 1) hx hb dX4_succeeds_122 (by decide) ?_
      refine lv_icmp_gt (tgt := 148) hx hb dX4_succeeds_123 (by decide) (fun c7 => ?_) (fun c7 => ?_)
      · have hk := hk.1 c7
        refine lv_iconst (v := 0) hx hb dX4_succeeds_148 (by decide) ?_
        exact x_retz rfl C0 (f_copy_cells) hk hP hD hS dX4_succeeds_149
      · have hk := hk.2 c7
        refine lv_aload_n hx hb dX4_succeeds_126 rfl (lv_at hl 3 rfl) ?_
        refine lv_iload hx hb dX4_succeeds_127 (lv_at hl 0 rfl) ?_
        refine lv_iconst (v := 1) hx hb dX4_succeeds_129 (by decide) ?_
        refine lv_icmp_ne (tgt := 137) hx hb dX4_succeeds_130 (by decide) (fun c8 => ?_) (fun c8 => ?_)
        · have hk := hk.1 c8
          refine lv_iconst (v := 0) hx hb dX4_succeeds_137 (by decide) ?_
          exact xb_X4_succeeds_138 C0 hA  _ _ hk H locs ls hP hD hS (lv_sub hl [] rfl)
        · have hk := hk.2 c8
          refine lv_iconst (v := 1) hx hb dX4_succeeds_133 (by decide) ?_
          refine lv_goto (tgt := 138) hx hb dX4_succeeds_134 (by decide) ?_
          exact xb_X4_succeeds_138 C0 hA  _ _ hk H locs ls hP hD hS (lv_sub hl [] rfl)
  have hk := hk.2 c5
  by_cases c9 : (x1 / 10000) = 3
  · have hk := hk.1 c9
    refine lv_tableIn (x := (x1 / 10000)) (off := 122) (tgt := 150) hx hb dX4_succeeds_28 (by rw [c9]; decide) (by rw [c9]; decide) (by rw [c9]; rfl) (by decide) ?_
    refine lv_iload hx hb dX4_succeeds_150 (lv_at hl 0 rfl) ?_
    refine lv_iconst (v := 1) hx hb dX4_succeeds_152 (by decide) ?_
    refine lv_icmp_gt (tgt := 184) hx hb dX4_succeeds_153 (by decide) (fun c10 => ?_) (fun c10 => ?_)
    · have hk := hk.1 c10
      refine lv_iconst (v := 0) hx hb dX4_succeeds_184 (by decide) ?_
      exact x_retz rfl C0 (f_copy_cells) hk hP hD hS dX4_succeeds_185
    · have hk := hk.2 c10
      refine lv_aload_n hx hb dX4_succeeds_156 rfl (lv_at hl 3 rfl) ?_
      refine va_get (D := D) (ci := 4) (v := .ref h_copy) (C := RX4) (T := TX4) (N := 9) hx hb hts xin_X4_succeeds_X4 hown hK hP 0 rfl rfl 1 (by decide) (hts (.fieldLink RX4 16 "TakeLog" "copy" "LTakeLog$State;") (by decide +kernel)) (fun _ h9 => h9) rfl dX4_succeeds_157 ?_
      refine lv_iload_n hx hb dX4_succeeds_160 rfl (lv_at hl 1 rfl) ?_
      refine lv_bipush (v := 15) hx hb dX4_succeeds_161 (by decide) ?_
      refine lv_iload hx hb dX4_succeeds_163 (lv_at hl 0 rfl) ?_
      refine lv_iconst (v := 1) hx hb dX4_succeeds_165 (by decide) ?_
      refine lv_icmp_ne (tgt := 173) hx hb dX4_succeeds_166 (by decide) (fun c11 => ?_) (fun c11 => ?_)
      · have hk := hk.1 c11
        refine lv_iconst (v := 0) hx hb dX4_succeeds_173 (by decide) ?_
        exact xb_X4_succeeds_174 C0 hA  _ _ _ hk H locs ls hP hD hS (lv_sub hl [] rfl)
      · have hk := hk.2 c11
        refine lv_iconst (v := 1) hx hb dX4_succeeds_169 (by decide) ?_
        refine lv_goto (tgt := 174) hx hb dX4_succeeds_170 (by decide) ?_
        exact xb_X4_succeeds_174 C0 hA  _ _ _ hk H locs ls hP hD hS (lv_sub hl [] rfl)
  have hk := hk.2 c9
  by_cases c12 : (x1 / 10000) = 4
  · have hk := hk.1 c12
    refine lv_tableIn (x := (x1 / 10000)) (off := 158) (tgt := 186) hx hb dX4_succeeds_28 (by rw [c12]; decide) (by rw [c12]; decide) (by rw [c12]; rfl) (by decide) ?_
    refine lv_iload_n hx hb dX4_succeeds_186 rfl (lv_at hl 1 rfl) ?_
    refine lv_iload hx hb dX4_succeeds_187 (lv_at hl 0 rfl) ?_
    refine x_joini (ws1 := fun (_ : Unit) => [(h, .inr (4, [.ref h_now, .ref h_copy, .ref h_past, .ref h_slots, .ref h_saved, .ref h_text, .ref h_shown, .int f_remembered, .int f_oldest])), (h_copy, .inr (3, [.ref h_copy_cells])), (h_copy_cells, .inl (cI, 400, .inl f_copy_cells))]) (x_runO (n0 := 2) (As := [.int ((x1 / 100) - (x1 / 100) / 100 * 100), .int (x1 - x1 / 100 * 100)]) (rest := []) C0 (xc_X4_isSetup l D cI cC cZ cL  H.size ((x1 / 100) - (x1 / 100) / 100 * 100) (x1 - x1 / 100 * 100) _ hk) gX4_succeeds_X4_isSetup rfl ⟨rfl, rfl⟩ (by decide +kernel) rfl ⟨by decide, by decide⟩ ⟨Nat.zero_le _, Nat.zero_le _⟩ hP hD [] rfl rfl hl.1 rfl (Nat.le_of_ble_eq_true rfl) dX4_succeeds_189) hP hD hS hA [] [0, 1, 2] [0, 1, 2] rfl rfl rfl (by decide) (fun _ => rfl) rfl (fun r13 u13 H locs hk hP hD hS => ?_)
    refine lv_if_eq (tgt := 212) hx hb dX4_succeeds_192 (by decide) (fun c14 => ?_) (fun c14 => ?_)
    · have hk := hk.1 c14
      refine lv_iconst (v := 0) hx hb dX4_succeeds_212 (by decide) ?_
      exact x_retz rfl C0 (f_copy_cells) hk hP hD hS dX4_succeeds_213
    · have hk := hk.2 c14
      refine lv_aload_n hx hb dX4_succeeds_195 rfl (lv_at hl 3 rfl) ?_
      refine va_get (D := D) (ci := 4) (v := .ref h_copy) (C := RX4) (T := TX4) (N := 9) hx hb hts xin_X4_succeeds_X4 hown hK hP 0 rfl rfl 1 (by decide) (hts (.fieldLink RX4 16 "TakeLog" "copy" "LTakeLog$State;") (by decide +kernel)) (fun _ h9 => h9) rfl dX4_succeeds_196 ?_
      refine lv_iload_n hx hb dX4_succeeds_199 rfl (lv_at hl 1 rfl) ?_
      refine lv_iload hx hb dX4_succeeds_200 (lv_at hl 0 rfl) ?_
      refine x_joini (ws1 := fun (u15 : (Nat → Int32)) => [(h, .inr (4, [.ref h_now, .ref h_copy, .ref h_past, .ref h_slots, .ref h_saved, .ref h_text, .ref h_shown, .int f_remembered, .int f_oldest])), (h_copy, .inr (3, [.ref h_copy_cells])), (h_copy_cells, .inl (cI, 400, .inl u15))]) (x_runV (n0 := 2) (As := [.int ((x1 / 100) - (x1 / 100) / 100 * 100), .int (x1 - x1 / 100 * 100)]) (rest := []) C0 (xc_X3_mean l D cI cC cZ cL h_copy h_copy_cells H.size f_copy_cells ((x1 / 100) - (x1 / 100) / 100 * 100) (x1 - x1 / 100 * 100) _ hk) gX4_succeeds_X3_mean rfl ⟨rfl, rfl⟩ (by decide +kernel) rfl ⟨by decide, by decide⟩ ⟨Nat.zero_le _, Nat.zero_le _⟩ hP hD [1, 2] rfl rfl (k := 1) rfl rfl rfl hl.1 rfl (Nat.le_of_ble_eq_true rfl) dX4_succeeds_202) hP hD hS hA [1, 2] [0] [0, 1, 2] rfl rfl rfl (by decide) (fun _ => rfl) rfl (fun r15 u15 H locs hk hP hD hS => ?_)
      refine lv_if_eq (tgt := 212) hx hb dX4_succeeds_205 (by decide) (fun c16 => ?_) (fun c16 => ?_)
      · have hk := hk.1 c16
        refine lv_iconst (v := 0) hx hb dX4_succeeds_212 (by decide) ?_
        exact x_retz rfl C0 (u15) hk hP hD hS dX4_succeeds_213
      · have hk := hk.2 c16
        refine lv_iconst (v := 1) hx hb dX4_succeeds_208 (by decide) ?_
        refine lv_goto (tgt := 213) hx hb dX4_succeeds_209 (by decide) ?_
        exact x_retz rfl C0 (u15) hk hP hD hS dX4_succeeds_213
  have hk := hk.2 c12
  by_cases c17 : (x1 / 10000) = 5
  · have hk := hk.1 c17
    refine lv_tableIn (x := (x1 / 10000)) (off := 186) (tgt := 214) hx hb dX4_succeeds_28 (by rw [c17]; decide) (by rw [c17]; decide) (by rw [c17]; rfl) (by decide) ?_
    refine lv_iload_n hx hb dX4_succeeds_214 rfl (lv_at hl 1 rfl) ?_
    refine lv_if_ne (tgt := 237) hx hb dX4_succeeds_215 (by decide) (fun c18 => ?_) (fun c18 => ?_)
    · have hk := hk.1 c18
      refine lv_iconst (v := 0) hx hb dX4_succeeds_237 (by decide) ?_
      exact x_retz rfl C0 (f_copy_cells) hk hP hD hS dX4_succeeds_238
    · have hk := hk.2 c18
      refine lv_iload hx hb dX4_succeeds_218 (lv_at hl 0 rfl) ?_
      refine lv_if_ne (tgt := 237) hx hb dX4_succeeds_220 (by decide) (fun c19 => ?_) (fun c19 => ?_)
      · have hk := hk.1 c19
        refine lv_iconst (v := 0) hx hb dX4_succeeds_237 (by decide) ?_
        exact x_retz rfl C0 (f_copy_cells) hk hP hD hS dX4_succeeds_238
      · have hk := hk.2 c19
        refine lv_aload_n hx hb dX4_succeeds_223 rfl (lv_at hl 3 rfl) ?_
        refine va_get (D := D) (ci := 4) (v := .ref h_copy) (C := RX4) (T := TX4) (N := 9) hx hb hts xin_X4_succeeds_X4 hown hK hP 0 rfl rfl 1 (by decide) (hts (.fieldLink RX4 16 "TakeLog" "copy" "LTakeLog$State;") (by decide +kernel)) (fun _ h9 => h9) rfl dX4_succeeds_224 ?_
        refine x_joini (ws1 := fun (u20 : (Nat → Int32)) => [(h, .inr (4, [.ref h_now, .ref h_copy, .ref h_past, .ref h_slots, .ref h_saved, .ref h_text, .ref h_shown, .int f_remembered, .int f_oldest])), (h_copy, .inr (3, [.ref h_copy_cells])), (h_copy_cells, .inl (cI, 400, .inl u20))]) (x_runV (n0 := 0) (As := []) (rest := []) C0 (xc_X3_writeRight l D cI cC cZ cL h_copy h_copy_cells H.size f_copy_cells _ hk) gX4_succeeds_X3_writeRight rfl ⟨rfl, rfl⟩ (by decide +kernel) rfl ⟨by decide, by decide⟩ ⟨Nat.zero_le _, Nat.zero_le _⟩ hP hD [1, 2] rfl rfl (k := 1) rfl rfl rfl hl.1 rfl (Nat.le_of_ble_eq_true rfl) dX4_succeeds_227) hP hD hS hA [1, 2] [0] [0, 1, 2] rfl rfl rfl (by decide) (fun _ => rfl) rfl (fun r20 u20 H locs hk hP hD hS => ?_)
        refine lv_if_eq (tgt := 237) hx hb dX4_succeeds_230 (by decide) (fun c21 => ?_) (fun c21 => ?_)
        · have hk := hk.1 c21
          refine lv_iconst (v := 0) hx hb dX4_succeeds_237 (by decide) ?_
          exact x_retz rfl C0 (u20) hk hP hD hS dX4_succeeds_238
        · have hk := hk.2 c21
          refine lv_iconst (v := 1) hx hb dX4_succeeds_233 (by decide) ?_
          refine lv_goto (tgt := 238) hx hb dX4_succeeds_234 (by decide) ?_
          exact x_retz rfl C0 (u20) hk hP hD hS dX4_succeeds_238
  have hk := hk.2 c17
  by_cases c22 : (x1 / 10000) = 6
  · have hk := hk.1 c22
    refine lv_tableIn (x := (x1 / 10000)) (off := 211) (tgt := 239) hx hb dX4_succeeds_28 (by rw [c22]; decide) (by rw [c22]; decide) (by rw [c22]; rfl) (by decide) ?_
    refine lv_iload hx hb dX4_succeeds_239 (lv_at hl 0 rfl) ?_
    refine lv_iconst (v := 1) hx hb dX4_succeeds_241 (by decide) ?_
    refine lv_icmp_gt (tgt := 282) hx hb dX4_succeeds_242 (by decide) (fun c23 => ?_) (fun c23 => ?_)
    · have hk := hk.1 c23
      refine lv_iconst (v := 0) hx hb dX4_succeeds_282 (by decide) ?_
      exact x_retz rfl C0 (f_copy_cells) hk hP hD hS dX4_succeeds_283
    · have hk := hk.2 c23
      refine lv_aload_n hx hb dX4_succeeds_245 rfl (lv_at hl 3 rfl) ?_
      refine va_get (D := D) (ci := 4) (v := .ref h_copy) (C := RX4) (T := TX4) (N := 9) hx hb hts xin_X4_succeeds_X4 hown hK hP 0 rfl rfl 1 (by decide) (hts (.fieldLink RX4 16 "TakeLog" "copy" "LTakeLog$State;") (by decide +kernel)) (fun _ h9 => h9) rfl dX4_succeeds_246 ?_
      refine lv_iload_n hx hb dX4_succeeds_249 rfl (lv_at hl 1 rfl) ?_
      refine x_joini (ws1 := fun (_ : Unit) => [(h, .inr (4, [.ref h_now, .ref h_copy, .ref h_past, .ref h_slots, .ref h_saved, .ref h_text, .ref h_shown, .int f_remembered, .int f_oldest])), (h_copy, .inr (3, [.ref h_copy_cells])), (h_copy_cells, .inl (cI, 400, .inl f_copy_cells))]) (x_runV (n0 := 1) (As := [.int ((x1 / 100) - (x1 / 100) / 100 * 100)]) (rest := []) C0 (xc_X3_hasTake l D cI cC cZ cL h_copy h_copy_cells H.size f_copy_cells ((x1 / 100) - (x1 / 100) / 100 * 100) _ hk) gX4_succeeds_X3_hasTake rfl ⟨rfl, rfl⟩ (by decide +kernel) rfl ⟨by decide, by decide⟩ ⟨Nat.zero_le _, Nat.zero_le _⟩ hP hD [1, 2] rfl rfl (k := 1) rfl rfl rfl hl.1 rfl (Nat.le_of_ble_eq_true rfl) dX4_succeeds_250) hP hD hS hA [1, 2] [0] [0, 1, 2] rfl rfl rfl (by decide) (fun _ => rfl) rfl (fun r24 u24 H locs hk hP hD hS => ?_)
      refine lv_if_eq (tgt := 282) hx hb dX4_succeeds_253 (by decide) (fun c25 => ?_) (fun c25 => ?_)
      · have hk := hk.1 c25
        refine lv_iconst (v := 0) hx hb dX4_succeeds_282 (by decide) ?_
        exact x_retz rfl C0 (f_copy_cells) hk hP hD hS dX4_succeeds_283
      · have hk := hk.2 c25
        refine lv_aload_n hx hb dX4_succeeds_256 rfl (lv_at hl 3 rfl) ?_
        refine va_get (D := D) (ci := 4) (v := .ref h_copy) (C := RX4) (T := TX4) (N := 9) hx hb hts xin_X4_succeeds_X4 hown hK hP 0 rfl rfl 1 (by decide) (hts (.fieldLink RX4 16 "TakeLog" "copy" "LTakeLog$State;") (by decide +kernel)) (fun _ h9 => h9) rfl dX4_succeeds_257 ?_
        refine lv_iload_n hx hb dX4_succeeds_260 rfl (lv_at hl 1 rfl) ?_
        refine x_joini (ws1 := fun (_ : Unit) => [(h, .inr (4, [.ref h_now, .ref h_copy, .ref h_past, .ref h_slots, .ref h_saved, .ref h_text, .ref h_shown, .int f_remembered, .int f_oldest])), (h_copy, .inr (3, [.ref h_copy_cells])), (h_copy_cells, .inl (cI, 400, .inl f_copy_cells))]) (x_runV (n0 := 1) (As := [.int ((x1 / 100) - (x1 / 100) / 100 * 100)]) (rest := []) C0 (xc_X3_isRight l D cI cC cZ cL h_copy h_copy_cells H.size f_copy_cells ((x1 / 100) - (x1 / 100) / 100 * 100) _ hk) gX4_succeeds_X3_isRight rfl ⟨rfl, rfl⟩ (by decide +kernel) rfl ⟨by decide, by decide⟩ ⟨Nat.zero_le _, Nat.zero_le _⟩ hP hD [1, 2] rfl rfl (k := 1) rfl rfl rfl hl.1 rfl (Nat.le_of_ble_eq_true rfl) dX4_succeeds_261) hP hD hS hA [1, 2] [0] [0, 1, 2] rfl rfl rfl (by decide) (fun _ => rfl) rfl (fun r26 u26 H locs hk hP hD hS => ?_)
        refine lv_iload hx hb dX4_succeeds_264 (lv_at hl 0 rfl) ?_
        refine lv_iconst (v := 1) hx hb dX4_succeeds_266 (by decide) ?_
        refine lv_icmp_ne (tgt := 274) hx hb dX4_succeeds_267 (by decide) (fun c27 => ?_) (fun c27 => ?_)
        · have hk := hk.1 c27
          refine lv_iconst (v := 0) hx hb dX4_succeeds_274 (by decide) ?_
          refine lv_icmp_ne (tgt := 282) hx hb dX4_succeeds_275 (by decide) (fun c28 => ?_) (fun c28 => ?_)
          · have hk := hk.1 c28
            refine lv_iconst (v := 0) hx hb dX4_succeeds_282 (by decide) ?_
            exact x_retz rfl C0 (f_copy_cells) hk hP hD hS dX4_succeeds_283
          · have hk := hk.2 c28
            refine lv_iconst (v := 1) hx hb dX4_succeeds_278 (by decide) ?_
            refine lv_goto (tgt := 283) hx hb dX4_succeeds_279 (by decide) ?_
            exact x_retz rfl C0 (f_copy_cells) hk hP hD hS dX4_succeeds_283
        · have hk := hk.2 c27
          refine lv_iconst (v := 1) hx hb dX4_succeeds_270 (by decide) ?_
          refine lv_goto (tgt := 275) hx hb dX4_succeeds_271 (by decide) ?_
          refine lv_icmp_ne (tgt := 282) hx hb dX4_succeeds_275 (by decide) (fun c29 => ?_) (fun c29 => ?_)
          · have hk := hk.1 c29
            refine lv_iconst (v := 0) hx hb dX4_succeeds_282 (by decide) ?_
            exact x_retz rfl C0 (f_copy_cells) hk hP hD hS dX4_succeeds_283
          · have hk := hk.2 c29
            refine lv_iconst (v := 1) hx hb dX4_succeeds_278 (by decide) ?_
            refine lv_goto (tgt := 283) hx hb dX4_succeeds_279 (by decide) ?_
            exact x_retz rfl C0 (f_copy_cells) hk hP hD hS dX4_succeeds_283
  have hk := hk.2 c22
  by_cases c30 : (x1 / 10000) = 7
  · have hk := hk.1 c30
    refine lv_tableIn (x := (x1 / 10000)) (off := 256) (tgt := 284) hx hb dX4_succeeds_28 (by rw [c30]; decide) (by rw [c30]; decide) (by rw [c30]; rfl) (by decide) ?_
    refine lv_iload_n hx hb dX4_succeeds_284 rfl (lv_at hl 1 rfl) ?_
    refine lv_if_ne (tgt := 304) hx hb dX4_succeeds_285 (by decide) (fun c31 => ?_) (fun c31 => ?_)
    · have hk := hk.1 c31
      refine lv_iconst (v := 0) hx hb dX4_succeeds_304 (by decide) ?_
      exact x_retz rfl C0 (f_copy_cells) hk hP hD hS dX4_succeeds_305
    · have hk := hk.2 c31
      refine lv_aload_n hx hb dX4_succeeds_288 rfl (lv_at hl 3 rfl) ?_
      refine va_get (D := D) (ci := 4) (v := .ref h_copy) (C := RX4) (T := TX4) (N := 9) hx hb hts xin_X4_succeeds_X4 hown hK hP 0 rfl rfl 1 (by decide) (hts (.fieldLink RX4 16 "TakeLog" "copy" "LTakeLog$State;") (by decide +kernel)) (fun _ h9 => h9) rfl dX4_succeeds_289 ?_
      refine x_joini (ws1 := fun (_ : Unit) => [(h, .inr (4, [.ref h_now, .ref h_copy, .ref h_past, .ref h_slots, .ref h_saved, .ref h_text, .ref h_shown, .int f_remembered, .int f_oldest])), (h_copy, .inr (3, [.ref h_copy_cells])), (h_copy_cells, .inl (cI, 400, .inl f_copy_cells))]) (x_runV (n0 := 0) (As := []) (rest := []) C0 (xc_X3_wrongSlates l D cI cC cZ cL h_copy h_copy_cells H.size f_copy_cells _ hk) gX4_succeeds_X3_wrongSlates rfl ⟨rfl, rfl⟩ (by decide +kernel) rfl ⟨by decide, by decide⟩ ⟨Nat.zero_le _, Nat.zero_le _⟩ hP hD [1, 2] rfl rfl (k := 1) rfl rfl rfl hl.1 rfl (Nat.le_of_ble_eq_true rfl) dX4_succeeds_292) hP hD hS hA [1, 2] [0] [0, 1, 2] rfl rfl rfl (by decide) (fun _ => rfl) rfl (fun r32 u32 H locs hk hP hD hS => ?_)
      refine lv_iload hx hb dX4_succeeds_295 (lv_at hl 0 rfl) ?_
      refine lv_icmp_gt (tgt := 304) hx hb dX4_succeeds_297 (by decide) (fun c33 => ?_) (fun c33 => ?_)
      · have hk := hk.1 c33
        refine lv_iconst (v := 0) hx hb dX4_succeeds_304 (by decide) ?_
        exact x_retz rfl C0 (f_copy_cells) hk hP hD hS dX4_succeeds_305
      · have hk := hk.2 c33
        refine lv_iconst (v := 1) hx hb dX4_succeeds_300 (by decide) ?_
        refine lv_goto (tgt := 305) hx hb dX4_succeeds_301 (by decide) ?_
        exact x_retz rfl C0 (f_copy_cells) hk hP hD hS dX4_succeeds_305
  have hk := hk.2 c30
  by_cases c34 : (x1 / 10000) = 8
  · have hk := hk.1 c34
    refine lv_tableIn (x := (x1 / 10000)) (off := 278) (tgt := 306) hx hb dX4_succeeds_28 (by rw [c34]; decide) (by rw [c34]; decide) (by rw [c34]; rfl) (by decide) ?_
    refine lv_aload_n hx hb dX4_succeeds_306 rfl (lv_at hl 3 rfl) ?_
    refine va_get (D := D) (ci := 4) (v := .ref h_copy) (C := RX4) (T := TX4) (N := 9) hx hb hts xin_X4_succeeds_X4 hown hK hP 0 rfl rfl 1 (by decide) (hts (.fieldLink RX4 16 "TakeLog" "copy" "LTakeLog$State;") (by decide +kernel)) (fun _ h9 => h9) rfl dX4_succeeds_307 ?_
    refine lv_iload_n hx hb dX4_succeeds_310 rfl (lv_at hl 1 rfl) ?_
    refine x_joini (ws1 := fun (_ : Unit) => [(h, .inr (4, [.ref h_now, .ref h_copy, .ref h_past, .ref h_slots, .ref h_saved, .ref h_text, .ref h_shown, .int f_remembered, .int f_oldest])), (h_copy, .inr (3, [.ref h_copy_cells])), (h_copy_cells, .inl (cI, 400, .inl f_copy_cells))]) (x_runV (n0 := 1) (As := [.int ((x1 / 100) - (x1 / 100) / 100 * 100)]) (rest := []) C0 (xc_X3_hasTake l D cI cC cZ cL h_copy h_copy_cells H.size f_copy_cells ((x1 / 100) - (x1 / 100) / 100 * 100) _ hk) gX4_succeeds_X3_hasTake rfl ⟨rfl, rfl⟩ (by decide +kernel) rfl ⟨by decide, by decide⟩ ⟨Nat.zero_le _, Nat.zero_le _⟩ hP hD [1, 2] rfl rfl (k := 1) rfl rfl rfl hl.1 rfl (Nat.le_of_ble_eq_true rfl) dX4_succeeds_311) hP hD hS hA [1, 2] [0] [0, 1, 2] rfl rfl rfl (by decide) (fun _ => rfl) rfl (fun r35 u35 H locs hk hP hD hS => ?_)
    refine lv_if_eq (tgt := 347) hx hb dX4_succeeds_314 (by decide) (fun c36 => ?_) (fun c36 => ?_)
    · have hk := hk.1 c36
      refine lv_iconst (v := 0) hx hb dX4_succeeds_347 (by decide) ?_
      exact x_retz rfl C0 (f_copy_cells) hk hP hD hS dX4_succeeds_348
    · have hk := hk.2 c36
      refine lv_aload_n hx hb dX4_succeeds_317 rfl (lv_at hl 3 rfl) ?_
      refine va_get (D := D) (ci := 4) (v := .ref h_copy) (C := RX4) (T := TX4) (N := 9) hx hb hts xin_X4_succeeds_X4 hown hK hP 0 rfl rfl 1 (by decide) (hts (.fieldLink RX4 16 "TakeLog" "copy" "LTakeLog$State;") (by decide +kernel)) (fun _ h9 => h9) rfl dX4_succeeds_318 ?_
      refine lv_iload hx hb dX4_succeeds_321 (lv_at hl 0 rfl) ?_
      refine x_joini (ws1 := fun (_ : Unit) => [(h, .inr (4, [.ref h_now, .ref h_copy, .ref h_past, .ref h_slots, .ref h_saved, .ref h_text, .ref h_shown, .int f_remembered, .int f_oldest])), (h_copy, .inr (3, [.ref h_copy_cells])), (h_copy_cells, .inl (cI, 400, .inl f_copy_cells))]) (x_runV (n0 := 1) (As := [.int (x1 - x1 / 100 * 100)]) (rest := []) C0 (xc_X3_hasTake l D cI cC cZ cL h_copy h_copy_cells H.size f_copy_cells (x1 - x1 / 100 * 100) _ hk) gX4_succeeds_X3_hasTake rfl ⟨rfl, rfl⟩ (by decide +kernel) rfl ⟨by decide, by decide⟩ ⟨Nat.zero_le _, Nat.zero_le _⟩ hP hD [1, 2] rfl rfl (k := 1) rfl rfl rfl hl.1 rfl (Nat.le_of_ble_eq_true rfl) dX4_succeeds_323) hP hD hS hA [1, 2] [0] [0, 1, 2] rfl rfl rfl (by decide) (fun _ => rfl) rfl (fun r37 u37 H locs hk hP hD hS => ?_)
      refine lv_if_eq (tgt := 347) hx hb dX4_succeeds_326 (by decide) (fun c38 => ?_) (fun c38 => ?_)
      · have hk := hk.1 c38
        refine lv_iconst (v := 0) hx hb dX4_succeeds_347 (by decide) ?_
        exact x_retz rfl C0 (f_copy_cells) hk hP hD hS dX4_succeeds_348
      · have hk := hk.2 c38
        refine lv_aload_n hx hb dX4_succeeds_329 rfl (lv_at hl 3 rfl) ?_
        refine va_get (D := D) (ci := 4) (v := .ref h_copy) (C := RX4) (T := TX4) (N := 9) hx hb hts xin_X4_succeeds_X4 hown hK hP 0 rfl rfl 1 (by decide) (hts (.fieldLink RX4 16 "TakeLog" "copy" "LTakeLog$State;") (by decide +kernel)) (fun _ h9 => h9) rfl dX4_succeeds_330 ?_
        refine lv_iload_n hx hb dX4_succeeds_333 rfl (lv_at hl 1 rfl) ?_
        refine lv_iconst (v := 0) hx hb dX4_succeeds_334 (by decide) ?_
        refine x_joini (ws1 := fun (_ : Unit) => [(h, .inr (4, [.ref h_now, .ref h_copy, .ref h_past, .ref h_slots, .ref h_saved, .ref h_text, .ref h_shown, .int f_remembered, .int f_oldest])), (h_copy, .inr (3, [.ref h_copy_cells])), (h_copy_cells, .inl (cI, 400, .inl f_copy_cells))]) (x_runV (n0 := 2) (As := [.int ((x1 / 100) - (x1 / 100) / 100 * 100), .int 0]) (rest := []) C0 (xc_X3_soundFor l D cI cC cZ cL h_copy h_copy_cells H.size f_copy_cells ((x1 / 100) - (x1 / 100) / 100 * 100) 0 _ hk) gX4_succeeds_X3_soundFor rfl ⟨rfl, rfl⟩ (by decide +kernel) rfl ⟨by decide, by decide⟩ ⟨Nat.zero_le _, Nat.zero_le _⟩ hP hD [1, 2] rfl rfl (k := 1) rfl rfl rfl hl.1 rfl (Nat.le_of_ble_eq_true rfl) dX4_succeeds_335) hP hD hS hA [1, 2] [0] [0, 1, 2] rfl rfl rfl (by decide) (fun _ => rfl) rfl (fun r39 u39 H locs hk hP hD hS => ?_)
        refine lv_iload hx hb dX4_succeeds_338 (lv_at hl 0 rfl) ?_
        refine lv_icmp_ne (tgt := 347) hx hb dX4_succeeds_340 (by decide) (fun c40 => ?_) (fun c40 => ?_)
        · have hk := hk.1 c40
          refine lv_iconst (v := 0) hx hb dX4_succeeds_347 (by decide) ?_
          exact x_retz rfl C0 (f_copy_cells) hk hP hD hS dX4_succeeds_348
        · have hk := hk.2 c40
          refine lv_iconst (v := 1) hx hb dX4_succeeds_343 (by decide) ?_
          refine lv_goto (tgt := 348) hx hb dX4_succeeds_344 (by decide) ?_
          exact x_retz rfl C0 (f_copy_cells) hk hP hD hS dX4_succeeds_348
  have hk := hk.2 c34
  by_cases c41 : (x1 / 10000) = 9
  · have hk := hk.1 c41
    refine lv_tableIn (x := (x1 / 10000)) (off := 321) (tgt := 349) hx hb dX4_succeeds_28 (by rw [c41]; decide) (by rw [c41]; decide) (by rw [c41]; rfl) (by decide) ?_
    refine lv_iload_n hx hb dX4_succeeds_349 rfl (lv_at hl 2 rfl) ?_
    refine lv_if_ne (tgt := 372) hx hb dX4_succeeds_350 (by decide) (fun c42 => ?_) (fun c42 => ?_)
    · have hk := hk.1 c42
      refine lv_iconst (v := 0) hx hb dX4_succeeds_372 (by decide) ?_
      exact x_retz rfl C0 (f_copy_cells) hk hP hD hS dX4_succeeds_373
    · have hk := hk.2 c42
      refine lv_aload_n hx hb dX4_succeeds_353 rfl (lv_at hl 3 rfl) ?_
      refine va_get (D := D) (ci := 4) (v := .ref h_copy) (C := RX4) (T := TX4) (N := 9) hx hb hts xin_X4_succeeds_X4 hown hK hP 0 rfl rfl 1 (by decide) (hts (.fieldLink RX4 16 "TakeLog" "copy" "LTakeLog$State;") (by decide +kernel)) (fun _ h9 => h9) rfl dX4_succeeds_354 ?_
      refine x_joini (ws1 := fun (_ : Unit) => [(h, .inr (4, [.ref h_now, .ref h_copy, .ref h_past, .ref h_slots, .ref h_saved, .ref h_text, .ref h_shown, .int f_remembered, .int f_oldest])), (h_copy, .inr (3, [.ref h_copy_cells])), (h_copy_cells, .inl (cI, 400, .inl f_copy_cells))]) (x_runV (n0 := 0) (As := []) (rest := []) C0 (xc_X3_cameraLeft l D cI cC cZ cL h_copy h_copy_cells H.size f_copy_cells _ hk) gX4_succeeds_X3_cameraLeft rfl ⟨rfl, rfl⟩ (by decide +kernel) rfl ⟨by decide, by decide⟩ ⟨Nat.zero_le _, Nat.zero_le _⟩ hP hD [1, 2] rfl rfl (k := 1) rfl rfl rfl hl.1 rfl (Nat.le_of_ble_eq_true rfl) dX4_succeeds_357) hP hD hS hA [1, 2] [0] [0, 1, 2] rfl rfl rfl (by decide) (fun _ => rfl) rfl (fun r43 u43 H locs hk hP hD hS => ?_)
      refine lv_iload_n hx hb dX4_succeeds_360 rfl (lv_at hl 4 rfl) ?_
      refine lv_sipush (v := 1000) hx hb dX4_succeeds_361 (by decide) ?_
      refine lv_irem hx hb dX4_succeeds_364 (by decide) ?_
      refine lv_icmp_lt (tgt := 372) hx hb dX4_succeeds_365 (by decide) (fun c44 => ?_) (fun c44 => ?_)
      · have hk := hk.1 c44
        refine lv_iconst (v := 0) hx hb dX4_succeeds_372 (by decide) ?_
        exact x_retz rfl C0 (f_copy_cells) hk hP hD hS dX4_succeeds_373
      · have hk := hk.2 c44
        refine lv_iconst (v := 1) hx hb dX4_succeeds_368 (by decide) ?_
        refine lv_goto (tgt := 373) hx hb dX4_succeeds_369 (by decide) ?_
        exact x_retz rfl C0 (f_copy_cells) hk hP hD hS dX4_succeeds_373
  have hk := hk.2 c41
  have ec2 := x_ne c2 (k := 1) rfl
  have ec5 := x_ne c5 (k := 2) rfl
  have ec9 := x_ne c9 (k := 3) rfl
  have ec12 := x_ne c12 (k := 4) rfl
  have ec17 := x_ne c17 (k := 5) rfl
  have ec22 := x_ne c22 (k := 6) rfl
  have ec30 := x_ne c30 (k := 7) rfl
  have ec34 := x_ne c34 (k := 8) rfl
  have ec41 := x_ne c41 (k := 9) rfl
  refine lv_tableOut (x := (x1 / 10000)) (tgt := 374) hx hb dX4_succeeds_28 (by omega) (by decide) ?_
  refine lv_iconst (v := 0) hx hb dX4_succeeds_374 (by decide) ?_
  exact x_retz rfl C0 (f_copy_cells) hk hP hD hS dX4_succeeds_375
theorem xc_X4_succeeds (l : Launch) (D : va_G) (cI cC cZ cL : ClassId) (h h_now h_copy h_past h_slots h_saved h_text h_shown h_copy_cells : Nat)  (sz : Nat) (f_remembered : Int32) (f_oldest : Int32) (f_copy_cells : Nat → Int32) (x1 : Int32) (K : Int32 → ((Nat → Int32)) → Prop) (hk : xp_X4_succeeds f_copy_cells x1 K) : XMi l yX4_succeeds wsX4_succeeds ({ frames := 6, cells := 0, slots := 0, locals := 132 } : Room) D (xTY cI cC cZ cL) [.ref h, .int x1] [(h, .inr (4, [.ref h_now, .ref h_copy, .ref h_past, .ref h_slots, .ref h_saved, .ref h_text, .ref h_shown, .int f_remembered, .int f_oldest])), (h_copy, .inr (3, [.ref h_copy_cells])), (h_copy_cells, .inl (cI, 400, .inl f_copy_cells))] sz (fun (r : Int32) (u : (Nat → Int32)) => K r u) (fun (u : (Nat → Int32)) => [(h, .inr (4, [.ref h_now, .ref h_copy, .ref h_past, .ref h_slots, .ref h_saved, .ref h_text, .ref h_shown, .int f_remembered, .int f_oldest])), (h_copy, .inr (3, [.ref h_copy_cells])), (h_copy_cells, .inl (cI, 400, .inl u))]) :=
  x_enter (cc := cX4_succeeds) (maxL := 5) (ret := (some .boolean)) (own := RX4) (by decide) rfl rfl (Nat.le_of_ble_eq_true rfl) (fun p e s m below meth c ls C0 hA hP hD hS hl => xb_X4_succeeds_0 C0 hA _ _ hk s.heap [] ls hP hD hS hl)
set_option maxRecDepth 20000 in
theorem xin_X4_doTurn_X4 : ∀ w ∈ u_ws RX4 TX4 9, w ∈ wsX4_doTurn := by decide +kernel
set_option maxRecDepth 20000 in
theorem xin_X4_doTurn_X3 : ∀ w ∈ u_ws RX3 TX3 1, w ∈ wsX4_doTurn := by decide +kernel
set_option maxHeartbeats 4000000 in
set_option maxRecDepth 100000 in
theorem xb_X4_doTurn_239 {p : Program} {l : Launch} {e : Env} {s : State} {m : MethodId} {args : Array Value} {below : List Frame} {meth : Method} {c : Code} {A : Nat → Prop} {D : va_G} {cI cC cZ cL : ClassId} {h h_now h_copy h_past h_slots h_saved h_text h_shown h_copy_cells : Nat}  {f_remembered : Int32} {f_oldest : Int32} {K : ((Nat → Int32)) → Prop}  (C0 : xC p s m args meth c cX4_doTurn 3 none wsX4_doTurn RX4 D (xTY cI cC cZ cL)) (hA : ∀ q : Nat, s.heap.size ≤ q → A q)  : ∀ (f_copy_cells : Nat → Int32) (t0 : Int32) (t1 : Int32) , xp_X4_doTurn_239 K f_copy_cells t0 t1 → ∀ (H : Heap) (locs : List Loc) (ls : Array Slot), va_P D vwCl [(h, .inr (4, [.ref h_now, .ref h_copy, .ref h_past, .ref h_slots, .ref h_saved, .ref h_text, .ref h_shown, .int f_remembered, .int f_oldest])), (h_copy, .inr (3, [.ref h_copy_cells])), (h_copy_cells, .inl (cI, 400, .inl f_copy_cells))] H → va_D A [(h, .inr (4, [.ref h_now, .ref h_copy, .ref h_past, .ref h_slots, .ref h_saved, .ref h_text, .ref h_shown, .int f_remembered, .int f_oldest])), (h_copy, .inr (3, [.ref h_copy_cells])), (h_copy_cells, .inl (cI, 400, .inl f_copy_cells))] → va_S A s.heap H locs → lv_has ls 3 [] → W p l e ({ frames := 5, cells := 0, slots := 0, locals := 113 } : Room) s m args below meth c H locs 0 0 (MQ below (va_Qv (fun (u : (Nat → Int32)) => K u) (fun u t => xE D A ((fun (u : (Nat → Int32)) => [(h, .inr (4, [.ref h_now, .ref h_copy, .ref h_past, .ref h_slots, .ref h_saved, .ref h_text, .ref h_shown, .int f_remembered, .int f_oldest])), (h_copy, .inr (3, [.ref h_copy_cells])), (h_copy_cells, .inl (cI, 400, .inl u))]) u) t) A) args s 0 0 A) (F0 m 239 ls [.int t0, .int t1, .ref h_copy]) := by
  obtain ⟨hx, hb, hr, hml, hown, hts, hlocks, hK, hN⟩ := id C0
  intro f_copy_cells t0 t1 hk H locs ls hP hD hS hl
  rw [xp_X4_doTurn_239] at hk
  refine x_joini (ws1 := fun (u1 : (Nat → Int32)) => [(h, .inr (4, [.ref h_now, .ref h_copy, .ref h_past, .ref h_slots, .ref h_saved, .ref h_text, .ref h_shown, .int f_remembered, .int f_oldest])), (h_copy, .inr (3, [.ref h_copy_cells])), (h_copy_cells, .inl (cI, 400, .inl u1))]) (x_runV (n0 := 2) (As := [.int t1, .int t0]) (rest := []) C0 (xc_X3_tryToFilm l D cI cC cZ cL h_copy h_copy_cells H.size f_copy_cells t1 t0 _ hk) gX4_doTurn_X3_tryToFilm rfl ⟨rfl, rfl⟩ (by decide +kernel) rfl ⟨by decide, by decide⟩ ⟨Nat.zero_le _, Nat.zero_le _⟩ hP hD [1, 2] rfl rfl (k := 1) rfl rfl rfl hl.1 rfl (Nat.le_of_ble_eq_true rfl) dX4_doTurn_239) hP hD hS hA [1, 2] [0] [0, 1, 2] rfl rfl rfl (by decide) (fun _ => rfl) rfl (fun r1 u1 H locs hk hP hD hS => ?_)
  refine lv_pop hx hb dX4_doTurn_242 rfl ?_
  exact x_retv C0 (u1) hk hP hD hS dX4_doTurn_243
set_option maxHeartbeats 4000000 in
set_option maxRecDepth 100000 in
theorem xb_X4_doTurn_0 {p : Program} {l : Launch} {e : Env} {s : State} {m : MethodId} {args : Array Value} {below : List Frame} {meth : Method} {c : Code} {A : Nat → Prop} {D : va_G} {cI cC cZ cL : ClassId} {h h_now h_copy h_past h_slots h_saved h_text h_shown h_copy_cells : Nat}  {f_remembered : Int32} {f_oldest : Int32} {K : ((Nat → Int32)) → Prop}  (C0 : xC p s m args meth c cX4_doTurn 3 none wsX4_doTurn RX4 D (xTY cI cC cZ cL)) (hA : ∀ q : Nat, s.heap.size ≤ q → A q)  : ∀ (f_copy_cells : Nat → Int32) (x1 : Int32) , xp_X4_doTurn f_copy_cells x1 K → ∀ (H : Heap) (locs : List Loc) (ls : Array Slot), va_P D vwCl [(h, .inr (4, [.ref h_now, .ref h_copy, .ref h_past, .ref h_slots, .ref h_saved, .ref h_text, .ref h_shown, .int f_remembered, .int f_oldest])), (h_copy, .inr (3, [.ref h_copy_cells])), (h_copy_cells, .inl (cI, 400, .inl f_copy_cells))] H → va_D A [(h, .inr (4, [.ref h_now, .ref h_copy, .ref h_past, .ref h_slots, .ref h_saved, .ref h_text, .ref h_shown, .int f_remembered, .int f_oldest])), (h_copy, .inr (3, [.ref h_copy_cells])), (h_copy_cells, .inl (cI, 400, .inl f_copy_cells))] → va_S A s.heap H locs → lv_has ls 3 [(0, .ref h), (1, .int x1)] → W p l e ({ frames := 5, cells := 0, slots := 0, locals := 113 } : Room) s m args below meth c H locs 0 0 (MQ below (va_Qv (fun (u : (Nat → Int32)) => K u) (fun u t => xE D A ((fun (u : (Nat → Int32)) => [(h, .inr (4, [.ref h_now, .ref h_copy, .ref h_past, .ref h_slots, .ref h_saved, .ref h_text, .ref h_shown, .int f_remembered, .int f_oldest])), (h_copy, .inr (3, [.ref h_copy_cells])), (h_copy_cells, .inl (cI, 400, .inl u))]) u) t) A) args s 0 0 A) (F0 m 0 ls []) := by
  obtain ⟨hx, hb, hr, hml, hown, hts, hlocks, hK, hN⟩ := id C0
  intro f_copy_cells x1 hk H locs ls hP hD hS hl
  rw [xp_X4_doTurn] at hk
  refine lv_iload_n hx hb dX4_doTurn_0 rfl (lv_at hl 1 rfl) ?_
  refine lv_bipush (v := 16) hx hb dX4_doTurn_1 (by decide) ?_
  refine lv_idiv hx hb dX4_doTurn_3 (by decide) ?_
  refine lv_istore_n (lv' := [(2, .int (x1 / 16)), (0, .ref h), (1, .int x1)]) hx hb dX4_doTurn_4 rfl hl (by decide) rfl (fun ls hl => ?_)
  refine lv_iload_n hx hb dX4_doTurn_5 rfl (lv_at hl 2 rfl) ?_
  refine lv_bipush (v := 16) hx hb dX4_doTurn_6 (by decide) ?_
  refine lv_irem hx hb dX4_doTurn_8 (by decide) ?_
  by_cases c2 : (x1 - x1 / 16 * 16) = 0
  · have hk := hk.1 c2
    refine lv_tableIn (x := (x1 - x1 / 16 * 16)) (off := 51) (tgt := 60) hx hb dX4_doTurn_9 (by rw [c2]; decide) (by rw [c2]; decide) (by rw [c2]; rfl) (by decide) ?_
    refine lv_aload_n hx hb dX4_doTurn_60 rfl (lv_at hl 1 rfl) ?_
    refine va_get (D := D) (ci := 4) (v := .ref h_copy) (C := RX4) (T := TX4) (N := 9) hx hb hts xin_X4_doTurn_X4 hown hK hP 0 rfl rfl 1 (by decide) (hts (.fieldLink RX4 16 "TakeLog" "copy" "LTakeLog$State;") (by decide +kernel)) (fun _ h9 => h9) rfl dX4_doTurn_61 ?_
    refine lv_iconst (v := 1) hx hb dX4_doTurn_64 (by decide) ?_
    refine lv_iload_n hx hb dX4_doTurn_65 rfl (lv_at hl 0 rfl) ?_
    refine lv_iconst (v := 4) hx hb dX4_doTurn_66 (by decide) ?_
    refine lv_irem hx hb dX4_doTurn_67 (by decide) ?_
    refine lv_iadd hx hb dX4_doTurn_68 ?_
    refine lv_iload_n hx hb dX4_doTurn_69 rfl (lv_at hl 2 rfl) ?_
    refine lv_bipush (v := 64) hx hb dX4_doTurn_70 (by decide) ?_
    refine lv_idiv hx hb dX4_doTurn_72 (by decide) ?_
    refine lv_iconst (v := 3) hx hb dX4_doTurn_73 (by decide) ?_
    refine lv_irem hx hb dX4_doTurn_74 (by decide) ?_
    refine x_joini (ws1 := fun (u3 : (Nat → Int32)) => [(h, .inr (4, [.ref h_now, .ref h_copy, .ref h_past, .ref h_slots, .ref h_saved, .ref h_text, .ref h_shown, .int f_remembered, .int f_oldest])), (h_copy, .inr (3, [.ref h_copy_cells])), (h_copy_cells, .inl (cI, 400, .inl u3))]) (x_runV (n0 := 2) (As := [.int (1 + ((x1 / 16) - (x1 / 16) / 4 * 4)), .int ((x1 / 64) - (x1 / 64) / 3 * 3)]) (rest := []) C0 (xc_X3_mean l D cI cC cZ cL h_copy h_copy_cells H.size f_copy_cells (1 + ((x1 / 16) - (x1 / 16) / 4 * 4)) ((x1 / 64) - (x1 / 64) / 3 * 3) _ hk) gX4_doTurn_X3_mean rfl ⟨rfl, rfl⟩ (by decide +kernel) rfl ⟨by decide, by decide⟩ ⟨Nat.zero_le _, Nat.zero_le _⟩ hP hD [1, 2] rfl rfl (k := 1) rfl rfl rfl hl.1 rfl (Nat.le_of_ble_eq_true rfl) dX4_doTurn_75) hP hD hS hA [1, 2] [0] [0, 1, 2] rfl rfl rfl (by decide) (fun _ => rfl) rfl (fun r3 u3 H locs hk hP hD hS => ?_)
    refine lv_pop hx hb dX4_doTurn_78 rfl ?_
    refine lv_goto (tgt := 243) hx hb dX4_doTurn_79 (by decide) ?_
    exact x_retv C0 (u3) hk hP hD hS dX4_doTurn_243
  have hk := hk.2 c2
  by_cases c4 : (x1 - x1 / 16 * 16) = 1
  · have hk := hk.1 c4
    refine lv_tableIn (x := (x1 - x1 / 16 * 16)) (off := 73) (tgt := 82) hx hb dX4_doTurn_9 (by rw [c4]; decide) (by rw [c4]; decide) (by rw [c4]; rfl) (by decide) ?_
    refine lv_aload_n hx hb dX4_doTurn_82 rfl (lv_at hl 1 rfl) ?_
    refine va_get (D := D) (ci := 4) (v := .ref h_copy) (C := RX4) (T := TX4) (N := 9) hx hb hts xin_X4_doTurn_X4 hown hK hP 0 rfl rfl 1 (by decide) (hts (.fieldLink RX4 16 "TakeLog" "copy" "LTakeLog$State;") (by decide +kernel)) (fun _ h9 => h9) rfl dX4_doTurn_83 ?_
    refine x_joini (ws1 := fun (u5 : (Nat → Int32)) => [(h, .inr (4, [.ref h_now, .ref h_copy, .ref h_past, .ref h_slots, .ref h_saved, .ref h_text, .ref h_shown, .int f_remembered, .int f_oldest])), (h_copy, .inr (3, [.ref h_copy_cells])), (h_copy_cells, .inl (cI, 400, .inl u5))]) (x_runV (n0 := 0) (As := []) (rest := []) C0 (xc_X3_writeRight l D cI cC cZ cL h_copy h_copy_cells H.size f_copy_cells _ hk) gX4_doTurn_X3_writeRight rfl ⟨rfl, rfl⟩ (by decide +kernel) rfl ⟨by decide, by decide⟩ ⟨Nat.zero_le _, Nat.zero_le _⟩ hP hD [1, 2] rfl rfl (k := 1) rfl rfl rfl hl.1 rfl (Nat.le_of_ble_eq_true rfl) dX4_doTurn_86) hP hD hS hA [1, 2] [0] [0, 1, 2] rfl rfl rfl (by decide) (fun _ => rfl) rfl (fun r5 u5 H locs hk hP hD hS => ?_)
    refine lv_pop hx hb dX4_doTurn_89 rfl ?_
    refine lv_goto (tgt := 243) hx hb dX4_doTurn_90 (by decide) ?_
    exact x_retv C0 (u5) hk hP hD hS dX4_doTurn_243
  have hk := hk.2 c4
  by_cases c6 : (x1 - x1 / 16 * 16) = 2
  · have hk := hk.1 c6
    refine lv_tableIn (x := (x1 - x1 / 16 * 16)) (off := 84) (tgt := 93) hx hb dX4_doTurn_9 (by rw [c6]; decide) (by rw [c6]; decide) (by rw [c6]; rfl) (by decide) ?_
    refine lv_aload_n hx hb dX4_doTurn_93 rfl (lv_at hl 1 rfl) ?_
    refine va_get (D := D) (ci := 4) (v := .ref h_copy) (C := RX4) (T := TX4) (N := 9) hx hb hts xin_X4_doTurn_X4 hown hK hP 0 rfl rfl 1 (by decide) (hts (.fieldLink RX4 16 "TakeLog" "copy" "LTakeLog$State;") (by decide +kernel)) (fun _ h9 => h9) rfl dX4_doTurn_94 ?_
    refine lv_iconst (v := 1) hx hb dX4_doTurn_97 (by decide) ?_
    refine lv_iload_n hx hb dX4_doTurn_98 rfl (lv_at hl 0 rfl) ?_
    refine lv_iconst (v := 4) hx hb dX4_doTurn_99 (by decide) ?_
    refine lv_irem hx hb dX4_doTurn_100 (by decide) ?_
    refine lv_iadd hx hb dX4_doTurn_101 ?_
    refine lv_iload_n hx hb dX4_doTurn_102 rfl (lv_at hl 2 rfl) ?_
    refine lv_bipush (v := 64) hx hb dX4_doTurn_103 (by decide) ?_
    refine lv_idiv hx hb dX4_doTurn_105 (by decide) ?_
    refine lv_iconst (v := 3) hx hb dX4_doTurn_106 (by decide) ?_
    refine lv_irem hx hb dX4_doTurn_107 (by decide) ?_
    refine lv_iconst (v := 1) hx hb dX4_doTurn_108 (by decide) ?_
    refine lv_iload_n hx hb dX4_doTurn_109 rfl (lv_at hl 2 rfl) ?_
    refine lv_sipush (v := 256) hx hb dX4_doTurn_110 (by decide) ?_
    refine lv_idiv hx hb dX4_doTurn_113 (by decide) ?_
    refine lv_iconst (v := 5) hx hb dX4_doTurn_114 (by decide) ?_
    refine lv_irem hx hb dX4_doTurn_115 (by decide) ?_
    refine lv_iadd hx hb dX4_doTurn_116 ?_
    refine x_joinv (ws1 := fun (u7 : (Nat → Int32)) => [(h, .inr (4, [.ref h_now, .ref h_copy, .ref h_past, .ref h_slots, .ref h_saved, .ref h_text, .ref h_shown, .int f_remembered, .int f_oldest])), (h_copy, .inr (3, [.ref h_copy_cells])), (h_copy_cells, .inl (cI, 400, .inl u7))]) (x_runV (n0 := 3) (As := [.int (1 + ((x1 / 16) - (x1 / 16) / 4 * 4)), .int ((x1 / 64) - (x1 / 64) / 3 * 3), .int (1 + ((x1 / 256) - (x1 / 256) / 5 * 5))]) (rest := []) C0 (xc_X3_write l D cI cC cZ cL h_copy h_copy_cells H.size f_copy_cells (1 + ((x1 / 16) - (x1 / 16) / 4 * 4)) ((x1 / 64) - (x1 / 64) / 3 * 3) (1 + ((x1 / 256) - (x1 / 256) / 5 * 5)) _ hk) gX4_doTurn_X3_write rfl ⟨rfl, rfl⟩ (by decide +kernel) rfl ⟨by decide, by decide⟩ ⟨Nat.zero_le _, Nat.zero_le _⟩ hP hD [1, 2] rfl rfl (k := 1) rfl rfl rfl hl.1 rfl (Nat.le_of_ble_eq_true rfl) dX4_doTurn_117) hP hD hS hA [1, 2] [0] [0, 1, 2] rfl rfl rfl (by decide) (fun _ => rfl) rfl (fun u7 H locs hk hP hD hS => ?_)
    refine lv_goto (tgt := 243) hx hb dX4_doTurn_120 (by decide) ?_
    exact x_retv C0 (u7) hk hP hD hS dX4_doTurn_243
  have hk := hk.2 c6
  by_cases c8 : (x1 - x1 / 16 * 16) = 3
  · have hk := hk.1 c8
    refine lv_tableIn (x := (x1 - x1 / 16 * 16)) (off := 114) (tgt := 123) hx hb dX4_doTurn_9 (by rw [c8]; decide) (by rw [c8]; decide) (by rw [c8]; rfl) (by decide) ?_
    refine lv_aload_n hx hb dX4_doTurn_123 rfl (lv_at hl 1 rfl) ?_
    refine va_get (D := D) (ci := 4) (v := .ref h_copy) (C := RX4) (T := TX4) (N := 9) hx hb hts xin_X4_doTurn_X4 hown hK hP 0 rfl rfl 1 (by decide) (hts (.fieldLink RX4 16 "TakeLog" "copy" "LTakeLog$State;") (by decide +kernel)) (fun _ h9 => h9) rfl dX4_doTurn_124 ?_
    refine x_joini (ws1 := fun (u9 : (Nat → Int32)) => [(h, .inr (4, [.ref h_now, .ref h_copy, .ref h_past, .ref h_slots, .ref h_saved, .ref h_text, .ref h_shown, .int f_remembered, .int f_oldest])), (h_copy, .inr (3, [.ref h_copy_cells])), (h_copy_cells, .inl (cI, 400, .inl u9))]) (x_runV (n0 := 0) (As := []) (rest := []) C0 (xc_X3_loadCamera l D cI cC cZ cL h_copy h_copy_cells H.size f_copy_cells _ hk) gX4_doTurn_X3_loadCamera rfl ⟨rfl, rfl⟩ (by decide +kernel) rfl ⟨by decide, by decide⟩ ⟨Nat.zero_le _, Nat.zero_le _⟩ hP hD [1, 2] rfl rfl (k := 1) rfl rfl rfl hl.1 rfl (Nat.le_of_ble_eq_true rfl) dX4_doTurn_127) hP hD hS hA [1, 2] [0] [0, 1, 2] rfl rfl rfl (by decide) (fun _ => rfl) rfl (fun r9 u9 H locs hk hP hD hS => ?_)
    refine lv_pop hx hb dX4_doTurn_130 rfl ?_
    refine lv_goto (tgt := 243) hx hb dX4_doTurn_131 (by decide) ?_
    exact x_retv C0 (u9) hk hP hD hS dX4_doTurn_243
  have hk := hk.2 c8
  by_cases c10 : (x1 - x1 / 16 * 16) = 4
  · have hk := hk.1 c10
    refine lv_tableIn (x := (x1 - x1 / 16 * 16)) (off := 125) (tgt := 134) hx hb dX4_doTurn_9 (by rw [c10]; decide) (by rw [c10]; decide) (by rw [c10]; rfl) (by decide) ?_
    refine lv_aload_n hx hb dX4_doTurn_134 rfl (lv_at hl 1 rfl) ?_
    refine va_get (D := D) (ci := 4) (v := .ref h_copy) (C := RX4) (T := TX4) (N := 9) hx hb hts xin_X4_doTurn_X4 hown hK hP 0 rfl rfl 1 (by decide) (hts (.fieldLink RX4 16 "TakeLog" "copy" "LTakeLog$State;") (by decide +kernel)) (fun _ h9 => h9) rfl dX4_doTurn_135 ?_
    refine x_joini (ws1 := fun (u11 : (Nat → Int32)) => [(h, .inr (4, [.ref h_now, .ref h_copy, .ref h_past, .ref h_slots, .ref h_saved, .ref h_text, .ref h_shown, .int f_remembered, .int f_oldest])), (h_copy, .inr (3, [.ref h_copy_cells])), (h_copy_cells, .inl (cI, 400, .inl u11))]) (x_runV (n0 := 0) (As := []) (rest := []) C0 (xc_X3_loadSound l D cI cC cZ cL h_copy h_copy_cells H.size f_copy_cells _ hk) gX4_doTurn_X3_loadSound rfl ⟨rfl, rfl⟩ (by decide +kernel) rfl ⟨by decide, by decide⟩ ⟨Nat.zero_le _, Nat.zero_le _⟩ hP hD [1, 2] rfl rfl (k := 1) rfl rfl rfl hl.1 rfl (Nat.le_of_ble_eq_true rfl) dX4_doTurn_138) hP hD hS hA [1, 2] [0] [0, 1, 2] rfl rfl rfl (by decide) (fun _ => rfl) rfl (fun r11 u11 H locs hk hP hD hS => ?_)
    refine lv_pop hx hb dX4_doTurn_141 rfl ?_
    refine lv_goto (tgt := 243) hx hb dX4_doTurn_142 (by decide) ?_
    exact x_retv C0 (u11) hk hP hD hS dX4_doTurn_243
  have hk := hk.2 c10
  by_cases c12 : (x1 - x1 / 16 * 16) = 5
  · have hk := hk.1 c12
    refine lv_tableIn (x := (x1 - x1 / 16 * 16)) (off := 136) (tgt := 145) hx hb dX4_doTurn_9 (by rw [c12]; decide) (by rw [c12]; decide) (by rw [c12]; rfl) (by decide) ?_
    refine lv_aload_n hx hb dX4_doTurn_145 rfl (lv_at hl 1 rfl) ?_
    refine va_get (D := D) (ci := 4) (v := .ref h_copy) (C := RX4) (T := TX4) (N := 9) hx hb hts xin_X4_doTurn_X4 hown hK hP 0 rfl rfl 1 (by decide) (hts (.fieldLink RX4 16 "TakeLog" "copy" "LTakeLog$State;") (by decide +kernel)) (fun _ h9 => h9) rfl dX4_doTurn_146 ?_
    refine lv_iload_n hx hb dX4_doTurn_149 rfl (lv_at hl 0 rfl) ?_
    refine lv_bipush (v := 24) hx hb dX4_doTurn_150 (by decide) ?_
    refine lv_irem hx hb dX4_doTurn_152 (by decide) ?_
    refine lv_bipush (v := 15) hx hb dX4_doTurn_153 (by decide) ?_
    refine lv_iconst (v := 1) hx hb dX4_doTurn_155 (by decide) ?_
    refine x_joini (ws1 := fun (u13 : (Nat → Int32)) => [(h, .inr (4, [.ref h_now, .ref h_copy, .ref h_past, .ref h_slots, .ref h_saved, .ref h_text, .ref h_shown, .int f_remembered, .int f_oldest])), (h_copy, .inr (3, [.ref h_copy_cells])), (h_copy_cells, .inl (cI, 400, .inl u13))]) (x_runV (n0 := 3) (As := [.int ((x1 / 16) - (x1 / 16) / 24 * 24), .int 15, .int 1]) (rest := []) C0 (xc_X3_mark l D cI cC cZ cL h_copy h_copy_cells H.size f_copy_cells ((x1 / 16) - (x1 / 16) / 24 * 24) 15 1 _ hk) gX4_doTurn_X3_mark rfl ⟨rfl, rfl⟩ (by decide +kernel) rfl ⟨by decide, by decide⟩ ⟨Nat.zero_le _, Nat.zero_le _⟩ hP hD [1, 2] rfl rfl (k := 1) rfl rfl rfl hl.1 rfl (Nat.le_of_ble_eq_true rfl) dX4_doTurn_156) hP hD hS hA [1, 2] [0] [0, 1, 2] rfl rfl rfl (by decide) (fun _ => rfl) rfl (fun r13 u13 H locs hk hP hD hS => ?_)
    refine lv_pop hx hb dX4_doTurn_159 rfl ?_
    refine lv_goto (tgt := 243) hx hb dX4_doTurn_160 (by decide) ?_
    exact x_retv C0 (u13) hk hP hD hS dX4_doTurn_243
  have hk := hk.2 c12
  by_cases c14 : (x1 - x1 / 16 * 16) = 6
  · have hk := hk.1 c14
    refine lv_tableIn (x := (x1 - x1 / 16 * 16)) (off := 154) (tgt := 163) hx hb dX4_doTurn_9 (by rw [c14]; decide) (by rw [c14]; decide) (by rw [c14]; rfl) (by decide) ?_
    refine lv_aload_n hx hb dX4_doTurn_163 rfl (lv_at hl 1 rfl) ?_
    refine va_get (D := D) (ci := 4) (v := .ref h_copy) (C := RX4) (T := TX4) (N := 9) hx hb hts xin_X4_doTurn_X4 hown hK hP 0 rfl rfl 1 (by decide) (hts (.fieldLink RX4 16 "TakeLog" "copy" "LTakeLog$State;") (by decide +kernel)) (fun _ h9 => h9) rfl dX4_doTurn_164 ?_
    refine lv_iload_n hx hb dX4_doTurn_167 rfl (lv_at hl 0 rfl) ?_
    refine lv_bipush (v := 24) hx hb dX4_doTurn_168 (by decide) ?_
    refine lv_irem hx hb dX4_doTurn_170 (by decide) ?_
    refine lv_bipush (v := 14) hx hb dX4_doTurn_171 (by decide) ?_
    refine lv_iconst (v := 1) hx hb dX4_doTurn_173 (by decide) ?_
    refine x_joini (ws1 := fun (u15 : (Nat → Int32)) => [(h, .inr (4, [.ref h_now, .ref h_copy, .ref h_past, .ref h_slots, .ref h_saved, .ref h_text, .ref h_shown, .int f_remembered, .int f_oldest])), (h_copy, .inr (3, [.ref h_copy_cells])), (h_copy_cells, .inl (cI, 400, .inl u15))]) (x_runV (n0 := 3) (As := [.int ((x1 / 16) - (x1 / 16) / 24 * 24), .int 14, .int 1]) (rest := []) C0 (xc_X3_mark l D cI cC cZ cL h_copy h_copy_cells H.size f_copy_cells ((x1 / 16) - (x1 / 16) / 24 * 24) 14 1 _ hk) gX4_doTurn_X3_mark rfl ⟨rfl, rfl⟩ (by decide +kernel) rfl ⟨by decide, by decide⟩ ⟨Nat.zero_le _, Nat.zero_le _⟩ hP hD [1, 2] rfl rfl (k := 1) rfl rfl rfl hl.1 rfl (Nat.le_of_ble_eq_true rfl) dX4_doTurn_174) hP hD hS hA [1, 2] [0] [0, 1, 2] rfl rfl rfl (by decide) (fun _ => rfl) rfl (fun r15 u15 H locs hk hP hD hS => ?_)
    refine lv_pop hx hb dX4_doTurn_177 rfl ?_
    refine lv_goto (tgt := 243) hx hb dX4_doTurn_178 (by decide) ?_
    exact x_retv C0 (u15) hk hP hD hS dX4_doTurn_243
  have hk := hk.2 c14
  by_cases c16 : (x1 - x1 / 16 * 16) = 7
  · have hk := hk.1 c16
    refine lv_tableIn (x := (x1 - x1 / 16 * 16)) (off := 172) (tgt := 181) hx hb dX4_doTurn_9 (by rw [c16]; decide) (by rw [c16]; decide) (by rw [c16]; rfl) (by decide) ?_
    refine lv_aload_n hx hb dX4_doTurn_181 rfl (lv_at hl 1 rfl) ?_
    refine va_get (D := D) (ci := 4) (v := .ref h_copy) (C := RX4) (T := TX4) (N := 9) hx hb hts xin_X4_doTurn_X4 hown hK hP 0 rfl rfl 1 (by decide) (hts (.fieldLink RX4 16 "TakeLog" "copy" "LTakeLog$State;") (by decide +kernel)) (fun _ h9 => h9) rfl dX4_doTurn_182 ?_
    refine lv_iload_n hx hb dX4_doTurn_185 rfl (lv_at hl 0 rfl) ?_
    refine lv_sipush (v := 199) hx hb dX4_doTurn_186 (by decide) ?_
    refine lv_irem hx hb dX4_doTurn_189 (by decide) ?_
    refine lv_bipush (v := 99) hx hb dX4_doTurn_190 (by decide) ?_
    refine lv_isub hx hb dX4_doTurn_192 ?_
    refine x_joini (ws1 := fun (u17 : (Nat → Int32)) => [(h, .inr (4, [.ref h_now, .ref h_copy, .ref h_past, .ref h_slots, .ref h_saved, .ref h_text, .ref h_shown, .int f_remembered, .int f_oldest])), (h_copy, .inr (3, [.ref h_copy_cells])), (h_copy_cells, .inl (cI, 400, .inl u17))]) (x_runV (n0 := 1) (As := [.int (((x1 / 16) - (x1 / 16) / 199 * 199) - 99)]) (rest := []) C0 (xc_X3_setOff l D cI cC cZ cL h_copy h_copy_cells H.size f_copy_cells (((x1 / 16) - (x1 / 16) / 199 * 199) - 99) _ hk) gX4_doTurn_X3_setOff rfl ⟨rfl, rfl⟩ (by decide +kernel) rfl ⟨by decide, by decide⟩ ⟨Nat.zero_le _, Nat.zero_le _⟩ hP hD [1, 2] rfl rfl (k := 1) rfl rfl rfl hl.1 rfl (Nat.le_of_ble_eq_true rfl) dX4_doTurn_193) hP hD hS hA [1, 2] [0] [0, 1, 2] rfl rfl rfl (by decide) (fun _ => rfl) rfl (fun r17 u17 H locs hk hP hD hS => ?_)
    refine lv_pop hx hb dX4_doTurn_196 rfl ?_
    refine lv_goto (tgt := 243) hx hb dX4_doTurn_197 (by decide) ?_
    exact x_retv C0 (u17) hk hP hD hS dX4_doTurn_243
  have hk := hk.2 c16
  by_cases c18 : (x1 - x1 / 16 * 16) = 8
  · have hk := hk.1 c18
    refine lv_tableIn (x := (x1 - x1 / 16 * 16)) (off := 191) (tgt := 200) hx hb dX4_doTurn_9 (by rw [c18]; decide) (by rw [c18]; decide) (by rw [c18]; rfl) (by decide) ?_
    refine lv_aload_n hx hb dX4_doTurn_200 rfl (lv_at hl 1 rfl) ?_
    refine va_get (D := D) (ci := 4) (v := .ref h_copy) (C := RX4) (T := TX4) (N := 9) hx hb hts xin_X4_doTurn_X4 hown hK hP 0 rfl rfl 1 (by decide) (hts (.fieldLink RX4 16 "TakeLog" "copy" "LTakeLog$State;") (by decide +kernel)) (fun _ h9 => h9) rfl dX4_doTurn_201 ?_
    refine lv_iload_n hx hb dX4_doTurn_204 rfl (lv_at hl 0 rfl) ?_
    refine lv_bipush (v := 24) hx hb dX4_doTurn_205 (by decide) ?_
    refine lv_irem hx hb dX4_doTurn_207 (by decide) ?_
    refine x_joini (ws1 := fun (u19 : (Nat → Int32)) => [(h, .inr (4, [.ref h_now, .ref h_copy, .ref h_past, .ref h_slots, .ref h_saved, .ref h_text, .ref h_shown, .int f_remembered, .int f_oldest])), (h_copy, .inr (3, [.ref h_copy_cells])), (h_copy_cells, .inl (cI, 400, .inl u19))]) (x_runV (n0 := 1) (As := [.int ((x1 / 16) - (x1 / 16) / 24 * 24)]) (rest := []) C0 (xc_X3_putRight l D cI cC cZ cL h_copy h_copy_cells H.size f_copy_cells ((x1 / 16) - (x1 / 16) / 24 * 24) _ hk) gX4_doTurn_X3_putRight rfl ⟨rfl, rfl⟩ (by decide +kernel) rfl ⟨by decide, by decide⟩ ⟨Nat.zero_le _, Nat.zero_le _⟩ hP hD [1, 2] rfl rfl (k := 1) rfl rfl rfl hl.1 rfl (Nat.le_of_ble_eq_true rfl) dX4_doTurn_208) hP hD hS hA [1, 2] [0] [0, 1, 2] rfl rfl rfl (by decide) (fun _ => rfl) rfl (fun r19 u19 H locs hk hP hD hS => ?_)
    refine lv_pop hx hb dX4_doTurn_211 rfl ?_
    refine lv_goto (tgt := 243) hx hb dX4_doTurn_212 (by decide) ?_
    exact x_retv C0 (u19) hk hP hD hS dX4_doTurn_243
  have hk := hk.2 c18
  have ec2 := x_ne c2 (k := 0) rfl
  have ec4 := x_ne c4 (k := 1) rfl
  have ec6 := x_ne c6 (k := 2) rfl
  have ec8 := x_ne c8 (k := 3) rfl
  have ec10 := x_ne c10 (k := 4) rfl
  have ec12 := x_ne c12 (k := 5) rfl
  have ec14 := x_ne c14 (k := 6) rfl
  have ec16 := x_ne c16 (k := 7) rfl
  have ec18 := x_ne c18 (k := 8) rfl
  refine lv_tableOut (x := (x1 - x1 / 16 * 16)) (tgt := 215) hx hb dX4_doTurn_9 (by omega) (by decide) ?_
  refine lv_aload_n hx hb dX4_doTurn_215 rfl (lv_at hl 1 rfl) ?_
  refine va_get (D := D) (ci := 4) (v := .ref h_copy) (C := RX4) (T := TX4) (N := 9) hx hb hts xin_X4_doTurn_X4 hown hK hP 0 rfl rfl 1 (by decide) (hts (.fieldLink RX4 16 "TakeLog" "copy" "LTakeLog$State;") (by decide +kernel)) (fun _ h9 => h9) rfl dX4_doTurn_216 ?_
  refine lv_iconst (v := 1) hx hb dX4_doTurn_219 (by decide) ?_
  refine lv_iload_n hx hb dX4_doTurn_220 rfl (lv_at hl 2 rfl) ?_
  refine lv_bipush (v := 32) hx hb dX4_doTurn_221 (by decide) ?_
  refine lv_idiv hx hb dX4_doTurn_223 (by decide) ?_
  refine lv_bipush (v := 120) hx hb dX4_doTurn_224 (by decide) ?_
  refine lv_irem hx hb dX4_doTurn_226 (by decide) ?_
  refine lv_iadd hx hb dX4_doTurn_227 ?_
  refine lv_iload_n hx hb dX4_doTurn_228 rfl (lv_at hl 0 rfl) ?_
  refine lv_iconst (v := 2) hx hb dX4_doTurn_229 (by decide) ?_
  refine lv_irem hx hb dX4_doTurn_230 (by decide) ?_
  refine lv_if_ne (tgt := 238) hx hb dX4_doTurn_231 (by decide) (fun c20 => ?_) (fun c20 => ?_)
  · have hk := hk.1 c20
    refine lv_iconst (v := 0) hx hb dX4_doTurn_238 (by decide) ?_
    exact xb_X4_doTurn_239 C0 hA  _ _ _ hk H locs ls hP hD hS (lv_sub hl [] rfl)
  · have hk := hk.2 c20
    refine lv_iconst (v := 1) hx hb dX4_doTurn_234 (by decide) ?_
    refine lv_goto (tgt := 239) hx hb dX4_doTurn_235 (by decide) ?_
    exact xb_X4_doTurn_239 C0 hA  _ _ _ hk H locs ls hP hD hS (lv_sub hl [] rfl)
theorem xc_X4_doTurn (l : Launch) (D : va_G) (cI cC cZ cL : ClassId) (h h_now h_copy h_past h_slots h_saved h_text h_shown h_copy_cells : Nat)  (sz : Nat) (f_remembered : Int32) (f_oldest : Int32) (f_copy_cells : Nat → Int32) (x1 : Int32) (K : ((Nat → Int32)) → Prop) (hk : xp_X4_doTurn f_copy_cells x1 K) : XMv l yX4_doTurn wsX4_doTurn ({ frames := 5, cells := 0, slots := 0, locals := 113 } : Room) D (xTY cI cC cZ cL) [.ref h, .int x1] [(h, .inr (4, [.ref h_now, .ref h_copy, .ref h_past, .ref h_slots, .ref h_saved, .ref h_text, .ref h_shown, .int f_remembered, .int f_oldest])), (h_copy, .inr (3, [.ref h_copy_cells])), (h_copy_cells, .inl (cI, 400, .inl f_copy_cells))] sz (fun (u : (Nat → Int32)) => K u) (fun (u : (Nat → Int32)) => [(h, .inr (4, [.ref h_now, .ref h_copy, .ref h_past, .ref h_slots, .ref h_saved, .ref h_text, .ref h_shown, .int f_remembered, .int f_oldest])), (h_copy, .inr (3, [.ref h_copy_cells])), (h_copy_cells, .inl (cI, 400, .inl u))]) :=
  x_enter (cc := cX4_doTurn) (maxL := 3) (ret := none) (own := RX4) (by decide) rfl rfl (Nat.le_of_ble_eq_true rfl) (fun p e s m below meth c ls C0 hA hP hD hS hl => xb_X4_doTurn_0 C0 hA _ _ hk s.heap [] ls hP hD hS hl)
