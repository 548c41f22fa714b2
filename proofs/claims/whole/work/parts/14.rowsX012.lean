set_option maxRecDepth 20000 in
theorem xin_X0_isFull_X0 : ∀ w ∈ u_ws RX0 TX0 7, w ∈ wsX0_isFull := by decide +kernel
set_option maxHeartbeats 4000000 in
set_option maxRecDepth 100000 in
theorem xb_X0_isFull_0 {p : Program} {l : Launch} {e : Env} {s : State} {m : MethodId} {args : Array Value} {below : List Frame} {meth : Method} {c : Code} {A : Nat → Prop} {D : va_G} {cI cC cZ cL : ClassId} {h h_signs : Nat}  {f_length : Int32} {f_at : Int32} {f_command : Int32} {f_scene : Int32} {f_letter : Int32} {f_number : Int32} {K : Int32 → Prop}  (C0 : xC p s m args meth c cX0_isFull 1 (some .boolean) wsX0_isFull RX0 D (xTY cI cC cZ cL)) (hA : ∀ q : Nat, s.heap.size ≤ q → A q)  : xp_X0_isFull f_length K → ∀ (H : Heap) (locs : List Loc) (ls : Array Slot), va_P D vwCl [(h, .inr (0, [.ref h_signs, .int f_length, .int f_at, .int f_command, .int f_scene, .int f_letter, .int f_number]))] H → va_D A [(h, .inr (0, [.ref h_signs, .int f_length, .int f_at, .int f_command, .int f_scene, .int f_letter, .int f_number]))] → va_S A s.heap H locs → lv_has ls 1 [(0, .ref h)] → W p l e ({ frames := 0, cells := 0, slots := 0, locals := 0 } : Room) s m args below meth c H locs 0 0 (MQ below (va_Qi (fun (r : Int32) (_ : Unit) => K r) (fun u t => xE D A ((fun (_ : Unit) => [(h, .inr (0, [.ref h_signs, .int f_length, .int f_at, .int f_command, .int f_scene, .int f_letter, .int f_number]))]) u) t) A) args s 0 0 A) (F0 m 0 ls []) := by
  obtain ⟨hx, hb, hr, hml, hown, hts, hlocks, hK, hN⟩ := id C0
  intro  hk H locs ls hP hD hS hl
  rw [xp_X0_isFull] at hk
  refine lv_aload_n hx hb dX0_isFull_0 rfl (lv_at hl 0 rfl) ?_
  refine va_get (D := D) (ci := 0) (v := .int f_length) (C := RX0) (T := TX0) (N := 7) hx hb hts xin_X0_isFull_X0 hown hK hP 0 rfl rfl 1 (by decide) (hts (.fieldLink RX0 15 "TakeLog$Day" "length" "I") (by decide +kernel)) (fun _ h9 => h9) rfl dX0_isFull_1 ?_
  refine lv_bipush (v := 120) hx hb dX0_isFull_4 (by decide) ?_
  refine lv_icmp_lt (tgt := 13) hx hb dX0_isFull_6 (by decide) (fun c1 => ?_) (fun c1 => ?_)
  · have hk := hk.1 c1
    refine lv_iconst (v := 0) hx hb dX0_isFull_13 (by decide) ?_
    exact x_retz rfl C0 () hk hP hD hS dX0_isFull_14
  · have hk := hk.2 c1
    refine lv_iconst (v := 1) hx hb dX0_isFull_9 (by decide) ?_
    refine lv_goto (tgt := 14) hx hb dX0_isFull_10 (by decide) ?_
    exact x_retz rfl C0 () hk hP hD hS dX0_isFull_14
theorem xc_X0_isFull (l : Launch) (D : va_G) (cI cC cZ cL : ClassId) (h h_signs : Nat)  (sz : Nat) (f_length : Int32) (f_at : Int32) (f_command : Int32) (f_scene : Int32) (f_letter : Int32) (f_number : Int32)  (K : Int32 → Prop) (hk : xp_X0_isFull f_length K) : XMi l yX0_isFull wsX0_isFull ({ frames := 0, cells := 0, slots := 0, locals := 0 } : Room) D (xTY cI cC cZ cL) [.ref h] [(h, .inr (0, [.ref h_signs, .int f_length, .int f_at, .int f_command, .int f_scene, .int f_letter, .int f_number]))] sz (fun (r : Int32) (_ : Unit) => K r) (fun (_ : Unit) => [(h, .inr (0, [.ref h_signs, .int f_length, .int f_at, .int f_command, .int f_scene, .int f_letter, .int f_number]))]) :=
  x_enter (cc := cX0_isFull) (maxL := 1) (ret := (some .boolean)) (own := RX0) (by decide) rfl rfl (Nat.le_of_ble_eq_true rfl) (fun p e s m below meth c ls C0 hA hP hD hS hl => xb_X0_isFull_0 C0 hA  hk s.heap [] ls hP hD hS hl)
set_option maxRecDepth 20000 in
theorem xin_X0_add_X0 : ∀ w ∈ u_ws RX0 TX0 7, w ∈ wsX0_add := by decide +kernel
set_option maxHeartbeats 4000000 in
set_option maxRecDepth 100000 in
theorem xb_X0_add_0 {p : Program} {l : Launch} {e : Env} {s : State} {m : MethodId} {args : Array Value} {below : List Frame} {meth : Method} {c : Code} {A : Nat → Prop} {D : va_G} {cI cC cZ cL : ClassId} {h h_signs : Nat}  {f_at : Int32} {f_command : Int32} {f_scene : Int32} {f_letter : Int32} {f_number : Int32} {K : Int32 → ((Nat → Int32) × Int32) → Prop}  (C0 : xC p s m args meth c cX0_add 2 (some .int) wsX0_add RX0 D (xTY cI cC cZ cL)) (hA : ∀ q : Nat, s.heap.size ≤ q → A q)  : ∀ (f_signs : Nat → Int32) (f_length : Int32) (x1 : Int32) , xp_X0_add f_signs f_length x1 K → ∀ (H : Heap) (locs : List Loc) (ls : Array Slot), va_P D vwCl [(h, .inr (0, [.ref h_signs, .int f_length, .int f_at, .int f_command, .int f_scene, .int f_letter, .int f_number])), (h_signs, .inl (cC, 120, .inl f_signs))] H → va_D A [(h, .inr (0, [.ref h_signs, .int f_length, .int f_at, .int f_command, .int f_scene, .int f_letter, .int f_number])), (h_signs, .inl (cC, 120, .inl f_signs))] → va_S A s.heap H locs → lv_has ls 2 [(0, .ref h), (1, .int x1)] → W p l e ({ frames := 0, cells := 0, slots := 0, locals := 0 } : Room) s m args below meth c H locs 0 0 (MQ below (va_Qi (fun (r : Int32) (u : (Nat → Int32) × Int32) => K r u) (fun u t => xE D A ((fun (u : (Nat → Int32) × Int32) => [(h, .inr (0, [.ref h_signs, .int u.2, .int f_at, .int f_command, .int f_scene, .int f_letter, .int f_number])), (h_signs, .inl (cC, 120, .inl u.1))]) u) t) A) args s 0 0 A) (F0 m 0 ls []) := by
  obtain ⟨hx, hb, hr, hml, hown, hts, hlocks, hK, hN⟩ := id C0
  intro f_signs f_length x1 hk H locs ls hP hD hS hl
  rw [xp_X0_add] at hk
  refine lv_aload_n hx hb dX0_add_0 rfl (lv_at hl 0 rfl) ?_
  refine va_get (D := D) (ci := 0) (v := .int f_length) (C := RX0) (T := TX0) (N := 7) hx hb hts xin_X0_add_X0 hown hK hP 0 rfl rfl 1 (by decide) (hts (.fieldLink RX0 15 "TakeLog$Day" "length" "I") (by decide +kernel)) (fun _ h9 => h9) rfl dX0_add_1 ?_
  refine lv_bipush (v := 120) hx hb dX0_add_4 (by decide) ?_
  refine lv_icmp_ge (tgt := 29) hx hb dX0_add_6 (by decide) (fun c1 => ?_) (fun c1 => ?_)
  · have hk := hk.1 c1
    refine lv_aload_n hx hb dX0_add_29 rfl (lv_at hl 0 rfl) ?_
    refine va_get (D := D) (ci := 0) (v := .int f_length) (C := RX0) (T := TX0) (N := 7) hx hb hts xin_X0_add_X0 hown hK hP 0 rfl rfl 1 (by decide) (hts (.fieldLink RX0 15 "TakeLog$Day" "length" "I") (by decide +kernel)) (fun _ h9 => h9) rfl dX0_add_30 ?_
    exact x_reti C0 (f_signs, f_length) hk hP hD hS dX0_add_33
  · have hk := hk.2 c1
    refine lv_aload_n hx hb dX0_add_9 rfl (lv_at hl 0 rfl) ?_
    refine va_get (D := D) (ci := 0) (v := .ref h_signs) (C := RX0) (T := TX0) (N := 7) hx hb hts xin_X0_add_X0 hown hK hP 0 rfl rfl 0 (by decide) (hts (.fieldLink RX0 11 "TakeLog$Day" "signs" "[C") (by decide +kernel)) (fun _ h9 => h9) rfl dX0_add_10 ?_
    refine lv_aload_n hx hb dX0_add_13 rfl (lv_at hl 0 rfl) ?_
    refine va_get (D := D) (ci := 0) (v := .int f_length) (C := RX0) (T := TX0) (N := 7) hx hb hts xin_X0_add_X0 hown hK hP 0 rfl rfl 1 (by decide) (hts (.fieldLink RX0 15 "TakeLog$Day" "length" "I") (by decide +kernel)) (fun _ h9 => h9) rfl dX0_add_14 ?_
    refine lv_iload_n hx hb dX0_add_17 rfl (lv_at hl 1 rfl) ?_
    refine x_cast hx hb hK hP hD hS 1 1 rfl rfl hk.1 rfl dX0_add_18 (fun H locs hP hD hS => ?_)
    have hk := hk.2
    have hP : va_P D vwCl [(h, .inr (0, [.ref h_signs, .int f_length, .int f_at, .int f_command, .int f_scene, .int f_letter, .int f_number])), (h_signs, .inl (cC, 120, .inl (upd f_signs f_length.toNatClampNeg (vp_nar .char x1))))] H := hP
    have hD : va_D A [(h, .inr (0, [.ref h_signs, .int f_length, .int f_at, .int f_command, .int f_scene, .int f_letter, .int f_number])), (h_signs, .inl (cC, 120, .inl (upd f_signs f_length.toNatClampNeg (vp_nar .char x1))))] := hD
    refine lv_aload_n hx hb dX0_add_19 rfl (lv_at hl 0 rfl) ?_
    refine lv_dup hx hb dX0_add_20 rfl ?_
    refine va_get (D := D) (ci := 0) (v := .int f_length) (C := RX0) (T := TX0) (N := 7) hx hb hts xin_X0_add_X0 hown hK hP 0 rfl rfl 1 (by decide) (hts (.fieldLink RX0 15 "TakeLog$Day" "length" "I") (by decide +kernel)) (fun _ h9 => h9) rfl dX0_add_21 ?_
    refine lv_iconst (v := 1) hx hb dX0_add_24 (by decide) ?_
    refine lv_iadd hx hb dX0_add_25 ?_
    refine va_put (D := D) (ci := 0) (v := .int (f_length + 1)) (ty := .int) (C := RX0) (T := TX0) (N := 7) hx hb hts xin_X0_add_X0 tyX0 tyX0_ok nmX0 hown hK hP hD hS 0 rfl rfl 1 (by decide) (hts (.fieldLink RX0 15 "TakeLog$Day" "length" "I") (by decide +kernel)) (fun _ h9 => h9) rfl (by decide +kernel) rfl rfl (Nat.le_of_ble_eq_true rfl) dX0_add_26 (fun H locs hP hD hS => ?_)
    have hP : va_P D vwCl [(h, .inr (0, [.ref h_signs, .int (f_length + 1), .int f_at, .int f_command, .int f_scene, .int f_letter, .int f_number])), (h_signs, .inl (cC, 120, .inl (upd f_signs f_length.toNatClampNeg (vp_nar .char x1))))] H := hP
    have hD : va_D A [(h, .inr (0, [.ref h_signs, .int (f_length + 1), .int f_at, .int f_command, .int f_scene, .int f_letter, .int f_number])), (h_signs, .inl (cC, 120, .inl (upd f_signs f_length.toNatClampNeg (vp_nar .char x1))))] := hD
    refine lv_aload_n hx hb dX0_add_29 rfl (lv_at hl 0 rfl) ?_
    refine va_get (D := D) (ci := 0) (v := .int (f_length + 1)) (C := RX0) (T := TX0) (N := 7) hx hb hts xin_X0_add_X0 hown hK hP 0 rfl rfl 1 (by decide) (hts (.fieldLink RX0 15 "TakeLog$Day" "length" "I") (by decide +kernel)) (fun _ h9 => h9) rfl dX0_add_30 ?_
    exact x_reti C0 (upd f_signs f_length.toNatClampNeg (vp_nar .char x1), f_length + 1) hk hP hD hS dX0_add_33
theorem xc_X0_add (l : Launch) (D : va_G) (cI cC cZ cL : ClassId) (h h_signs : Nat)  (sz : Nat) (f_length : Int32) (f_at : Int32) (f_command : Int32) (f_scene : Int32) (f_letter : Int32) (f_number : Int32) (f_signs : Nat → Int32) (x1 : Int32) (K : Int32 → ((Nat → Int32) × Int32) → Prop) (hk : xp_X0_add f_signs f_length x1 K) : XMi l yX0_add wsX0_add ({ frames := 0, cells := 0, slots := 0, locals := 0 } : Room) D (xTY cI cC cZ cL) [.ref h, .int x1] [(h, .inr (0, [.ref h_signs, .int f_length, .int f_at, .int f_command, .int f_scene, .int f_letter, .int f_number])), (h_signs, .inl (cC, 120, .inl f_signs))] sz (fun (r : Int32) (u : (Nat → Int32) × Int32) => K r u) (fun (u : (Nat → Int32) × Int32) => [(h, .inr (0, [.ref h_signs, .int u.2, .int f_at, .int f_command, .int f_scene, .int f_letter, .int f_number])), (h_signs, .inl (cC, 120, .inl u.1))]) :=
  x_enter (cc := cX0_add) (maxL := 2) (ret := (some .int)) (own := RX0) (by decide) rfl rfl (Nat.le_of_ble_eq_true rfl) (fun p e s m below meth c ls C0 hA hP hD hS hl => xb_X0_add_0 C0 hA _ _ _ hk s.heap [] ls hP hD hS hl)
set_option maxRecDepth 20000 in
theorem xin_X0_empty_X0 : ∀ w ∈ u_ws RX0 TX0 7, w ∈ wsX0_empty := by decide +kernel
set_option maxHeartbeats 4000000 in
set_option maxRecDepth 100000 in
theorem xb_X0_empty_0 {p : Program} {l : Launch} {e : Env} {s : State} {m : MethodId} {args : Array Value} {below : List Frame} {meth : Method} {c : Code} {A : Nat → Prop} {D : va_G} {cI cC cZ cL : ClassId} {h h_signs : Nat}  {f_at : Int32} {f_command : Int32} {f_scene : Int32} {f_letter : Int32} {f_number : Int32} {K : Int32 → Int32 → Prop}  (C0 : xC p s m args meth c cX0_empty 2 (some .int) wsX0_empty RX0 D (xTY cI cC cZ cL)) (hA : ∀ q : Nat, s.heap.size ≤ q → A q)  : ∀ (f_length : Int32) , xp_X0_empty f_length K → ∀ (H : Heap) (locs : List Loc) (ls : Array Slot), va_P D vwCl [(h, .inr (0, [.ref h_signs, .int f_length, .int f_at, .int f_command, .int f_scene, .int f_letter, .int f_number]))] H → va_D A [(h, .inr (0, [.ref h_signs, .int f_length, .int f_at, .int f_command, .int f_scene, .int f_letter, .int f_number]))] → va_S A s.heap H locs → lv_has ls 2 [(0, .ref h)] → W p l e ({ frames := 0, cells := 0, slots := 0, locals := 0 } : Room) s m args below meth c H locs 0 0 (MQ below (va_Qi (fun (r : Int32) (u : Int32) => K r u) (fun u t => xE D A ((fun (u : Int32) => [(h, .inr (0, [.ref h_signs, .int u, .int f_at, .int f_command, .int f_scene, .int f_letter, .int f_number]))]) u) t) A) args s 0 0 A) (F0 m 0 ls []) := by
  obtain ⟨hx, hb, hr, hml, hown, hts, hlocks, hK, hN⟩ := id C0
  intro f_length hk H locs ls hP hD hS hl
  rw [xp_X0_empty] at hk
  refine lv_aload_n hx hb dX0_empty_0 rfl (lv_at hl 0 rfl) ?_
  refine va_get (D := D) (ci := 0) (v := .int f_length) (C := RX0) (T := TX0) (N := 7) hx hb hts xin_X0_empty_X0 hown hK hP 0 rfl rfl 1 (by decide) (hts (.fieldLink RX0 15 "TakeLog$Day" "length" "I") (by decide +kernel)) (fun _ h9 => h9) rfl dX0_empty_1 ?_
  refine lv_istore_n (lv' := [(1, .int f_length), (0, .ref h)]) hx hb dX0_empty_4 rfl hl (by decide) rfl (fun ls hl => ?_)
  refine lv_aload_n hx hb dX0_empty_5 rfl (lv_at hl 1 rfl) ?_
  refine lv_iconst (v := 0) hx hb dX0_empty_6 (by decide) ?_
  refine va_put (D := D) (ci := 0) (v := .int 0) (ty := .int) (C := RX0) (T := TX0) (N := 7) hx hb hts xin_X0_empty_X0 tyX0 tyX0_ok nmX0 hown hK hP hD hS 0 rfl rfl 1 (by decide) (hts (.fieldLink RX0 15 "TakeLog$Day" "length" "I") (by decide +kernel)) (fun _ h9 => h9) rfl (by decide +kernel) rfl rfl (Nat.le_of_ble_eq_true rfl) dX0_empty_7 (fun H locs hP hD hS => ?_)
  have hP : va_P D vwCl [(h, .inr (0, [.ref h_signs, .int 0, .int f_at, .int f_command, .int f_scene, .int f_letter, .int f_number]))] H := hP
  have hD : va_D A [(h, .inr (0, [.ref h_signs, .int 0, .int f_at, .int f_command, .int f_scene, .int f_letter, .int f_number]))] := hD
  refine lv_iload_n hx hb dX0_empty_10 rfl (lv_at hl 0 rfl) ?_
  exact x_reti C0 (0) hk hP hD hS dX0_empty_11
theorem xc_X0_empty (l : Launch) (D : va_G) (cI cC cZ cL : ClassId) (h h_signs : Nat)  (sz : Nat) (f_length : Int32) (f_at : Int32) (f_command : Int32) (f_scene : Int32) (f_letter : Int32) (f_number : Int32)  (K : Int32 → Int32 → Prop) (hk : xp_X0_empty f_length K) : XMi l yX0_empty wsX0_empty ({ frames := 0, cells := 0, slots := 0, locals := 0 } : Room) D (xTY cI cC cZ cL) [.ref h] [(h, .inr (0, [.ref h_signs, .int f_length, .int f_at, .int f_command, .int f_scene, .int f_letter, .int f_number]))] sz (fun (r : Int32) (u : Int32) => K r u) (fun (u : Int32) => [(h, .inr (0, [.ref h_signs, .int u, .int f_at, .int f_command, .int f_scene, .int f_letter, .int f_number]))]) :=
  x_enter (cc := cX0_empty) (maxL := 2) (ret := (some .int)) (own := RX0) (by decide) rfl rfl (Nat.le_of_ble_eq_true rfl) (fun p e s m below meth c ls C0 hA hP hD hS hl => xb_X0_empty_0 C0 hA _ hk s.heap [] ls hP hD hS hl)
set_option maxRecDepth 20000 in
theorem xin_X0_readSign_X0 : ∀ w ∈ u_ws RX0 TX0 7, w ∈ wsX0_readSign := by decide +kernel
set_option maxHeartbeats 4000000 in
set_option maxRecDepth 100000 in
theorem xb_X0_readSign_0 {p : Program} {l : Launch} {e : Env} {s : State} {m : MethodId} {args : Array Value} {below : List Frame} {meth : Method} {c : Code} {A : Nat → Prop} {D : va_G} {cI cC cZ cL : ClassId} {h h_signs : Nat}  {f_length : Int32} {f_command : Int32} {f_scene : Int32} {f_letter : Int32} {f_number : Int32} {f_signs : Nat → Int32} {K : Int32 → Int32 → Prop}  (C0 : xC p s m args meth c cX0_readSign 4 (some .int) wsX0_readSign RX0 D (xTY cI cC cZ cL)) (hA : ∀ q : Nat, s.heap.size ≤ q → A q)  : ∀ (f_at : Int32) (x1 : Int32) (x2 : Int32) , xp_X0_readSign f_signs f_length f_at x1 x2 K → ∀ (H : Heap) (locs : List Loc) (ls : Array Slot), va_P D vwCl [(h, .inr (0, [.ref h_signs, .int f_length, .int f_at, .int f_command, .int f_scene, .int f_letter, .int f_number])), (h_signs, .inl (cC, 120, .inl f_signs))] H → va_D A [(h, .inr (0, [.ref h_signs, .int f_length, .int f_at, .int f_command, .int f_scene, .int f_letter, .int f_number])), (h_signs, .inl (cC, 120, .inl f_signs))] → va_S A s.heap H locs → lv_has ls 4 [(0, .ref h), (1, .int x1), (2, .int x2)] → W p l e ({ frames := 0, cells := 0, slots := 0, locals := 0 } : Room) s m args below meth c H locs 0 0 (MQ below (va_Qi (fun (r : Int32) (u : Int32) => K r u) (fun u t => xE D A ((fun (u : Int32) => [(h, .inr (0, [.ref h_signs, .int f_length, .int u, .int f_command, .int f_scene, .int f_letter, .int f_number])), (h_signs, .inl (cC, 120, .inl f_signs))]) u) t) A) args s 0 0 A) (F0 m 0 ls []) := by
  obtain ⟨hx, hb, hr, hml, hown, hts, hlocks, hK, hN⟩ := id C0
  intro f_at x1 x2 hk H locs ls hP hD hS hl
  rw [xp_X0_readSign] at hk
  refine lv_aload_n hx hb dX0_readSign_0 rfl (lv_at hl 0 rfl) ?_
  refine va_get (D := D) (ci := 0) (v := .int f_at) (C := RX0) (T := TX0) (N := 7) hx hb hts xin_X0_readSign_X0 hown hK hP 0 rfl rfl 2 (by decide) (hts (.fieldLink RX0 23 "TakeLog$Day" "at" "I") (by decide +kernel)) (fun _ h9 => h9) rfl dX0_readSign_1 ?_
  refine lv_if_lt (tgt := 53) hx hb dX0_readSign_4 (by decide) (fun c1 => ?_) (fun c1 => ?_)
  · have hk := hk.1 c1
    refine lv_iconst (v := (-1 : Int32)) hx hb dX0_readSign_53 (by decide) ?_
    exact x_reti C0 (f_at) hk hP hD hS dX0_readSign_54
  · have hk := hk.2 c1
    refine lv_aload_n hx hb dX0_readSign_7 rfl (lv_at hl 0 rfl) ?_
    refine va_get (D := D) (ci := 0) (v := .int f_at) (C := RX0) (T := TX0) (N := 7) hx hb hts xin_X0_readSign_X0 hown hK hP 0 rfl rfl 2 (by decide) (hts (.fieldLink RX0 23 "TakeLog$Day" "at" "I") (by decide +kernel)) (fun _ h9 => h9) rfl dX0_readSign_8 ?_
    refine lv_aload_n hx hb dX0_readSign_11 rfl (lv_at hl 0 rfl) ?_
    refine va_get (D := D) (ci := 0) (v := .int f_length) (C := RX0) (T := TX0) (N := 7) hx hb hts xin_X0_readSign_X0 hown hK hP 0 rfl rfl 1 (by decide) (hts (.fieldLink RX0 15 "TakeLog$Day" "length" "I") (by decide +kernel)) (fun _ h9 => h9) rfl dX0_readSign_12 ?_
    refine lv_icmp_ge (tgt := 53) hx hb dX0_readSign_15 (by decide) (fun c2 => ?_) (fun c2 => ?_)
    · have hk := hk.1 c2
      refine lv_iconst (v := (-1 : Int32)) hx hb dX0_readSign_53 (by decide) ?_
      exact x_reti C0 (f_at) hk hP hD hS dX0_readSign_54
    · have hk := hk.2 c2
      refine lv_aload_n hx hb dX0_readSign_18 rfl (lv_at hl 0 rfl) ?_
      refine va_get (D := D) (ci := 0) (v := .int f_at) (C := RX0) (T := TX0) (N := 7) hx hb hts xin_X0_readSign_X0 hown hK hP 0 rfl rfl 2 (by decide) (hts (.fieldLink RX0 23 "TakeLog$Day" "at" "I") (by decide +kernel)) (fun _ h9 => h9) rfl dX0_readSign_19 ?_
      refine lv_bipush (v := 120) hx hb dX0_readSign_22 (by decide) ?_
      refine lv_icmp_ge (tgt := 53) hx hb dX0_readSign_24 (by decide) (fun c3 => ?_) (fun c3 => ?_)
      · have hk := hk.1 c3
        refine lv_iconst (v := (-1 : Int32)) hx hb dX0_readSign_53 (by decide) ?_
        exact x_reti C0 (f_at) hk hP hD hS dX0_readSign_54
      · have hk := hk.2 c3
        refine lv_aload_n hx hb dX0_readSign_27 rfl (lv_at hl 0 rfl) ?_
        refine va_get (D := D) (ci := 0) (v := .ref h_signs) (C := RX0) (T := TX0) (N := 7) hx hb hts xin_X0_readSign_X0 hown hK hP 0 rfl rfl 0 (by decide) (hts (.fieldLink RX0 11 "TakeLog$Day" "signs" "[C") (by decide +kernel)) (fun _ h9 => h9) rfl dX0_readSign_28 ?_
        refine lv_aload_n hx hb dX0_readSign_31 rfl (lv_at hl 0 rfl) ?_
        refine va_get (D := D) (ci := 0) (v := .int f_at) (C := RX0) (T := TX0) (N := 7) hx hb hts xin_X0_readSign_X0 hown hK hP 0 rfl rfl 2 (by decide) (hts (.fieldLink RX0 23 "TakeLog$Day" "at" "I") (by decide +kernel)) (fun _ h9 => h9) rfl dX0_readSign_32 ?_
        refine x_cald hx hb hK hP 1 1 rfl rfl hk.1 rfl rfl dX0_readSign_35 ?_
        have hk := hk.2
        refine lv_iload_n hx hb dX0_readSign_36 rfl (lv_at hl 1 rfl) ?_
        refine lv_icmp_lt (tgt := 53) hx hb dX0_readSign_37 (by decide) (fun c4 => ?_) (fun c4 => ?_)
        · have hk := hk.1 c4
          refine lv_iconst (v := (-1 : Int32)) hx hb dX0_readSign_53 (by decide) ?_
          exact x_reti C0 (f_at) hk hP hD hS dX0_readSign_54
        · have hk := hk.2 c4
          refine lv_aload_n hx hb dX0_readSign_40 rfl (lv_at hl 0 rfl) ?_
          refine va_get (D := D) (ci := 0) (v := .ref h_signs) (C := RX0) (T := TX0) (N := 7) hx hb hts xin_X0_readSign_X0 hown hK hP 0 rfl rfl 0 (by decide) (hts (.fieldLink RX0 11 "TakeLog$Day" "signs" "[C") (by decide +kernel)) (fun _ h9 => h9) rfl dX0_readSign_41 ?_
          refine lv_aload_n hx hb dX0_readSign_44 rfl (lv_at hl 0 rfl) ?_
          refine va_get (D := D) (ci := 0) (v := .int f_at) (C := RX0) (T := TX0) (N := 7) hx hb hts xin_X0_readSign_X0 hown hK hP 0 rfl rfl 2 (by decide) (hts (.fieldLink RX0 23 "TakeLog$Day" "at" "I") (by decide +kernel)) (fun _ h9 => h9) rfl dX0_readSign_45 ?_
          refine x_cald hx hb hK hP 1 1 rfl rfl hk.1 rfl rfl dX0_readSign_48 ?_
          have hk := hk.2
          refine lv_iload_n hx hb dX0_readSign_49 rfl (lv_at hl 2 rfl) ?_
          refine lv_icmp_le (tgt := 55) hx hb dX0_readSign_50 (by decide) (fun c5 => ?_) (fun c5 => ?_)
          · have hk := hk.1 c5
            refine lv_aload_n hx hb dX0_readSign_55 rfl (lv_at hl 0 rfl) ?_
            refine va_get (D := D) (ci := 0) (v := .ref h_signs) (C := RX0) (T := TX0) (N := 7) hx hb hts xin_X0_readSign_X0 hown hK hP 0 rfl rfl 0 (by decide) (hts (.fieldLink RX0 11 "TakeLog$Day" "signs" "[C") (by decide +kernel)) (fun _ h9 => h9) rfl dX0_readSign_56 ?_
            refine lv_aload_n hx hb dX0_readSign_59 rfl (lv_at hl 0 rfl) ?_
            refine va_get (D := D) (ci := 0) (v := .int f_at) (C := RX0) (T := TX0) (N := 7) hx hb hts xin_X0_readSign_X0 hown hK hP 0 rfl rfl 2 (by decide) (hts (.fieldLink RX0 23 "TakeLog$Day" "at" "I") (by decide +kernel)) (fun _ h9 => h9) rfl dX0_readSign_60 ?_
            refine x_cald hx hb hK hP 1 1 rfl rfl hk.1 rfl rfl dX0_readSign_63 ?_
            have hk := hk.2
            refine lv_istore_n (lv' := [(3, .int (f_signs f_at.toNatClampNeg)), (0, .ref h), (1, .int x1), (2, .int x2)]) hx hb dX0_readSign_64 rfl hl (by decide) rfl (fun ls hl => ?_)
            refine lv_aload_n hx hb dX0_readSign_65 rfl (lv_at hl 1 rfl) ?_
            refine lv_dup hx hb dX0_readSign_66 rfl ?_
            refine va_get (D := D) (ci := 0) (v := .int f_at) (C := RX0) (T := TX0) (N := 7) hx hb hts xin_X0_readSign_X0 hown hK hP 0 rfl rfl 2 (by decide) (hts (.fieldLink RX0 23 "TakeLog$Day" "at" "I") (by decide +kernel)) (fun _ h9 => h9) rfl dX0_readSign_67 ?_
            refine lv_iconst (v := 1) hx hb dX0_readSign_70 (by decide) ?_
            refine lv_iadd hx hb dX0_readSign_71 ?_
            refine va_put (D := D) (ci := 0) (v := .int (f_at + 1)) (ty := .int) (C := RX0) (T := TX0) (N := 7) hx hb hts xin_X0_readSign_X0 tyX0 tyX0_ok nmX0 hown hK hP hD hS 0 rfl rfl 2 (by decide) (hts (.fieldLink RX0 23 "TakeLog$Day" "at" "I") (by decide +kernel)) (fun _ h9 => h9) rfl (by decide +kernel) rfl rfl (Nat.le_of_ble_eq_true rfl) dX0_readSign_72 (fun H locs hP hD hS => ?_)
            have hP : va_P D vwCl [(h, .inr (0, [.ref h_signs, .int f_length, .int (f_at + 1), .int f_command, .int f_scene, .int f_letter, .int f_number])), (h_signs, .inl (cC, 120, .inl f_signs))] H := hP
            have hD : va_D A [(h, .inr (0, [.ref h_signs, .int f_length, .int (f_at + 1), .int f_command, .int f_scene, .int f_letter, .int f_number])), (h_signs, .inl (cC, 120, .inl f_signs))] := hD
            refine lv_iload_n hx hb dX0_readSign_75 rfl (lv_at hl 0 rfl) ?_
            exact x_reti C0 (f_at + 1) hk hP hD hS dX0_readSign_76
          · have hk := hk.2 c5
            refine lv_iconst (v := (-1 : Int32)) hx hb dX0_readSign_53 (by decide) ?_
            exact x_reti C0 (f_at) hk hP hD hS dX0_readSign_54
theorem xc_X0_readSign (l : Launch) (D : va_G) (cI cC cZ cL : ClassId) (h h_signs : Nat)  (sz : Nat) (f_length : Int32) (f_at : Int32) (f_command : Int32) (f_scene : Int32) (f_letter : Int32) (f_number : Int32) (f_signs : Nat → Int32) (x1 : Int32) (x2 : Int32) (K : Int32 → Int32 → Prop) (hk : xp_X0_readSign f_signs f_length f_at x1 x2 K) : XMi l yX0_readSign wsX0_readSign ({ frames := 0, cells := 0, slots := 0, locals := 0 } : Room) D (xTY cI cC cZ cL) [.ref h, .int x1, .int x2] [(h, .inr (0, [.ref h_signs, .int f_length, .int f_at, .int f_command, .int f_scene, .int f_letter, .int f_number])), (h_signs, .inl (cC, 120, .inl f_signs))] sz (fun (r : Int32) (u : Int32) => K r u) (fun (u : Int32) => [(h, .inr (0, [.ref h_signs, .int f_length, .int u, .int f_command, .int f_scene, .int f_letter, .int f_number])), (h_signs, .inl (cC, 120, .inl f_signs))]) :=
  x_enter (cc := cX0_readSign) (maxL := 4) (ret := (some .int)) (own := RX0) (by decide) rfl rfl (Nat.le_of_ble_eq_true rfl) (fun p e s m below meth c ls C0 hA hP hD hS hl => xb_X0_readSign_0 C0 hA _ _ _ hk s.heap [] ls hP hD hS hl)
set_option maxRecDepth 20000 in
theorem xin_X0_startReading_X0 : ∀ w ∈ u_ws RX0 TX0 7, w ∈ wsX0_startReading := by decide +kernel
set_option maxHeartbeats 4000000 in
set_option maxRecDepth 100000 in
theorem xb_X0_startReading_0 {p : Program} {l : Launch} {e : Env} {s : State} {m : MethodId} {args : Array Value} {below : List Frame} {meth : Method} {c : Code} {A : Nat → Prop} {D : va_G} {cI cC cZ cL : ClassId} {h h_signs : Nat}  {f_length : Int32} {f_command : Int32} {f_scene : Int32} {f_letter : Int32} {f_number : Int32} {f_signs : Nat → Int32} {K : Int32 → Int32 → Prop}  (C0 : xC p s m args meth c cX0_startReading 1 (some .boolean) wsX0_startReading RX0 D (xTY cI cC cZ cL)) (hA : ∀ q : Nat, s.heap.size ≤ q → A q)  : ∀ (f_at : Int32) , xp_X0_startReading f_signs f_length f_at K → ∀ (H : Heap) (locs : List Loc) (ls : Array Slot), va_P D vwCl [(h, .inr (0, [.ref h_signs, .int f_length, .int f_at, .int f_command, .int f_scene, .int f_letter, .int f_number])), (h_signs, .inl (cC, 120, .inl f_signs))] H → va_D A [(h, .inr (0, [.ref h_signs, .int f_length, .int f_at, .int f_command, .int f_scene, .int f_letter, .int f_number])), (h_signs, .inl (cC, 120, .inl f_signs))] → va_S A s.heap H locs → lv_has ls 1 [(0, .ref h)] → W p l e ({ frames := 1, cells := 0, slots := 0, locals := 23 } : Room) s m args below meth c H locs 0 0 (MQ below (va_Qi (fun (r : Int32) (u : Int32) => K r u) (fun u t => xE D A ((fun (u : Int32) => [(h, .inr (0, [.ref h_signs, .int f_length, .int u, .int f_command, .int f_scene, .int f_letter, .int f_number])), (h_signs, .inl (cC, 120, .inl f_signs))]) u) t) A) args s 0 0 A) (F0 m 0 ls []) := by
  obtain ⟨hx, hb, hr, hml, hown, hts, hlocks, hK, hN⟩ := id C0
  intro f_at hk H locs ls hP hD hS hl
  rw [xp_X0_startReading] at hk
  refine lv_aload_n hx hb dX0_startReading_0 rfl (lv_at hl 0 rfl) ?_
  refine lv_iconst (v := 0) hx hb dX0_startReading_1 (by decide) ?_
  refine va_put (D := D) (ci := 0) (v := .int 0) (ty := .int) (C := RX0) (T := TX0) (N := 7) hx hb hts xin_X0_startReading_X0 tyX0 tyX0_ok nmX0 hown hK hP hD hS 0 rfl rfl 2 (by decide) (hts (.fieldLink RX0 23 "TakeLog$Day" "at" "I") (by decide +kernel)) (fun _ h9 => h9) rfl (by decide +kernel) rfl rfl (Nat.le_of_ble_eq_true rfl) dX0_startReading_2 (fun H locs hP hD hS => ?_)
  have hP : va_P D vwCl [(h, .inr (0, [.ref h_signs, .int f_length, .int 0, .int f_command, .int f_scene, .int f_letter, .int f_number])), (h_signs, .inl (cC, 120, .inl f_signs))] H := hP
  have hD : va_D A [(h, .inr (0, [.ref h_signs, .int f_length, .int 0, .int f_command, .int f_scene, .int f_letter, .int f_number])), (h_signs, .inl (cC, 120, .inl f_signs))] := hD
  refine lv_aload_n hx hb dX0_startReading_5 rfl (lv_at hl 0 rfl) ?_
  refine lv_bipush (v := 84) hx hb dX0_startReading_6 (by decide) ?_
  refine lv_bipush (v := 84) hx hb dX0_startReading_8 (by decide) ?_
  refine x_joini (ws1 := fun (u1 : Int32) => [(h, .inr (0, [.ref h_signs, .int f_length, .int u1, .int f_command, .int f_scene, .int f_letter, .int f_number])), (h_signs, .inl (cC, 120, .inl f_signs))]) (x_runV (n0 := 2) (As := [.int 84, .int 84]) (rest := []) C0 (xc_X0_readSign l D cI cC cZ cL h h_signs H.size f_length 0 f_command f_scene f_letter f_number f_signs 84 84 _ hk) gX0_startReading_X0_readSign rfl ⟨rfl, rfl⟩ (by decide +kernel) rfl ⟨by decide, by decide⟩ ⟨Nat.zero_le _, Nat.zero_le _⟩ hP hD [0, 1] rfl rfl (k := 0) rfl rfl rfl hl.1 rfl (Nat.le_of_ble_eq_true rfl) dX0_startReading_10) hP hD hS hA [0, 1] [] [0, 1] rfl rfl rfl (by decide) (fun _ => rfl) rfl (fun r1 u1 H locs hk hP hD hS => ?_)
  refine lv_iconst (v := (-1 : Int32)) hx hb dX0_startReading_13 (by decide) ?_
  refine lv_icmp_eq (tgt := 21) hx hb dX0_startReading_14 (by decide) (fun c2 => ?_) (fun c2 => ?_)
  · have hk := hk.1 c2
    refine lv_iconst (v := 0) hx hb dX0_startReading_21 (by decide) ?_
    exact x_retz rfl C0 (u1) hk hP hD hS dX0_startReading_22
  · have hk := hk.2 c2
    refine lv_iconst (v := 1) hx hb dX0_startReading_17 (by decide) ?_
    refine lv_goto (tgt := 22) hx hb dX0_startReading_18 (by decide) ?_
    exact x_retz rfl C0 (u1) hk hP hD hS dX0_startReading_22
theorem xc_X0_startReading (l : Launch) (D : va_G) (cI cC cZ cL : ClassId) (h h_signs : Nat)  (sz : Nat) (f_length : Int32) (f_at : Int32) (f_command : Int32) (f_scene : Int32) (f_letter : Int32) (f_number : Int32) (f_signs : Nat → Int32)  (K : Int32 → Int32 → Prop) (hk : xp_X0_startReading f_signs f_length f_at K) : XMi l yX0_startReading wsX0_startReading ({ frames := 1, cells := 0, slots := 0, locals := 23 } : Room) D (xTY cI cC cZ cL) [.ref h] [(h, .inr (0, [.ref h_signs, .int f_length, .int f_at, .int f_command, .int f_scene, .int f_letter, .int f_number])), (h_signs, .inl (cC, 120, .inl f_signs))] sz (fun (r : Int32) (u : Int32) => K r u) (fun (u : Int32) => [(h, .inr (0, [.ref h_signs, .int f_length, .int u, .int f_command, .int f_scene, .int f_letter, .int f_number])), (h_signs, .inl (cC, 120, .inl f_signs))]) :=
  x_enter (cc := cX0_startReading) (maxL := 1) (ret := (some .boolean)) (own := RX0) (by decide) rfl rfl (Nat.le_of_ble_eq_true rfl) (fun p e s m below meth c ls C0 hA hP hD hS hl => xb_X0_startReading_0 C0 hA _ hk s.heap [] ls hP hD hS hl)
set_option maxRecDepth 20000 in
theorem xin_X0_hasMore_X0 : ∀ w ∈ u_ws RX0 TX0 7, w ∈ wsX0_hasMore := by decide +kernel
set_option maxHeartbeats 4000000 in
set_option maxRecDepth 100000 in
theorem xb_X0_hasMore_0 {p : Program} {l : Launch} {e : Env} {s : State} {m : MethodId} {args : Array Value} {below : List Frame} {meth : Method} {c : Code} {A : Nat → Prop} {D : va_G} {cI cC cZ cL : ClassId} {h h_signs : Nat}  {f_length : Int32} {f_at : Int32} {f_command : Int32} {f_scene : Int32} {f_letter : Int32} {f_number : Int32} {K : Int32 → Prop}  (C0 : xC p s m args meth c cX0_hasMore 1 (some .boolean) wsX0_hasMore RX0 D (xTY cI cC cZ cL)) (hA : ∀ q : Nat, s.heap.size ≤ q → A q)  : xp_X0_hasMore f_length f_at K → ∀ (H : Heap) (locs : List Loc) (ls : Array Slot), va_P D vwCl [(h, .inr (0, [.ref h_signs, .int f_length, .int f_at, .int f_command, .int f_scene, .int f_letter, .int f_number]))] H → va_D A [(h, .inr (0, [.ref h_signs, .int f_length, .int f_at, .int f_command, .int f_scene, .int f_letter, .int f_number]))] → va_S A s.heap H locs → lv_has ls 1 [(0, .ref h)] → W p l e ({ frames := 0, cells := 0, slots := 0, locals := 0 } : Room) s m args below meth c H locs 0 0 (MQ below (va_Qi (fun (r : Int32) (_ : Unit) => K r) (fun u t => xE D A ((fun (_ : Unit) => [(h, .inr (0, [.ref h_signs, .int f_length, .int f_at, .int f_command, .int f_scene, .int f_letter, .int f_number]))]) u) t) A) args s 0 0 A) (F0 m 0 ls []) := by
  obtain ⟨hx, hb, hr, hml, hown, hts, hlocks, hK, hN⟩ := id C0
  intro  hk H locs ls hP hD hS hl
  rw [xp_X0_hasMore] at hk
  refine lv_aload_n hx hb dX0_hasMore_0 rfl (lv_at hl 0 rfl) ?_
  refine va_get (D := D) (ci := 0) (v := .int f_at) (C := RX0) (T := TX0) (N := 7) hx hb hts xin_X0_hasMore_X0 hown hK hP 0 rfl rfl 2 (by decide) (hts (.fieldLink RX0 23 "TakeLog$Day" "at" "I") (by decide +kernel)) (fun _ h9 => h9) rfl dX0_hasMore_1 ?_
  refine lv_aload_n hx hb dX0_hasMore_4 rfl (lv_at hl 0 rfl) ?_
  refine va_get (D := D) (ci := 0) (v := .int f_length) (C := RX0) (T := TX0) (N := 7) hx hb hts xin_X0_hasMore_X0 hown hK hP 0 rfl rfl 1 (by decide) (hts (.fieldLink RX0 15 "TakeLog$Day" "length" "I") (by decide +kernel)) (fun _ h9 => h9) rfl dX0_hasMore_5 ?_
  refine lv_icmp_ge (tgt := 15) hx hb dX0_hasMore_8 (by decide) (fun c1 => ?_) (fun c1 => ?_)
  · have hk := hk.1 c1
    refine lv_iconst (v := 0) hx hb dX0_hasMore_15 (by decide) ?_
    exact x_retz rfl C0 () hk hP hD hS dX0_hasMore_16
  · have hk := hk.2 c1
    refine lv_iconst (v := 1) hx hb dX0_hasMore_11 (by decide) ?_
    refine lv_goto (tgt := 16) hx hb dX0_hasMore_12 (by decide) ?_
    exact x_retz rfl C0 () hk hP hD hS dX0_hasMore_16
theorem xc_X0_hasMore (l : Launch) (D : va_G) (cI cC cZ cL : ClassId) (h h_signs : Nat)  (sz : Nat) (f_length : Int32) (f_at : Int32) (f_command : Int32) (f_scene : Int32) (f_letter : Int32) (f_number : Int32)  (K : Int32 → Prop) (hk : xp_X0_hasMore f_length f_at K) : XMi l yX0_hasMore wsX0_hasMore ({ frames := 0, cells := 0, slots := 0, locals := 0 } : Room) D (xTY cI cC cZ cL) [.ref h] [(h, .inr (0, [.ref h_signs, .int f_length, .int f_at, .int f_command, .int f_scene, .int f_letter, .int f_number]))] sz (fun (r : Int32) (_ : Unit) => K r) (fun (_ : Unit) => [(h, .inr (0, [.ref h_signs, .int f_length, .int f_at, .int f_command, .int f_scene, .int f_letter, .int f_number]))]) :=
  x_enter (cc := cX0_hasMore) (maxL := 1) (ret := (some .boolean)) (own := RX0) (by decide) rfl rfl (Nat.le_of_ble_eq_true rfl) (fun p e s m below meth c ls C0 hA hP hD hS hl => xb_X0_hasMore_0 C0 hA  hk s.heap [] ls hP hD hS hl)
set_option maxRecDepth 20000 in
theorem xin_X0_readNumber_X0 : ∀ w ∈ u_ws RX0 TX0 7, w ∈ wsX0_readNumber := by decide +kernel
set_option maxHeartbeats 4000000 in
set_option maxRecDepth 100000 in
theorem xb_X0_readNumber_68 {p : Program} {l : Launch} {e : Env} {s : State} {m : MethodId} {args : Array Value} {below : List Frame} {meth : Method} {c : Code} {A : Nat → Prop} {D : va_G} {cI cC cZ cL : ClassId} {h h_signs : Nat}  {f_length : Int32} {f_command : Int32} {f_scene : Int32} {f_letter : Int32} {f_signs : Nat → Int32} {K : Int32 → (Int32 × Int32) → Prop}  (C0 : xC p s m args meth c cX0_readNumber 6 (some .boolean) wsX0_readNumber RX0 D (xTY cI cC cZ cL)) (hA : ∀ q : Nat, s.heap.size ≤ q → A q)  : ∀ (f_at : Int32) (f_number : Int32) , xp_X0_readNumber_68 f_signs f_length K f_at f_number → ∀ (H : Heap) (locs : List Loc) (ls : Array Slot), va_P D vwCl [(h, .inr (0, [.ref h_signs, .int f_length, .int f_at, .int f_command, .int f_scene, .int f_letter, .int f_number])), (h_signs, .inl (cC, 120, .inl f_signs))] H → va_D A [(h, .inr (0, [.ref h_signs, .int f_length, .int f_at, .int f_command, .int f_scene, .int f_letter, .int f_number])), (h_signs, .inl (cC, 120, .inl f_signs))] → va_S A s.heap H locs → lv_has ls 6 [(0, .ref h)] → W p l e ({ frames := 1, cells := 0, slots := 0, locals := 23 } : Room) s m args below meth c H locs 0 0 (MQ below (va_Qi (fun (r : Int32) (u : Int32 × Int32) => K r u) (fun u t => xE D A ((fun (u : Int32 × Int32) => [(h, .inr (0, [.ref h_signs, .int f_length, .int u.1, .int f_command, .int f_scene, .int f_letter, .int u.2])), (h_signs, .inl (cC, 120, .inl f_signs))]) u) t) A) args s 0 0 A) (F0 m 68 ls []) := by
  obtain ⟨hx, hb, hr, hml, hown, hts, hlocks, hK, hN⟩ := id C0
  intro f_at f_number hk H locs ls hP hD hS hl
  rw [xp_X0_readNumber_68] at hk
  refine lv_aload_n hx hb dX0_readNumber_68 rfl (lv_at hl 0 rfl) ?_
  refine lv_dup hx hb dX0_readNumber_69 rfl ?_
  refine va_get (D := D) (ci := 0) (v := .int f_at) (C := RX0) (T := TX0) (N := 7) hx hb hts xin_X0_readNumber_X0 hown hK hP 0 rfl rfl 2 (by decide) (hts (.fieldLink RX0 23 "TakeLog$Day" "at" "I") (by decide +kernel)) (fun _ h9 => h9) rfl dX0_readNumber_70 ?_
  refine lv_iconst (v := 1) hx hb dX0_readNumber_73 (by decide) ?_
  refine lv_isub hx hb dX0_readNumber_74 ?_
  refine va_put (D := D) (ci := 0) (v := .int (f_at - 1)) (ty := .int) (C := RX0) (T := TX0) (N := 7) hx hb hts xin_X0_readNumber_X0 tyX0 tyX0_ok nmX0 hown hK hP hD hS 0 rfl rfl 2 (by decide) (hts (.fieldLink RX0 23 "TakeLog$Day" "at" "I") (by decide +kernel)) (fun _ h9 => h9) rfl (by decide +kernel) rfl rfl (Nat.le_of_ble_eq_true rfl) dX0_readNumber_75 (fun H locs hP hD hS => ?_)
  have hP : va_P D vwCl [(h, .inr (0, [.ref h_signs, .int f_length, .int (f_at - 1), .int f_command, .int f_scene, .int f_letter, .int f_number])), (h_signs, .inl (cC, 120, .inl f_signs))] H := hP
  have hD : va_D A [(h, .inr (0, [.ref h_signs, .int f_length, .int (f_at - 1), .int f_command, .int f_scene, .int f_letter, .int f_number])), (h_signs, .inl (cC, 120, .inl f_signs))] := hD
  refine lv_iconst (v := 0) hx hb dX0_readNumber_78 (by decide) ?_
  exact x_retz rfl C0 (f_at - 1, f_number) hk hP hD hS dX0_readNumber_79
set_option maxHeartbeats 4000000 in
set_option maxRecDepth 100000 in
theorem xb_X0_readNumber_8 {p : Program} {l : Launch} {e : Env} {s : State} {m : MethodId} {args : Array Value} {below : List Frame} {meth : Method} {c : Code} {A : Nat → Prop} {D : va_G} {cI cC cZ cL : ClassId} {h h_signs : Nat}  {f_length : Int32} {f_command : Int32} {f_scene : Int32} {f_letter : Int32} {f_signs : Nat → Int32} {K : Int32 → (Int32 × Int32) → Prop}  (C0 : xC p s m args meth c cX0_readNumber 6 (some .boolean) wsX0_readNumber RX0 D (xTY cI cC cZ cL)) (hA : ∀ q : Nat, s.heap.size ≤ q → A q)  : ∀ (n : Nat) (f_at : Int32) (f_number : Int32) (v2 : Int32) (v3 : Int32) (v4 : Int32) , xp_X0_readNumber_8 f_signs f_length K n f_at f_number v2 v3 v4 → ∀ (H : Heap) (locs : List Loc) (ls : Array Slot), va_P D vwCl [(h, .inr (0, [.ref h_signs, .int f_length, .int f_at, .int f_command, .int f_scene, .int f_letter, .int f_number])), (h_signs, .inl (cC, 120, .inl f_signs))] H → va_D A [(h, .inr (0, [.ref h_signs, .int f_length, .int f_at, .int f_command, .int f_scene, .int f_letter, .int f_number])), (h_signs, .inl (cC, 120, .inl f_signs))] → va_S A s.heap H locs → lv_has ls 6 [(0, .ref h), (2, .int v2), (3, .int v3), (4, .int v4)] → W p l e ({ frames := 1, cells := 0, slots := 0, locals := 23 } : Room) s m args below meth c H locs 0 0 (MQ below (va_Qi (fun (r : Int32) (u : Int32 × Int32) => K r u) (fun u t => xE D A ((fun (u : Int32 × Int32) => [(h, .inr (0, [.ref h_signs, .int f_length, .int u.1, .int f_command, .int f_scene, .int f_letter, .int u.2])), (h_signs, .inl (cC, 120, .inl f_signs))]) u) t) A) args s 0 0 A) (F0 m 8 ls []) := by
  obtain ⟨hx, hb, hr, hml, hown, hts, hlocks, hK, hN⟩ := id C0
  intro n
  induction n with
  | zero => intro f_at f_number v2 v3 v4 hk; exact hk.elim
  | succ n ih =>
    intro f_at f_number v2 v3 v4 hk H locs ls hP hD hS hl
    rw [xp_X0_readNumber_8] at hk
    refine lv_iload hx hb dX0_readNumber_8 (lv_at hl 3 rfl) ?_
    refine lv_if_le (tgt := 90) hx hb dX0_readNumber_10 (by decide) (fun c1 => ?_) (fun c1 => ?_)
    · have hk := hk.1 c1
      refine lv_iconst (v := 1) hx hb dX0_readNumber_90 (by decide) ?_
      exact x_retz rfl C0 (f_at, f_number) hk hP hD hS dX0_readNumber_91
    · have hk := hk.2 c1
      refine lv_aload_n hx hb dX0_readNumber_13 rfl (lv_at hl 0 rfl) ?_
      refine lv_bipush (v := 48) hx hb dX0_readNumber_14 (by decide) ?_
      refine lv_bipush (v := 57) hx hb dX0_readNumber_16 (by decide) ?_
      refine x_joini (ws1 := fun (u2 : Int32) => [(h, .inr (0, [.ref h_signs, .int f_length, .int u2, .int f_command, .int f_scene, .int f_letter, .int f_number])), (h_signs, .inl (cC, 120, .inl f_signs))]) (x_runV (n0 := 2) (As := [.int 48, .int 57]) (rest := []) C0 (xc_X0_readSign l D cI cC cZ cL h h_signs H.size f_length f_at f_command f_scene f_letter f_number f_signs 48 57 _ hk) gX0_readNumber_X0_readSign rfl ⟨rfl, rfl⟩ (by decide +kernel) rfl ⟨by decide, by decide⟩ ⟨Nat.zero_le _, Nat.zero_le _⟩ hP hD [0, 1] rfl rfl (k := 0) rfl rfl rfl hl.1 rfl (Nat.le_of_ble_eq_true rfl) dX0_readNumber_18) hP hD hS hA [0, 1] [] [0, 1] rfl rfl rfl (by decide) (fun _ => rfl) rfl (fun r2 u2 H locs hk hP hD hS => ?_)
      refine lv_bipush (v := 48) hx hb dX0_readNumber_21 (by decide) ?_
      refine lv_isub hx hb dX0_readNumber_23 ?_
      refine lv_istore (lv' := [(5, .int (r2 - 48)), (0, .ref h), (2, .int v2), (3, .int v3), (4, .int v4)]) hx hb dX0_readNumber_24 hl (by decide) rfl (fun ls hl => ?_)
      refine lv_iload hx hb dX0_readNumber_26 (lv_at hl 0 rfl) ?_
      refine lv_if_ge (tgt := 33) hx hb dX0_readNumber_28 (by decide) (fun c3 => ?_) (fun c3 => ?_)
      · have hk := hk.1 c3
        refine lv_aload_n hx hb dX0_readNumber_33 rfl (lv_at hl 1 rfl) ?_
        refine lv_dup hx hb dX0_readNumber_34 rfl ?_
        refine va_get (D := D) (ci := 0) (v := .int f_number) (C := RX0) (T := TX0) (N := 7) hx hb hts xin_X0_readNumber_X0 hown hK hP 0 rfl rfl 6 (by decide) (hts (.fieldLink RX0 46 "TakeLog$Day" "number" "I") (by decide +kernel)) (fun _ h9 => h9) rfl dX0_readNumber_35 ?_
        refine lv_iload hx hb dX0_readNumber_38 (lv_at hl 0 rfl) ?_
        refine lv_iload hx hb dX0_readNumber_40 (lv_at hl 4 rfl) ?_
        refine lv_imul hx hb dX0_readNumber_42 ?_
        refine lv_iadd hx hb dX0_readNumber_43 ?_
        refine va_put (D := D) (ci := 0) (v := .int (f_number + ((r2 - 48) * v4))) (ty := .int) (C := RX0) (T := TX0) (N := 7) hx hb hts xin_X0_readNumber_X0 tyX0 tyX0_ok nmX0 hown hK hP hD hS 0 rfl rfl 6 (by decide) (hts (.fieldLink RX0 46 "TakeLog$Day" "number" "I") (by decide +kernel)) (fun _ h9 => h9) rfl (by decide +kernel) rfl rfl (Nat.le_of_ble_eq_true rfl) dX0_readNumber_44 (fun H locs hP hD hS => ?_)
        have hP : va_P D vwCl [(h, .inr (0, [.ref h_signs, .int f_length, .int u2, .int f_command, .int f_scene, .int f_letter, .int (f_number + ((r2 - 48) * v4))])), (h_signs, .inl (cC, 120, .inl f_signs))] H := hP
        have hD : va_D A [(h, .inr (0, [.ref h_signs, .int f_length, .int u2, .int f_command, .int f_scene, .int f_letter, .int (f_number + ((r2 - 48) * v4))])), (h_signs, .inl (cC, 120, .inl f_signs))] := hD
        refine lv_aload_n hx hb dX0_readNumber_47 rfl (lv_at hl 1 rfl) ?_
        refine va_get (D := D) (ci := 0) (v := .int (f_number + ((r2 - 48) * v4))) (C := RX0) (T := TX0) (N := 7) hx hb hts xin_X0_readNumber_X0 hown hK hP 0 rfl rfl 6 (by decide) (hts (.fieldLink RX0 46 "TakeLog$Day" "number" "I") (by decide +kernel)) (fun _ h9 => h9) rfl dX0_readNumber_48 ?_
        refine lv_iload_n hx hb dX0_readNumber_51 rfl (lv_at hl 3 rfl) ?_
        refine lv_icmp_gt (tgt := 68) hx hb dX0_readNumber_52 (by decide) (fun c4 => ?_) (fun c4 => ?_)
        · have hk := hk.1 c4
          exact xb_X0_readNumber_68 C0 hA  _ _ hk H locs ls hP hD hS (lv_sub hl [1] rfl)
        · have hk := hk.2 c4
          refine lv_aload_n hx hb dX0_readNumber_55 rfl (lv_at hl 1 rfl) ?_
          refine va_get (D := D) (ci := 0) (v := .int (f_number + ((r2 - 48) * v4))) (C := RX0) (T := TX0) (N := 7) hx hb hts xin_X0_readNumber_X0 hown hK hP 0 rfl rfl 6 (by decide) (hts (.fieldLink RX0 46 "TakeLog$Day" "number" "I") (by decide +kernel)) (fun _ h9 => h9) rfl dX0_readNumber_56 ?_
          refine lv_iload hx hb dX0_readNumber_59 (lv_at hl 4 rfl) ?_
          refine lv_iadd hx hb dX0_readNumber_61 ?_
          refine lv_iconst (v := 1) hx hb dX0_readNumber_62 (by decide) ?_
          refine lv_isub hx hb dX0_readNumber_63 ?_
          refine lv_iload_n hx hb dX0_readNumber_64 rfl (lv_at hl 2 rfl) ?_
          refine lv_icmp_ge (tgt := 80) hx hb dX0_readNumber_65 (by decide) (fun c5 => ?_) (fun c5 => ?_)
          · have hk := hk.1 c5
            refine lv_iload hx hb dX0_readNumber_80 (lv_at hl 4 rfl) ?_
            refine lv_bipush (v := 10) hx hb dX0_readNumber_82 (by decide) ?_
            refine lv_idiv hx hb dX0_readNumber_84 (by decide) ?_
            refine lv_istore (lv' := [(4, .int (v4 / 10)), (5, .int (r2 - 48)), (0, .ref h), (2, .int v2), (3, .int v3)]) hx hb dX0_readNumber_85 hl (by decide) rfl (fun ls hl => ?_)
            refine lv_goto (tgt := 8) hx hb dX0_readNumber_87 (by decide) ?_
            exact ih _ _ _ _ _ hk H locs ls hP hD hS (lv_sub hl [2, 3, 4, 0] rfl)
          · have hk := hk.2 c5
            exact xb_X0_readNumber_68 C0 hA  _ _ hk H locs ls hP hD hS (lv_sub hl [1] rfl)
      · have hk := hk.2 c3
        refine lv_iconst (v := 0) hx hb dX0_readNumber_31 (by decide) ?_
        exact x_retz rfl C0 (u2, f_number) hk hP hD hS dX0_readNumber_32
set_option maxHeartbeats 4000000 in
set_option maxRecDepth 100000 in
theorem xb_X0_readNumber_0 {p : Program} {l : Launch} {e : Env} {s : State} {m : MethodId} {args : Array Value} {below : List Frame} {meth : Method} {c : Code} {A : Nat → Prop} {D : va_G} {cI cC cZ cL : ClassId} {h h_signs : Nat}  {f_length : Int32} {f_command : Int32} {f_scene : Int32} {f_letter : Int32} {f_signs : Nat → Int32} {K : Int32 → (Int32 × Int32) → Prop}  (C0 : xC p s m args meth c cX0_readNumber 6 (some .boolean) wsX0_readNumber RX0 D (xTY cI cC cZ cL)) (hA : ∀ q : Nat, s.heap.size ≤ q → A q)  : ∀ (f_at : Int32) (f_number : Int32) (x1 : Int32) (x2 : Int32) (x3 : Int32) , xp_X0_readNumber f_signs f_length f_at f_number x1 x2 x3 K → ∀ (H : Heap) (locs : List Loc) (ls : Array Slot), va_P D vwCl [(h, .inr (0, [.ref h_signs, .int f_length, .int f_at, .int f_command, .int f_scene, .int f_letter, .int f_number])), (h_signs, .inl (cC, 120, .inl f_signs))] H → va_D A [(h, .inr (0, [.ref h_signs, .int f_length, .int f_at, .int f_command, .int f_scene, .int f_letter, .int f_number])), (h_signs, .inl (cC, 120, .inl f_signs))] → va_S A s.heap H locs → lv_has ls 6 [(0, .ref h), (1, .int x1), (2, .int x2), (3, .int x3)] → W p l e ({ frames := 1, cells := 0, slots := 0, locals := 23 } : Room) s m args below meth c H locs 0 0 (MQ below (va_Qi (fun (r : Int32) (u : Int32 × Int32) => K r u) (fun u t => xE D A ((fun (u : Int32 × Int32) => [(h, .inr (0, [.ref h_signs, .int f_length, .int u.1, .int f_command, .int f_scene, .int f_letter, .int u.2])), (h_signs, .inl (cC, 120, .inl f_signs))]) u) t) A) args s 0 0 A) (F0 m 0 ls []) := by
  obtain ⟨hx, hb, hr, hml, hown, hts, hlocks, hK, hN⟩ := id C0
  intro f_at f_number x1 x2 x3 hk H locs ls hP hD hS hl
  rw [xp_X0_readNumber] at hk
  refine lv_aload_n hx hb dX0_readNumber_0 rfl (lv_at hl 0 rfl) ?_
  refine lv_iconst (v := 0) hx hb dX0_readNumber_1 (by decide) ?_
  refine va_put (D := D) (ci := 0) (v := .int 0) (ty := .int) (C := RX0) (T := TX0) (N := 7) hx hb hts xin_X0_readNumber_X0 tyX0 tyX0_ok nmX0 hown hK hP hD hS 0 rfl rfl 6 (by decide) (hts (.fieldLink RX0 46 "TakeLog$Day" "number" "I") (by decide +kernel)) (fun _ h9 => h9) rfl (by decide +kernel) rfl rfl (Nat.le_of_ble_eq_true rfl) dX0_readNumber_2 (fun H locs hP hD hS => ?_)
  have hP : va_P D vwCl [(h, .inr (0, [.ref h_signs, .int f_length, .int f_at, .int f_command, .int f_scene, .int f_letter, .int 0])), (h_signs, .inl (cC, 120, .inl f_signs))] H := hP
  have hD : va_D A [(h, .inr (0, [.ref h_signs, .int f_length, .int f_at, .int f_command, .int f_scene, .int f_letter, .int 0])), (h_signs, .inl (cC, 120, .inl f_signs))] := hD
  refine lv_iload_n hx hb dX0_readNumber_5 rfl (lv_at hl 1 rfl) ?_
  refine lv_istore (lv' := [(4, .int x1), (0, .ref h), (1, .int x1), (2, .int x2), (3, .int x3)]) hx hb dX0_readNumber_6 hl (by decide) rfl (fun ls hl => ?_)
  obtain ⟨n9, hk⟩ := hk
  exact xb_X0_readNumber_8 C0 hA  n9 _ _ _ _ _ hk H locs ls hP hD hS (lv_sub hl [1, 3, 4, 0] rfl)
theorem xc_X0_readNumber (l : Launch) (D : va_G) (cI cC cZ cL : ClassId) (h h_signs : Nat)  (sz : Nat) (f_length : Int32) (f_at : Int32) (f_command : Int32) (f_scene : Int32) (f_letter : Int32) (f_number : Int32) (f_signs : Nat → Int32) (x1 : Int32) (x2 : Int32) (x3 : Int32) (K : Int32 → (Int32 × Int32) → Prop) (hk : xp_X0_readNumber f_signs f_length f_at f_number x1 x2 x3 K) : XMi l yX0_readNumber wsX0_readNumber ({ frames := 1, cells := 0, slots := 0, locals := 23 } : Room) D (xTY cI cC cZ cL) [.ref h, .int x1, .int x2, .int x3] [(h, .inr (0, [.ref h_signs, .int f_length, .int f_at, .int f_command, .int f_scene, .int f_letter, .int f_number])), (h_signs, .inl (cC, 120, .inl f_signs))] sz (fun (r : Int32) (u : Int32 × Int32) => K r u) (fun (u : Int32 × Int32) => [(h, .inr (0, [.ref h_signs, .int f_length, .int u.1, .int f_command, .int f_scene, .int f_letter, .int u.2])), (h_signs, .inl (cC, 120, .inl f_signs))]) :=
  x_enter (cc := cX0_readNumber) (maxL := 6) (ret := (some .boolean)) (own := RX0) (by decide) rfl rfl (Nat.le_of_ble_eq_true rfl) (fun p e s m below meth c ls C0 hA hP hD hS hl => xb_X0_readNumber_0 C0 hA _ _ _ _ _ hk s.heap [] ls hP hD hS hl)
set_option maxRecDepth 20000 in
theorem xin_X0_readSetup_X0 : ∀ w ∈ u_ws RX0 TX0 7, w ∈ wsX0_readSetup := by decide +kernel
set_option maxHeartbeats 4000000 in
set_option maxRecDepth 100000 in
theorem xb_X0_readSetup_0 {p : Program} {l : Launch} {e : Env} {s : State} {m : MethodId} {args : Array Value} {below : List Frame} {meth : Method} {c : Code} {A : Nat → Prop} {D : va_G} {cI cC cZ cL : ClassId} {h h_signs : Nat}  {f_length : Int32} {f_command : Int32} {f_signs : Nat → Int32} {K : Int32 → (Int32 × Int32 × Int32 × Int32) → Prop}  (C0 : xC p s m args meth c cX0_readSetup 1 (some .boolean) wsX0_readSetup RX0 D (xTY cI cC cZ cL)) (hA : ∀ q : Nat, s.heap.size ≤ q → A q)  : ∀ (f_at : Int32) (f_scene : Int32) (f_letter : Int32) (f_number : Int32) , xp_X0_readSetup f_signs f_length f_at f_scene f_letter f_number K → ∀ (H : Heap) (locs : List Loc) (ls : Array Slot), va_P D vwCl [(h, .inr (0, [.ref h_signs, .int f_length, .int f_at, .int f_command, .int f_scene, .int f_letter, .int f_number])), (h_signs, .inl (cC, 120, .inl f_signs))] H → va_D A [(h, .inr (0, [.ref h_signs, .int f_length, .int f_at, .int f_command, .int f_scene, .int f_letter, .int f_number])), (h_signs, .inl (cC, 120, .inl f_signs))] → va_S A s.heap H locs → lv_has ls 1 [(0, .ref h)] → W p l e ({ frames := 2, cells := 0, slots := 0, locals := 48 } : Room) s m args below meth c H locs 0 0 (MQ below (va_Qi (fun (r : Int32) (u : Int32 × Int32 × Int32 × Int32) => K r u) (fun u t => xE D A ((fun (u : Int32 × Int32 × Int32 × Int32) => [(h, .inr (0, [.ref h_signs, .int f_length, .int u.1, .int f_command, .int u.2.1, .int u.2.2.1, .int u.2.2.2])), (h_signs, .inl (cC, 120, .inl f_signs))]) u) t) A) args s 0 0 A) (F0 m 0 ls []) := by
  obtain ⟨hx, hb, hr, hml, hown, hts, hlocks, hK, hN⟩ := id C0
  intro f_at f_scene f_letter f_number hk H locs ls hP hD hS hl
  rw [xp_X0_readSetup] at hk
  refine lv_aload_n hx hb dX0_readSetup_0 rfl (lv_at hl 0 rfl) ?_
  refine lv_bipush (v := 10) hx hb dX0_readSetup_1 (by decide) ?_
  refine lv_iconst (v := 1) hx hb dX0_readSetup_3 (by decide) ?_
  refine lv_bipush (v := 99) hx hb dX0_readSetup_4 (by decide) ?_
  refine x_joini (ws1 := fun (u1 : Int32 × Int32) => [(h, .inr (0, [.ref h_signs, .int f_length, .int u1.1, .int f_command, .int f_scene, .int f_letter, .int u1.2])), (h_signs, .inl (cC, 120, .inl f_signs))]) (x_runV (n0 := 3) (As := [.int 10, .int 1, .int 99]) (rest := []) C0 (xc_X0_readNumber l D cI cC cZ cL h h_signs H.size f_length f_at f_command f_scene f_letter f_number f_signs 10 1 99 _ hk) gX0_readSetup_X0_readNumber rfl ⟨rfl, rfl⟩ (by decide +kernel) rfl ⟨by decide, by decide⟩ ⟨Nat.zero_le _, Nat.zero_le _⟩ hP hD [0, 1] rfl rfl (k := 0) rfl rfl rfl hl.1 rfl (Nat.le_of_ble_eq_true rfl) dX0_readSetup_6) hP hD hS hA [0, 1] [] [0, 1] rfl rfl rfl (by decide) (fun _ => rfl) rfl (fun r1 u1 H locs hk hP hD hS => ?_)
  refine lv_if_ne (tgt := 14) hx hb dX0_readSetup_9 (by decide) (fun c2 => ?_) (fun c2 => ?_)
  · have hk := hk.1 c2
    refine lv_aload_n hx hb dX0_readSetup_14 rfl (lv_at hl 0 rfl) ?_
    refine lv_aload_n hx hb dX0_readSetup_15 rfl (lv_at hl 0 rfl) ?_
    refine va_get (D := D) (ci := 0) (v := .int u1.2) (C := RX0) (T := TX0) (N := 7) hx hb hts xin_X0_readSetup_X0 hown hK hP 0 rfl rfl 6 (by decide) (hts (.fieldLink RX0 46 "TakeLog$Day" "number" "I") (by decide +kernel)) (fun _ h9 => h9) rfl dX0_readSetup_16 ?_
    refine va_put (D := D) (ci := 0) (v := .int u1.2) (ty := .int) (C := RX0) (T := TX0) (N := 7) hx hb hts xin_X0_readSetup_X0 tyX0 tyX0_ok nmX0 hown hK hP hD hS 0 rfl rfl 4 (by decide) (hts (.fieldLink RX0 49 "TakeLog$Day" "scene" "I") (by decide +kernel)) (fun _ h9 => h9) rfl (by decide +kernel) rfl rfl (Nat.le_of_ble_eq_true rfl) dX0_readSetup_19 (fun H locs hP hD hS => ?_)
    have hP : va_P D vwCl [(h, .inr (0, [.ref h_signs, .int f_length, .int u1.1, .int f_command, .int u1.2, .int f_letter, .int u1.2])), (h_signs, .inl (cC, 120, .inl f_signs))] H := hP
    have hD : va_D A [(h, .inr (0, [.ref h_signs, .int f_length, .int u1.1, .int f_command, .int u1.2, .int f_letter, .int u1.2])), (h_signs, .inl (cC, 120, .inl f_signs))] := hD
    refine lv_aload_n hx hb dX0_readSetup_22 rfl (lv_at hl 0 rfl) ?_
    refine lv_aload_n hx hb dX0_readSetup_23 rfl (lv_at hl 0 rfl) ?_
    refine lv_bipush (v := 65) hx hb dX0_readSetup_24 (by decide) ?_
    refine lv_bipush (v := 90) hx hb dX0_readSetup_26 (by decide) ?_
    refine x_joini (ws1 := fun (u3 : Int32) => [(h, .inr (0, [.ref h_signs, .int f_length, .int u3, .int f_command, .int u1.2, .int f_letter, .int u1.2])), (h_signs, .inl (cC, 120, .inl f_signs))]) (x_runV (n0 := 2) (As := [.int 65, .int 90]) (rest := [.ref h]) C0 (xc_X0_readSign l D cI cC cZ cL h h_signs H.size f_length u1.1 f_command u1.2 f_letter u1.2 f_signs 65 90 _ hk) gX0_readSetup_X0_readSign rfl ⟨rfl, rfl⟩ (by decide +kernel) rfl ⟨by decide, by decide⟩ ⟨Nat.zero_le _, Nat.zero_le _⟩ hP hD [0, 1] rfl rfl (k := 0) rfl rfl rfl hl.1 rfl (Nat.le_of_ble_eq_true rfl) dX0_readSetup_28) hP hD hS hA [0, 1] [] [0, 1] rfl rfl rfl (by decide) (fun _ => rfl) rfl (fun r3 u3 H locs hk hP hD hS => ?_)
    refine lv_bipush (v := 65) hx hb dX0_readSetup_31 (by decide) ?_
    refine lv_isub hx hb dX0_readSetup_33 ?_
    refine va_put (D := D) (ci := 0) (v := .int (r3 - 65)) (ty := .int) (C := RX0) (T := TX0) (N := 7) hx hb hts xin_X0_readSetup_X0 tyX0 tyX0_ok nmX0 hown hK hP hD hS 0 rfl rfl 5 (by decide) (hts (.fieldLink RX0 52 "TakeLog$Day" "letter" "I") (by decide +kernel)) (fun _ h9 => h9) rfl (by decide +kernel) rfl rfl (Nat.le_of_ble_eq_true rfl) dX0_readSetup_34 (fun H locs hP hD hS => ?_)
    have hP : va_P D vwCl [(h, .inr (0, [.ref h_signs, .int f_length, .int u3, .int f_command, .int u1.2, .int (r3 - 65), .int u1.2])), (h_signs, .inl (cC, 120, .inl f_signs))] H := hP
    have hD : va_D A [(h, .inr (0, [.ref h_signs, .int f_length, .int u3, .int f_command, .int u1.2, .int (r3 - 65), .int u1.2])), (h_signs, .inl (cC, 120, .inl f_signs))] := hD
    refine lv_aload_n hx hb dX0_readSetup_37 rfl (lv_at hl 0 rfl) ?_
    refine va_get (D := D) (ci := 0) (v := .int (r3 - 65)) (C := RX0) (T := TX0) (N := 7) hx hb hts xin_X0_readSetup_X0 hown hK hP 0 rfl rfl 5 (by decide) (hts (.fieldLink RX0 52 "TakeLog$Day" "letter" "I") (by decide +kernel)) (fun _ h9 => h9) rfl dX0_readSetup_38 ?_
    refine lv_if_lt (tgt := 48) hx hb dX0_readSetup_41 (by decide) (fun c4 => ?_) (fun c4 => ?_)
    · have hk := hk.1 c4
      refine lv_iconst (v := 0) hx hb dX0_readSetup_48 (by decide) ?_
      exact x_retz rfl C0 (u3, u1.2, r3 - 65, u1.2) hk hP hD hS dX0_readSetup_49
    · have hk := hk.2 c4
      refine lv_iconst (v := 1) hx hb dX0_readSetup_44 (by decide) ?_
      refine lv_goto (tgt := 49) hx hb dX0_readSetup_45 (by decide) ?_
      exact x_retz rfl C0 (u3, u1.2, r3 - 65, u1.2) hk hP hD hS dX0_readSetup_49
  · have hk := hk.2 c2
    refine lv_iconst (v := 0) hx hb dX0_readSetup_12 (by decide) ?_
    exact x_retz rfl C0 (u1.1, f_scene, f_letter, u1.2) hk hP hD hS dX0_readSetup_13
theorem xc_X0_readSetup (l : Launch) (D : va_G) (cI cC cZ cL : ClassId) (h h_signs : Nat)  (sz : Nat) (f_length : Int32) (f_at : Int32) (f_command : Int32) (f_scene : Int32) (f_letter : Int32) (f_number : Int32) (f_signs : Nat → Int32)  (K : Int32 → (Int32 × Int32 × Int32 × Int32) → Prop) (hk : xp_X0_readSetup f_signs f_length f_at f_scene f_letter f_number K) : XMi l yX0_readSetup wsX0_readSetup ({ frames := 2, cells := 0, slots := 0, locals := 48 } : Room) D (xTY cI cC cZ cL) [.ref h] [(h, .inr (0, [.ref h_signs, .int f_length, .int f_at, .int f_command, .int f_scene, .int f_letter, .int f_number])), (h_signs, .inl (cC, 120, .inl f_signs))] sz (fun (r : Int32) (u : Int32 × Int32 × Int32 × Int32) => K r u) (fun (u : Int32 × Int32 × Int32 × Int32) => [(h, .inr (0, [.ref h_signs, .int f_length, .int u.1, .int f_command, .int u.2.1, .int u.2.2.1, .int u.2.2.2])), (h_signs, .inl (cC, 120, .inl f_signs))]) :=
  x_enter (cc := cX0_readSetup) (maxL := 1) (ret := (some .boolean)) (own := RX0) (by decide) rfl rfl (Nat.le_of_ble_eq_true rfl) (fun p e s m below meth c ls C0 hA hP hD hS hl => xb_X0_readSetup_0 C0 hA _ _ _ _ hk s.heap [] ls hP hD hS hl)
set_option maxRecDepth 20000 in
theorem xin_X0_readCommand_X0 : ∀ w ∈ u_ws RX0 TX0 7, w ∈ wsX0_readCommand := by decide +kernel
set_option maxHeartbeats 4000000 in
set_option maxRecDepth 100000 in
theorem xb_X0_readCommand_0 {p : Program} {l : Launch} {e : Env} {s : State} {m : MethodId} {args : Array Value} {below : List Frame} {meth : Method} {c : Code} {A : Nat → Prop} {D : va_G} {cI cC cZ cL : ClassId} {h h_signs : Nat}  {f_length : Int32} {f_signs : Nat → Int32} {K : Int32 → (Int32 × Int32 × Int32 × Int32 × Int32) → Prop}  (C0 : xC p s m args meth c cX0_readCommand 2 (some .boolean) wsX0_readCommand RX0 D (xTY cI cC cZ cL)) (hA : ∀ q : Nat, s.heap.size ≤ q → A q)  : ∀ (f_at : Int32) (f_command : Int32) (f_scene : Int32) (f_letter : Int32) (f_number : Int32) , xp_X0_readCommand f_signs f_length f_at f_command f_scene f_letter f_number K → ∀ (H : Heap) (locs : List Loc) (ls : Array Slot), va_P D vwCl [(h, .inr (0, [.ref h_signs, .int f_length, .int f_at, .int f_command, .int f_scene, .int f_letter, .int f_number])), (h_signs, .inl (cC, 120, .inl f_signs))] H → va_D A [(h, .inr (0, [.ref h_signs, .int f_length, .int f_at, .int f_command, .int f_scene, .int f_letter, .int f_number])), (h_signs, .inl (cC, 120, .inl f_signs))] → va_S A s.heap H locs → lv_has ls 2 [(0, .ref h)] → W p l e ({ frames := 3, cells := 0, slots := 0, locals := 68 } : Room) s m args below meth c H locs 0 0 (MQ below (va_Qi (fun (r : Int32) (u : Int32 × Int32 × Int32 × Int32 × Int32) => K r u) (fun u t => xE D A ((fun (u : Int32 × Int32 × Int32 × Int32 × Int32) => [(h, .inr (0, [.ref h_signs, .int f_length, .int u.1, .int u.2.1, .int u.2.2.1, .int u.2.2.2.1, .int u.2.2.2.2])), (h_signs, .inl (cC, 120, .inl f_signs))]) u) t) A) args s 0 0 A) (F0 m 0 ls []) := by
  obtain ⟨hx, hb, hr, hml, hown, hts, hlocks, hK, hN⟩ := id C0
  intro f_at f_command f_scene f_letter f_number hk H locs ls hP hD hS hl
  rw [xp_X0_readCommand] at hk
  refine lv_aload_n hx hb dX0_readCommand_0 rfl (lv_at hl 0 rfl) ?_
  refine va_get (D := D) (ci := 0) (v := .int f_at) (C := RX0) (T := TX0) (N := 7) hx hb hts xin_X0_readCommand_X0 hown hK hP 0 rfl rfl 2 (by decide) (hts (.fieldLink RX0 23 "TakeLog$Day" "at" "I") (by decide +kernel)) (fun _ h9 => h9) rfl dX0_readCommand_1 ?_
  refine lv_istore_n (lv' := [(1, .int f_at), (0, .ref h)]) hx hb dX0_readCommand_4 rfl hl (by decide) rfl (fun ls hl => ?_)
  refine lv_aload_n hx hb dX0_readCommand_5 rfl (lv_at hl 1 rfl) ?_
  refine lv_aload_n hx hb dX0_readCommand_6 rfl (lv_at hl 1 rfl) ?_
  refine lv_bipush (v := 97) hx hb dX0_readCommand_7 (by decide) ?_
  refine lv_bipush (v := 122) hx hb dX0_readCommand_9 (by decide) ?_
  refine x_joini (ws1 := fun (u1 : Int32) => [(h, .inr (0, [.ref h_signs, .int f_length, .int u1, .int f_command, .int f_scene, .int f_letter, .int f_number])), (h_signs, .inl (cC, 120, .inl f_signs))]) (x_runV (n0 := 2) (As := [.int 97, .int 122]) (rest := [.ref h]) C0 (xc_X0_readSign l D cI cC cZ cL h h_signs H.size f_length f_at f_command f_scene f_letter f_number f_signs 97 122 _ hk) gX0_readCommand_X0_readSign rfl ⟨rfl, rfl⟩ (by decide +kernel) rfl ⟨by decide, by decide⟩ ⟨Nat.zero_le _, Nat.zero_le _⟩ hP hD [0, 1] rfl rfl (k := 0) rfl rfl rfl hl.1 rfl (Nat.le_of_ble_eq_true rfl) dX0_readCommand_11) hP hD hS hA [0, 1] [] [0, 1] rfl rfl rfl (by decide) (fun _ => rfl) rfl (fun r1 u1 H locs hk hP hD hS => ?_)
  refine va_put (D := D) (ci := 0) (v := .int r1) (ty := .int) (C := RX0) (T := TX0) (N := 7) hx hb hts xin_X0_readCommand_X0 tyX0 tyX0_ok nmX0 hown hK hP hD hS 0 rfl rfl 3 (by decide) (hts (.fieldLink RX0 36 "TakeLog$Day" "command" "I") (by decide +kernel)) (fun _ h9 => h9) rfl (by decide +kernel) rfl rfl (Nat.le_of_ble_eq_true rfl) dX0_readCommand_14 (fun H locs hP hD hS => ?_)
  have hP : va_P D vwCl [(h, .inr (0, [.ref h_signs, .int f_length, .int u1, .int r1, .int f_scene, .int f_letter, .int f_number])), (h_signs, .inl (cC, 120, .inl f_signs))] H := hP
  have hD : va_D A [(h, .inr (0, [.ref h_signs, .int f_length, .int u1, .int r1, .int f_scene, .int f_letter, .int f_number])), (h_signs, .inl (cC, 120, .inl f_signs))] := hD
  refine lv_aload_n hx hb dX0_readCommand_17 rfl (lv_at hl 1 rfl) ?_
  refine va_get (D := D) (ci := 0) (v := .int r1) (C := RX0) (T := TX0) (N := 7) hx hb hts xin_X0_readCommand_X0 hown hK hP 0 rfl rfl 3 (by decide) (hts (.fieldLink RX0 36 "TakeLog$Day" "command" "I") (by decide +kernel)) (fun _ h9 => h9) rfl dX0_readCommand_18 ?_
  by_cases c3 : r1 = 98
  · have hk := hk.1 c3
    refine lv_tableIn (x := r1) (off := 104) (tgt := 125) hx hb dX0_readCommand_21 (by rw [c3]; decide) (by rw [c3]; decide) (by rw [c3]; rfl) (by decide) ?_
    refine lv_aload_n hx hb dX0_readCommand_125 rfl (lv_at hl 1 rfl) ?_
    refine x_joini (ws1 := fun (u4 : Int32 × Int32 × Int32 × Int32) => [(h, .inr (0, [.ref h_signs, .int f_length, .int u4.1, .int r1, .int u4.2.1, .int u4.2.2.1, .int u4.2.2.2])), (h_signs, .inl (cC, 120, .inl f_signs))]) (x_runV (n0 := 0) (As := []) (rest := []) C0 (xc_X0_readSetup l D cI cC cZ cL h h_signs H.size f_length u1 r1 f_scene f_letter f_number f_signs _ hk) gX0_readCommand_X0_readSetup rfl ⟨rfl, rfl⟩ (by decide +kernel) rfl ⟨by decide, by decide⟩ ⟨Nat.zero_le _, Nat.zero_le _⟩ hP hD [0, 1] rfl rfl (k := 0) rfl rfl rfl hl.1 rfl (Nat.le_of_ble_eq_true rfl) dX0_readCommand_126) hP hD hS hA [0, 1] [] [0, 1] rfl rfl rfl (by decide) (fun _ => rfl) rfl (fun r4 u4 H locs hk hP hD hS => ?_)
    refine lv_if_eq (tgt := 148) hx hb dX0_readCommand_129 (by decide) (fun c5 => ?_) (fun c5 => ?_)
    · have hk := hk.1 c5
      refine lv_iconst (v := 0) hx hb dX0_readCommand_148 (by decide) ?_
      exact x_retz rfl C0 (u4.1, r1, u4.2.1, u4.2.2.1, u4.2.2.2) hk hP hD hS dX0_readCommand_149
    · have hk := hk.2 c5
      refine lv_aload_n hx hb dX0_readCommand_132 rfl (lv_at hl 1 rfl) ?_
      refine lv_bipush (v := 10) hx hb dX0_readCommand_133 (by decide) ?_
      refine lv_iconst (v := 1) hx hb dX0_readCommand_135 (by decide) ?_
      refine lv_bipush (v := 99) hx hb dX0_readCommand_136 (by decide) ?_
      refine x_joini (ws1 := fun (u6 : Int32 × Int32) => [(h, .inr (0, [.ref h_signs, .int f_length, .int u6.1, .int r1, .int u4.2.1, .int u4.2.2.1, .int u6.2])), (h_signs, .inl (cC, 120, .inl f_signs))]) (x_runV (n0 := 3) (As := [.int 10, .int 1, .int 99]) (rest := []) C0 (xc_X0_readNumber l D cI cC cZ cL h h_signs H.size f_length u4.1 r1 u4.2.1 u4.2.2.1 u4.2.2.2 f_signs 10 1 99 _ hk) gX0_readCommand_X0_readNumber rfl ⟨rfl, rfl⟩ (by decide +kernel) rfl ⟨by decide, by decide⟩ ⟨Nat.zero_le _, Nat.zero_le _⟩ hP hD [0, 1] rfl rfl (k := 0) rfl rfl rfl hl.1 rfl (Nat.le_of_ble_eq_true rfl) dX0_readCommand_138) hP hD hS hA [0, 1] [] [0, 1] rfl rfl rfl (by decide) (fun _ => rfl) rfl (fun r6 u6 H locs hk hP hD hS => ?_)
      refine lv_if_eq (tgt := 148) hx hb dX0_readCommand_141 (by decide) (fun c7 => ?_) (fun c7 => ?_)
      · have hk := hk.1 c7
        refine lv_iconst (v := 0) hx hb dX0_readCommand_148 (by decide) ?_
        exact x_retz rfl C0 (u6.1, r1, u4.2.1, u4.2.2.1, u6.2) hk hP hD hS dX0_readCommand_149
      · have hk := hk.2 c7
        refine lv_iconst (v := 1) hx hb dX0_readCommand_144 (by decide) ?_
        refine lv_goto (tgt := 149) hx hb dX0_readCommand_145 (by decide) ?_
        exact x_retz rfl C0 (u6.1, r1, u4.2.1, u4.2.2.1, u6.2) hk hP hD hS dX0_readCommand_149
  have hk := hk.2 c3
  by_cases c8 : r1 = 99
  · have hk := hk.1 c8
    refine lv_tableIn (x := r1) (off := 99) (tgt := 120) hx hb dX0_readCommand_21 (by rw [c8]; decide) (by rw [c8]; decide) (by rw [c8]; rfl) (by decide) ?_
    refine lv_aload_n hx hb dX0_readCommand_120 rfl (lv_at hl 1 rfl) ?_
    refine x_joini (ws1 := fun (u9 : Int32 × Int32 × Int32 × Int32) => [(h, .inr (0, [.ref h_signs, .int f_length, .int u9.1, .int r1, .int u9.2.1, .int u9.2.2.1, .int u9.2.2.2])), (h_signs, .inl (cC, 120, .inl f_signs))]) (x_runV (n0 := 0) (As := []) (rest := []) C0 (xc_X0_readSetup l D cI cC cZ cL h h_signs H.size f_length u1 r1 f_scene f_letter f_number f_signs _ hk) gX0_readCommand_X0_readSetup rfl ⟨rfl, rfl⟩ (by decide +kernel) rfl ⟨by decide, by decide⟩ ⟨Nat.zero_le _, Nat.zero_le _⟩ hP hD [0, 1] rfl rfl (k := 0) rfl rfl rfl hl.1 rfl (Nat.le_of_ble_eq_true rfl) dX0_readCommand_121) hP hD hS hA [0, 1] [] [0, 1] rfl rfl rfl (by decide) (fun _ => rfl) rfl (fun r9 u9 H locs hk hP hD hS => ?_)
    exact x_retz hk.1 C0 (u9.1, r1, u9.2.1, u9.2.2.1, u9.2.2.2) hk.2 hP hD hS dX0_readCommand_124
  have hk := hk.2 c8
  by_cases c10 : r1 = 100
  · have hk := hk.1 c10
    refine lv_tableIn (x := r1) (off := 161) (tgt := 182) hx hb dX0_readCommand_21 (by rw [c10]; decide) (by rw [c10]; decide) (by rw [c10]; rfl) (by decide) ?_
    refine lv_aload_n hx hb dX0_readCommand_182 rfl (lv_at hl 1 rfl) ?_
    refine lv_iload_n hx hb dX0_readCommand_183 rfl (lv_at hl 0 rfl) ?_
    refine va_put (D := D) (ci := 0) (v := .int f_at) (ty := .int) (C := RX0) (T := TX0) (N := 7) hx hb hts xin_X0_readCommand_X0 tyX0 tyX0_ok nmX0 hown hK hP hD hS 0 rfl rfl 2 (by decide) (hts (.fieldLink RX0 23 "TakeLog$Day" "at" "I") (by decide +kernel)) (fun _ h9 => h9) rfl (by decide +kernel) rfl rfl (Nat.le_of_ble_eq_true rfl) dX0_readCommand_184 (fun H locs hP hD hS => ?_)
    have hP : va_P D vwCl [(h, .inr (0, [.ref h_signs, .int f_length, .int f_at, .int r1, .int f_scene, .int f_letter, .int f_number])), (h_signs, .inl (cC, 120, .inl f_signs))] H := hP
    have hD : va_D A [(h, .inr (0, [.ref h_signs, .int f_length, .int f_at, .int r1, .int f_scene, .int f_letter, .int f_number])), (h_signs, .inl (cC, 120, .inl f_signs))] := hD
    refine lv_iconst (v := 0) hx hb dX0_readCommand_187 (by decide) ?_
    exact x_retz rfl C0 (f_at, r1, f_scene, f_letter, f_number) hk hP hD hS dX0_readCommand_188
  have hk := hk.2 c10
  by_cases c11 : r1 = 101
  · have hk := hk.1 c11
    refine lv_tableIn (x := r1) (off := 161) (tgt := 182) hx hb dX0_readCommand_21 (by rw [c11]; decide) (by rw [c11]; decide) (by rw [c11]; rfl) (by decide) ?_
    refine lv_aload_n hx hb dX0_readCommand_182 rfl (lv_at hl 1 rfl) ?_
    refine lv_iload_n hx hb dX0_readCommand_183 rfl (lv_at hl 0 rfl) ?_
    refine va_put (D := D) (ci := 0) (v := .int f_at) (ty := .int) (C := RX0) (T := TX0) (N := 7) hx hb hts xin_X0_readCommand_X0 tyX0 tyX0_ok nmX0 hown hK hP hD hS 0 rfl rfl 2 (by decide) (hts (.fieldLink RX0 23 "TakeLog$Day" "at" "I") (by decide +kernel)) (fun _ h9 => h9) rfl (by decide +kernel) rfl rfl (Nat.le_of_ble_eq_true rfl) dX0_readCommand_184 (fun H locs hP hD hS => ?_)
    have hP : va_P D vwCl [(h, .inr (0, [.ref h_signs, .int f_length, .int f_at, .int r1, .int f_scene, .int f_letter, .int f_number])), (h_signs, .inl (cC, 120, .inl f_signs))] H := hP
    have hD : va_D A [(h, .inr (0, [.ref h_signs, .int f_length, .int f_at, .int r1, .int f_scene, .int f_letter, .int f_number])), (h_signs, .inl (cC, 120, .inl f_signs))] := hD
    refine lv_iconst (v := 0) hx hb dX0_readCommand_187 (by decide) ?_
    exact x_retz rfl C0 (f_at, r1, f_scene, f_letter, f_number) hk hP hD hS dX0_readCommand_188
  have hk := hk.2 c11
  by_cases c12 : r1 = 102
  · have hk := hk.1 c12
    refine lv_tableIn (x := r1) (off := 139) (tgt := 160) hx hb dX0_readCommand_21 (by rw [c12]; decide) (by rw [c12]; decide) (by rw [c12]; rfl) (by decide) ?_
    refine lv_aload_n hx hb dX0_readCommand_160 rfl (lv_at hl 1 rfl) ?_
    refine lv_bipush (v := 10) hx hb dX0_readCommand_161 (by decide) ?_
    refine lv_iconst (v := 0) hx hb dX0_readCommand_163 (by decide) ?_
    refine lv_bipush (v := 23) hx hb dX0_readCommand_164 (by decide) ?_
    refine x_joini (ws1 := fun (u13 : Int32 × Int32) => [(h, .inr (0, [.ref h_signs, .int f_length, .int u13.1, .int r1, .int f_scene, .int f_letter, .int u13.2])), (h_signs, .inl (cC, 120, .inl f_signs))]) (x_runV (n0 := 3) (As := [.int 10, .int 0, .int 23]) (rest := []) C0 (xc_X0_readNumber l D cI cC cZ cL h h_signs H.size f_length u1 r1 f_scene f_letter f_number f_signs 10 0 23 _ hk) gX0_readCommand_X0_readNumber rfl ⟨rfl, rfl⟩ (by decide +kernel) rfl ⟨by decide, by decide⟩ ⟨Nat.zero_le _, Nat.zero_le _⟩ hP hD [0, 1] rfl rfl (k := 0) rfl rfl rfl hl.1 rfl (Nat.le_of_ble_eq_true rfl) dX0_readCommand_166) hP hD hS hA [0, 1] [] [0, 1] rfl rfl rfl (by decide) (fun _ => rfl) rfl (fun r13 u13 H locs hk hP hD hS => ?_)
    exact x_retz hk.1 C0 (u13.1, r1, f_scene, f_letter, u13.2) hk.2 hP hD hS dX0_readCommand_169
  have hk := hk.2 c12
  by_cases c14 : r1 = 103
  · have hk := hk.1 c14
    refine lv_tableIn (x := r1) (off := 161) (tgt := 182) hx hb dX0_readCommand_21 (by rw [c14]; decide) (by rw [c14]; decide) (by rw [c14]; rfl) (by decide) ?_
    refine lv_aload_n hx hb dX0_readCommand_182 rfl (lv_at hl 1 rfl) ?_
    refine lv_iload_n hx hb dX0_readCommand_183 rfl (lv_at hl 0 rfl) ?_
    refine va_put (D := D) (ci := 0) (v := .int f_at) (ty := .int) (C := RX0) (T := TX0) (N := 7) hx hb hts xin_X0_readCommand_X0 tyX0 tyX0_ok nmX0 hown hK hP hD hS 0 rfl rfl 2 (by decide) (hts (.fieldLink RX0 23 "TakeLog$Day" "at" "I") (by decide +kernel)) (fun _ h9 => h9) rfl (by decide +kernel) rfl rfl (Nat.le_of_ble_eq_true rfl) dX0_readCommand_184 (fun H locs hP hD hS => ?_)
    have hP : va_P D vwCl [(h, .inr (0, [.ref h_signs, .int f_length, .int f_at, .int r1, .int f_scene, .int f_letter, .int f_number])), (h_signs, .inl (cC, 120, .inl f_signs))] H := hP
    have hD : va_D A [(h, .inr (0, [.ref h_signs, .int f_length, .int f_at, .int r1, .int f_scene, .int f_letter, .int f_number])), (h_signs, .inl (cC, 120, .inl f_signs))] := hD
    refine lv_iconst (v := 0) hx hb dX0_readCommand_187 (by decide) ?_
    exact x_retz rfl C0 (f_at, r1, f_scene, f_letter, f_number) hk hP hD hS dX0_readCommand_188
  have hk := hk.2 c14
  by_cases c15 : r1 = 104
  · have hk := hk.1 c15
    refine lv_tableIn (x := r1) (off := 161) (tgt := 182) hx hb dX0_readCommand_21 (by rw [c15]; decide) (by rw [c15]; decide) (by rw [c15]; rfl) (by decide) ?_
    refine lv_aload_n hx hb dX0_readCommand_182 rfl (lv_at hl 1 rfl) ?_
    refine lv_iload_n hx hb dX0_readCommand_183 rfl (lv_at hl 0 rfl) ?_
    refine va_put (D := D) (ci := 0) (v := .int f_at) (ty := .int) (C := RX0) (T := TX0) (N := 7) hx hb hts xin_X0_readCommand_X0 tyX0 tyX0_ok nmX0 hown hK hP hD hS 0 rfl rfl 2 (by decide) (hts (.fieldLink RX0 23 "TakeLog$Day" "at" "I") (by decide +kernel)) (fun _ h9 => h9) rfl (by decide +kernel) rfl rfl (Nat.le_of_ble_eq_true rfl) dX0_readCommand_184 (fun H locs hP hD hS => ?_)
    have hP : va_P D vwCl [(h, .inr (0, [.ref h_signs, .int f_length, .int f_at, .int r1, .int f_scene, .int f_letter, .int f_number])), (h_signs, .inl (cC, 120, .inl f_signs))] H := hP
    have hD : va_D A [(h, .inr (0, [.ref h_signs, .int f_length, .int f_at, .int r1, .int f_scene, .int f_letter, .int f_number])), (h_signs, .inl (cC, 120, .inl f_signs))] := hD
    refine lv_iconst (v := 0) hx hb dX0_readCommand_187 (by decide) ?_
    exact x_retz rfl C0 (f_at, r1, f_scene, f_letter, f_number) hk hP hD hS dX0_readCommand_188
  have hk := hk.2 c15
  by_cases c16 : r1 = 105
  · have hk := hk.1 c16
    refine lv_tableIn (x := r1) (off := 161) (tgt := 182) hx hb dX0_readCommand_21 (by rw [c16]; decide) (by rw [c16]; decide) (by rw [c16]; rfl) (by decide) ?_
    refine lv_aload_n hx hb dX0_readCommand_182 rfl (lv_at hl 1 rfl) ?_
    refine lv_iload_n hx hb dX0_readCommand_183 rfl (lv_at hl 0 rfl) ?_
    refine va_put (D := D) (ci := 0) (v := .int f_at) (ty := .int) (C := RX0) (T := TX0) (N := 7) hx hb hts xin_X0_readCommand_X0 tyX0 tyX0_ok nmX0 hown hK hP hD hS 0 rfl rfl 2 (by decide) (hts (.fieldLink RX0 23 "TakeLog$Day" "at" "I") (by decide +kernel)) (fun _ h9 => h9) rfl (by decide +kernel) rfl rfl (Nat.le_of_ble_eq_true rfl) dX0_readCommand_184 (fun H locs hP hD hS => ?_)
    have hP : va_P D vwCl [(h, .inr (0, [.ref h_signs, .int f_length, .int f_at, .int r1, .int f_scene, .int f_letter, .int f_number])), (h_signs, .inl (cC, 120, .inl f_signs))] H := hP
    have hD : va_D A [(h, .inr (0, [.ref h_signs, .int f_length, .int f_at, .int r1, .int f_scene, .int f_letter, .int f_number])), (h_signs, .inl (cC, 120, .inl f_signs))] := hD
    refine lv_iconst (v := 0) hx hb dX0_readCommand_187 (by decide) ?_
    exact x_retz rfl C0 (f_at, r1, f_scene, f_letter, f_number) hk hP hD hS dX0_readCommand_188
  have hk := hk.2 c16
  by_cases c17 : r1 = 106
  · have hk := hk.1 c17
    refine lv_tableIn (x := r1) (off := 161) (tgt := 182) hx hb dX0_readCommand_21 (by rw [c17]; decide) (by rw [c17]; decide) (by rw [c17]; rfl) (by decide) ?_
    refine lv_aload_n hx hb dX0_readCommand_182 rfl (lv_at hl 1 rfl) ?_
    refine lv_iload_n hx hb dX0_readCommand_183 rfl (lv_at hl 0 rfl) ?_
    refine va_put (D := D) (ci := 0) (v := .int f_at) (ty := .int) (C := RX0) (T := TX0) (N := 7) hx hb hts xin_X0_readCommand_X0 tyX0 tyX0_ok nmX0 hown hK hP hD hS 0 rfl rfl 2 (by decide) (hts (.fieldLink RX0 23 "TakeLog$Day" "at" "I") (by decide +kernel)) (fun _ h9 => h9) rfl (by decide +kernel) rfl rfl (Nat.le_of_ble_eq_true rfl) dX0_readCommand_184 (fun H locs hP hD hS => ?_)
    have hP : va_P D vwCl [(h, .inr (0, [.ref h_signs, .int f_length, .int f_at, .int r1, .int f_scene, .int f_letter, .int f_number])), (h_signs, .inl (cC, 120, .inl f_signs))] H := hP
    have hD : va_D A [(h, .inr (0, [.ref h_signs, .int f_length, .int f_at, .int r1, .int f_scene, .int f_letter, .int f_number])), (h_signs, .inl (cC, 120, .inl f_signs))] := hD
    refine lv_iconst (v := 0) hx hb dX0_readCommand_187 (by decide) ?_
    exact x_retz rfl C0 (f_at, r1, f_scene, f_letter, f_number) hk hP hD hS dX0_readCommand_188
  have hk := hk.2 c17
  by_cases c18 : r1 = 107
  · have hk := hk.1 c18
    refine lv_tableIn (x := r1) (off := 161) (tgt := 182) hx hb dX0_readCommand_21 (by rw [c18]; decide) (by rw [c18]; decide) (by rw [c18]; rfl) (by decide) ?_
    refine lv_aload_n hx hb dX0_readCommand_182 rfl (lv_at hl 1 rfl) ?_
    refine lv_iload_n hx hb dX0_readCommand_183 rfl (lv_at hl 0 rfl) ?_
    refine va_put (D := D) (ci := 0) (v := .int f_at) (ty := .int) (C := RX0) (T := TX0) (N := 7) hx hb hts xin_X0_readCommand_X0 tyX0 tyX0_ok nmX0 hown hK hP hD hS 0 rfl rfl 2 (by decide) (hts (.fieldLink RX0 23 "TakeLog$Day" "at" "I") (by decide +kernel)) (fun _ h9 => h9) rfl (by decide +kernel) rfl rfl (Nat.le_of_ble_eq_true rfl) dX0_readCommand_184 (fun H locs hP hD hS => ?_)
    have hP : va_P D vwCl [(h, .inr (0, [.ref h_signs, .int f_length, .int f_at, .int r1, .int f_scene, .int f_letter, .int f_number])), (h_signs, .inl (cC, 120, .inl f_signs))] H := hP
    have hD : va_D A [(h, .inr (0, [.ref h_signs, .int f_length, .int f_at, .int r1, .int f_scene, .int f_letter, .int f_number])), (h_signs, .inl (cC, 120, .inl f_signs))] := hD
    refine lv_iconst (v := 0) hx hb dX0_readCommand_187 (by decide) ?_
    exact x_retz rfl C0 (f_at, r1, f_scene, f_letter, f_number) hk hP hD hS dX0_readCommand_188
  have hk := hk.2 c18
  by_cases c19 : r1 = 108
  · have hk := hk.1 c19
    refine lv_tableIn (x := r1) (off := 161) (tgt := 182) hx hb dX0_readCommand_21 (by rw [c19]; decide) (by rw [c19]; decide) (by rw [c19]; rfl) (by decide) ?_
    refine lv_aload_n hx hb dX0_readCommand_182 rfl (lv_at hl 1 rfl) ?_
    refine lv_iload_n hx hb dX0_readCommand_183 rfl (lv_at hl 0 rfl) ?_
    refine va_put (D := D) (ci := 0) (v := .int f_at) (ty := .int) (C := RX0) (T := TX0) (N := 7) hx hb hts xin_X0_readCommand_X0 tyX0 tyX0_ok nmX0 hown hK hP hD hS 0 rfl rfl 2 (by decide) (hts (.fieldLink RX0 23 "TakeLog$Day" "at" "I") (by decide +kernel)) (fun _ h9 => h9) rfl (by decide +kernel) rfl rfl (Nat.le_of_ble_eq_true rfl) dX0_readCommand_184 (fun H locs hP hD hS => ?_)
    have hP : va_P D vwCl [(h, .inr (0, [.ref h_signs, .int f_length, .int f_at, .int r1, .int f_scene, .int f_letter, .int f_number])), (h_signs, .inl (cC, 120, .inl f_signs))] H := hP
    have hD : va_D A [(h, .inr (0, [.ref h_signs, .int f_length, .int f_at, .int r1, .int f_scene, .int f_letter, .int f_number])), (h_signs, .inl (cC, 120, .inl f_signs))] := hD
    refine lv_iconst (v := 0) hx hb dX0_readCommand_187 (by decide) ?_
    exact x_retz rfl C0 (f_at, r1, f_scene, f_letter, f_number) hk hP hD hS dX0_readCommand_188
  have hk := hk.2 c19
  by_cases c20 : r1 = 109
  · have hk := hk.1 c20
    refine lv_tableIn (x := r1) (off := 129) (tgt := 150) hx hb dX0_readCommand_21 (by rw [c20]; decide) (by rw [c20]; decide) (by rw [c20]; rfl) (by decide) ?_
    refine lv_aload_n hx hb dX0_readCommand_150 rfl (lv_at hl 1 rfl) ?_
    refine lv_bipush (v := 100) hx hb dX0_readCommand_151 (by decide) ?_
    refine lv_iconst (v := 1) hx hb dX0_readCommand_153 (by decide) ?_
    refine lv_bipush (v := 120) hx hb dX0_readCommand_154 (by decide) ?_
    refine x_joini (ws1 := fun (u21 : Int32 × Int32) => [(h, .inr (0, [.ref h_signs, .int f_length, .int u21.1, .int r1, .int f_scene, .int f_letter, .int u21.2])), (h_signs, .inl (cC, 120, .inl f_signs))]) (x_runV (n0 := 3) (As := [.int 100, .int 1, .int 120]) (rest := []) C0 (xc_X0_readNumber l D cI cC cZ cL h h_signs H.size f_length u1 r1 f_scene f_letter f_number f_signs 100 1 120 _ hk) gX0_readCommand_X0_readNumber rfl ⟨rfl, rfl⟩ (by decide +kernel) rfl ⟨by decide, by decide⟩ ⟨Nat.zero_le _, Nat.zero_le _⟩ hP hD [0, 1] rfl rfl (k := 0) rfl rfl rfl hl.1 rfl (Nat.le_of_ble_eq_true rfl) dX0_readCommand_156) hP hD hS hA [0, 1] [] [0, 1] rfl rfl rfl (by decide) (fun _ => rfl) rfl (fun r21 u21 H locs hk hP hD hS => ?_)
    exact x_retz hk.1 C0 (u21.1, r1, f_scene, f_letter, u21.2) hk.2 hP hD hS dX0_readCommand_159
  have hk := hk.2 c20
  by_cases c22 : r1 = 110
  · have hk := hk.1 c22
    refine lv_tableIn (x := r1) (off := 159) (tgt := 180) hx hb dX0_readCommand_21 (by rw [c22]; decide) (by rw [c22]; decide) (by rw [c22]; rfl) (by decide) ?_
    refine lv_iconst (v := 1) hx hb dX0_readCommand_180 (by decide) ?_
    exact x_retz rfl C0 (u1, r1, f_scene, f_letter, f_number) hk hP hD hS dX0_readCommand_181
  have hk := hk.2 c22
  by_cases c23 : r1 = 111
  · have hk := hk.1 c23
    refine lv_tableIn (x := r1) (off := 139) (tgt := 160) hx hb dX0_readCommand_21 (by rw [c23]; decide) (by rw [c23]; decide) (by rw [c23]; rfl) (by decide) ?_
    refine lv_aload_n hx hb dX0_readCommand_160 rfl (lv_at hl 1 rfl) ?_
    refine lv_bipush (v := 10) hx hb dX0_readCommand_161 (by decide) ?_
    refine lv_iconst (v := 0) hx hb dX0_readCommand_163 (by decide) ?_
    refine lv_bipush (v := 23) hx hb dX0_readCommand_164 (by decide) ?_
    refine x_joini (ws1 := fun (u24 : Int32 × Int32) => [(h, .inr (0, [.ref h_signs, .int f_length, .int u24.1, .int r1, .int f_scene, .int f_letter, .int u24.2])), (h_signs, .inl (cC, 120, .inl f_signs))]) (x_runV (n0 := 3) (As := [.int 10, .int 0, .int 23]) (rest := []) C0 (xc_X0_readNumber l D cI cC cZ cL h h_signs H.size f_length u1 r1 f_scene f_letter f_number f_signs 10 0 23 _ hk) gX0_readCommand_X0_readNumber rfl ⟨rfl, rfl⟩ (by decide +kernel) rfl ⟨by decide, by decide⟩ ⟨Nat.zero_le _, Nat.zero_le _⟩ hP hD [0, 1] rfl rfl (k := 0) rfl rfl rfl hl.1 rfl (Nat.le_of_ble_eq_true rfl) dX0_readCommand_166) hP hD hS hA [0, 1] [] [0, 1] rfl rfl rfl (by decide) (fun _ => rfl) rfl (fun r24 u24 H locs hk hP hD hS => ?_)
    exact x_retz hk.1 C0 (u24.1, r1, f_scene, f_letter, u24.2) hk.2 hP hD hS dX0_readCommand_169
  have hk := hk.2 c23
  by_cases c25 : r1 = 112
  · have hk := hk.1 c25
    refine lv_tableIn (x := r1) (off := 161) (tgt := 182) hx hb dX0_readCommand_21 (by rw [c25]; decide) (by rw [c25]; decide) (by rw [c25]; rfl) (by decide) ?_
    refine lv_aload_n hx hb dX0_readCommand_182 rfl (lv_at hl 1 rfl) ?_
    refine lv_iload_n hx hb dX0_readCommand_183 rfl (lv_at hl 0 rfl) ?_
    refine va_put (D := D) (ci := 0) (v := .int f_at) (ty := .int) (C := RX0) (T := TX0) (N := 7) hx hb hts xin_X0_readCommand_X0 tyX0 tyX0_ok nmX0 hown hK hP hD hS 0 rfl rfl 2 (by decide) (hts (.fieldLink RX0 23 "TakeLog$Day" "at" "I") (by decide +kernel)) (fun _ h9 => h9) rfl (by decide +kernel) rfl rfl (Nat.le_of_ble_eq_true rfl) dX0_readCommand_184 (fun H locs hP hD hS => ?_)
    have hP : va_P D vwCl [(h, .inr (0, [.ref h_signs, .int f_length, .int f_at, .int r1, .int f_scene, .int f_letter, .int f_number])), (h_signs, .inl (cC, 120, .inl f_signs))] H := hP
    have hD : va_D A [(h, .inr (0, [.ref h_signs, .int f_length, .int f_at, .int r1, .int f_scene, .int f_letter, .int f_number])), (h_signs, .inl (cC, 120, .inl f_signs))] := hD
    refine lv_iconst (v := 0) hx hb dX0_readCommand_187 (by decide) ?_
    exact x_retz rfl C0 (f_at, r1, f_scene, f_letter, f_number) hk hP hD hS dX0_readCommand_188
  have hk := hk.2 c25
  by_cases c26 : r1 = 113
  · have hk := hk.1 c26
    refine lv_tableIn (x := r1) (off := 161) (tgt := 182) hx hb dX0_readCommand_21 (by rw [c26]; decide) (by rw [c26]; decide) (by rw [c26]; rfl) (by decide) ?_
    refine lv_aload_n hx hb dX0_readCommand_182 rfl (lv_at hl 1 rfl) ?_
    refine lv_iload_n hx hb dX0_readCommand_183 rfl (lv_at hl 0 rfl) ?_
    refine va_put (D := D) (ci := 0) (v := .int f_at) (ty := .int) (C := RX0) (T := TX0) (N := 7) hx hb hts xin_X0_readCommand_X0 tyX0 tyX0_ok nmX0 hown hK hP hD hS 0 rfl rfl 2 (by decide) (hts (.fieldLink RX0 23 "TakeLog$Day" "at" "I") (by decide +kernel)) (fun _ h9 => h9) rfl (by decide +kernel) rfl rfl (Nat.le_of_ble_eq_true rfl) dX0_readCommand_184 (fun H locs hP hD hS => ?_)
    have hP : va_P D vwCl [(h, .inr (0, [.ref h_signs, .int f_length, .int f_at, .int r1, .int f_scene, .int f_letter, .int f_number])), (h_signs, .inl (cC, 120, .inl f_signs))] H := hP
    have hD : va_D A [(h, .inr (0, [.ref h_signs, .int f_length, .int f_at, .int r1, .int f_scene, .int f_letter, .int f_number])), (h_signs, .inl (cC, 120, .inl f_signs))] := hD
    refine lv_iconst (v := 0) hx hb dX0_readCommand_187 (by decide) ?_
    exact x_retz rfl C0 (f_at, r1, f_scene, f_letter, f_number) hk hP hD hS dX0_readCommand_188
  have hk := hk.2 c26
  by_cases c27 : r1 = 114
  · have hk := hk.1 c27
    refine lv_tableIn (x := r1) (off := 159) (tgt := 180) hx hb dX0_readCommand_21 (by rw [c27]; decide) (by rw [c27]; decide) (by rw [c27]; rfl) (by decide) ?_
    refine lv_iconst (v := 1) hx hb dX0_readCommand_180 (by decide) ?_
    exact x_retz rfl C0 (u1, r1, f_scene, f_letter, f_number) hk hP hD hS dX0_readCommand_181
  have hk := hk.2 c27
  by_cases c28 : r1 = 115
  · have hk := hk.1 c28
    refine lv_tableIn (x := r1) (off := 159) (tgt := 180) hx hb dX0_readCommand_21 (by rw [c28]; decide) (by rw [c28]; decide) (by rw [c28]; rfl) (by decide) ?_
    refine lv_iconst (v := 1) hx hb dX0_readCommand_180 (by decide) ?_
    exact x_retz rfl C0 (u1, r1, f_scene, f_letter, f_number) hk hP hD hS dX0_readCommand_181
  have hk := hk.2 c28
  by_cases c29 : r1 = 116
  · have hk := hk.1 c29
    refine lv_tableIn (x := r1) (off := 129) (tgt := 150) hx hb dX0_readCommand_21 (by rw [c29]; decide) (by rw [c29]; decide) (by rw [c29]; rfl) (by decide) ?_
    refine lv_aload_n hx hb dX0_readCommand_150 rfl (lv_at hl 1 rfl) ?_
    refine lv_bipush (v := 100) hx hb dX0_readCommand_151 (by decide) ?_
    refine lv_iconst (v := 1) hx hb dX0_readCommand_153 (by decide) ?_
    refine lv_bipush (v := 120) hx hb dX0_readCommand_154 (by decide) ?_
    refine x_joini (ws1 := fun (u30 : Int32 × Int32) => [(h, .inr (0, [.ref h_signs, .int f_length, .int u30.1, .int r1, .int f_scene, .int f_letter, .int u30.2])), (h_signs, .inl (cC, 120, .inl f_signs))]) (x_runV (n0 := 3) (As := [.int 100, .int 1, .int 120]) (rest := []) C0 (xc_X0_readNumber l D cI cC cZ cL h h_signs H.size f_length u1 r1 f_scene f_letter f_number f_signs 100 1 120 _ hk) gX0_readCommand_X0_readNumber rfl ⟨rfl, rfl⟩ (by decide +kernel) rfl ⟨by decide, by decide⟩ ⟨Nat.zero_le _, Nat.zero_le _⟩ hP hD [0, 1] rfl rfl (k := 0) rfl rfl rfl hl.1 rfl (Nat.le_of_ble_eq_true rfl) dX0_readCommand_156) hP hD hS hA [0, 1] [] [0, 1] rfl rfl rfl (by decide) (fun _ => rfl) rfl (fun r30 u30 H locs hk hP hD hS => ?_)
    exact x_retz hk.1 C0 (u30.1, r1, f_scene, f_letter, u30.2) hk.2 hP hD hS dX0_readCommand_159
  have hk := hk.2 c29
  by_cases c31 : r1 = 117
  · have hk := hk.1 c31
    refine lv_tableIn (x := r1) (off := 161) (tgt := 182) hx hb dX0_readCommand_21 (by rw [c31]; decide) (by rw [c31]; decide) (by rw [c31]; rfl) (by decide) ?_
    refine lv_aload_n hx hb dX0_readCommand_182 rfl (lv_at hl 1 rfl) ?_
    refine lv_iload_n hx hb dX0_readCommand_183 rfl (lv_at hl 0 rfl) ?_
    refine va_put (D := D) (ci := 0) (v := .int f_at) (ty := .int) (C := RX0) (T := TX0) (N := 7) hx hb hts xin_X0_readCommand_X0 tyX0 tyX0_ok nmX0 hown hK hP hD hS 0 rfl rfl 2 (by decide) (hts (.fieldLink RX0 23 "TakeLog$Day" "at" "I") (by decide +kernel)) (fun _ h9 => h9) rfl (by decide +kernel) rfl rfl (Nat.le_of_ble_eq_true rfl) dX0_readCommand_184 (fun H locs hP hD hS => ?_)
    have hP : va_P D vwCl [(h, .inr (0, [.ref h_signs, .int f_length, .int f_at, .int r1, .int f_scene, .int f_letter, .int f_number])), (h_signs, .inl (cC, 120, .inl f_signs))] H := hP
    have hD : va_D A [(h, .inr (0, [.ref h_signs, .int f_length, .int f_at, .int r1, .int f_scene, .int f_letter, .int f_number])), (h_signs, .inl (cC, 120, .inl f_signs))] := hD
    refine lv_iconst (v := 0) hx hb dX0_readCommand_187 (by decide) ?_
    exact x_retz rfl C0 (f_at, r1, f_scene, f_letter, f_number) hk hP hD hS dX0_readCommand_188
  have hk := hk.2 c31
  by_cases c32 : r1 = 118
  · have hk := hk.1 c32
    refine lv_tableIn (x := r1) (off := 149) (tgt := 170) hx hb dX0_readCommand_21 (by rw [c32]; decide) (by rw [c32]; decide) (by rw [c32]; rfl) (by decide) ?_
    refine lv_aload_n hx hb dX0_readCommand_170 rfl (lv_at hl 1 rfl) ?_
    refine lv_bipush (v := 10) hx hb dX0_readCommand_171 (by decide) ?_
    refine lv_iconst (v := 0) hx hb dX0_readCommand_173 (by decide) ?_
    refine lv_bipush (v := 99) hx hb dX0_readCommand_174 (by decide) ?_
    refine x_joini (ws1 := fun (u33 : Int32 × Int32) => [(h, .inr (0, [.ref h_signs, .int f_length, .int u33.1, .int r1, .int f_scene, .int f_letter, .int u33.2])), (h_signs, .inl (cC, 120, .inl f_signs))]) (x_runV (n0 := 3) (As := [.int 10, .int 0, .int 99]) (rest := []) C0 (xc_X0_readNumber l D cI cC cZ cL h h_signs H.size f_length u1 r1 f_scene f_letter f_number f_signs 10 0 99 _ hk) gX0_readCommand_X0_readNumber rfl ⟨rfl, rfl⟩ (by decide +kernel) rfl ⟨by decide, by decide⟩ ⟨Nat.zero_le _, Nat.zero_le _⟩ hP hD [0, 1] rfl rfl (k := 0) rfl rfl rfl hl.1 rfl (Nat.le_of_ble_eq_true rfl) dX0_readCommand_176) hP hD hS hA [0, 1] [] [0, 1] rfl rfl rfl (by decide) (fun _ => rfl) rfl (fun r33 u33 H locs hk hP hD hS => ?_)
    exact x_retz hk.1 C0 (u33.1, r1, f_scene, f_letter, u33.2) hk.2 hP hD hS dX0_readCommand_179
  have hk := hk.2 c32
  have ec3 := x_ne c3 (k := 98) rfl
  have ec8 := x_ne c8 (k := 99) rfl
  have ec10 := x_ne c10 (k := 100) rfl
  have ec11 := x_ne c11 (k := 101) rfl
  have ec12 := x_ne c12 (k := 102) rfl
  have ec14 := x_ne c14 (k := 103) rfl
  have ec15 := x_ne c15 (k := 104) rfl
  have ec16 := x_ne c16 (k := 105) rfl
  have ec17 := x_ne c17 (k := 106) rfl
  have ec18 := x_ne c18 (k := 107) rfl
  have ec19 := x_ne c19 (k := 108) rfl
  have ec20 := x_ne c20 (k := 109) rfl
  have ec22 := x_ne c22 (k := 110) rfl
  have ec23 := x_ne c23 (k := 111) rfl
  have ec25 := x_ne c25 (k := 112) rfl
  have ec26 := x_ne c26 (k := 113) rfl
  have ec27 := x_ne c27 (k := 114) rfl
  have ec28 := x_ne c28 (k := 115) rfl
  have ec29 := x_ne c29 (k := 116) rfl
  have ec31 := x_ne c31 (k := 117) rfl
  have ec32 := x_ne c32 (k := 118) rfl
  refine lv_tableOut (x := r1) (tgt := 182) hx hb dX0_readCommand_21 (by omega) (by decide) ?_
  refine lv_aload_n hx hb dX0_readCommand_182 rfl (lv_at hl 1 rfl) ?_
  refine lv_iload_n hx hb dX0_readCommand_183 rfl (lv_at hl 0 rfl) ?_
  refine va_put (D := D) (ci := 0) (v := .int f_at) (ty := .int) (C := RX0) (T := TX0) (N := 7) hx hb hts xin_X0_readCommand_X0 tyX0 tyX0_ok nmX0 hown hK hP hD hS 0 rfl rfl 2 (by decide) (hts (.fieldLink RX0 23 "TakeLog$Day" "at" "I") (by decide +kernel)) (fun _ h9 => h9) rfl (by decide +kernel) rfl rfl (Nat.le_of_ble_eq_true rfl) dX0_readCommand_184 (fun H locs hP hD hS => ?_)
  have hP : va_P D vwCl [(h, .inr (0, [.ref h_signs, .int f_length, .int f_at, .int r1, .int f_scene, .int f_letter, .int f_number])), (h_signs, .inl (cC, 120, .inl f_signs))] H := hP
  have hD : va_D A [(h, .inr (0, [.ref h_signs, .int f_length, .int f_at, .int r1, .int f_scene, .int f_letter, .int f_number])), (h_signs, .inl (cC, 120, .inl f_signs))] := hD
  refine lv_iconst (v := 0) hx hb dX0_readCommand_187 (by decide) ?_
  exact x_retz rfl C0 (f_at, r1, f_scene, f_letter, f_number) hk hP hD hS dX0_readCommand_188
theorem xc_X0_readCommand (l : Launch) (D : va_G) (cI cC cZ cL : ClassId) (h h_signs : Nat)  (sz : Nat) (f_length : Int32) (f_at : Int32) (f_command : Int32) (f_scene : Int32) (f_letter : Int32) (f_number : Int32) (f_signs : Nat → Int32)  (K : Int32 → (Int32 × Int32 × Int32 × Int32 × Int32) → Prop) (hk : xp_X0_readCommand f_signs f_length f_at f_command f_scene f_letter f_number K) : XMi l yX0_readCommand wsX0_readCommand ({ frames := 3, cells := 0, slots := 0, locals := 68 } : Room) D (xTY cI cC cZ cL) [.ref h] [(h, .inr (0, [.ref h_signs, .int f_length, .int f_at, .int f_command, .int f_scene, .int f_letter, .int f_number])), (h_signs, .inl (cC, 120, .inl f_signs))] sz (fun (r : Int32) (u : Int32 × Int32 × Int32 × Int32 × Int32) => K r u) (fun (u : Int32 × Int32 × Int32 × Int32 × Int32) => [(h, .inr (0, [.ref h_signs, .int f_length, .int u.1, .int u.2.1, .int u.2.2.1, .int u.2.2.2.1, .int u.2.2.2.2])), (h_signs, .inl (cC, 120, .inl f_signs))]) :=
  x_enter (cc := cX0_readCommand) (maxL := 2) (ret := (some .boolean)) (own := RX0) (by decide) rfl rfl (Nat.le_of_ble_eq_true rfl) (fun p e s m below meth c ls C0 hA hP hD hS hl => xb_X0_readCommand_0 C0 hA _ _ _ _ _ hk s.heap [] ls hP hD hS hl)
set_option maxRecDepth 20000 in
theorem xin_X0_firstError_X0 : ∀ w ∈ u_ws RX0 TX0 7, w ∈ wsX0_firstError := by decide +kernel
set_option maxHeartbeats 4000000 in
set_option maxRecDepth 100000 in
theorem xb_X0_firstError_14 {p : Program} {l : Launch} {e : Env} {s : State} {m : MethodId} {args : Array Value} {below : List Frame} {meth : Method} {c : Code} {A : Nat → Prop} {D : va_G} {cI cC cZ cL : ClassId} {h h_signs : Nat}  {f_length : Int32} {f_signs : Nat → Int32} {K : Int32 → (Int32 × Int32 × Int32 × Int32 × Int32) → Prop}  (C0 : xC p s m args meth c cX0_firstError 2 (some .int) wsX0_firstError RX0 D (xTY cI cC cZ cL)) (hA : ∀ q : Nat, s.heap.size ≤ q → A q)  : ∀ (n : Nat) (f_at : Int32) (f_command : Int32) (f_scene : Int32) (f_letter : Int32) (f_number : Int32) (v1 : Int32) , xp_X0_firstError_14 f_signs f_length K n f_at f_command f_scene f_letter f_number v1 → ∀ (H : Heap) (locs : List Loc) (ls : Array Slot), va_P D vwCl [(h, .inr (0, [.ref h_signs, .int f_length, .int f_at, .int f_command, .int f_scene, .int f_letter, .int f_number])), (h_signs, .inl (cC, 120, .inl f_signs))] H → va_D A [(h, .inr (0, [.ref h_signs, .int f_length, .int f_at, .int f_command, .int f_scene, .int f_letter, .int f_number])), (h_signs, .inl (cC, 120, .inl f_signs))] → va_S A s.heap H locs → lv_has ls 2 [(0, .ref h), (1, .int v1)] → W p l e ({ frames := 4, cells := 0, slots := 0, locals := 89 } : Room) s m args below meth c H locs 0 0 (MQ below (va_Qi (fun (r : Int32) (u : Int32 × Int32 × Int32 × Int32 × Int32) => K r u) (fun u t => xE D A ((fun (u : Int32 × Int32 × Int32 × Int32 × Int32) => [(h, .inr (0, [.ref h_signs, .int f_length, .int u.1, .int u.2.1, .int u.2.2.1, .int u.2.2.2.1, .int u.2.2.2.2])), (h_signs, .inl (cC, 120, .inl f_signs))]) u) t) A) args s 0 0 A) (F0 m 14 ls []) := by
  obtain ⟨hx, hb, hr, hml, hown, hts, hlocks, hK, hN⟩ := id C0
  intro n
  induction n with
  | zero => intro f_at f_command f_scene f_letter f_number v1 hk; exact hk.elim
  | succ n ih =>
    intro f_at f_command f_scene f_letter f_number v1 hk H locs ls hP hD hS hl
    rw [xp_X0_firstError_14] at hk
    refine lv_iload_n hx hb dX0_firstError_14 rfl (lv_at hl 1 rfl) ?_
    refine lv_bipush (v := 120) hx hb dX0_firstError_15 (by decide) ?_
    refine lv_icmp_ge (tgt := 45) hx hb dX0_firstError_17 (by decide) (fun c1 => ?_) (fun c1 => ?_)
    · have hk := hk.1 c1
      refine lv_iconst (v := (-1 : Int32)) hx hb dX0_firstError_45 (by decide) ?_
      exact x_reti C0 (f_at, f_command, f_scene, f_letter, f_number) hk hP hD hS dX0_firstError_46
    · have hk := hk.2 c1
      refine lv_aload_n hx hb dX0_firstError_20 rfl (lv_at hl 0 rfl) ?_
      refine x_joini (ws1 := fun (_ : Unit) => [(h, .inr (0, [.ref h_signs, .int f_length, .int f_at, .int f_command, .int f_scene, .int f_letter, .int f_number])), (h_signs, .inl (cC, 120, .inl f_signs))]) (x_runV (n0 := 0) (As := []) (rest := []) C0 (xc_X0_hasMore l D cI cC cZ cL h h_signs H.size f_length f_at f_command f_scene f_letter f_number _ hk) gX0_firstError_X0_hasMore rfl ⟨rfl, rfl⟩ (by decide +kernel) rfl ⟨by decide, by decide⟩ ⟨Nat.zero_le _, Nat.zero_le _⟩ hP hD [0] rfl rfl (k := 0) rfl rfl rfl hl.1 rfl (Nat.le_of_ble_eq_true rfl) dX0_firstError_21) hP hD hS hA [0] [1] [1, 0] rfl rfl rfl (by decide) (fun _ => rfl) rfl (fun r2 u2 H locs hk hP hD hS => ?_)
      refine lv_if_eq (tgt := 45) hx hb dX0_firstError_24 (by decide) (fun c3 => ?_) (fun c3 => ?_)
      · have hk := hk.1 c3
        refine lv_iconst (v := (-1 : Int32)) hx hb dX0_firstError_45 (by decide) ?_
        exact x_reti C0 (f_at, f_command, f_scene, f_letter, f_number) hk hP hD hS dX0_firstError_46
      · have hk := hk.2 c3
        refine lv_aload_n hx hb dX0_firstError_27 rfl (lv_at hl 0 rfl) ?_
        refine x_joini (ws1 := fun (u4 : Int32 × Int32 × Int32 × Int32 × Int32) => [(h, .inr (0, [.ref h_signs, .int f_length, .int u4.1, .int u4.2.1, .int u4.2.2.1, .int u4.2.2.2.1, .int u4.2.2.2.2])), (h_signs, .inl (cC, 120, .inl f_signs))]) (x_runV (n0 := 0) (As := []) (rest := []) C0 (xc_X0_readCommand l D cI cC cZ cL h h_signs H.size f_length f_at f_command f_scene f_letter f_number f_signs _ hk) gX0_firstError_X0_readCommand rfl ⟨rfl, rfl⟩ (by decide +kernel) rfl ⟨by decide, by decide⟩ ⟨Nat.zero_le _, Nat.zero_le _⟩ hP hD [0, 1] rfl rfl (k := 0) rfl rfl rfl hl.1 rfl (Nat.le_of_ble_eq_true rfl) dX0_firstError_28) hP hD hS hA [0, 1] [] [0, 1] rfl rfl rfl (by decide) (fun _ => rfl) rfl (fun r4 u4 H locs hk hP hD hS => ?_)
        refine lv_if_ne (tgt := 39) hx hb dX0_firstError_31 (by decide) (fun c5 => ?_) (fun c5 => ?_)
        · have hk := hk.1 c5
          refine lv_iinc (v := (v1 + 1)) (lv' := [(1, .int (v1 + 1)), (0, .ref h)]) hx hb dX0_firstError_39 hl (k := 1) rfl rfl (by decide) rfl (fun ls hl => ?_)
          refine lv_goto (tgt := 14) hx hb dX0_firstError_42 (by decide) ?_
          exact ih _ _ _ _ _ _ hk H locs ls hP hD hS (lv_sub hl [1, 0] rfl)
        · have hk := hk.2 c5
          refine lv_aload_n hx hb dX0_firstError_34 rfl (lv_at hl 0 rfl) ?_
          refine va_get (D := D) (ci := 0) (v := .int u4.1) (C := RX0) (T := TX0) (N := 7) hx hb hts xin_X0_firstError_X0 hown hK hP 0 rfl rfl 2 (by decide) (hts (.fieldLink RX0 23 "TakeLog$Day" "at" "I") (by decide +kernel)) (fun _ h9 => h9) rfl dX0_firstError_35 ?_
          exact x_reti C0 (u4.1, u4.2.1, u4.2.2.1, u4.2.2.2.1, u4.2.2.2.2) hk hP hD hS dX0_firstError_38
set_option maxHeartbeats 4000000 in
set_option maxRecDepth 100000 in
theorem xb_X0_firstError_0 {p : Program} {l : Launch} {e : Env} {s : State} {m : MethodId} {args : Array Value} {below : List Frame} {meth : Method} {c : Code} {A : Nat → Prop} {D : va_G} {cI cC cZ cL : ClassId} {h h_signs : Nat}  {f_length : Int32} {f_signs : Nat → Int32} {K : Int32 → (Int32 × Int32 × Int32 × Int32 × Int32) → Prop}  (C0 : xC p s m args meth c cX0_firstError 2 (some .int) wsX0_firstError RX0 D (xTY cI cC cZ cL)) (hA : ∀ q : Nat, s.heap.size ≤ q → A q)  : ∀ (f_at : Int32) (f_command : Int32) (f_scene : Int32) (f_letter : Int32) (f_number : Int32) , xp_X0_firstError f_signs f_length f_at f_command f_scene f_letter f_number K → ∀ (H : Heap) (locs : List Loc) (ls : Array Slot), va_P D vwCl [(h, .inr (0, [.ref h_signs, .int f_length, .int f_at, .int f_command, .int f_scene, .int f_letter, .int f_number])), (h_signs, .inl (cC, 120, .inl f_signs))] H → va_D A [(h, .inr (0, [.ref h_signs, .int f_length, .int f_at, .int f_command, .int f_scene, .int f_letter, .int f_number])), (h_signs, .inl (cC, 120, .inl f_signs))] → va_S A s.heap H locs → lv_has ls 2 [(0, .ref h)] → W p l e ({ frames := 4, cells := 0, slots := 0, locals := 89 } : Room) s m args below meth c H locs 0 0 (MQ below (va_Qi (fun (r : Int32) (u : Int32 × Int32 × Int32 × Int32 × Int32) => K r u) (fun u t => xE D A ((fun (u : Int32 × Int32 × Int32 × Int32 × Int32) => [(h, .inr (0, [.ref h_signs, .int f_length, .int u.1, .int u.2.1, .int u.2.2.1, .int u.2.2.2.1, .int u.2.2.2.2])), (h_signs, .inl (cC, 120, .inl f_signs))]) u) t) A) args s 0 0 A) (F0 m 0 ls []) := by
  obtain ⟨hx, hb, hr, hml, hown, hts, hlocks, hK, hN⟩ := id C0
  intro f_at f_command f_scene f_letter f_number hk H locs ls hP hD hS hl
  rw [xp_X0_firstError] at hk
  refine lv_aload_n hx hb dX0_firstError_0 rfl (lv_at hl 0 rfl) ?_
  refine x_joini (ws1 := fun (u1 : Int32) => [(h, .inr (0, [.ref h_signs, .int f_length, .int u1, .int f_command, .int f_scene, .int f_letter, .int f_number])), (h_signs, .inl (cC, 120, .inl f_signs))]) (x_runV (n0 := 0) (As := []) (rest := []) C0 (xc_X0_startReading l D cI cC cZ cL h h_signs H.size f_length f_at f_command f_scene f_letter f_number f_signs _ hk) gX0_firstError_X0_startReading rfl ⟨rfl, rfl⟩ (by decide +kernel) rfl ⟨by decide, by decide⟩ ⟨Nat.zero_le _, Nat.zero_le _⟩ hP hD [0, 1] rfl rfl (k := 0) rfl rfl rfl hl.1 rfl (Nat.le_of_ble_eq_true rfl) dX0_firstError_1) hP hD hS hA [0, 1] [] [0, 1] rfl rfl rfl (by decide) (fun _ => rfl) rfl (fun r1 u1 H locs hk hP hD hS => ?_)
  refine lv_if_ne (tgt := 12) hx hb dX0_firstError_4 (by decide) (fun c2 => ?_) (fun c2 => ?_)
  · have hk := hk.1 c2
    refine lv_iconst (v := 0) hx hb dX0_firstError_12 (by decide) ?_
    refine lv_istore_n (lv' := [(1, .int 0), (0, .ref h)]) hx hb dX0_firstError_13 rfl hl (by decide) rfl (fun ls hl => ?_)
    obtain ⟨n9, hk⟩ := hk
    exact xb_X0_firstError_14 C0 hA  n9 _ _ _ _ _ _ hk H locs ls hP hD hS (lv_sub hl [1, 0] rfl)
  · have hk := hk.2 c2
    refine lv_aload_n hx hb dX0_firstError_7 rfl (lv_at hl 0 rfl) ?_
    refine va_get (D := D) (ci := 0) (v := .int u1) (C := RX0) (T := TX0) (N := 7) hx hb hts xin_X0_firstError_X0 hown hK hP 0 rfl rfl 2 (by decide) (hts (.fieldLink RX0 23 "TakeLog$Day" "at" "I") (by decide +kernel)) (fun _ h9 => h9) rfl dX0_firstError_8 ?_
    exact x_reti C0 (u1, f_command, f_scene, f_letter, f_number) hk hP hD hS dX0_firstError_11
theorem xc_X0_firstError (l : Launch) (D : va_G) (cI cC cZ cL : ClassId) (h h_signs : Nat)  (sz : Nat) (f_length : Int32) (f_at : Int32) (f_command : Int32) (f_scene : Int32) (f_letter : Int32) (f_number : Int32) (f_signs : Nat → Int32)  (K : Int32 → (Int32 × Int32 × Int32 × Int32 × Int32) → Prop) (hk : xp_X0_firstError f_signs f_length f_at f_command f_scene f_letter f_number K) : XMi l yX0_firstError wsX0_firstError ({ frames := 4, cells := 0, slots := 0, locals := 89 } : Room) D (xTY cI cC cZ cL) [.ref h] [(h, .inr (0, [.ref h_signs, .int f_length, .int f_at, .int f_command, .int f_scene, .int f_letter, .int f_number])), (h_signs, .inl (cC, 120, .inl f_signs))] sz (fun (r : Int32) (u : Int32 × Int32 × Int32 × Int32 × Int32) => K r u) (fun (u : Int32 × Int32 × Int32 × Int32 × Int32) => [(h, .inr (0, [.ref h_signs, .int f_length, .int u.1, .int u.2.1, .int u.2.2.1, .int u.2.2.2.1, .int u.2.2.2.2])), (h_signs, .inl (cC, 120, .inl f_signs))]) :=
  x_enter (cc := cX0_firstError) (maxL := 2) (ret := (some .int)) (own := RX0) (by decide) rfl rfl (Nat.le_of_ble_eq_true rfl) (fun p e s m below meth c ls C0 hA hP hD hS hl => xb_X0_firstError_0 C0 hA _ _ _ _ _ hk s.heap [] ls hP hD hS hl)
set_option maxRecDepth 20000 in
theorem xin_X1_add_X1 : ∀ w ∈ u_ws RX1 TX1 2, w ∈ wsX1_add := by decide +kernel
set_option maxHeartbeats 4000000 in
set_option maxRecDepth 100000 in
theorem xb_X1_add_0 {p : Program} {l : Launch} {e : Env} {s : State} {m : MethodId} {args : Array Value} {below : List Frame} {meth : Method} {c : Code} {A : Nat → Prop} {D : va_G} {cI cC cZ cL : ClassId} {h h_signs : Nat}   {K : ((Nat → Int32) × Int32) → Prop}  (C0 : xC p s m args meth c cX1_add 2 none wsX1_add RX1 D (xTY cI cC cZ cL)) (hA : ∀ q : Nat, s.heap.size ≤ q → A q)  : ∀ (f_signs : Nat → Int32) (f_length : Int32) (x1 : Int32) , xp_X1_add f_signs f_length x1 K → ∀ (H : Heap) (locs : List Loc) (ls : Array Slot), va_P D vwCl [(h, .inr (1, [.ref h_signs, .int f_length])), (h_signs, .inl (cC, 80, .inl f_signs))] H → va_D A [(h, .inr (1, [.ref h_signs, .int f_length])), (h_signs, .inl (cC, 80, .inl f_signs))] → va_S A s.heap H locs → lv_has ls 2 [(0, .ref h), (1, .int x1)] → W p l e ({ frames := 0, cells := 0, slots := 0, locals := 0 } : Room) s m args below meth c H locs 0 0 (MQ below (va_Qv (fun (u : (Nat → Int32) × Int32) => K u) (fun u t => xE D A ((fun (u : (Nat → Int32) × Int32) => [(h, .inr (1, [.ref h_signs, .int u.2])), (h_signs, .inl (cC, 80, .inl u.1))]) u) t) A) args s 0 0 A) (F0 m 0 ls []) := by
  obtain ⟨hx, hb, hr, hml, hown, hts, hlocks, hK, hN⟩ := id C0
  intro f_signs f_length x1 hk H locs ls hP hD hS hl
  rw [xp_X1_add] at hk
  refine lv_aload_n hx hb dX1_add_0 rfl (lv_at hl 0 rfl) ?_
  refine va_get (D := D) (ci := 1) (v := .int f_length) (C := RX1) (T := TX1) (N := 2) hx hb hts xin_X1_add_X1 hown hK hP 0 rfl rfl 1 (by decide) (hts (.fieldLink RX1 15 "TakeLog$Line" "length" "I") (by decide +kernel)) (fun _ h9 => h9) rfl dX1_add_1 ?_
  refine lv_bipush (v := 80) hx hb dX1_add_4 (by decide) ?_
  refine lv_icmp_ge (tgt := 29) hx hb dX1_add_6 (by decide) (fun c1 => ?_) (fun c1 => ?_)
  · have hk := hk.1 c1
    exact x_retv C0 (f_signs, f_length) hk hP hD hS dX1_add_29
  · have hk := hk.2 c1
    refine lv_aload_n hx hb dX1_add_9 rfl (lv_at hl 0 rfl) ?_
    refine va_get (D := D) (ci := 1) (v := .ref h_signs) (C := RX1) (T := TX1) (N := 2) hx hb hts xin_X1_add_X1 hown hK hP 0 rfl rfl 0 (by decide) (hts (.fieldLink RX1 11 "TakeLog$Line" "signs" "[C") (by decide +kernel)) (fun _ h9 => h9) rfl dX1_add_10 ?_
    refine lv_aload_n hx hb dX1_add_13 rfl (lv_at hl 0 rfl) ?_
    refine va_get (D := D) (ci := 1) (v := .int f_length) (C := RX1) (T := TX1) (N := 2) hx hb hts xin_X1_add_X1 hown hK hP 0 rfl rfl 1 (by decide) (hts (.fieldLink RX1 15 "TakeLog$Line" "length" "I") (by decide +kernel)) (fun _ h9 => h9) rfl dX1_add_14 ?_
    refine lv_iload_n hx hb dX1_add_17 rfl (lv_at hl 1 rfl) ?_
    refine x_cast hx hb hK hP hD hS 1 1 rfl rfl hk.1 rfl dX1_add_18 (fun H locs hP hD hS => ?_)
    have hk := hk.2
    have hP : va_P D vwCl [(h, .inr (1, [.ref h_signs, .int f_length])), (h_signs, .inl (cC, 80, .inl (upd f_signs f_length.toNatClampNeg (vp_nar .char x1))))] H := hP
    have hD : va_D A [(h, .inr (1, [.ref h_signs, .int f_length])), (h_signs, .inl (cC, 80, .inl (upd f_signs f_length.toNatClampNeg (vp_nar .char x1))))] := hD
    refine lv_aload_n hx hb dX1_add_19 rfl (lv_at hl 0 rfl) ?_
    refine lv_dup hx hb dX1_add_20 rfl ?_
    refine va_get (D := D) (ci := 1) (v := .int f_length) (C := RX1) (T := TX1) (N := 2) hx hb hts xin_X1_add_X1 hown hK hP 0 rfl rfl 1 (by decide) (hts (.fieldLink RX1 15 "TakeLog$Line" "length" "I") (by decide +kernel)) (fun _ h9 => h9) rfl dX1_add_21 ?_
    refine lv_iconst (v := 1) hx hb dX1_add_24 (by decide) ?_
    refine lv_iadd hx hb dX1_add_25 ?_
    refine va_put (D := D) (ci := 1) (v := .int (f_length + 1)) (ty := .int) (C := RX1) (T := TX1) (N := 2) hx hb hts xin_X1_add_X1 tyX1 tyX1_ok nmX1 hown hK hP hD hS 0 rfl rfl 1 (by decide) (hts (.fieldLink RX1 15 "TakeLog$Line" "length" "I") (by decide +kernel)) (fun _ h9 => h9) rfl (by decide +kernel) rfl rfl (Nat.le_of_ble_eq_true rfl) dX1_add_26 (fun H locs hP hD hS => ?_)
    have hP : va_P D vwCl [(h, .inr (1, [.ref h_signs, .int (f_length + 1)])), (h_signs, .inl (cC, 80, .inl (upd f_signs f_length.toNatClampNeg (vp_nar .char x1))))] H := hP
    have hD : va_D A [(h, .inr (1, [.ref h_signs, .int (f_length + 1)])), (h_signs, .inl (cC, 80, .inl (upd f_signs f_length.toNatClampNeg (vp_nar .char x1))))] := hD
    exact x_retv C0 (upd f_signs f_length.toNatClampNeg (vp_nar .char x1), f_length + 1) hk hP hD hS dX1_add_29
theorem xc_X1_add (l : Launch) (D : va_G) (cI cC cZ cL : ClassId) (h h_signs : Nat)  (sz : Nat) (f_length : Int32) (f_signs : Nat → Int32) (x1 : Int32) (K : ((Nat → Int32) × Int32) → Prop) (hk : xp_X1_add f_signs f_length x1 K) : XMv l yX1_add wsX1_add ({ frames := 0, cells := 0, slots := 0, locals := 0 } : Room) D (xTY cI cC cZ cL) [.ref h, .int x1] [(h, .inr (1, [.ref h_signs, .int f_length])), (h_signs, .inl (cC, 80, .inl f_signs))] sz (fun (u : (Nat → Int32) × Int32) => K u) (fun (u : (Nat → Int32) × Int32) => [(h, .inr (1, [.ref h_signs, .int u.2])), (h_signs, .inl (cC, 80, .inl u.1))]) :=
  x_enter (cc := cX1_add) (maxL := 2) (ret := none) (own := RX1) (by decide) rfl rfl (Nat.le_of_ble_eq_true rfl) (fun p e s m below meth c ls C0 hA hP hD hS hl => xb_X1_add_0 C0 hA _ _ _ hk s.heap [] ls hP hD hS hl)
set_option maxRecDepth 20000 in
theorem xin_X1_addNumber_X1 : ∀ w ∈ u_ws RX1 TX1 2, w ∈ wsX1_addNumber := by decide +kernel
set_option maxHeartbeats 4000000 in
set_option maxRecDepth 100000 in
theorem xb_X1_addNumber_17 {p : Program} {l : Launch} {e : Env} {s : State} {m : MethodId} {args : Array Value} {below : List Frame} {meth : Method} {c : Code} {A : Nat → Prop} {D : va_G} {cI cC cZ cL : ClassId} {h h_signs : Nat}   {K : ((Nat → Int32) × Int32) → Prop} {X3 : (Nat → Int32) → Int32 → Int32 → Int32 → Prop} (C0 : xC p s m args meth c cX1_addNumber 3 none wsX1_addNumber RX1 D (xTY cI cC cZ cL)) (hA : ∀ q : Nat, s.heap.size ≤ q → A q) (hX3 : ∀ (f_signs : Nat → Int32) (f_length : Int32) (v1 : Int32) (v2 : Int32), X3 f_signs f_length v1 v2 → ∀ (H : Heap) (locs : List Loc) (ls : Array Slot), va_P D vwCl [(h, .inr (1, [.ref h_signs, .int f_length])), (h_signs, .inl (cC, 80, .inl f_signs))] H → va_D A [(h, .inr (1, [.ref h_signs, .int f_length])), (h_signs, .inl (cC, 80, .inl f_signs))] → va_S A s.heap H locs → lv_has ls 3 [(0, .ref h), (1, .int v1), (2, .int v2)] → W p l e ({ frames := 1, cells := 0, slots := 0, locals := 21 } : Room) s m args below meth c H locs 0 0 (MQ below (va_Qv (fun (u : (Nat → Int32) × Int32) => K u) (fun u t => xE D A ((fun (u : (Nat → Int32) × Int32) => [(h, .inr (1, [.ref h_signs, .int u.2])), (h_signs, .inl (cC, 80, .inl u.1))]) u) t) A) args s 0 0 A) (F0 m 3 ls [])) : ∀ (f_signs : Nat → Int32) (f_length : Int32) (v1 : Int32) (v2 : Int32) , xp_X1_addNumber_17 K X3 f_signs f_length v1 v2 → ∀ (H : Heap) (locs : List Loc) (ls : Array Slot), va_P D vwCl [(h, .inr (1, [.ref h_signs, .int f_length])), (h_signs, .inl (cC, 80, .inl f_signs))] H → va_D A [(h, .inr (1, [.ref h_signs, .int f_length])), (h_signs, .inl (cC, 80, .inl f_signs))] → va_S A s.heap H locs → lv_has ls 3 [(0, .ref h), (1, .int v1), (2, .int v2)] → W p l e ({ frames := 1, cells := 0, slots := 0, locals := 21 } : Room) s m args below meth c H locs 0 0 (MQ below (va_Qv (fun (u : (Nat → Int32) × Int32) => K u) (fun u t => xE D A ((fun (u : (Nat → Int32) × Int32) => [(h, .inr (1, [.ref h_signs, .int u.2])), (h_signs, .inl (cC, 80, .inl u.1))]) u) t) A) args s 0 0 A) (F0 m 17 ls []) := by
  obtain ⟨hx, hb, hr, hml, hown, hts, hlocks, hK, hN⟩ := id C0
  intro f_signs f_length v1 v2 hk H locs ls hP hD hS hl
  rw [xp_X1_addNumber_17] at hk
  refine lv_aload_n hx hb dX1_addNumber_17 rfl (lv_at hl 0 rfl) ?_
  refine lv_bipush (v := 48) hx hb dX1_addNumber_18 (by decide) ?_
  refine lv_iload_n hx hb dX1_addNumber_20 rfl (lv_at hl 1 rfl) ?_
  refine lv_iload_n hx hb dX1_addNumber_21 rfl (lv_at hl 2 rfl) ?_
  refine lv_idiv hx hb dX1_addNumber_22 hk.1 ?_
  have hk := hk.2
  refine lv_bipush (v := 10) hx hb dX1_addNumber_23 (by decide) ?_
  refine lv_irem hx hb dX1_addNumber_25 (by decide) ?_
  refine lv_iadd hx hb dX1_addNumber_26 ?_
  refine lv_i2c hx hb dX1_addNumber_27 rfl ?_
  refine x_joinv (ws1 := fun (u1 : (Nat → Int32) × Int32) => [(h, .inr (1, [.ref h_signs, .int u1.2])), (h_signs, .inl (cC, 80, .inl u1.1))]) (x_runV (n0 := 1) (As := [.int (((48 + ((v1 / v2) - (v1 / v2) / 10 * 10)).toUInt32 % 65536).toInt32)]) (rest := []) C0 (xc_X1_add l D cI cC cZ cL h h_signs H.size f_length f_signs (((48 + ((v1 / v2) - (v1 / v2) / 10 * 10)).toUInt32 % 65536).toInt32) _ hk) gX1_addNumber_X1_add rfl ⟨rfl, rfl⟩ (by decide +kernel) rfl ⟨by decide, by decide⟩ ⟨Nat.zero_le _, Nat.zero_le _⟩ hP hD [0, 1] rfl rfl (k := 0) rfl rfl rfl hl.1 rfl (Nat.le_of_ble_eq_true rfl) dX1_addNumber_28) hP hD hS hA [0, 1] [] [0, 1] rfl rfl rfl (by decide) (fun _ => rfl) rfl (fun u1 H locs hk hP hD hS => ?_)
  refine lv_iload_n hx hb dX1_addNumber_31 rfl (lv_at hl 2 rfl) ?_
  refine lv_bipush (v := 10) hx hb dX1_addNumber_32 (by decide) ?_
  refine lv_idiv hx hb dX1_addNumber_34 (by decide) ?_
  refine lv_istore_n (lv' := [(2, .int (v2 / 10)), (0, .ref h), (1, .int v1)]) hx hb dX1_addNumber_35 rfl hl (by decide) rfl (fun ls hl => ?_)
  refine lv_goto (tgt := 3) hx hb dX1_addNumber_36 (by decide) ?_
  exact hX3 _ _ _ _ hk H locs ls hP hD hS (lv_sub hl [1, 2, 0] rfl)
set_option maxHeartbeats 4000000 in
set_option maxRecDepth 100000 in
theorem xb_X1_addNumber_3 {p : Program} {l : Launch} {e : Env} {s : State} {m : MethodId} {args : Array Value} {below : List Frame} {meth : Method} {c : Code} {A : Nat → Prop} {D : va_G} {cI cC cZ cL : ClassId} {h h_signs : Nat}   {K : ((Nat → Int32) × Int32) → Prop}  (C0 : xC p s m args meth c cX1_addNumber 3 none wsX1_addNumber RX1 D (xTY cI cC cZ cL)) (hA : ∀ q : Nat, s.heap.size ≤ q → A q)  : ∀ (n : Nat) (f_signs : Nat → Int32) (f_length : Int32) (v1 : Int32) (v2 : Int32) , xp_X1_addNumber_3 K n f_signs f_length v1 v2 → ∀ (H : Heap) (locs : List Loc) (ls : Array Slot), va_P D vwCl [(h, .inr (1, [.ref h_signs, .int f_length])), (h_signs, .inl (cC, 80, .inl f_signs))] H → va_D A [(h, .inr (1, [.ref h_signs, .int f_length])), (h_signs, .inl (cC, 80, .inl f_signs))] → va_S A s.heap H locs → lv_has ls 3 [(0, .ref h), (1, .int v1), (2, .int v2)] → W p l e ({ frames := 1, cells := 0, slots := 0, locals := 21 } : Room) s m args below meth c H locs 0 0 (MQ below (va_Qv (fun (u : (Nat → Int32) × Int32) => K u) (fun u t => xE D A ((fun (u : (Nat → Int32) × Int32) => [(h, .inr (1, [.ref h_signs, .int u.2])), (h_signs, .inl (cC, 80, .inl u.1))]) u) t) A) args s 0 0 A) (F0 m 3 ls []) := by
  obtain ⟨hx, hb, hr, hml, hown, hts, hlocks, hK, hN⟩ := id C0
  intro n
  induction n with
  | zero => intro f_signs f_length v1 v2 hk; exact hk.elim
  | succ n ih =>
    intro f_signs f_length v1 v2 hk H locs ls hP hD hS hl
    rw [xp_X1_addNumber_3] at hk
    refine lv_iload_n hx hb dX1_addNumber_3 rfl (lv_at hl 2 rfl) ?_
    refine lv_if_le (tgt := 39) hx hb dX1_addNumber_4 (by decide) (fun c1 => ?_) (fun c1 => ?_)
    · have hk := hk.1 c1
      exact x_retv C0 (f_signs, f_length) hk hP hD hS dX1_addNumber_39
    · have hk := hk.2 c1
      refine lv_iload_n hx hb dX1_addNumber_7 rfl (lv_at hl 2 rfl) ?_
      refine lv_iconst (v := 1) hx hb dX1_addNumber_8 (by decide) ?_
      refine lv_icmp_eq (tgt := 17) hx hb dX1_addNumber_9 (by decide) (fun c2 => ?_) (fun c2 => ?_)
      · have hk := hk.1 c2
        exact xb_X1_addNumber_17 C0 hA ih _ _ _ _ hk H locs ls hP hD hS (lv_sub hl [0, 1, 2] rfl)
      · have hk := hk.2 c2
        refine lv_iload_n hx hb dX1_addNumber_12 rfl (lv_at hl 1 rfl) ?_
        refine lv_iload_n hx hb dX1_addNumber_13 rfl (lv_at hl 2 rfl) ?_
        refine lv_icmp_lt (tgt := 31) hx hb dX1_addNumber_14 (by decide) (fun c3 => ?_) (fun c3 => ?_)
        · have hk := hk.1 c3
          refine lv_iload_n hx hb dX1_addNumber_31 rfl (lv_at hl 2 rfl) ?_
          refine lv_bipush (v := 10) hx hb dX1_addNumber_32 (by decide) ?_
          refine lv_idiv hx hb dX1_addNumber_34 (by decide) ?_
          refine lv_istore_n (lv' := [(2, .int (v2 / 10)), (0, .ref h), (1, .int v1)]) hx hb dX1_addNumber_35 rfl hl (by decide) rfl (fun ls hl => ?_)
          refine lv_goto (tgt := 3) hx hb dX1_addNumber_36 (by decide) ?_
          exact ih _ _ _ _ hk H locs ls hP hD hS (lv_sub hl [1, 2, 0] rfl)
        · have hk := hk.2 c3
          exact xb_X1_addNumber_17 C0 hA ih _ _ _ _ hk H locs ls hP hD hS (lv_sub hl [0, 1, 2] rfl)
set_option maxHeartbeats 4000000 in
set_option maxRecDepth 100000 in
theorem xb_X1_addNumber_0 {p : Program} {l : Launch} {e : Env} {s : State} {m : MethodId} {args : Array Value} {below : List Frame} {meth : Method} {c : Code} {A : Nat → Prop} {D : va_G} {cI cC cZ cL : ClassId} {h h_signs : Nat}   {K : ((Nat → Int32) × Int32) → Prop}  (C0 : xC p s m args meth c cX1_addNumber 3 none wsX1_addNumber RX1 D (xTY cI cC cZ cL)) (hA : ∀ q : Nat, s.heap.size ≤ q → A q)  : ∀ (f_signs : Nat → Int32) (f_length : Int32) (x1 : Int32) , xp_X1_addNumber f_signs f_length x1 K → ∀ (H : Heap) (locs : List Loc) (ls : Array Slot), va_P D vwCl [(h, .inr (1, [.ref h_signs, .int f_length])), (h_signs, .inl (cC, 80, .inl f_signs))] H → va_D A [(h, .inr (1, [.ref h_signs, .int f_length])), (h_signs, .inl (cC, 80, .inl f_signs))] → va_S A s.heap H locs → lv_has ls 3 [(0, .ref h), (1, .int x1)] → W p l e ({ frames := 1, cells := 0, slots := 0, locals := 21 } : Room) s m args below meth c H locs 0 0 (MQ below (va_Qv (fun (u : (Nat → Int32) × Int32) => K u) (fun u t => xE D A ((fun (u : (Nat → Int32) × Int32) => [(h, .inr (1, [.ref h_signs, .int u.2])), (h_signs, .inl (cC, 80, .inl u.1))]) u) t) A) args s 0 0 A) (F0 m 0 ls []) := by
  obtain ⟨hx, hb, hr, hml, hown, hts, hlocks, hK, hN⟩ := id C0
  intro f_signs f_length x1 hk H locs ls hP hD hS hl
  rw [xp_X1_addNumber] at hk
  refine lv_ldc (own := RX1) hx hb hown (hts (.constant RX1 48 (1000000000)) (by decide +kernel)) dX1_addNumber_0 ?_
  refine lv_istore_n (lv' := [(2, .int 1000000000), (0, .ref h), (1, .int x1)]) hx hb dX1_addNumber_2 rfl hl (by decide) rfl (fun ls hl => ?_)
  obtain ⟨n9, hk⟩ := hk
  exact xb_X1_addNumber_3 C0 hA  n9 _ _ _ _ hk H locs ls hP hD hS (lv_sub hl [1, 2, 0] rfl)
theorem xc_X1_addNumber (l : Launch) (D : va_G) (cI cC cZ cL : ClassId) (h h_signs : Nat)  (sz : Nat) (f_length : Int32) (f_signs : Nat → Int32) (x1 : Int32) (K : ((Nat → Int32) × Int32) → Prop) (hk : xp_X1_addNumber f_signs f_length x1 K) : XMv l yX1_addNumber wsX1_addNumber ({ frames := 1, cells := 0, slots := 0, locals := 21 } : Room) D (xTY cI cC cZ cL) [.ref h, .int x1] [(h, .inr (1, [.ref h_signs, .int f_length])), (h_signs, .inl (cC, 80, .inl f_signs))] sz (fun (u : (Nat → Int32) × Int32) => K u) (fun (u : (Nat → Int32) × Int32) => [(h, .inr (1, [.ref h_signs, .int u.2])), (h_signs, .inl (cC, 80, .inl u.1))]) :=
  x_enter (cc := cX1_addNumber) (maxL := 3) (ret := none) (own := RX1) (by decide) rfl rfl (Nat.le_of_ble_eq_true rfl) (fun p e s m below meth c ls C0 hA hP hD hS hl => xb_X1_addNumber_0 C0 hA _ _ _ hk s.heap [] ls hP hD hS hl)
set_option maxRecDepth 20000 in
theorem xin_X1_addIf_X1 : ∀ w ∈ u_ws RX1 TX1 2, w ∈ wsX1_addIf := by decide +kernel
set_option maxHeartbeats 4000000 in
set_option maxRecDepth 100000 in
theorem xb_X1_addIf_0 {p : Program} {l : Launch} {e : Env} {s : State} {m : MethodId} {args : Array Value} {below : List Frame} {meth : Method} {c : Code} {A : Nat → Prop} {D : va_G} {cI cC cZ cL : ClassId} {h h_signs : Nat}   {K : ((Nat → Int32) × Int32) → Prop}  (C0 : xC p s m args meth c cX1_addIf 3 none wsX1_addIf RX1 D (xTY cI cC cZ cL)) (hA : ∀ q : Nat, s.heap.size ≤ q → A q)  : ∀ (f_signs : Nat → Int32) (f_length : Int32) (x1 : Int32) (x2 : Int32) , xp_X1_addIf f_signs f_length x1 x2 K → ∀ (H : Heap) (locs : List Loc) (ls : Array Slot), va_P D vwCl [(h, .inr (1, [.ref h_signs, .int f_length])), (h_signs, .inl (cC, 80, .inl f_signs))] H → va_D A [(h, .inr (1, [.ref h_signs, .int f_length])), (h_signs, .inl (cC, 80, .inl f_signs))] → va_S A s.heap H locs → lv_has ls 3 [(0, .ref h), (1, .int x1), (2, .int x2)] → W p l e ({ frames := 1, cells := 0, slots := 0, locals := 21 } : Room) s m args below meth c H locs 0 0 (MQ below (va_Qv (fun (u : (Nat → Int32) × Int32) => K u) (fun u t => xE D A ((fun (u : (Nat → Int32) × Int32) => [(h, .inr (1, [.ref h_signs, .int u.2])), (h_signs, .inl (cC, 80, .inl u.1))]) u) t) A) args s 0 0 A) (F0 m 0 ls []) := by
  obtain ⟨hx, hb, hr, hml, hown, hts, hlocks, hK, hN⟩ := id C0
  intro f_signs f_length x1 x2 hk H locs ls hP hD hS hl
  rw [xp_X1_addIf] at hk
  refine lv_iload_n hx hb dX1_addIf_0 rfl (lv_at hl 1 rfl) ?_
  refine lv_if_eq (tgt := 9) hx hb dX1_addIf_1 (by decide) (fun c1 => ?_) (fun c1 => ?_)
  · have hk := hk.1 c1
    exact x_retv C0 (f_signs, f_length) hk hP hD hS dX1_addIf_9
  · have hk := hk.2 c1
    refine lv_aload_n hx hb dX1_addIf_4 rfl (lv_at hl 0 rfl) ?_
    refine lv_iload_n hx hb dX1_addIf_5 rfl (lv_at hl 2 rfl) ?_
    refine x_joinv (ws1 := fun (u2 : (Nat → Int32) × Int32) => [(h, .inr (1, [.ref h_signs, .int u2.2])), (h_signs, .inl (cC, 80, .inl u2.1))]) (x_runV (n0 := 1) (As := [.int x2]) (rest := []) C0 (xc_X1_add l D cI cC cZ cL h h_signs H.size f_length f_signs x2 _ hk) gX1_addIf_X1_add rfl ⟨rfl, rfl⟩ (by decide +kernel) rfl ⟨by decide, by decide⟩ ⟨Nat.zero_le _, Nat.zero_le _⟩ hP hD [0, 1] rfl rfl (k := 0) rfl rfl rfl hl.1 rfl (Nat.le_of_ble_eq_true rfl) dX1_addIf_6) hP hD hS hA [0, 1] [] [0, 1] rfl rfl rfl (by decide) (fun _ => rfl) rfl (fun u2 H locs hk hP hD hS => ?_)
    exact x_retv C0 (u2.1, u2.2) hk hP hD hS dX1_addIf_9
theorem xc_X1_addIf (l : Launch) (D : va_G) (cI cC cZ cL : ClassId) (h h_signs : Nat)  (sz : Nat) (f_length : Int32) (f_signs : Nat → Int32) (x1 : Int32) (x2 : Int32) (K : ((Nat → Int32) × Int32) → Prop) (hk : xp_X1_addIf f_signs f_length x1 x2 K) : XMv l yX1_addIf wsX1_addIf ({ frames := 1, cells := 0, slots := 0, locals := 21 } : Room) D (xTY cI cC cZ cL) [.ref h, .int x1, .int x2] [(h, .inr (1, [.ref h_signs, .int f_length])), (h_signs, .inl (cC, 80, .inl f_signs))] sz (fun (u : (Nat → Int32) × Int32) => K u) (fun (u : (Nat → Int32) × Int32) => [(h, .inr (1, [.ref h_signs, .int u.2])), (h_signs, .inl (cC, 80, .inl u.1))]) :=
  x_enter (cc := cX1_addIf) (maxL := 3) (ret := none) (own := RX1) (by decide) rfl rfl (Nat.le_of_ble_eq_true rfl) (fun p e s m below meth c ls C0 hA hP hD hS hl => xb_X1_addIf_0 C0 hA _ _ _ _ hk s.heap [] ls hP hD hS hl)
set_option maxRecDepth 20000 in
theorem xin_X1_addPlace_X1 : ∀ w ∈ u_ws RX1 TX1 2, w ∈ wsX1_addPlace := by decide +kernel
set_option maxHeartbeats 4000000 in
set_option maxRecDepth 100000 in
theorem xb_X1_addPlace_0 {p : Program} {l : Launch} {e : Env} {s : State} {m : MethodId} {args : Array Value} {below : List Frame} {meth : Method} {c : Code} {A : Nat → Prop} {D : va_G} {cI cC cZ cL : ClassId} {h h_signs : Nat}   {K : ((Nat → Int32) × Int32) → Prop}  (C0 : xC p s m args meth c cX1_addPlace 4 none wsX1_addPlace RX1 D (xTY cI cC cZ cL)) (hA : ∀ q : Nat, s.heap.size ≤ q → A q)  : ∀ (f_signs : Nat → Int32) (f_length : Int32) (x1 : Int32) (x2 : Int32) (x3 : Int32) , xp_X1_addPlace f_signs f_length x1 x2 x3 K → ∀ (H : Heap) (locs : List Loc) (ls : Array Slot), va_P D vwCl [(h, .inr (1, [.ref h_signs, .int f_length])), (h_signs, .inl (cC, 80, .inl f_signs))] H → va_D A [(h, .inr (1, [.ref h_signs, .int f_length])), (h_signs, .inl (cC, 80, .inl f_signs))] → va_S A s.heap H locs → lv_has ls 4 [(0, .ref h), (1, .int x1), (2, .int x2), (3, .int x3)] → W p l e ({ frames := 2, cells := 0, slots := 0, locals := 43 } : Room) s m args below meth c H locs 0 0 (MQ below (va_Qv (fun (u : (Nat → Int32) × Int32) => K u) (fun u t => xE D A ((fun (u : (Nat → Int32) × Int32) => [(h, .inr (1, [.ref h_signs, .int u.2])), (h_signs, .inl (cC, 80, .inl u.1))]) u) t) A) args s 0 0 A) (F0 m 0 ls []) := by
  obtain ⟨hx, hb, hr, hml, hown, hts, hlocks, hK, hN⟩ := id C0
  intro f_signs f_length x1 x2 x3 hk H locs ls hP hD hS hl
  rw [xp_X1_addPlace] at hk
  refine lv_aload_n hx hb dX1_addPlace_0 rfl (lv_at hl 0 rfl) ?_
  refine lv_bipush (v := 32) hx hb dX1_addPlace_1 (by decide) ?_
  refine x_joinv (ws1 := fun (u1 : (Nat → Int32) × Int32) => [(h, .inr (1, [.ref h_signs, .int u1.2])), (h_signs, .inl (cC, 80, .inl u1.1))]) (x_runV (n0 := 1) (As := [.int 32]) (rest := []) C0 (xc_X1_add l D cI cC cZ cL h h_signs H.size f_length f_signs 32 _ hk) gX1_addPlace_X1_add rfl ⟨rfl, rfl⟩ (by decide +kernel) rfl ⟨by decide, by decide⟩ ⟨Nat.zero_le _, Nat.zero_le _⟩ hP hD [0, 1] rfl rfl (k := 0) rfl rfl rfl hl.1 rfl (Nat.le_of_ble_eq_true rfl) dX1_addPlace_3) hP hD hS hA [0, 1] [] [0, 1] rfl rfl rfl (by decide) (fun _ => rfl) rfl (fun u1 H locs hk hP hD hS => ?_)
  refine lv_aload_n hx hb dX1_addPlace_6 rfl (lv_at hl 0 rfl) ?_
  refine lv_iload_n hx hb dX1_addPlace_7 rfl (lv_at hl 1 rfl) ?_
  refine x_joinv (ws1 := fun (u2 : (Nat → Int32) × Int32) => [(h, .inr (1, [.ref h_signs, .int u2.2])), (h_signs, .inl (cC, 80, .inl u2.1))]) (x_runV (n0 := 1) (As := [.int x1]) (rest := []) C0 (xc_X1_add l D cI cC cZ cL h h_signs H.size u1.2 u1.1 x1 _ hk) gX1_addPlace_X1_add rfl ⟨rfl, rfl⟩ (by decide +kernel) rfl ⟨by decide, by decide⟩ ⟨Nat.zero_le _, Nat.zero_le _⟩ hP hD [0, 1] rfl rfl (k := 0) rfl rfl rfl hl.1 rfl (Nat.le_of_ble_eq_true rfl) dX1_addPlace_8) hP hD hS hA [0, 1] [] [0, 1] rfl rfl rfl (by decide) (fun _ => rfl) rfl (fun u2 H locs hk hP hD hS => ?_)
  refine lv_aload_n hx hb dX1_addPlace_11 rfl (lv_at hl 0 rfl) ?_
  refine lv_iload_n hx hb dX1_addPlace_12 rfl (lv_at hl 2 rfl) ?_
  refine x_joinv (ws1 := fun (u3 : (Nat → Int32) × Int32) => [(h, .inr (1, [.ref h_signs, .int u3.2])), (h_signs, .inl (cC, 80, .inl u3.1))]) (x_runV (n0 := 1) (As := [.int x2]) (rest := []) C0 (xc_X1_addNumber l D cI cC cZ cL h h_signs H.size u2.2 u2.1 x2 _ hk) gX1_addPlace_X1_addNumber rfl ⟨rfl, rfl⟩ (by decide +kernel) rfl ⟨by decide, by decide⟩ ⟨Nat.zero_le _, Nat.zero_le _⟩ hP hD [0, 1] rfl rfl (k := 0) rfl rfl rfl hl.1 rfl (Nat.le_of_ble_eq_true rfl) dX1_addPlace_13) hP hD hS hA [0, 1] [] [0, 1] rfl rfl rfl (by decide) (fun _ => rfl) rfl (fun u3 H locs hk hP hD hS => ?_)
  refine lv_aload_n hx hb dX1_addPlace_16 rfl (lv_at hl 0 rfl) ?_
  refine lv_bipush (v := 58) hx hb dX1_addPlace_17 (by decide) ?_
  refine x_joinv (ws1 := fun (u4 : (Nat → Int32) × Int32) => [(h, .inr (1, [.ref h_signs, .int u4.2])), (h_signs, .inl (cC, 80, .inl u4.1))]) (x_runV (n0 := 1) (As := [.int 58]) (rest := []) C0 (xc_X1_add l D cI cC cZ cL h h_signs H.size u3.2 u3.1 58 _ hk) gX1_addPlace_X1_add rfl ⟨rfl, rfl⟩ (by decide +kernel) rfl ⟨by decide, by decide⟩ ⟨Nat.zero_le _, Nat.zero_le _⟩ hP hD [0, 1] rfl rfl (k := 0) rfl rfl rfl hl.1 rfl (Nat.le_of_ble_eq_true rfl) dX1_addPlace_19) hP hD hS hA [0, 1] [] [0, 1] rfl rfl rfl (by decide) (fun _ => rfl) rfl (fun u4 H locs hk hP hD hS => ?_)
  refine lv_aload_n hx hb dX1_addPlace_22 rfl (lv_at hl 0 rfl) ?_
  refine lv_iload_n hx hb dX1_addPlace_23 rfl (lv_at hl 3 rfl) ?_
  refine x_joinv (ws1 := fun (u5 : (Nat → Int32) × Int32) => [(h, .inr (1, [.ref h_signs, .int u5.2])), (h_signs, .inl (cC, 80, .inl u5.1))]) (x_runV (n0 := 1) (As := [.int x3]) (rest := []) C0 (xc_X1_addNumber l D cI cC cZ cL h h_signs H.size u4.2 u4.1 x3 _ hk) gX1_addPlace_X1_addNumber rfl ⟨rfl, rfl⟩ (by decide +kernel) rfl ⟨by decide, by decide⟩ ⟨Nat.zero_le _, Nat.zero_le _⟩ hP hD [0, 1] rfl rfl (k := 0) rfl rfl rfl hl.1 rfl (Nat.le_of_ble_eq_true rfl) dX1_addPlace_24) hP hD hS hA [0, 1] [] [0, 1] rfl rfl rfl (by decide) (fun _ => rfl) rfl (fun u5 H locs hk hP hD hS => ?_)
  exact x_retv C0 (u5.1, u5.2) hk hP hD hS dX1_addPlace_27
theorem xc_X1_addPlace (l : Launch) (D : va_G) (cI cC cZ cL : ClassId) (h h_signs : Nat)  (sz : Nat) (f_length : Int32) (f_signs : Nat → Int32) (x1 : Int32) (x2 : Int32) (x3 : Int32) (K : ((Nat → Int32) × Int32) → Prop) (hk : xp_X1_addPlace f_signs f_length x1 x2 x3 K) : XMv l yX1_addPlace wsX1_addPlace ({ frames := 2, cells := 0, slots := 0, locals := 43 } : Room) D (xTY cI cC cZ cL) [.ref h, .int x1, .int x2, .int x3] [(h, .inr (1, [.ref h_signs, .int f_length])), (h_signs, .inl (cC, 80, .inl f_signs))] sz (fun (u : (Nat → Int32) × Int32) => K u) (fun (u : (Nat → Int32) × Int32) => [(h, .inr (1, [.ref h_signs, .int u.2])), (h_signs, .inl (cC, 80, .inl u.1))]) :=
  x_enter (cc := cX1_addPlace) (maxL := 4) (ret := none) (own := RX1) (by decide) rfl rfl (Nat.le_of_ble_eq_true rfl) (fun p e s m below meth c ls C0 hA hP hD hS hl => xb_X1_addPlace_0 C0 hA _ _ _ _ _ hk s.heap [] ls hP hD hS hl)
set_option maxRecDepth 20000 in
theorem xin_X1_write_X3 : ∀ w ∈ u_ws RX3 TX3 1, w ∈ wsX1_write := by decide +kernel
set_option maxRecDepth 20000 in
theorem xin_X1_write_X1 : ∀ w ∈ u_ws RX1 TX1 2, w ∈ wsX1_write := by decide +kernel
set_option maxHeartbeats 4000000 in
set_option maxRecDepth 100000 in
theorem xb_X1_write_103 {p : Program} {l : Launch} {e : Env} {s : State} {m : MethodId} {args : Array Value} {below : List Frame} {meth : Method} {c : Code} {A : Nat → Prop} {D : va_G} {cI cC cZ cL : ClassId} {h h_signs g1 g1_cells : Nat}  {f_p1_cells : Nat → Int32} {K : ((Nat → Int32) × Int32) → Prop}  (C0 : xC p s m args meth c cX1_write 3 none wsX1_write RX1 D (xTY cI cC cZ cL)) (hA : ∀ q : Nat, s.heap.size ≤ q → A q)  : ∀ (f_signs : Nat → Int32) (f_length : Int32) (v2 : Int32) (t0 : Int32) , xp_X1_write_103 f_p1_cells K f_signs f_length v2 t0 → ∀ (H : Heap) (locs : List Loc) (ls : Array Slot), va_P D vwCl [(h, .inr (1, [.ref h_signs, .int f_length])), (h_signs, .inl (cC, 80, .inl f_signs)), (g1, .inr (3, [.ref g1_cells])), (g1_cells, .inl (cI, 400, .inl f_p1_cells))] H → va_D A [(h, .inr (1, [.ref h_signs, .int f_length])), (h_signs, .inl (cC, 80, .inl f_signs)), (g1, .inr (3, [.ref g1_cells])), (g1_cells, .inl (cI, 400, .inl f_p1_cells))] → va_S A s.heap H locs → lv_has ls 3 [(0, .ref h), (1, .ref g1), (2, .int v2)] → W p l e ({ frames := 4, cells := 0, slots := 0, locals := 90 } : Room) s m args below meth c H locs 0 0 (MQ below (va_Qv (fun (u : (Nat → Int32) × Int32) => K u) (fun u t => xE D A ((fun (u : (Nat → Int32) × Int32) => [(h, .inr (1, [.ref h_signs, .int u.2])), (h_signs, .inl (cC, 80, .inl u.1)), (g1, .inr (3, [.ref g1_cells])), (g1_cells, .inl (cI, 400, .inl f_p1_cells))]) u) t) A) args s 0 0 A) (F0 m 103 ls [.int t0, .ref h]) := by
  obtain ⟨hx, hb, hr, hml, hown, hts, hlocks, hK, hN⟩ := id C0
  intro f_signs f_length v2 t0 hk H locs ls hP hD hS hl
  rw [xp_X1_write_103] at hk
  refine lv_bipush (v := 120) hx hb dX1_write_103 (by decide) ?_
  refine x_joinv (ws1 := fun (u1 : (Nat → Int32) × Int32) => [(h, .inr (1, [.ref h_signs, .int u1.2])), (h_signs, .inl (cC, 80, .inl u1.1)), (g1, .inr (3, [.ref g1_cells])), (g1_cells, .inl (cI, 400, .inl f_p1_cells))]) (x_runV (n0 := 2) (As := [.int t0, .int 120]) (rest := []) C0 (xc_X1_addIf l D cI cC cZ cL h h_signs H.size f_length f_signs t0 120 _ hk) gX1_write_X1_addIf rfl ⟨rfl, rfl⟩ (by decide +kernel) rfl ⟨by decide, by decide⟩ ⟨Nat.zero_le _, Nat.zero_le _⟩ hP hD [0, 1] rfl rfl (k := 0) rfl rfl rfl hl.1 rfl (Nat.le_of_ble_eq_true rfl) dX1_write_105) hP hD hS hA [0, 1] [2, 3] [2, 3, 0, 1] rfl rfl rfl (by decide) (fun _ => rfl) rfl (fun u1 H locs hk hP hD hS => ?_)
  refine lv_aload_n hx hb dX1_write_108 rfl (lv_at hl 0 rfl) ?_
  refine lv_bipush (v := 99) hx hb dX1_write_109 (by decide) ?_
  refine lv_aload_n hx hb dX1_write_111 rfl (lv_at hl 1 rfl) ?_
  refine lv_iload_n hx hb dX1_write_112 rfl (lv_at hl 2 rfl) ?_
  refine lv_bipush (v := 6) hx hb dX1_write_113 (by decide) ?_
  refine x_joini (ws1 := fun (_ : Unit) => [(h, .inr (1, [.ref h_signs, .int u1.2])), (h_signs, .inl (cC, 80, .inl u1.1)), (g1, .inr (3, [.ref g1_cells])), (g1_cells, .inl (cI, 400, .inl f_p1_cells))]) (x_runV (n0 := 2) (As := [.int v2, .int 6]) (rest := [.int 99, .ref h]) C0 (xc_X3_of l D cI cC cZ cL g1 g1_cells H.size f_p1_cells v2 6 _ hk) gX1_write_X3_of rfl ⟨rfl, rfl⟩ (by decide +kernel) rfl ⟨by decide, by decide⟩ ⟨Nat.zero_le _, Nat.zero_le _⟩ hP hD [2, 3] rfl rfl (k := 2) rfl rfl rfl hl.1 rfl (Nat.le_of_ble_eq_true rfl) dX1_write_115) hP hD hS hA [2, 3] [0, 1] [0, 1, 2, 3] rfl rfl rfl (by decide) (fun _ => rfl) rfl (fun r2 u2 H locs hk hP hD hS => ?_)
  refine lv_aload_n hx hb dX1_write_118 rfl (lv_at hl 1 rfl) ?_
  refine lv_iload_n hx hb dX1_write_119 rfl (lv_at hl 2 rfl) ?_
  refine lv_bipush (v := 7) hx hb dX1_write_120 (by decide) ?_
  refine x_joini (ws1 := fun (_ : Unit) => [(h, .inr (1, [.ref h_signs, .int u1.2])), (h_signs, .inl (cC, 80, .inl u1.1)), (g1, .inr (3, [.ref g1_cells])), (g1_cells, .inl (cI, 400, .inl f_p1_cells))]) (x_runV (n0 := 2) (As := [.int v2, .int 7]) (rest := [.int r2, .int 99, .ref h]) C0 (xc_X3_of l D cI cC cZ cL g1 g1_cells H.size f_p1_cells v2 7 _ hk) gX1_write_X3_of rfl ⟨rfl, rfl⟩ (by decide +kernel) rfl ⟨by decide, by decide⟩ ⟨Nat.zero_le _, Nat.zero_le _⟩ hP hD [2, 3] rfl rfl (k := 2) rfl rfl rfl hl.1 rfl (Nat.le_of_ble_eq_true rfl) dX1_write_122) hP hD hS hA [2, 3] [0, 1] [0, 1, 2, 3] rfl rfl rfl (by decide) (fun _ => rfl) rfl (fun r3 u3 H locs hk hP hD hS => ?_)
  refine x_joinv (ws1 := fun (u4 : (Nat → Int32) × Int32) => [(h, .inr (1, [.ref h_signs, .int u4.2])), (h_signs, .inl (cC, 80, .inl u4.1)), (g1, .inr (3, [.ref g1_cells])), (g1_cells, .inl (cI, 400, .inl f_p1_cells))]) (x_runV (n0 := 3) (As := [.int 99, .int r2, .int r3]) (rest := []) C0 (xc_X1_addPlace l D cI cC cZ cL h h_signs H.size u1.2 u1.1 99 r2 r3 _ hk) gX1_write_X1_addPlace rfl ⟨rfl, rfl⟩ (by decide +kernel) rfl ⟨by decide, by decide⟩ ⟨Nat.zero_le _, Nat.zero_le _⟩ hP hD [0, 1] rfl rfl (k := 0) rfl rfl rfl hl.1 rfl (Nat.le_of_ble_eq_true rfl) dX1_write_125) hP hD hS hA [0, 1] [2, 3] [2, 3, 0, 1] rfl rfl rfl (by decide) (fun _ => rfl) rfl (fun u4 H locs hk hP hD hS => ?_)
  refine lv_aload_n hx hb dX1_write_128 rfl (lv_at hl 1 rfl) ?_
  refine lv_iload_n hx hb dX1_write_129 rfl (lv_at hl 2 rfl) ?_
  refine x_joini (ws1 := fun (_ : Unit) => [(h, .inr (1, [.ref h_signs, .int u4.2])), (h_signs, .inl (cC, 80, .inl u4.1)), (g1, .inr (3, [.ref g1_cells])), (g1_cells, .inl (cI, 400, .inl f_p1_cells))]) (x_runV (n0 := 1) (As := [.int v2]) (rest := []) C0 (xc_X3_hasSound l D cI cC cZ cL g1 g1_cells H.size f_p1_cells v2 _ hk) gX1_write_X3_hasSound rfl ⟨rfl, rfl⟩ (by decide +kernel) rfl ⟨by decide, by decide⟩ ⟨Nat.zero_le _, Nat.zero_le _⟩ hP hD [2, 3] rfl rfl (k := 2) rfl rfl rfl hl.1 rfl (Nat.le_of_ble_eq_true rfl) dX1_write_130) hP hD hS hA [2, 3] [0, 1] [0, 1, 2, 3] rfl rfl rfl (by decide) (fun _ => rfl) rfl (fun r5 u5 H locs hk hP hD hS => ?_)
  refine lv_if_eq (tgt := 156) hx hb dX1_write_133 (by decide) (fun c6 => ?_) (fun c6 => ?_)
  · have hk := hk.1 c6
    exact x_retv C0 (u4.1, u4.2) hk hP hD hS dX1_write_156
  · have hk := hk.2 c6
    refine lv_aload_n hx hb dX1_write_136 rfl (lv_at hl 0 rfl) ?_
    refine lv_bipush (v := 115) hx hb dX1_write_137 (by decide) ?_
    refine lv_aload_n hx hb dX1_write_139 rfl (lv_at hl 1 rfl) ?_
    refine lv_iload_n hx hb dX1_write_140 rfl (lv_at hl 2 rfl) ?_
    refine lv_bipush (v := 9) hx hb dX1_write_141 (by decide) ?_
    refine x_joini (ws1 := fun (_ : Unit) => [(h, .inr (1, [.ref h_signs, .int u4.2])), (h_signs, .inl (cC, 80, .inl u4.1)), (g1, .inr (3, [.ref g1_cells])), (g1_cells, .inl (cI, 400, .inl f_p1_cells))]) (x_runV (n0 := 2) (As := [.int v2, .int 9]) (rest := [.int 115, .ref h]) C0 (xc_X3_of l D cI cC cZ cL g1 g1_cells H.size f_p1_cells v2 9 _ hk) gX1_write_X3_of rfl ⟨rfl, rfl⟩ (by decide +kernel) rfl ⟨by decide, by decide⟩ ⟨Nat.zero_le _, Nat.zero_le _⟩ hP hD [2, 3] rfl rfl (k := 2) rfl rfl rfl hl.1 rfl (Nat.le_of_ble_eq_true rfl) dX1_write_143) hP hD hS hA [2, 3] [0, 1] [0, 1, 2, 3] rfl rfl rfl (by decide) (fun _ => rfl) rfl (fun r7 u7 H locs hk hP hD hS => ?_)
    refine lv_aload_n hx hb dX1_write_146 rfl (lv_at hl 1 rfl) ?_
    refine lv_iload_n hx hb dX1_write_147 rfl (lv_at hl 2 rfl) ?_
    refine lv_bipush (v := 11) hx hb dX1_write_148 (by decide) ?_
    refine x_joini (ws1 := fun (_ : Unit) => [(h, .inr (1, [.ref h_signs, .int u4.2])), (h_signs, .inl (cC, 80, .inl u4.1)), (g1, .inr (3, [.ref g1_cells])), (g1_cells, .inl (cI, 400, .inl f_p1_cells))]) (x_runV (n0 := 2) (As := [.int v2, .int 11]) (rest := [.int r7, .int 115, .ref h]) C0 (xc_X3_of l D cI cC cZ cL g1 g1_cells H.size f_p1_cells v2 11 _ hk) gX1_write_X3_of rfl ⟨rfl, rfl⟩ (by decide +kernel) rfl ⟨by decide, by decide⟩ ⟨Nat.zero_le _, Nat.zero_le _⟩ hP hD [2, 3] rfl rfl (k := 2) rfl rfl rfl hl.1 rfl (Nat.le_of_ble_eq_true rfl) dX1_write_150) hP hD hS hA [2, 3] [0, 1] [0, 1, 2, 3] rfl rfl rfl (by decide) (fun _ => rfl) rfl (fun r8 u8 H locs hk hP hD hS => ?_)
    refine x_joinv (ws1 := fun (u9 : (Nat → Int32) × Int32) => [(h, .inr (1, [.ref h_signs, .int u9.2])), (h_signs, .inl (cC, 80, .inl u9.1)), (g1, .inr (3, [.ref g1_cells])), (g1_cells, .inl (cI, 400, .inl f_p1_cells))]) (x_runV (n0 := 3) (As := [.int 115, .int r7, .int r8]) (rest := []) C0 (xc_X1_addPlace l D cI cC cZ cL h h_signs H.size u4.2 u4.1 115 r7 r8 _ hk) gX1_write_X1_addPlace rfl ⟨rfl, rfl⟩ (by decide +kernel) rfl ⟨by decide, by decide⟩ ⟨Nat.zero_le _, Nat.zero_le _⟩ hP hD [0, 1] rfl rfl (k := 0) rfl rfl rfl hl.1 rfl (Nat.le_of_ble_eq_true rfl) dX1_write_153) hP hD hS hA [0, 1] [2, 3] [2, 3, 0, 1] rfl rfl rfl (by decide) (fun _ => rfl) rfl (fun u9 H locs hk hP hD hS => ?_)
    exact x_retv C0 (u9.1, u9.2) hk hP hD hS dX1_write_156
set_option maxHeartbeats 4000000 in
set_option maxRecDepth 100000 in
theorem xb_X1_write_81 {p : Program} {l : Launch} {e : Env} {s : State} {m : MethodId} {args : Array Value} {below : List Frame} {meth : Method} {c : Code} {A : Nat → Prop} {D : va_G} {cI cC cZ cL : ClassId} {h h_signs g1 g1_cells : Nat}  {f_p1_cells : Nat → Int32} {K : ((Nat → Int32) × Int32) → Prop}  (C0 : xC p s m args meth c cX1_write 3 none wsX1_write RX1 D (xTY cI cC cZ cL)) (hA : ∀ q : Nat, s.heap.size ≤ q → A q)  : ∀ (f_signs : Nat → Int32) (f_length : Int32) (v2 : Int32) (t0 : Int32) , xp_X1_write_81 f_p1_cells K f_signs f_length v2 t0 → ∀ (H : Heap) (locs : List Loc) (ls : Array Slot), va_P D vwCl [(h, .inr (1, [.ref h_signs, .int f_length])), (h_signs, .inl (cC, 80, .inl f_signs)), (g1, .inr (3, [.ref g1_cells])), (g1_cells, .inl (cI, 400, .inl f_p1_cells))] H → va_D A [(h, .inr (1, [.ref h_signs, .int f_length])), (h_signs, .inl (cC, 80, .inl f_signs)), (g1, .inr (3, [.ref g1_cells])), (g1_cells, .inl (cI, 400, .inl f_p1_cells))] → va_S A s.heap H locs → lv_has ls 3 [(0, .ref h), (1, .ref g1), (2, .int v2)] → W p l e ({ frames := 4, cells := 0, slots := 0, locals := 90 } : Room) s m args below meth c H locs 0 0 (MQ below (va_Qv (fun (u : (Nat → Int32) × Int32) => K u) (fun u t => xE D A ((fun (u : (Nat → Int32) × Int32) => [(h, .inr (1, [.ref h_signs, .int u.2])), (h_signs, .inl (cC, 80, .inl u.1)), (g1, .inr (3, [.ref g1_cells])), (g1_cells, .inl (cI, 400, .inl f_p1_cells))]) u) t) A) args s 0 0 A) (F0 m 81 ls [.int t0, .ref h]) := by
  obtain ⟨hx, hb, hr, hml, hown, hts, hlocks, hK, hN⟩ := id C0
  intro f_signs f_length v2 t0 hk H locs ls hP hD hS hl
  rw [xp_X1_write_81] at hk
  refine lv_bipush (v := 63) hx hb dX1_write_81 (by decide) ?_
  refine x_joinv (ws1 := fun (u1 : (Nat → Int32) × Int32) => [(h, .inr (1, [.ref h_signs, .int u1.2])), (h_signs, .inl (cC, 80, .inl u1.1)), (g1, .inr (3, [.ref g1_cells])), (g1_cells, .inl (cI, 400, .inl f_p1_cells))]) (x_runV (n0 := 2) (As := [.int t0, .int 63]) (rest := []) C0 (xc_X1_addIf l D cI cC cZ cL h h_signs H.size f_length f_signs t0 63 _ hk) gX1_write_X1_addIf rfl ⟨rfl, rfl⟩ (by decide +kernel) rfl ⟨by decide, by decide⟩ ⟨Nat.zero_le _, Nat.zero_le _⟩ hP hD [0, 1] rfl rfl (k := 0) rfl rfl rfl hl.1 rfl (Nat.le_of_ble_eq_true rfl) dX1_write_83) hP hD hS hA [0, 1] [2, 3] [2, 3, 0, 1] rfl rfl rfl (by decide) (fun _ => rfl) rfl (fun u1 H locs hk hP hD hS => ?_)
  refine lv_aload_n hx hb dX1_write_86 rfl (lv_at hl 0 rfl) ?_
  refine lv_aload_n hx hb dX1_write_87 rfl (lv_at hl 1 rfl) ?_
  refine lv_iload_n hx hb dX1_write_88 rfl (lv_at hl 2 rfl) ?_
  refine lv_bipush (v := 15) hx hb dX1_write_89 (by decide) ?_
  refine x_joini (ws1 := fun (_ : Unit) => [(h, .inr (1, [.ref h_signs, .int u1.2])), (h_signs, .inl (cC, 80, .inl u1.1)), (g1, .inr (3, [.ref g1_cells])), (g1_cells, .inl (cI, 400, .inl f_p1_cells))]) (x_runV (n0 := 2) (As := [.int v2, .int 15]) (rest := [.ref h]) C0 (xc_X3_of l D cI cC cZ cL g1 g1_cells H.size f_p1_cells v2 15 _ hk) gX1_write_X3_of rfl ⟨rfl, rfl⟩ (by decide +kernel) rfl ⟨by decide, by decide⟩ ⟨Nat.zero_le _, Nat.zero_le _⟩ hP hD [2, 3] rfl rfl (k := 2) rfl rfl rfl hl.1 rfl (Nat.le_of_ble_eq_true rfl) dX1_write_91) hP hD hS hA [2, 3] [0, 1] [0, 1, 2, 3] rfl rfl rfl (by decide) (fun _ => rfl) rfl (fun r2 u2 H locs hk hP hD hS => ?_)
  refine lv_iconst (v := 1) hx hb dX1_write_94 (by decide) ?_
  refine lv_icmp_ne (tgt := 102) hx hb dX1_write_95 (by decide) (fun c3 => ?_) (fun c3 => ?_)
  · have hk := hk.1 c3
    refine lv_iconst (v := 0) hx hb dX1_write_102 (by decide) ?_
    exact xb_X1_write_103 C0 hA  _ _ _ _ hk H locs ls hP hD hS (lv_sub hl [0, 1, 2] rfl)
  · have hk := hk.2 c3
    refine lv_iconst (v := 1) hx hb dX1_write_98 (by decide) ?_
    refine lv_goto (tgt := 103) hx hb dX1_write_99 (by decide) ?_
    exact xb_X1_write_103 C0 hA  _ _ _ _ hk H locs ls hP hD hS (lv_sub hl [0, 1, 2] rfl)
set_option maxHeartbeats 4000000 in
set_option maxRecDepth 100000 in
theorem xb_X1_write_62 {p : Program} {l : Launch} {e : Env} {s : State} {m : MethodId} {args : Array Value} {below : List Frame} {meth : Method} {c : Code} {A : Nat → Prop} {D : va_G} {cI cC cZ cL : ClassId} {h h_signs g1 g1_cells : Nat}  {f_p1_cells : Nat → Int32} {K : ((Nat → Int32) × Int32) → Prop}  (C0 : xC p s m args meth c cX1_write 3 none wsX1_write RX1 D (xTY cI cC cZ cL)) (hA : ∀ q : Nat, s.heap.size ≤ q → A q)  : ∀ (f_signs : Nat → Int32) (f_length : Int32) (v2 : Int32) (t0 : Int32) , xp_X1_write_62 f_p1_cells K f_signs f_length v2 t0 → ∀ (H : Heap) (locs : List Loc) (ls : Array Slot), va_P D vwCl [(h, .inr (1, [.ref h_signs, .int f_length])), (h_signs, .inl (cC, 80, .inl f_signs)), (g1, .inr (3, [.ref g1_cells])), (g1_cells, .inl (cI, 400, .inl f_p1_cells))] H → va_D A [(h, .inr (1, [.ref h_signs, .int f_length])), (h_signs, .inl (cC, 80, .inl f_signs)), (g1, .inr (3, [.ref g1_cells])), (g1_cells, .inl (cI, 400, .inl f_p1_cells))] → va_S A s.heap H locs → lv_has ls 3 [(0, .ref h), (1, .ref g1), (2, .int v2)] → W p l e ({ frames := 4, cells := 0, slots := 0, locals := 90 } : Room) s m args below meth c H locs 0 0 (MQ below (va_Qv (fun (u : (Nat → Int32) × Int32) => K u) (fun u t => xE D A ((fun (u : (Nat → Int32) × Int32) => [(h, .inr (1, [.ref h_signs, .int u.2])), (h_signs, .inl (cC, 80, .inl u.1)), (g1, .inr (3, [.ref g1_cells])), (g1_cells, .inl (cI, 400, .inl f_p1_cells))]) u) t) A) args s 0 0 A) (F0 m 62 ls [.int t0, .ref h]) := by
  obtain ⟨hx, hb, hr, hml, hown, hts, hlocks, hK, hN⟩ := id C0
  intro f_signs f_length v2 t0 hk H locs ls hP hD hS hl
  rw [xp_X1_write_62] at hk
  refine lv_bipush (v := 42) hx hb dX1_write_62 (by decide) ?_
  refine x_joinv (ws1 := fun (u1 : (Nat → Int32) × Int32) => [(h, .inr (1, [.ref h_signs, .int u1.2])), (h_signs, .inl (cC, 80, .inl u1.1)), (g1, .inr (3, [.ref g1_cells])), (g1_cells, .inl (cI, 400, .inl f_p1_cells))]) (x_runV (n0 := 2) (As := [.int t0, .int 42]) (rest := []) C0 (xc_X1_addIf l D cI cC cZ cL h h_signs H.size f_length f_signs t0 42 _ hk) gX1_write_X1_addIf rfl ⟨rfl, rfl⟩ (by decide +kernel) rfl ⟨by decide, by decide⟩ ⟨Nat.zero_le _, Nat.zero_le _⟩ hP hD [0, 1] rfl rfl (k := 0) rfl rfl rfl hl.1 rfl (Nat.le_of_ble_eq_true rfl) dX1_write_64) hP hD hS hA [0, 1] [2, 3] [2, 3, 0, 1] rfl rfl rfl (by decide) (fun _ => rfl) rfl (fun u1 H locs hk hP hD hS => ?_)
  refine lv_aload_n hx hb dX1_write_67 rfl (lv_at hl 0 rfl) ?_
  refine lv_aload_n hx hb dX1_write_68 rfl (lv_at hl 1 rfl) ?_
  refine lv_iload_n hx hb dX1_write_69 rfl (lv_at hl 2 rfl) ?_
  refine x_joini (ws1 := fun (_ : Unit) => [(h, .inr (1, [.ref h_signs, .int u1.2])), (h_signs, .inl (cC, 80, .inl u1.1)), (g1, .inr (3, [.ref g1_cells])), (g1_cells, .inl (cI, 400, .inl f_p1_cells))]) (x_runV (n0 := 1) (As := [.int v2]) (rest := [.ref h]) C0 (xc_X3_isRight l D cI cC cZ cL g1 g1_cells H.size f_p1_cells v2 _ hk) gX1_write_X3_isRight rfl ⟨rfl, rfl⟩ (by decide +kernel) rfl ⟨by decide, by decide⟩ ⟨Nat.zero_le _, Nat.zero_le _⟩ hP hD [2, 3] rfl rfl (k := 2) rfl rfl rfl hl.1 rfl (Nat.le_of_ble_eq_true rfl) dX1_write_70) hP hD hS hA [2, 3] [0, 1] [0, 1, 2, 3] rfl rfl rfl (by decide) (fun _ => rfl) rfl (fun r2 u2 H locs hk hP hD hS => ?_)
  refine lv_if_ne (tgt := 80) hx hb dX1_write_73 (by decide) (fun c3 => ?_) (fun c3 => ?_)
  · have hk := hk.1 c3
    refine lv_iconst (v := 0) hx hb dX1_write_80 (by decide) ?_
    exact xb_X1_write_81 C0 hA  _ _ _ _ hk H locs ls hP hD hS (lv_sub hl [0, 1, 2] rfl)
  · have hk := hk.2 c3
    refine lv_iconst (v := 1) hx hb dX1_write_76 (by decide) ?_
    refine lv_goto (tgt := 81) hx hb dX1_write_77 (by decide) ?_
    exact xb_X1_write_81 C0 hA  _ _ _ _ hk H locs ls hP hD hS (lv_sub hl [0, 1, 2] rfl)
set_option maxHeartbeats 4000000 in
set_option maxRecDepth 100000 in
theorem xb_X1_write_0 {p : Program} {l : Launch} {e : Env} {s : State} {m : MethodId} {args : Array Value} {below : List Frame} {meth : Method} {c : Code} {A : Nat → Prop} {D : va_G} {cI cC cZ cL : ClassId} {h h_signs g1 g1_cells : Nat}  {f_p1_cells : Nat → Int32} {K : ((Nat → Int32) × Int32) → Prop}  (C0 : xC p s m args meth c cX1_write 3 none wsX1_write RX1 D (xTY cI cC cZ cL)) (hA : ∀ q : Nat, s.heap.size ≤ q → A q)  : ∀ (f_signs : Nat → Int32) (f_length : Int32) (x2 : Int32) , xp_X1_write f_p1_cells f_signs f_length x2 K → ∀ (H : Heap) (locs : List Loc) (ls : Array Slot), va_P D vwCl [(h, .inr (1, [.ref h_signs, .int f_length])), (h_signs, .inl (cC, 80, .inl f_signs)), (g1, .inr (3, [.ref g1_cells])), (g1_cells, .inl (cI, 400, .inl f_p1_cells))] H → va_D A [(h, .inr (1, [.ref h_signs, .int f_length])), (h_signs, .inl (cC, 80, .inl f_signs)), (g1, .inr (3, [.ref g1_cells])), (g1_cells, .inl (cI, 400, .inl f_p1_cells))] → va_S A s.heap H locs → lv_has ls 3 [(0, .ref h), (1, .ref g1), (2, .int x2)] → W p l e ({ frames := 4, cells := 0, slots := 0, locals := 90 } : Room) s m args below meth c H locs 0 0 (MQ below (va_Qv (fun (u : (Nat → Int32) × Int32) => K u) (fun u t => xE D A ((fun (u : (Nat → Int32) × Int32) => [(h, .inr (1, [.ref h_signs, .int u.2])), (h_signs, .inl (cC, 80, .inl u.1)), (g1, .inr (3, [.ref g1_cells])), (g1_cells, .inl (cI, 400, .inl f_p1_cells))]) u) t) A) args s 0 0 A) (F0 m 0 ls []) := by
  obtain ⟨hx, hb, hr, hml, hown, hts, hlocks, hK, hN⟩ := id C0
  intro f_signs f_length x2 hk H locs ls hP hD hS hl
  rw [xp_X1_write] at hk
  refine lv_aload_n hx hb dX1_write_0 rfl (lv_at hl 0 rfl) ?_
  refine lv_iconst (v := 0) hx hb dX1_write_1 (by decide) ?_
  refine va_put (D := D) (ci := 1) (v := .int 0) (ty := .int) (C := RX1) (T := TX1) (N := 2) hx hb hts xin_X1_write_X1 tyX1 tyX1_ok nmX1 hown hK hP hD hS 0 rfl rfl 1 (by decide) (hts (.fieldLink RX1 15 "TakeLog$Line" "length" "I") (by decide +kernel)) (fun _ h9 => h9) rfl (by decide +kernel) rfl rfl (Nat.le_of_ble_eq_true rfl) dX1_write_2 (fun H locs hP hD hS => ?_)
  have hP : va_P D vwCl [(h, .inr (1, [.ref h_signs, .int 0])), (h_signs, .inl (cC, 80, .inl f_signs)), (g1, .inr (3, [.ref g1_cells])), (g1_cells, .inl (cI, 400, .inl f_p1_cells))] H := hP
  have hD : va_D A [(h, .inr (1, [.ref h_signs, .int 0])), (h_signs, .inl (cC, 80, .inl f_signs)), (g1, .inr (3, [.ref g1_cells])), (g1_cells, .inl (cI, 400, .inl f_p1_cells))] := hD
  refine lv_aload_n hx hb dX1_write_5 rfl (lv_at hl 0 rfl) ?_
  refine lv_aload_n hx hb dX1_write_6 rfl (lv_at hl 1 rfl) ?_
  refine lv_iload_n hx hb dX1_write_7 rfl (lv_at hl 2 rfl) ?_
  refine lv_iconst (v := 3) hx hb dX1_write_8 (by decide) ?_
  refine x_joini (ws1 := fun (_ : Unit) => [(h, .inr (1, [.ref h_signs, .int 0])), (h_signs, .inl (cC, 80, .inl f_signs)), (g1, .inr (3, [.ref g1_cells])), (g1_cells, .inl (cI, 400, .inl f_p1_cells))]) (x_runV (n0 := 2) (As := [.int x2, .int 3]) (rest := [.ref h]) C0 (xc_X3_of l D cI cC cZ cL g1 g1_cells H.size f_p1_cells x2 3 _ hk) gX1_write_X3_of rfl ⟨rfl, rfl⟩ (by decide +kernel) rfl ⟨by decide, by decide⟩ ⟨Nat.zero_le _, Nat.zero_le _⟩ hP hD [2, 3] rfl rfl (k := 2) rfl rfl rfl hl.1 rfl (Nat.le_of_ble_eq_true rfl) dX1_write_9) hP hD hS hA [2, 3] [0, 1] [0, 1, 2, 3] rfl rfl rfl (by decide) (fun _ => rfl) rfl (fun r1 u1 H locs hk hP hD hS => ?_)
  refine x_joinv (ws1 := fun (u2 : (Nat → Int32) × Int32) => [(h, .inr (1, [.ref h_signs, .int u2.2])), (h_signs, .inl (cC, 80, .inl u2.1)), (g1, .inr (3, [.ref g1_cells])), (g1_cells, .inl (cI, 400, .inl f_p1_cells))]) (x_runV (n0 := 1) (As := [.int r1]) (rest := []) C0 (xc_X1_addNumber l D cI cC cZ cL h h_signs H.size 0 f_signs r1 _ hk) gX1_write_X1_addNumber rfl ⟨rfl, rfl⟩ (by decide +kernel) rfl ⟨by decide, by decide⟩ ⟨Nat.zero_le _, Nat.zero_le _⟩ hP hD [0, 1] rfl rfl (k := 0) rfl rfl rfl hl.1 rfl (Nat.le_of_ble_eq_true rfl) dX1_write_12) hP hD hS hA [0, 1] [2, 3] [2, 3, 0, 1] rfl rfl rfl (by decide) (fun _ => rfl) rfl (fun u2 H locs hk hP hD hS => ?_)
  refine lv_aload_n hx hb dX1_write_15 rfl (lv_at hl 0 rfl) ?_
  refine lv_bipush (v := 65) hx hb dX1_write_16 (by decide) ?_
  refine lv_aload_n hx hb dX1_write_18 rfl (lv_at hl 1 rfl) ?_
  refine lv_iload_n hx hb dX1_write_19 rfl (lv_at hl 2 rfl) ?_
  refine lv_iconst (v := 4) hx hb dX1_write_20 (by decide) ?_
  refine x_joini (ws1 := fun (_ : Unit) => [(h, .inr (1, [.ref h_signs, .int u2.2])), (h_signs, .inl (cC, 80, .inl u2.1)), (g1, .inr (3, [.ref g1_cells])), (g1_cells, .inl (cI, 400, .inl f_p1_cells))]) (x_runV (n0 := 2) (As := [.int x2, .int 4]) (rest := [.int 65, .ref h]) C0 (xc_X3_of l D cI cC cZ cL g1 g1_cells H.size f_p1_cells x2 4 _ hk) gX1_write_X3_of rfl ⟨rfl, rfl⟩ (by decide +kernel) rfl ⟨by decide, by decide⟩ ⟨Nat.zero_le _, Nat.zero_le _⟩ hP hD [2, 3] rfl rfl (k := 2) rfl rfl rfl hl.1 rfl (Nat.le_of_ble_eq_true rfl) dX1_write_21) hP hD hS hA [2, 3] [0, 1] [0, 1, 2, 3] rfl rfl rfl (by decide) (fun _ => rfl) rfl (fun r3 u3 H locs hk hP hD hS => ?_)
  refine lv_iadd hx hb dX1_write_24 ?_
  refine lv_i2c hx hb dX1_write_25 rfl ?_
  refine x_joinv (ws1 := fun (u4 : (Nat → Int32) × Int32) => [(h, .inr (1, [.ref h_signs, .int u4.2])), (h_signs, .inl (cC, 80, .inl u4.1)), (g1, .inr (3, [.ref g1_cells])), (g1_cells, .inl (cI, 400, .inl f_p1_cells))]) (x_runV (n0 := 1) (As := [.int (((65 + r3).toUInt32 % 65536).toInt32)]) (rest := []) C0 (xc_X1_add l D cI cC cZ cL h h_signs H.size u2.2 u2.1 (((65 + r3).toUInt32 % 65536).toInt32) _ hk) gX1_write_X1_add rfl ⟨rfl, rfl⟩ (by decide +kernel) rfl ⟨by decide, by decide⟩ ⟨Nat.zero_le _, Nat.zero_le _⟩ hP hD [0, 1] rfl rfl (k := 0) rfl rfl rfl hl.1 rfl (Nat.le_of_ble_eq_true rfl) dX1_write_26) hP hD hS hA [0, 1] [2, 3] [2, 3, 0, 1] rfl rfl rfl (by decide) (fun _ => rfl) rfl (fun u4 H locs hk hP hD hS => ?_)
  refine lv_aload_n hx hb dX1_write_29 rfl (lv_at hl 0 rfl) ?_
  refine lv_bipush (v := 47) hx hb dX1_write_30 (by decide) ?_
  refine x_joinv (ws1 := fun (u5 : (Nat → Int32) × Int32) => [(h, .inr (1, [.ref h_signs, .int u5.2])), (h_signs, .inl (cC, 80, .inl u5.1)), (g1, .inr (3, [.ref g1_cells])), (g1_cells, .inl (cI, 400, .inl f_p1_cells))]) (x_runV (n0 := 1) (As := [.int 47]) (rest := []) C0 (xc_X1_add l D cI cC cZ cL h h_signs H.size u4.2 u4.1 47 _ hk) gX1_write_X1_add rfl ⟨rfl, rfl⟩ (by decide +kernel) rfl ⟨by decide, by decide⟩ ⟨Nat.zero_le _, Nat.zero_le _⟩ hP hD [0, 1] rfl rfl (k := 0) rfl rfl rfl hl.1 rfl (Nat.le_of_ble_eq_true rfl) dX1_write_32) hP hD hS hA [0, 1] [2, 3] [2, 3, 0, 1] rfl rfl rfl (by decide) (fun _ => rfl) rfl (fun u5 H locs hk hP hD hS => ?_)
  refine lv_aload_n hx hb dX1_write_35 rfl (lv_at hl 0 rfl) ?_
  refine lv_aload_n hx hb dX1_write_36 rfl (lv_at hl 1 rfl) ?_
  refine lv_iload_n hx hb dX1_write_37 rfl (lv_at hl 2 rfl) ?_
  refine lv_iconst (v := 5) hx hb dX1_write_38 (by decide) ?_
  refine x_joini (ws1 := fun (_ : Unit) => [(h, .inr (1, [.ref h_signs, .int u5.2])), (h_signs, .inl (cC, 80, .inl u5.1)), (g1, .inr (3, [.ref g1_cells])), (g1_cells, .inl (cI, 400, .inl f_p1_cells))]) (x_runV (n0 := 2) (As := [.int x2, .int 5]) (rest := [.ref h]) C0 (xc_X3_of l D cI cC cZ cL g1 g1_cells H.size f_p1_cells x2 5 _ hk) gX1_write_X3_of rfl ⟨rfl, rfl⟩ (by decide +kernel) rfl ⟨by decide, by decide⟩ ⟨Nat.zero_le _, Nat.zero_le _⟩ hP hD [2, 3] rfl rfl (k := 2) rfl rfl rfl hl.1 rfl (Nat.le_of_ble_eq_true rfl) dX1_write_39) hP hD hS hA [2, 3] [0, 1] [0, 1, 2, 3] rfl rfl rfl (by decide) (fun _ => rfl) rfl (fun r6 u6 H locs hk hP hD hS => ?_)
  refine x_joinv (ws1 := fun (u7 : (Nat → Int32) × Int32) => [(h, .inr (1, [.ref h_signs, .int u7.2])), (h_signs, .inl (cC, 80, .inl u7.1)), (g1, .inr (3, [.ref g1_cells])), (g1_cells, .inl (cI, 400, .inl f_p1_cells))]) (x_runV (n0 := 1) (As := [.int r6]) (rest := []) C0 (xc_X1_addNumber l D cI cC cZ cL h h_signs H.size u5.2 u5.1 r6 _ hk) gX1_write_X1_addNumber rfl ⟨rfl, rfl⟩ (by decide +kernel) rfl ⟨by decide, by decide⟩ ⟨Nat.zero_le _, Nat.zero_le _⟩ hP hD [0, 1] rfl rfl (k := 0) rfl rfl rfl hl.1 rfl (Nat.le_of_ble_eq_true rfl) dX1_write_42) hP hD hS hA [0, 1] [2, 3] [2, 3, 0, 1] rfl rfl rfl (by decide) (fun _ => rfl) rfl (fun u7 H locs hk hP hD hS => ?_)
  refine lv_aload_n hx hb dX1_write_45 rfl (lv_at hl 0 rfl) ?_
  refine lv_aload_n hx hb dX1_write_46 rfl (lv_at hl 1 rfl) ?_
  refine lv_iload_n hx hb dX1_write_47 rfl (lv_at hl 2 rfl) ?_
  refine lv_bipush (v := 14) hx hb dX1_write_48 (by decide) ?_
  refine x_joini (ws1 := fun (_ : Unit) => [(h, .inr (1, [.ref h_signs, .int u7.2])), (h_signs, .inl (cC, 80, .inl u7.1)), (g1, .inr (3, [.ref g1_cells])), (g1_cells, .inl (cI, 400, .inl f_p1_cells))]) (x_runV (n0 := 2) (As := [.int x2, .int 14]) (rest := [.ref h]) C0 (xc_X3_of l D cI cC cZ cL g1 g1_cells H.size f_p1_cells x2 14 _ hk) gX1_write_X3_of rfl ⟨rfl, rfl⟩ (by decide +kernel) rfl ⟨by decide, by decide⟩ ⟨Nat.zero_le _, Nat.zero_le _⟩ hP hD [2, 3] rfl rfl (k := 2) rfl rfl rfl hl.1 rfl (Nat.le_of_ble_eq_true rfl) dX1_write_50) hP hD hS hA [2, 3] [0, 1] [0, 1, 2, 3] rfl rfl rfl (by decide) (fun _ => rfl) rfl (fun r8 u8 H locs hk hP hD hS => ?_)
  refine lv_iconst (v := 1) hx hb dX1_write_53 (by decide) ?_
  refine lv_icmp_ne (tgt := 61) hx hb dX1_write_54 (by decide) (fun c9 => ?_) (fun c9 => ?_)
  · have hk := hk.1 c9
    refine lv_iconst (v := 0) hx hb dX1_write_61 (by decide) ?_
    exact xb_X1_write_62 C0 hA  _ _ _ _ hk H locs ls hP hD hS (lv_sub hl [0, 1, 2] rfl)
  · have hk := hk.2 c9
    refine lv_iconst (v := 1) hx hb dX1_write_57 (by decide) ?_
    refine lv_goto (tgt := 62) hx hb dX1_write_58 (by decide) ?_
    exact xb_X1_write_62 C0 hA  _ _ _ _ hk H locs ls hP hD hS (lv_sub hl [0, 1, 2] rfl)
theorem xc_X1_write (l : Launch) (D : va_G) (cI cC cZ cL : ClassId) (h h_signs g1 g1_cells : Nat)  (sz : Nat) (f_length : Int32) (f_signs : Nat → Int32) (f_p1_cells : Nat → Int32) (x2 : Int32) (K : ((Nat → Int32) × Int32) → Prop) (hk : xp_X1_write f_p1_cells f_signs f_length x2 K) : XMv l yX1_write wsX1_write ({ frames := 4, cells := 0, slots := 0, locals := 90 } : Room) D (xTY cI cC cZ cL) [.ref h, .ref g1, .int x2] [(h, .inr (1, [.ref h_signs, .int f_length])), (h_signs, .inl (cC, 80, .inl f_signs)), (g1, .inr (3, [.ref g1_cells])), (g1_cells, .inl (cI, 400, .inl f_p1_cells))] sz (fun (u : (Nat → Int32) × Int32) => K u) (fun (u : (Nat → Int32) × Int32) => [(h, .inr (1, [.ref h_signs, .int u.2])), (h_signs, .inl (cC, 80, .inl u.1)), (g1, .inr (3, [.ref g1_cells])), (g1_cells, .inl (cI, 400, .inl f_p1_cells))]) :=
  x_enter (cc := cX1_write) (maxL := 3) (ret := none) (own := RX1) (by decide) rfl rfl (Nat.le_of_ble_eq_true rfl) (fun p e s m below meth c ls C0 hA hP hD hS hl => xb_X1_write_0 C0 hA _ _ _ hk s.heap [] ls hP hD hS hl)
set_option maxRecDepth 20000 in
theorem xin_X1_signAt_X1 : ∀ w ∈ u_ws RX1 TX1 2, w ∈ wsX1_signAt := by decide +kernel
set_option maxHeartbeats 4000000 in
set_option maxRecDepth 100000 in
theorem xb_X1_signAt_0 {p : Program} {l : Launch} {e : Env} {s : State} {m : MethodId} {args : Array Value} {below : List Frame} {meth : Method} {c : Code} {A : Nat → Prop} {D : va_G} {cI cC cZ cL : ClassId} {h h_signs : Nat}  {f_length : Int32} {f_signs : Nat → Int32} {K : Int32 → Prop}  (C0 : xC p s m args meth c cX1_signAt 2 (some .int) wsX1_signAt RX1 D (xTY cI cC cZ cL)) (hA : ∀ q : Nat, s.heap.size ≤ q → A q)  : ∀ (x1 : Int32) , xp_X1_signAt f_signs f_length x1 K → ∀ (H : Heap) (locs : List Loc) (ls : Array Slot), va_P D vwCl [(h, .inr (1, [.ref h_signs, .int f_length])), (h_signs, .inl (cC, 80, .inl f_signs))] H → va_D A [(h, .inr (1, [.ref h_signs, .int f_length])), (h_signs, .inl (cC, 80, .inl f_signs))] → va_S A s.heap H locs → lv_has ls 2 [(0, .ref h), (1, .int x1)] → W p l e ({ frames := 0, cells := 0, slots := 0, locals := 0 } : Room) s m args below meth c H locs 0 0 (MQ below (va_Qi (fun (r : Int32) (_ : Unit) => K r) (fun u t => xE D A ((fun (_ : Unit) => [(h, .inr (1, [.ref h_signs, .int f_length])), (h_signs, .inl (cC, 80, .inl f_signs))]) u) t) A) args s 0 0 A) (F0 m 0 ls []) := by
  obtain ⟨hx, hb, hr, hml, hown, hts, hlocks, hK, hN⟩ := id C0
  intro x1 hk H locs ls hP hD hS hl
  rw [xp_X1_signAt] at hk
  refine lv_iload_n hx hb dX1_signAt_0 rfl (lv_at hl 1 rfl) ?_
  refine lv_if_lt (tgt := 18) hx hb dX1_signAt_1 (by decide) (fun c1 => ?_) (fun c1 => ?_)
  · have hk := hk.1 c1
    refine lv_iconst (v := (-1 : Int32)) hx hb dX1_signAt_18 (by decide) ?_
    refine lv_goto (tgt := 28) hx hb dX1_signAt_19 (by decide) ?_
    exact x_reti C0 () hk hP hD hS dX1_signAt_28
  · have hk := hk.2 c1
    refine lv_iload_n hx hb dX1_signAt_4 rfl (lv_at hl 1 rfl) ?_
    refine lv_aload_n hx hb dX1_signAt_5 rfl (lv_at hl 0 rfl) ?_
    refine va_get (D := D) (ci := 1) (v := .int f_length) (C := RX1) (T := TX1) (N := 2) hx hb hts xin_X1_signAt_X1 hown hK hP 0 rfl rfl 1 (by decide) (hts (.fieldLink RX1 15 "TakeLog$Line" "length" "I") (by decide +kernel)) (fun _ h9 => h9) rfl dX1_signAt_6 ?_
    refine lv_icmp_ge (tgt := 18) hx hb dX1_signAt_9 (by decide) (fun c2 => ?_) (fun c2 => ?_)
    · have hk := hk.1 c2
      refine lv_iconst (v := (-1 : Int32)) hx hb dX1_signAt_18 (by decide) ?_
      refine lv_goto (tgt := 28) hx hb dX1_signAt_19 (by decide) ?_
      exact x_reti C0 () hk hP hD hS dX1_signAt_28
    · have hk := hk.2 c2
      refine lv_iload_n hx hb dX1_signAt_12 rfl (lv_at hl 1 rfl) ?_
      refine lv_bipush (v := 80) hx hb dX1_signAt_13 (by decide) ?_
      refine lv_icmp_lt (tgt := 22) hx hb dX1_signAt_15 (by decide) (fun c3 => ?_) (fun c3 => ?_)
      · have hk := hk.1 c3
        refine lv_aload_n hx hb dX1_signAt_22 rfl (lv_at hl 0 rfl) ?_
        refine va_get (D := D) (ci := 1) (v := .ref h_signs) (C := RX1) (T := TX1) (N := 2) hx hb hts xin_X1_signAt_X1 hown hK hP 0 rfl rfl 0 (by decide) (hts (.fieldLink RX1 11 "TakeLog$Line" "signs" "[C") (by decide +kernel)) (fun _ h9 => h9) rfl dX1_signAt_23 ?_
        refine lv_iload_n hx hb dX1_signAt_26 rfl (lv_at hl 1 rfl) ?_
        refine x_cald hx hb hK hP 1 1 rfl rfl hk.1 rfl rfl dX1_signAt_27 ?_
        have hk := hk.2
        exact x_reti C0 () hk hP hD hS dX1_signAt_28
      · have hk := hk.2 c3
        refine lv_iconst (v := (-1 : Int32)) hx hb dX1_signAt_18 (by decide) ?_
        refine lv_goto (tgt := 28) hx hb dX1_signAt_19 (by decide) ?_
        exact x_reti C0 () hk hP hD hS dX1_signAt_28
theorem xc_X1_signAt (l : Launch) (D : va_G) (cI cC cZ cL : ClassId) (h h_signs : Nat)  (sz : Nat) (f_length : Int32) (f_signs : Nat → Int32) (x1 : Int32) (K : Int32 → Prop) (hk : xp_X1_signAt f_signs f_length x1 K) : XMi l yX1_signAt wsX1_signAt ({ frames := 0, cells := 0, slots := 0, locals := 0 } : Room) D (xTY cI cC cZ cL) [.ref h, .int x1] [(h, .inr (1, [.ref h_signs, .int f_length])), (h_signs, .inl (cC, 80, .inl f_signs))] sz (fun (r : Int32) (_ : Unit) => K r) (fun (_ : Unit) => [(h, .inr (1, [.ref h_signs, .int f_length])), (h_signs, .inl (cC, 80, .inl f_signs))]) :=
  x_enter (cc := cX1_signAt) (maxL := 2) (ret := (some .int)) (own := RX1) (by decide) rfl rfl (Nat.le_of_ble_eq_true rfl) (fun p e s m below meth c ls C0 hA hP hD hS hl => xb_X1_signAt_0 C0 hA _ hk s.heap [] ls hP hD hS hl)
set_option maxRecDepth 20000 in
theorem xin_X2_store_X2 : ∀ w ∈ u_ws RX2 TX2 2, w ∈ wsX2_store := by decide +kernel
set_option maxRecDepth 20000 in
theorem xin_X2_store_X3 : ∀ w ∈ u_ws RX3 TX3 1, w ∈ wsX2_store := by decide +kernel
set_option maxHeartbeats 4000000 in
set_option maxRecDepth 100000 in
theorem xb_X2_store_0 {p : Program} {l : Launch} {e : Env} {s : State} {m : MethodId} {args : Array Value} {below : List Frame} {meth : Method} {c : Code} {A : Nat → Prop} {D : va_G} {cI cC cZ cL : ClassId} {h h_cells g2 g2_cells : Nat} {tN : Nat} {f_places : Int32} {f_p2_cells : Nat → Int32} {K : ((Nat → Int32)) → Prop}  (C0 : xC p s m args meth c cX2_store 3 none wsX2_store RX2 D (xTY cI cC cZ cL)) (hA : ∀ q : Nat, s.heap.size ≤ q → A q)  : ∀ (f_cells : Nat → Int32) (x1 : Int32) , xp_X2_store tN f_places f_p2_cells f_cells x1 K → ∀ (H : Heap) (locs : List Loc) (ls : Array Slot), va_P D vwCl [(h, .inr (2, [.ref h_cells, .int f_places])), (h_cells, .inl (cI, tN, .inl f_cells)), (g2, .inr (3, [.ref g2_cells])), (g2_cells, .inl (cI, 400, .inl f_p2_cells))] H → va_D A [(h, .inr (2, [.ref h_cells, .int f_places])), (h_cells, .inl (cI, tN, .inl f_cells)), (g2, .inr (3, [.ref g2_cells])), (g2_cells, .inl (cI, 400, .inl f_p2_cells))] → va_S A s.heap H locs → lv_has ls 3 [(0, .ref h), (1, .int x1), (2, .ref g2)] → W p l e ({ frames := 1, cells := 0, slots := 0, locals := 37 } : Room) s m args below meth c H locs 0 0 (MQ below (va_Qv (fun (u : (Nat → Int32)) => K u) (fun u t => xE D A ((fun (u : (Nat → Int32)) => [(h, .inr (2, [.ref h_cells, .int f_places])), (h_cells, .inl (cI, tN, .inl u)), (g2, .inr (3, [.ref g2_cells])), (g2_cells, .inl (cI, 400, .inl f_p2_cells))]) u) t) A) args s 0 0 A) (F0 m 0 ls []) := by
  obtain ⟨hx, hb, hr, hml, hown, hts, hlocks, hK, hN⟩ := id C0
  intro f_cells x1 hk H locs ls hP hD hS hl
  rw [xp_X2_store] at hk
  refine lv_iload_n hx hb dX2_store_0 rfl (lv_at hl 1 rfl) ?_
  refine lv_if_lt (tgt := 32) hx hb dX2_store_1 (by decide) (fun c1 => ?_) (fun c1 => ?_)
  · have hk := hk.1 c1
    exact x_retv C0 (f_cells) hk hP hD hS dX2_store_32
  · have hk := hk.2 c1
    refine lv_iload_n hx hb dX2_store_4 rfl (lv_at hl 1 rfl) ?_
    refine lv_aload_n hx hb dX2_store_5 rfl (lv_at hl 0 rfl) ?_
    refine va_get (D := D) (ci := 2) (v := .int f_places) (C := RX2) (T := TX2) (N := 2) hx hb hts xin_X2_store_X2 hown hK hP 0 rfl rfl 1 (by decide) (hts (.fieldLink RX2 9 "TakeLog$Shelf" "places" "I") (by decide +kernel)) (fun _ h9 => h9) rfl dX2_store_6 ?_
    refine lv_icmp_ge (tgt := 32) hx hb dX2_store_9 (by decide) (fun c2 => ?_) (fun c2 => ?_)
    · have hk := hk.1 c2
      exact x_retv C0 (f_cells) hk hP hD hS dX2_store_32
    · have hk := hk.2 c2
      refine lv_aload_n hx hb dX2_store_12 rfl (lv_at hl 2 rfl) ?_
      refine va_getN (D := D) (ci := 3) (v := .ref g2_cells) (C := RX3) (T := TX3) (N := 1) hx hb hts xin_X2_store_X3 hown hK hP 2 rfl rfl 0 (by decide) (va_Nw.use rfl hN.1) (fun _ h9 => h9) rfl dX2_store_13 ?_
      refine lv_iconst (v := 0) hx hb dX2_store_16 (by decide) ?_
      refine lv_aload_n hx hb dX2_store_17 rfl (lv_at hl 0 rfl) ?_
      refine va_get (D := D) (ci := 2) (v := .ref h_cells) (C := RX2) (T := TX2) (N := 2) hx hb hts xin_X2_store_X2 hown hK hP 0 rfl rfl 0 (by decide) (hts (.fieldLink RX2 15 "TakeLog$Shelf" "cells" "[I") (by decide +kernel)) (fun _ h9 => h9) rfl dX2_store_18 ?_
      refine lv_iload_n hx hb dX2_store_21 rfl (lv_at hl 1 rfl) ?_
      refine lv_sipush (v := 400) hx hb dX2_store_22 (by decide) ?_
      refine lv_imul hx hb dX2_store_25 ?_
      refine lv_sipush (v := 400) hx hb dX2_store_26 (by decide) ?_
      refine x_copyi (s1 := 0) (d1 := (x1 * 400).toNatClampNeg) (n1 := 400) hx hb (hml.trans hl.1.symm) hown (hts (.methodLink RX2 22 arraycopyName) (by decide +kernel)) (hts (.native arraycopyName) (by decide +kernel)) (hts (.static arraycopyName) (by decide +kernel)) (hts (.initialized "java/lang/System") (by decide +kernel)) hK hP hD hS 3 1 0 rfl rfl rfl (by decide) hk.1.1 (by decide) rfl rfl rfl hk.1.2.1 hk.1.2.2 (by decide) (Nat.le_of_ble_eq_true rfl) dX2_store_29 (fun H locs hP hD hS => ?_)
      have hk := hk.2
      have hP : va_P D vwCl [(h, .inr (2, [.ref h_cells, .int f_places])), (h_cells, .inl (cI, tN, .inl (va_cpy f_p2_cells f_cells 0 ((x1 * 400).toNatClampNeg) 400))), (g2, .inr (3, [.ref g2_cells])), (g2_cells, .inl (cI, 400, .inl f_p2_cells))] H := hP
      have hD : va_D A [(h, .inr (2, [.ref h_cells, .int f_places])), (h_cells, .inl (cI, tN, .inl (va_cpy f_p2_cells f_cells 0 ((x1 * 400).toNatClampNeg) 400))), (g2, .inr (3, [.ref g2_cells])), (g2_cells, .inl (cI, 400, .inl f_p2_cells))] := hD
      exact x_retv C0 (va_cpy f_p2_cells f_cells 0 ((x1 * 400).toNatClampNeg) 400) hk hP hD hS dX2_store_32
theorem xc_X2_store (l : Launch) (D : va_G) (cI cC cZ cL : ClassId) (h h_cells g2 g2_cells : Nat) (tN : Nat) (sz : Nat) (f_places : Int32) (f_cells : Nat → Int32) (f_p2_cells : Nat → Int32) (x1 : Int32) (K : ((Nat → Int32)) → Prop) (hk : xp_X2_store tN f_places f_p2_cells f_cells x1 K) : XMv l yX2_store wsX2_store ({ frames := 1, cells := 0, slots := 0, locals := 37 } : Room) D (xTY cI cC cZ cL) [.ref h, .int x1, .ref g2] [(h, .inr (2, [.ref h_cells, .int f_places])), (h_cells, .inl (cI, tN, .inl f_cells)), (g2, .inr (3, [.ref g2_cells])), (g2_cells, .inl (cI, 400, .inl f_p2_cells))] sz (fun (u : (Nat → Int32)) => K u) (fun (u : (Nat → Int32)) => [(h, .inr (2, [.ref h_cells, .int f_places])), (h_cells, .inl (cI, tN, .inl u)), (g2, .inr (3, [.ref g2_cells])), (g2_cells, .inl (cI, 400, .inl f_p2_cells))]) :=
  x_enter (cc := cX2_store) (maxL := 3) (ret := none) (own := RX2) (by decide) rfl rfl (Nat.le_of_ble_eq_true rfl) (fun p e s m below meth c ls C0 hA hP hD hS hl => xb_X2_store_0 C0 hA _ _ hk s.heap [] ls hP hD hS hl)
set_option maxRecDepth 20000 in
theorem xin_X2_fetch_X2 : ∀ w ∈ u_ws RX2 TX2 2, w ∈ wsX2_fetch := by decide +kernel
set_option maxRecDepth 20000 in
theorem xin_X2_fetch_X3 : ∀ w ∈ u_ws RX3 TX3 1, w ∈ wsX2_fetch := by decide +kernel
set_option maxHeartbeats 4000000 in
set_option maxRecDepth 100000 in
theorem xb_X2_fetch_0 {p : Program} {l : Launch} {e : Env} {s : State} {m : MethodId} {args : Array Value} {below : List Frame} {meth : Method} {c : Code} {A : Nat → Prop} {D : va_G} {cI cC cZ cL : ClassId} {h h_cells g2 g2_cells : Nat} {tN : Nat} {f_places : Int32} {f_cells : Nat → Int32} {K : ((Nat → Int32)) → Prop}  (C0 : xC p s m args meth c cX2_fetch 3 none wsX2_fetch RX2 D (xTY cI cC cZ cL)) (hA : ∀ q : Nat, s.heap.size ≤ q → A q)  : ∀ (f_p2_cells : Nat → Int32) (x1 : Int32) , xp_X2_fetch tN f_cells f_places f_p2_cells x1 K → ∀ (H : Heap) (locs : List Loc) (ls : Array Slot), va_P D vwCl [(h, .inr (2, [.ref h_cells, .int f_places])), (h_cells, .inl (cI, tN, .inl f_cells)), (g2, .inr (3, [.ref g2_cells])), (g2_cells, .inl (cI, 400, .inl f_p2_cells))] H → va_D A [(h, .inr (2, [.ref h_cells, .int f_places])), (h_cells, .inl (cI, tN, .inl f_cells)), (g2, .inr (3, [.ref g2_cells])), (g2_cells, .inl (cI, 400, .inl f_p2_cells))] → va_S A s.heap H locs → lv_has ls 3 [(0, .ref h), (1, .int x1), (2, .ref g2)] → W p l e ({ frames := 1, cells := 0, slots := 0, locals := 37 } : Room) s m args below meth c H locs 0 0 (MQ below (va_Qv (fun (u : (Nat → Int32)) => K u) (fun u t => xE D A ((fun (u : (Nat → Int32)) => [(h, .inr (2, [.ref h_cells, .int f_places])), (h_cells, .inl (cI, tN, .inl f_cells)), (g2, .inr (3, [.ref g2_cells])), (g2_cells, .inl (cI, 400, .inl u))]) u) t) A) args s 0 0 A) (F0 m 0 ls []) := by
  obtain ⟨hx, hb, hr, hml, hown, hts, hlocks, hK, hN⟩ := id C0
  intro f_p2_cells x1 hk H locs ls hP hD hS hl
  rw [xp_X2_fetch] at hk
  refine lv_iload_n hx hb dX2_fetch_0 rfl (lv_at hl 1 rfl) ?_
  refine lv_if_lt (tgt := 32) hx hb dX2_fetch_1 (by decide) (fun c1 => ?_) (fun c1 => ?_)
  · have hk := hk.1 c1
    exact x_retv C0 (f_p2_cells) hk hP hD hS dX2_fetch_32
  · have hk := hk.2 c1
    refine lv_iload_n hx hb dX2_fetch_4 rfl (lv_at hl 1 rfl) ?_
    refine lv_aload_n hx hb dX2_fetch_5 rfl (lv_at hl 0 rfl) ?_
    refine va_get (D := D) (ci := 2) (v := .int f_places) (C := RX2) (T := TX2) (N := 2) hx hb hts xin_X2_fetch_X2 hown hK hP 0 rfl rfl 1 (by decide) (hts (.fieldLink RX2 9 "TakeLog$Shelf" "places" "I") (by decide +kernel)) (fun _ h9 => h9) rfl dX2_fetch_6 ?_
    refine lv_icmp_ge (tgt := 32) hx hb dX2_fetch_9 (by decide) (fun c2 => ?_) (fun c2 => ?_)
    · have hk := hk.1 c2
      exact x_retv C0 (f_p2_cells) hk hP hD hS dX2_fetch_32
    · have hk := hk.2 c2
      refine lv_aload_n hx hb dX2_fetch_12 rfl (lv_at hl 0 rfl) ?_
      refine va_get (D := D) (ci := 2) (v := .ref h_cells) (C := RX2) (T := TX2) (N := 2) hx hb hts xin_X2_fetch_X2 hown hK hP 0 rfl rfl 0 (by decide) (hts (.fieldLink RX2 15 "TakeLog$Shelf" "cells" "[I") (by decide +kernel)) (fun _ h9 => h9) rfl dX2_fetch_13 ?_
      refine lv_iload_n hx hb dX2_fetch_16 rfl (lv_at hl 1 rfl) ?_
      refine lv_sipush (v := 400) hx hb dX2_fetch_17 (by decide) ?_
      refine lv_imul hx hb dX2_fetch_20 ?_
      refine lv_aload_n hx hb dX2_fetch_21 rfl (lv_at hl 2 rfl) ?_
      refine va_getN (D := D) (ci := 3) (v := .ref g2_cells) (C := RX3) (T := TX3) (N := 1) hx hb hts xin_X2_fetch_X3 hown hK hP 2 rfl rfl 0 (by decide) (va_Nw.use rfl hN.1) (fun _ h9 => h9) rfl dX2_fetch_22 ?_
      refine lv_iconst (v := 0) hx hb dX2_fetch_25 (by decide) ?_
      refine lv_sipush (v := 400) hx hb dX2_fetch_26 (by decide) ?_
      refine x_copyi (s1 := (x1 * 400).toNatClampNeg) (d1 := 0) (n1 := 400) hx hb (hml.trans hl.1.symm) hown (hts (.methodLink RX2 22 arraycopyName) (by decide +kernel)) (hts (.native arraycopyName) (by decide +kernel)) (hts (.static arraycopyName) (by decide +kernel)) (hts (.initialized "java/lang/System") (by decide +kernel)) hK hP hD hS 1 3 0 rfl rfl rfl hk.1.1 (by decide) (by decide) rfl rfl rfl hk.1.2.1 hk.1.2.2 (by decide) (Nat.le_of_ble_eq_true rfl) dX2_fetch_29 (fun H locs hP hD hS => ?_)
      have hk := hk.2
      have hP : va_P D vwCl [(h, .inr (2, [.ref h_cells, .int f_places])), (h_cells, .inl (cI, tN, .inl f_cells)), (g2, .inr (3, [.ref g2_cells])), (g2_cells, .inl (cI, 400, .inl (va_cpy f_cells f_p2_cells ((x1 * 400).toNatClampNeg) 0 400)))] H := hP
      have hD : va_D A [(h, .inr (2, [.ref h_cells, .int f_places])), (h_cells, .inl (cI, tN, .inl f_cells)), (g2, .inr (3, [.ref g2_cells])), (g2_cells, .inl (cI, 400, .inl (va_cpy f_cells f_p2_cells ((x1 * 400).toNatClampNeg) 0 400)))] := hD
      exact x_retv C0 (va_cpy f_cells f_p2_cells ((x1 * 400).toNatClampNeg) 0 400) hk hP hD hS dX2_fetch_32
theorem xc_X2_fetch (l : Launch) (D : va_G) (cI cC cZ cL : ClassId) (h h_cells g2 g2_cells : Nat) (tN : Nat) (sz : Nat) (f_places : Int32) (f_cells : Nat → Int32) (f_p2_cells : Nat → Int32) (x1 : Int32) (K : ((Nat → Int32)) → Prop) (hk : xp_X2_fetch tN f_cells f_places f_p2_cells x1 K) : XMv l yX2_fetch wsX2_fetch ({ frames := 1, cells := 0, slots := 0, locals := 37 } : Room) D (xTY cI cC cZ cL) [.ref h, .int x1, .ref g2] [(h, .inr (2, [.ref h_cells, .int f_places])), (h_cells, .inl (cI, tN, .inl f_cells)), (g2, .inr (3, [.ref g2_cells])), (g2_cells, .inl (cI, 400, .inl f_p2_cells))] sz (fun (u : (Nat → Int32)) => K u) (fun (u : (Nat → Int32)) => [(h, .inr (2, [.ref h_cells, .int f_places])), (h_cells, .inl (cI, tN, .inl f_cells)), (g2, .inr (3, [.ref g2_cells])), (g2_cells, .inl (cI, 400, .inl u))]) :=
  x_enter (cc := cX2_fetch) (maxL := 3) (ret := none) (own := RX2) (by decide) rfl rfl (Nat.le_of_ble_eq_true rfl) (fun p e s m below meth c ls C0 hA hP hD hS hl => xb_X2_fetch_0 C0 hA _ _ hk s.heap [] ls hP hD hS hl)
