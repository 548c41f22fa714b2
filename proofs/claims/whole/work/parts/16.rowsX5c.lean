set_option maxRecDepth 20000 in
theorem xin_X5_off_X5 : ∀ w ∈ u_ws RX5 TX5 13, w ∈ wsX5_off := by decide +kernel
set_option maxHeartbeats 4000000 in
set_option maxRecDepth 100000 in
theorem xb_X5_off_20 {p : Program} {l : Launch} {e : Env} {s : State} {m : MethodId} {args : Array Value} {below : List Frame} {meth : Method} {c : Code} {A : Nat → Prop} {D : va_G} {cI cC cZ cL : ClassId} {h h_text h_now h_trial h_diary h_kept h_isKept h_line : Nat}  {f_size : Int32} {f_length : Int32} {f_spot : Int32} {f_out : Int32} {K : Int32 → (Int32 × (Nat → Int32) × (Nat → Int32) × Int32) → Prop}  (C0 : xC p s m args meth c cX5_off 3 (some .int) wsX5_off RX5 D (xTY cI cC cZ cL)) (hA : ∀ q : Nat, s.heap.size ≤ q → A q)  : ∀ (f_refusal : Int32) (f_now : Nat → Int32) (f_diary : Nat → Int32) (f_acts : Int32) (v1 : Int32) (t0 : Int32) , xp_X5_off_20 K f_refusal f_now f_diary f_acts v1 t0 → ∀ (H : Heap) (locs : List Loc) (ls : Array Slot), va_P D vwCl [(h, .inr (5, [.int f_refusal, .ref h_text, .int f_size, .ref h_now, .ref h_trial, .ref h_diary, .int f_acts, .ref h_kept, .ref h_isKept, .ref h_line, .int f_length, .int f_spot, .int f_out])), (h_now, .inl (cI, 377, .inl f_now)), (h_diary, .inl (cI, 5278, .inl f_diary))] H → va_D A [(h, .inr (5, [.int f_refusal, .ref h_text, .int f_size, .ref h_now, .ref h_trial, .ref h_diary, .int f_acts, .ref h_kept, .ref h_isKept, .ref h_line, .int f_length, .int f_spot, .int f_out])), (h_now, .inl (cI, 377, .inl f_now)), (h_diary, .inl (cI, 5278, .inl f_diary))] → va_S A s.heap H locs → lv_has ls 3 [(0, .ref h), (1, .int v1)] → W p l e ({ frames := 2, cells := 0, slots := 0, locals := 45 } : Room) s m args below meth c H locs 0 0 (MQ below (va_Qi (fun (r : Int32) (u : Int32 × (Nat → Int32) × (Nat → Int32) × Int32) => K r u) (fun u t => xE D A ((fun (u : Int32 × (Nat → Int32) × (Nat → Int32) × Int32) => [(h, .inr (5, [.int u.1, .ref h_text, .int f_size, .ref h_now, .ref h_trial, .ref h_diary, .int u.2.2.2, .ref h_kept, .ref h_isKept, .ref h_line, .int f_length, .int f_spot, .int f_out])), (h_now, .inl (cI, 377, .inl u.2.1)), (h_diary, .inl (cI, 5278, .inl u.2.2.1))]) u) t) A) args s 0 0 A) (F0 m 20 ls [.int t0, .ref h]) := by
  obtain ⟨hx, hb, hr, hml, hown, hts, hlocks, hK, hN⟩ := id C0
  intro f_refusal f_now f_diary f_acts v1 t0 hk H locs ls hP hD hS hl
  rw [xp_X5_off_20] at hk
  refine x_joini (ws1 := fun (u1 : Int32) => [(h, .inr (5, [.int u1, .ref h_text, .int f_size, .ref h_now, .ref h_trial, .ref h_diary, .int f_acts, .ref h_kept, .ref h_isKept, .ref h_line, .int f_length, .int f_spot, .int f_out])), (h_now, .inl (cI, 377, .inl f_now)), (h_diary, .inl (cI, 5278, .inl f_diary))]) (x_runV (n0 := 1) (As := [.int t0]) (rest := []) C0 (xc_X5_refused l D cI cC cZ cL h h_text h_now h_trial h_diary h_kept h_isKept h_line H.size f_refusal f_size f_acts f_length f_spot f_out t0 _ hk) gX5_off_X5_refused rfl ⟨rfl, rfl⟩ (by decide +kernel) rfl ⟨by decide, by decide⟩ ⟨Nat.zero_le _, Nat.zero_le _⟩ hP hD [0] rfl rfl (k := 0) rfl rfl rfl hl.1 rfl (Nat.le_of_ble_eq_true rfl) dX5_off_20) hP hD hS hA [0] [1, 2] [2, 0, 1] rfl rfl rfl (by decide) (fun _ => rfl) rfl (fun r1 u1 H locs hk hP hD hS => ?_)
  refine lv_if_eq (tgt := 28) hx hb dX5_off_23 (by decide) (fun c2 => ?_) (fun c2 => ?_)
  · have hk := hk.1 c2
    refine lv_aload_n hx hb dX5_off_28 rfl (lv_at hl 0 rfl) ?_
    refine x_joinv (ws1 := fun (u3 : (Nat → Int32) × Int32) => [(h, .inr (5, [.int u1, .ref h_text, .int f_size, .ref h_now, .ref h_trial, .ref h_diary, .int u3.2, .ref h_kept, .ref h_isKept, .ref h_line, .int f_length, .int f_spot, .int f_out])), (h_now, .inl (cI, 377, .inl f_now)), (h_diary, .inl (cI, 5278, .inl u3.1))]) (x_runV (n0 := 0) (As := []) (rest := []) C0 (xc_X5_remember l D cI cC cZ cL h h_text h_now h_trial h_diary h_kept h_isKept h_line H.size u1 f_size f_acts f_length f_spot f_out f_now f_diary _ hk) gX5_off_X5_remember rfl ⟨rfl, rfl⟩ (by decide +kernel) rfl ⟨by decide, by decide⟩ ⟨Nat.zero_le _, Nat.zero_le _⟩ hP hD [0, 1, 2] rfl rfl (k := 0) rfl rfl rfl hl.1 rfl (Nat.le_of_ble_eq_true rfl) dX5_off_29) hP hD hS hA [0, 1, 2] [] [0, 1, 2] rfl rfl rfl (by decide) (fun _ => rfl) rfl (fun u3 H locs hk hP hD hS => ?_)
    refine lv_aload_n hx hb dX5_off_32 rfl (lv_at hl 0 rfl) ?_
    refine va_get (D := D) (ci := 5) (v := .ref h_now) (C := RX5) (T := TX5) (N := 13) hx hb hts xin_X5_off_X5 hown hK hP 0 rfl rfl 3 (by decide) (hts (.fieldLink RX5 13 "TakeLogModel" "now" "[I") (by decide +kernel)) (fun _ h9 => h9) rfl dX5_off_33 ?_
    refine lv_bipush (v := 11) hx hb dX5_off_36 (by decide) ?_
    refine x_iald (k := 11) hx hb hK hP 1 0 rfl rfl (x_lit rfl (by decide) (by decide)) rfl (v := (f_now 11)) rfl dX5_off_38 ?_
    refine lv_istore_n (lv' := [(2, .int (f_now 11)), (0, .ref h), (1, .int v1)]) hx hb dX5_off_39 rfl hl (by decide) rfl (fun ls hl => ?_)
    refine lv_aload_n hx hb dX5_off_40 rfl (lv_at hl 1 rfl) ?_
    refine va_get (D := D) (ci := 5) (v := .ref h_now) (C := RX5) (T := TX5) (N := 13) hx hb hts xin_X5_off_X5 hown hK hP 0 rfl rfl 3 (by decide) (hts (.fieldLink RX5 13 "TakeLogModel" "now" "[I") (by decide +kernel)) (fun _ h9 => h9) rfl dX5_off_41 ?_
    refine lv_bipush (v := 11) hx hb dX5_off_44 (by decide) ?_
    refine lv_iload_n hx hb dX5_off_46 rfl (lv_at hl 2 rfl) ?_
    refine x_iast (k := 11) hx hb hK hP hD hS 1 0 rfl rfl (x_lit rfl (by decide) (by decide)) rfl dX5_off_47 (fun H locs hP hD hS => ?_)
    have hP : va_P D vwCl [(h, .inr (5, [.int u1, .ref h_text, .int f_size, .ref h_now, .ref h_trial, .ref h_diary, .int u3.2, .ref h_kept, .ref h_isKept, .ref h_line, .int f_length, .int f_spot, .int f_out])), (h_now, .inl (cI, 377, .inl (upd f_now 11 v1))), (h_diary, .inl (cI, 5278, .inl u3.1))] H := hP
    have hD : va_D A [(h, .inr (5, [.int u1, .ref h_text, .int f_size, .ref h_now, .ref h_trial, .ref h_diary, .int u3.2, .ref h_kept, .ref h_isKept, .ref h_line, .int f_length, .int f_spot, .int f_out])), (h_now, .inl (cI, 377, .inl (upd f_now 11 v1))), (h_diary, .inl (cI, 5278, .inl u3.1))] := hD
    refine lv_iload_n hx hb dX5_off_48 rfl (lv_at hl 0 rfl) ?_
    exact x_reti C0 (u1, upd f_now 11 v1, u3.1, u3.2) hk hP hD hS dX5_off_49
  · have hk := hk.2 c2
    refine lv_iconst (v := 0) hx hb dX5_off_26 (by decide) ?_
    exact x_reti C0 (u1, f_now, f_diary, f_acts) hk hP hD hS dX5_off_27
set_option maxHeartbeats 4000000 in
set_option maxRecDepth 100000 in
theorem xb_X5_off_0 {p : Program} {l : Launch} {e : Env} {s : State} {m : MethodId} {args : Array Value} {below : List Frame} {meth : Method} {c : Code} {A : Nat → Prop} {D : va_G} {cI cC cZ cL : ClassId} {h h_text h_now h_trial h_diary h_kept h_isKept h_line : Nat}  {f_size : Int32} {f_length : Int32} {f_spot : Int32} {f_out : Int32} {K : Int32 → (Int32 × (Nat → Int32) × (Nat → Int32) × Int32) → Prop}  (C0 : xC p s m args meth c cX5_off 3 (some .int) wsX5_off RX5 D (xTY cI cC cZ cL)) (hA : ∀ q : Nat, s.heap.size ≤ q → A q)  : ∀ (f_refusal : Int32) (f_now : Nat → Int32) (f_diary : Nat → Int32) (f_acts : Int32) (x1 : Int32) , xp_X5_off f_refusal f_now f_diary f_acts x1 K → ∀ (H : Heap) (locs : List Loc) (ls : Array Slot), va_P D vwCl [(h, .inr (5, [.int f_refusal, .ref h_text, .int f_size, .ref h_now, .ref h_trial, .ref h_diary, .int f_acts, .ref h_kept, .ref h_isKept, .ref h_line, .int f_length, .int f_spot, .int f_out])), (h_now, .inl (cI, 377, .inl f_now)), (h_diary, .inl (cI, 5278, .inl f_diary))] H → va_D A [(h, .inr (5, [.int f_refusal, .ref h_text, .int f_size, .ref h_now, .ref h_trial, .ref h_diary, .int f_acts, .ref h_kept, .ref h_isKept, .ref h_line, .int f_length, .int f_spot, .int f_out])), (h_now, .inl (cI, 377, .inl f_now)), (h_diary, .inl (cI, 5278, .inl f_diary))] → va_S A s.heap H locs → lv_has ls 3 [(0, .ref h), (1, .int x1)] → W p l e ({ frames := 2, cells := 0, slots := 0, locals := 45 } : Room) s m args below meth c H locs 0 0 (MQ below (va_Qi (fun (r : Int32) (u : Int32 × (Nat → Int32) × (Nat → Int32) × Int32) => K r u) (fun u t => xE D A ((fun (u : Int32 × (Nat → Int32) × (Nat → Int32) × Int32) => [(h, .inr (5, [.int u.1, .ref h_text, .int f_size, .ref h_now, .ref h_trial, .ref h_diary, .int u.2.2.2, .ref h_kept, .ref h_isKept, .ref h_line, .int f_length, .int f_spot, .int f_out])), (h_now, .inl (cI, 377, .inl u.2.1)), (h_diary, .inl (cI, 5278, .inl u.2.2.1))]) u) t) A) args s 0 0 A) (F0 m 0 ls []) := by
  obtain ⟨hx, hb, hr, hml, hown, hts, hlocks, hK, hN⟩ := id C0
  intro f_refusal f_now f_diary f_acts x1 hk H locs ls hP hD hS hl
  rw [xp_X5_off] at hk
  refine lv_aload_n hx hb dX5_off_0 rfl (lv_at hl 0 rfl) ?_
  refine lv_iload_n hx hb dX5_off_1 rfl (lv_at hl 1 rfl) ?_
  refine lv_i2l hx hb dX5_off_2 rfl ?_
  refine lv_ldc2 (own := RX5) hx hb hown (hts (.constantLong RX5 201 (-99)) (by decide +kernel)) dX5_off_3 ?_
  refine lv_ldc2 (own := RX5) hx hb hown (hts (.constantLong RX5 44 (99)) (by decide +kernel)) dX5_off_6 ?_
  refine x_joini (ws1 := fun (_ : Unit) => [(h, .inr (5, [.int f_refusal, .ref h_text, .int f_size, .ref h_now, .ref h_trial, .ref h_diary, .int f_acts, .ref h_kept, .ref h_isKept, .ref h_line, .int f_length, .int f_spot, .int f_out])), (h_now, .inl (cI, 377, .inl f_now)), (h_diary, .inl (cI, 5278, .inl f_diary))]) (x_runO (n0 := 3) (As := [.long x1.toInt64, .long (-99 : Int64), .long 99]) (rest := [.ref h]) C0 (xc_X5_in l D cI cC cZ cL  H.size x1.toInt64 (-99 : Int64) 99 _ hk) gX5_off_X5_in rfl ⟨rfl, rfl⟩ (by decide +kernel) rfl ⟨by decide, by decide⟩ ⟨Nat.zero_le _, Nat.zero_le _⟩ hP hD [] rfl rfl hl.1 rfl (Nat.le_of_ble_eq_true rfl) dX5_off_9) hP hD hS hA [] [0, 1, 2] [0, 1, 2] rfl rfl rfl (by decide) (fun _ => rfl) rfl (fun r1 u1 H locs hk hP hD hS => ?_)
  refine lv_if_eq (tgt := 19) hx hb dX5_off_12 (by decide) (fun c2 => ?_) (fun c2 => ?_)
  · have hk := hk.1 c2
    refine lv_iconst (v := 1) hx hb dX5_off_19 (by decide) ?_
    exact xb_X5_off_20 C0 hA  _ _ _ _ _ _ hk H locs ls hP hD hS (lv_sub hl [0, 1] rfl)
  · have hk := hk.2 c2
    refine lv_iconst (v := 0) hx hb dX5_off_15 (by decide) ?_
    refine lv_goto (tgt := 20) hx hb dX5_off_16 (by decide) ?_
    exact xb_X5_off_20 C0 hA  _ _ _ _ _ _ hk H locs ls hP hD hS (lv_sub hl [0, 1] rfl)
theorem xc_X5_off (l : Launch) (D : va_G) (cI cC cZ cL : ClassId) (h h_text h_now h_trial h_diary h_kept h_isKept h_line : Nat)  (sz : Nat) (f_refusal : Int32) (f_size : Int32) (f_acts : Int32) (f_length : Int32) (f_spot : Int32) (f_out : Int32) (f_now : Nat → Int32) (f_diary : Nat → Int32) (x1 : Int32) (K : Int32 → (Int32 × (Nat → Int32) × (Nat → Int32) × Int32) → Prop) (hk : xp_X5_off f_refusal f_now f_diary f_acts x1 K) : XMi l yX5_off wsX5_off ({ frames := 2, cells := 0, slots := 0, locals := 45 } : Room) D (xTY cI cC cZ cL) [.ref h, .int x1] [(h, .inr (5, [.int f_refusal, .ref h_text, .int f_size, .ref h_now, .ref h_trial, .ref h_diary, .int f_acts, .ref h_kept, .ref h_isKept, .ref h_line, .int f_length, .int f_spot, .int f_out])), (h_now, .inl (cI, 377, .inl f_now)), (h_diary, .inl (cI, 5278, .inl f_diary))] sz (fun (r : Int32) (u : Int32 × (Nat → Int32) × (Nat → Int32) × Int32) => K r u) (fun (u : Int32 × (Nat → Int32) × (Nat → Int32) × Int32) => [(h, .inr (5, [.int u.1, .ref h_text, .int f_size, .ref h_now, .ref h_trial, .ref h_diary, .int u.2.2.2, .ref h_kept, .ref h_isKept, .ref h_line, .int f_length, .int f_spot, .int f_out])), (h_now, .inl (cI, 377, .inl u.2.1)), (h_diary, .inl (cI, 5278, .inl u.2.2.1))]) :=
  x_enter (cc := cX5_off) (maxL := 3) (ret := (some .int)) (own := RX5) (by decide) rfl rfl (Nat.le_of_ble_eq_true rfl) (fun p e s m below meth c ls C0 hA hP hD hS hl => xb_X5_off_0 C0 hA _ _ _ _ _ hk s.heap [] ls hP hD hS hl)
set_option maxRecDepth 20000 in
theorem xin_X5_set_X5 : ∀ w ∈ u_ws RX5 TX5 13, w ∈ wsX5_set := by decide +kernel
set_option maxHeartbeats 4000000 in
set_option maxRecDepth 100000 in
theorem xb_X5_set_14 {p : Program} {l : Launch} {e : Env} {s : State} {m : MethodId} {args : Array Value} {below : List Frame} {meth : Method} {c : Code} {A : Nat → Prop} {D : va_G} {cI cC cZ cL : ClassId} {h h_text h_now h_trial h_diary h_kept h_isKept h_line : Nat}  {f_size : Int32} {f_length : Int32} {f_spot : Int32} {f_out : Int32} {K : Int32 → (Int32 × (Nat → Int32) × (Nat → Int32) × Int32) → Prop}  (C0 : xC p s m args meth c cX5_set 4 (some .int) wsX5_set RX5 D (xTY cI cC cZ cL)) (hA : ∀ q : Nat, s.heap.size ≤ q → A q)  : ∀ (f_refusal : Int32) (f_now : Nat → Int32) (f_diary : Nat → Int32) (f_acts : Int32) (v1 : Int32) (v2 : Int32) (t0 : Int32) , xp_X5_set_14 K f_refusal f_now f_diary f_acts v1 v2 t0 → ∀ (H : Heap) (locs : List Loc) (ls : Array Slot), va_P D vwCl [(h, .inr (5, [.int f_refusal, .ref h_text, .int f_size, .ref h_now, .ref h_trial, .ref h_diary, .int f_acts, .ref h_kept, .ref h_isKept, .ref h_line, .int f_length, .int f_spot, .int f_out])), (h_now, .inl (cI, 377, .inl f_now)), (h_diary, .inl (cI, 5278, .inl f_diary))] H → va_D A [(h, .inr (5, [.int f_refusal, .ref h_text, .int f_size, .ref h_now, .ref h_trial, .ref h_diary, .int f_acts, .ref h_kept, .ref h_isKept, .ref h_line, .int f_length, .int f_spot, .int f_out])), (h_now, .inl (cI, 377, .inl f_now)), (h_diary, .inl (cI, 5278, .inl f_diary))] → va_S A s.heap H locs → lv_has ls 4 [(0, .ref h), (1, .int v1), (2, .int v2)] → W p l e ({ frames := 2, cells := 0, slots := 0, locals := 46 } : Room) s m args below meth c H locs 0 0 (MQ below (va_Qi (fun (r : Int32) (u : Int32 × (Nat → Int32) × (Nat → Int32) × Int32) => K r u) (fun u t => xE D A ((fun (u : Int32 × (Nat → Int32) × (Nat → Int32) × Int32) => [(h, .inr (5, [.int u.1, .ref h_text, .int f_size, .ref h_now, .ref h_trial, .ref h_diary, .int u.2.2.2, .ref h_kept, .ref h_isKept, .ref h_line, .int f_length, .int f_spot, .int f_out])), (h_now, .inl (cI, 377, .inl u.2.1)), (h_diary, .inl (cI, 5278, .inl u.2.2.1))]) u) t) A) args s 0 0 A) (F0 m 14 ls [.int t0, .ref h]) := by
  obtain ⟨hx, hb, hr, hml, hown, hts, hlocks, hK, hN⟩ := id C0
  intro f_refusal f_now f_diary f_acts v1 v2 t0 hk H locs ls hP hD hS hl
  rw [xp_X5_set_14] at hk
  refine x_joini (ws1 := fun (u1 : Int32) => [(h, .inr (5, [.int u1, .ref h_text, .int f_size, .ref h_now, .ref h_trial, .ref h_diary, .int f_acts, .ref h_kept, .ref h_isKept, .ref h_line, .int f_length, .int f_spot, .int f_out])), (h_now, .inl (cI, 377, .inl f_now)), (h_diary, .inl (cI, 5278, .inl f_diary))]) (x_runV (n0 := 1) (As := [.int t0]) (rest := []) C0 (xc_X5_refused l D cI cC cZ cL h h_text h_now h_trial h_diary h_kept h_isKept h_line H.size f_refusal f_size f_acts f_length f_spot f_out t0 _ hk) gX5_set_X5_refused rfl ⟨rfl, rfl⟩ (by decide +kernel) rfl ⟨by decide, by decide⟩ ⟨Nat.zero_le _, Nat.zero_le _⟩ hP hD [0] rfl rfl (k := 0) rfl rfl rfl hl.1 rfl (Nat.le_of_ble_eq_true rfl) dX5_set_14) hP hD hS hA [0] [1, 2] [2, 0, 1] rfl rfl rfl (by decide) (fun _ => rfl) rfl (fun r1 u1 H locs hk hP hD hS => ?_)
  refine lv_if_eq (tgt := 22) hx hb dX5_set_17 (by decide) (fun c2 => ?_) (fun c2 => ?_)
  · have hk := hk.1 c2
    refine lv_aload_n hx hb dX5_set_22 rfl (lv_at hl 0 rfl) ?_
    refine x_joinv (ws1 := fun (u3 : (Nat → Int32) × Int32) => [(h, .inr (5, [.int u1, .ref h_text, .int f_size, .ref h_now, .ref h_trial, .ref h_diary, .int u3.2, .ref h_kept, .ref h_isKept, .ref h_line, .int f_length, .int f_spot, .int f_out])), (h_now, .inl (cI, 377, .inl f_now)), (h_diary, .inl (cI, 5278, .inl u3.1))]) (x_runV (n0 := 0) (As := []) (rest := []) C0 (xc_X5_remember l D cI cC cZ cL h h_text h_now h_trial h_diary h_kept h_isKept h_line H.size u1 f_size f_acts f_length f_spot f_out f_now f_diary _ hk) gX5_set_X5_remember rfl ⟨rfl, rfl⟩ (by decide +kernel) rfl ⟨by decide, by decide⟩ ⟨Nat.zero_le _, Nat.zero_le _⟩ hP hD [0, 1, 2] rfl rfl (k := 0) rfl rfl rfl hl.1 rfl (Nat.le_of_ble_eq_true rfl) dX5_set_23) hP hD hS hA [0, 1, 2] [] [0, 1, 2] rfl rfl rfl (by decide) (fun _ => rfl) rfl (fun u3 H locs hk hP hD hS => ?_)
    refine lv_aload_n hx hb dX5_set_26 rfl (lv_at hl 0 rfl) ?_
    refine va_get (D := D) (ci := 5) (v := .ref h_now) (C := RX5) (T := TX5) (N := 13) hx hb hts xin_X5_set_X5 hown hK hP 0 rfl rfl 3 (by decide) (hts (.fieldLink RX5 13 "TakeLogModel" "now" "[I") (by decide +kernel)) (fun _ h9 => h9) rfl dX5_set_27 ?_
    refine lv_bipush (v := 13) hx hb dX5_set_30 (by decide) ?_
    refine lv_iload_n hx hb dX5_set_32 rfl (lv_at hl 1 rfl) ?_
    refine lv_iadd hx hb dX5_set_33 ?_
    refine x_iald hx hb hK hP 1 0 rfl rfl hk.1 rfl rfl dX5_set_34 ?_
    have hk := hk.2
    refine lv_istore_n (lv' := [(3, .int (f_now (13 + v1).toNatClampNeg)), (0, .ref h), (1, .int v1), (2, .int v2)]) hx hb dX5_set_35 rfl hl (by decide) rfl (fun ls hl => ?_)
    refine lv_aload_n hx hb dX5_set_36 rfl (lv_at hl 1 rfl) ?_
    refine va_get (D := D) (ci := 5) (v := .ref h_now) (C := RX5) (T := TX5) (N := 13) hx hb hts xin_X5_set_X5 hown hK hP 0 rfl rfl 3 (by decide) (hts (.fieldLink RX5 13 "TakeLogModel" "now" "[I") (by decide +kernel)) (fun _ h9 => h9) rfl dX5_set_37 ?_
    refine lv_bipush (v := 13) hx hb dX5_set_40 (by decide) ?_
    refine lv_iload_n hx hb dX5_set_42 rfl (lv_at hl 2 rfl) ?_
    refine lv_iadd hx hb dX5_set_43 ?_
    refine lv_iload_n hx hb dX5_set_44 rfl (lv_at hl 3 rfl) ?_
    refine x_iast hx hb hK hP hD hS 1 0 rfl rfl hk.1 rfl dX5_set_45 (fun H locs hP hD hS => ?_)
    have hk := hk.2
    have hP : va_P D vwCl [(h, .inr (5, [.int u1, .ref h_text, .int f_size, .ref h_now, .ref h_trial, .ref h_diary, .int u3.2, .ref h_kept, .ref h_isKept, .ref h_line, .int f_length, .int f_spot, .int f_out])), (h_now, .inl (cI, 377, .inl (upd f_now ((13 + v1).toNatClampNeg) v2))), (h_diary, .inl (cI, 5278, .inl u3.1))] H := hP
    have hD : va_D A [(h, .inr (5, [.int u1, .ref h_text, .int f_size, .ref h_now, .ref h_trial, .ref h_diary, .int u3.2, .ref h_kept, .ref h_isKept, .ref h_line, .int f_length, .int f_spot, .int f_out])), (h_now, .inl (cI, 377, .inl (upd f_now ((13 + v1).toNatClampNeg) v2))), (h_diary, .inl (cI, 5278, .inl u3.1))] := hD
    refine lv_iload_n hx hb dX5_set_46 rfl (lv_at hl 0 rfl) ?_
    exact x_reti C0 (u1, upd f_now ((13 + v1).toNatClampNeg) v2, u3.1, u3.2) hk hP hD hS dX5_set_47
  · have hk := hk.2 c2
    refine lv_iconst (v := 0) hx hb dX5_set_20 (by decide) ?_
    exact x_reti C0 (u1, f_now, f_diary, f_acts) hk hP hD hS dX5_set_21
set_option maxHeartbeats 4000000 in
set_option maxRecDepth 100000 in
theorem xb_X5_set_0 {p : Program} {l : Launch} {e : Env} {s : State} {m : MethodId} {args : Array Value} {below : List Frame} {meth : Method} {c : Code} {A : Nat → Prop} {D : va_G} {cI cC cZ cL : ClassId} {h h_text h_now h_trial h_diary h_kept h_isKept h_line : Nat}  {f_size : Int32} {f_length : Int32} {f_spot : Int32} {f_out : Int32} {K : Int32 → (Int32 × (Nat → Int32) × (Nat → Int32) × Int32) → Prop}  (C0 : xC p s m args meth c cX5_set 4 (some .int) wsX5_set RX5 D (xTY cI cC cZ cL)) (hA : ∀ q : Nat, s.heap.size ≤ q → A q)  : ∀ (f_refusal : Int32) (f_now : Nat → Int32) (f_diary : Nat → Int32) (f_acts : Int32) (x1 : Int32) (x2 : Int32) , xp_X5_set f_refusal f_now f_diary f_acts x1 x2 K → ∀ (H : Heap) (locs : List Loc) (ls : Array Slot), va_P D vwCl [(h, .inr (5, [.int f_refusal, .ref h_text, .int f_size, .ref h_now, .ref h_trial, .ref h_diary, .int f_acts, .ref h_kept, .ref h_isKept, .ref h_line, .int f_length, .int f_spot, .int f_out])), (h_now, .inl (cI, 377, .inl f_now)), (h_diary, .inl (cI, 5278, .inl f_diary))] H → va_D A [(h, .inr (5, [.int f_refusal, .ref h_text, .int f_size, .ref h_now, .ref h_trial, .ref h_diary, .int f_acts, .ref h_kept, .ref h_isKept, .ref h_line, .int f_length, .int f_spot, .int f_out])), (h_now, .inl (cI, 377, .inl f_now)), (h_diary, .inl (cI, 5278, .inl f_diary))] → va_S A s.heap H locs → lv_has ls 4 [(0, .ref h), (1, .int x1), (2, .int x2)] → W p l e ({ frames := 2, cells := 0, slots := 0, locals := 46 } : Room) s m args below meth c H locs 0 0 (MQ below (va_Qi (fun (r : Int32) (u : Int32 × (Nat → Int32) × (Nat → Int32) × Int32) => K r u) (fun u t => xE D A ((fun (u : Int32 × (Nat → Int32) × (Nat → Int32) × Int32) => [(h, .inr (5, [.int u.1, .ref h_text, .int f_size, .ref h_now, .ref h_trial, .ref h_diary, .int u.2.2.2, .ref h_kept, .ref h_isKept, .ref h_line, .int f_length, .int f_spot, .int f_out])), (h_now, .inl (cI, 377, .inl u.2.1)), (h_diary, .inl (cI, 5278, .inl u.2.2.1))]) u) t) A) args s 0 0 A) (F0 m 0 ls []) := by
  obtain ⟨hx, hb, hr, hml, hown, hts, hlocks, hK, hN⟩ := id C0
  intro f_refusal f_now f_diary f_acts x1 x2 hk H locs ls hP hD hS hl
  rw [xp_X5_set] at hk
  refine lv_aload_n hx hb dX5_set_0 rfl (lv_at hl 0 rfl) ?_
  refine lv_iload_n hx hb dX5_set_1 rfl (lv_at hl 1 rfl) ?_
  refine lv_iload_n hx hb dX5_set_2 rfl (lv_at hl 2 rfl) ?_
  refine x_joini (ws1 := fun (_ : Unit) => [(h, .inr (5, [.int f_refusal, .ref h_text, .int f_size, .ref h_now, .ref h_trial, .ref h_diary, .int f_acts, .ref h_kept, .ref h_isKept, .ref h_line, .int f_length, .int f_spot, .int f_out])), (h_now, .inl (cI, 377, .inl f_now)), (h_diary, .inl (cI, 5278, .inl f_diary))]) (x_runO (n0 := 2) (As := [.int x1, .int x2]) (rest := [.ref h]) C0 (xc_X5_isSetting l D cI cC cZ cL  H.size x1 x2 _ hk) gX5_set_X5_isSetting rfl ⟨rfl, rfl⟩ (by decide +kernel) rfl ⟨by decide, by decide⟩ ⟨Nat.zero_le _, Nat.zero_le _⟩ hP hD [] rfl rfl hl.1 rfl (Nat.le_of_ble_eq_true rfl) dX5_set_3) hP hD hS hA [] [0, 1, 2] [0, 1, 2] rfl rfl rfl (by decide) (fun _ => rfl) rfl (fun r1 u1 H locs hk hP hD hS => ?_)
  refine lv_if_eq (tgt := 13) hx hb dX5_set_6 (by decide) (fun c2 => ?_) (fun c2 => ?_)
  · have hk := hk.1 c2
    refine lv_iconst (v := 1) hx hb dX5_set_13 (by decide) ?_
    exact xb_X5_set_14 C0 hA  _ _ _ _ _ _ _ hk H locs ls hP hD hS (lv_sub hl [0, 1, 2] rfl)
  · have hk := hk.2 c2
    refine lv_iconst (v := 0) hx hb dX5_set_9 (by decide) ?_
    refine lv_goto (tgt := 14) hx hb dX5_set_10 (by decide) ?_
    exact xb_X5_set_14 C0 hA  _ _ _ _ _ _ _ hk H locs ls hP hD hS (lv_sub hl [0, 1, 2] rfl)
theorem xc_X5_set (l : Launch) (D : va_G) (cI cC cZ cL : ClassId) (h h_text h_now h_trial h_diary h_kept h_isKept h_line : Nat)  (sz : Nat) (f_refusal : Int32) (f_size : Int32) (f_acts : Int32) (f_length : Int32) (f_spot : Int32) (f_out : Int32) (f_now : Nat → Int32) (f_diary : Nat → Int32) (x1 : Int32) (x2 : Int32) (K : Int32 → (Int32 × (Nat → Int32) × (Nat → Int32) × Int32) → Prop) (hk : xp_X5_set f_refusal f_now f_diary f_acts x1 x2 K) : XMi l yX5_set wsX5_set ({ frames := 2, cells := 0, slots := 0, locals := 46 } : Room) D (xTY cI cC cZ cL) [.ref h, .int x1, .int x2] [(h, .inr (5, [.int f_refusal, .ref h_text, .int f_size, .ref h_now, .ref h_trial, .ref h_diary, .int f_acts, .ref h_kept, .ref h_isKept, .ref h_line, .int f_length, .int f_spot, .int f_out])), (h_now, .inl (cI, 377, .inl f_now)), (h_diary, .inl (cI, 5278, .inl f_diary))] sz (fun (r : Int32) (u : Int32 × (Nat → Int32) × (Nat → Int32) × Int32) => K r u) (fun (u : Int32 × (Nat → Int32) × (Nat → Int32) × Int32) => [(h, .inr (5, [.int u.1, .ref h_text, .int f_size, .ref h_now, .ref h_trial, .ref h_diary, .int u.2.2.2, .ref h_kept, .ref h_isKept, .ref h_line, .int f_length, .int f_spot, .int f_out])), (h_now, .inl (cI, 377, .inl u.2.1)), (h_diary, .inl (cI, 5278, .inl u.2.2.1))]) :=
  x_enter (cc := cX5_set) (maxL := 4) (ret := (some .int)) (own := RX5) (by decide) rfl rfl (Nat.le_of_ble_eq_true rfl) (fun p e s m below meth c ls C0 hA hP hD hS hl => xb_X5_set_0 C0 hA _ _ _ _ _ _ hk s.heap [] ls hP hD hS hl)
set_option maxRecDepth 20000 in
theorem xin_X5_undo_X5 : ∀ w ∈ u_ws RX5 TX5 13, w ∈ wsX5_undo := by decide +kernel
set_option maxHeartbeats 4000000 in
set_option maxRecDepth 100000 in
theorem xb_X5_undo_13 {p : Program} {l : Launch} {e : Env} {s : State} {m : MethodId} {args : Array Value} {below : List Frame} {meth : Method} {c : Code} {A : Nat → Prop} {D : va_G} {cI cC cZ cL : ClassId} {h h_text h_now h_trial h_diary h_kept h_isKept h_line : Nat}  {f_size : Int32} {f_length : Int32} {f_spot : Int32} {f_out : Int32} {f_diary : Nat → Int32} {K : Int32 → (Int32 × (Nat → Int32) × Int32) → Prop}  (C0 : xC p s m args meth c cX5_undo 1 (some .int) wsX5_undo RX5 D (xTY cI cC cZ cL)) (hA : ∀ q : Nat, s.heap.size ≤ q → A q)  : ∀ (f_refusal : Int32) (f_now : Nat → Int32) (f_acts : Int32) (t0 : Int32) , xp_X5_undo_13 f_diary K f_refusal f_now f_acts t0 → ∀ (H : Heap) (locs : List Loc) (ls : Array Slot), va_P D vwCl [(h, .inr (5, [.int f_refusal, .ref h_text, .int f_size, .ref h_now, .ref h_trial, .ref h_diary, .int f_acts, .ref h_kept, .ref h_isKept, .ref h_line, .int f_length, .int f_spot, .int f_out])), (h_now, .inl (cI, 377, .inl f_now)), (h_diary, .inl (cI, 5278, .inl f_diary))] H → va_D A [(h, .inr (5, [.int f_refusal, .ref h_text, .int f_size, .ref h_now, .ref h_trial, .ref h_diary, .int f_acts, .ref h_kept, .ref h_isKept, .ref h_line, .int f_length, .int f_spot, .int f_out])), (h_now, .inl (cI, 377, .inl f_now)), (h_diary, .inl (cI, 5278, .inl f_diary))] → va_S A s.heap H locs → lv_has ls 1 [(0, .ref h)] → W p l e ({ frames := 1, cells := 0, slots := 0, locals := 24 } : Room) s m args below meth c H locs 0 0 (MQ below (va_Qi (fun (r : Int32) (u : Int32 × (Nat → Int32) × Int32) => K r u) (fun u t => xE D A ((fun (u : Int32 × (Nat → Int32) × Int32) => [(h, .inr (5, [.int u.1, .ref h_text, .int f_size, .ref h_now, .ref h_trial, .ref h_diary, .int u.2.2, .ref h_kept, .ref h_isKept, .ref h_line, .int f_length, .int f_spot, .int f_out])), (h_now, .inl (cI, 377, .inl u.2.1)), (h_diary, .inl (cI, 5278, .inl f_diary))]) u) t) A) args s 0 0 A) (F0 m 13 ls [.int t0, .ref h]) := by
  obtain ⟨hx, hb, hr, hml, hown, hts, hlocks, hK, hN⟩ := id C0
  intro f_refusal f_now f_acts t0 hk H locs ls hP hD hS hl
  rw [xp_X5_undo_13] at hk
  refine x_joini (ws1 := fun (u1 : Int32) => [(h, .inr (5, [.int u1, .ref h_text, .int f_size, .ref h_now, .ref h_trial, .ref h_diary, .int f_acts, .ref h_kept, .ref h_isKept, .ref h_line, .int f_length, .int f_spot, .int f_out])), (h_now, .inl (cI, 377, .inl f_now)), (h_diary, .inl (cI, 5278, .inl f_diary))]) (x_runV (n0 := 1) (As := [.int t0]) (rest := []) C0 (xc_X5_refused l D cI cC cZ cL h h_text h_now h_trial h_diary h_kept h_isKept h_line H.size f_refusal f_size f_acts f_length f_spot f_out t0 _ hk) gX5_undo_X5_refused rfl ⟨rfl, rfl⟩ (by decide +kernel) rfl ⟨by decide, by decide⟩ ⟨Nat.zero_le _, Nat.zero_le _⟩ hP hD [0] rfl rfl (k := 0) rfl rfl rfl hl.1 rfl (Nat.le_of_ble_eq_true rfl) dX5_undo_13) hP hD hS hA [0] [1, 2] [2, 0, 1] rfl rfl rfl (by decide) (fun _ => rfl) rfl (fun r1 u1 H locs hk hP hD hS => ?_)
  refine lv_if_eq (tgt := 21) hx hb dX5_undo_16 (by decide) (fun c2 => ?_) (fun c2 => ?_)
  · have hk := hk.1 c2
    refine lv_aload_n hx hb dX5_undo_21 rfl (lv_at hl 0 rfl) ?_
    refine lv_dup hx hb dX5_undo_22 rfl ?_
    refine va_get (D := D) (ci := 5) (v := .int f_acts) (C := RX5) (T := TX5) (N := 13) hx hb hts xin_X5_undo_X5 hown hK hP 0 rfl rfl 6 (by decide) (hts (.fieldLink RX5 164 "TakeLogModel" "acts" "I") (by decide +kernel)) (fun _ h9 => h9) rfl dX5_undo_23 ?_
    refine lv_iconst (v := 1) hx hb dX5_undo_26 (by decide) ?_
    refine lv_isub hx hb dX5_undo_27 ?_
    refine va_put (D := D) (ci := 5) (v := .int (f_acts - 1)) (ty := .int) (C := RX5) (T := TX5) (N := 13) hx hb hts xin_X5_undo_X5 tyX5 tyX5_ok nmX5 hown hK hP hD hS 0 rfl rfl 6 (by decide) (hts (.fieldLink RX5 164 "TakeLogModel" "acts" "I") (by decide +kernel)) (fun _ h9 => h9) rfl (by decide +kernel) rfl rfl (Nat.le_of_ble_eq_true rfl) dX5_undo_28 (fun H locs hP hD hS => ?_)
    have hP : va_P D vwCl [(h, .inr (5, [.int u1, .ref h_text, .int f_size, .ref h_now, .ref h_trial, .ref h_diary, .int (f_acts - 1), .ref h_kept, .ref h_isKept, .ref h_line, .int f_length, .int f_spot, .int f_out])), (h_now, .inl (cI, 377, .inl f_now)), (h_diary, .inl (cI, 5278, .inl f_diary))] H := hP
    have hD : va_D A [(h, .inr (5, [.int u1, .ref h_text, .int f_size, .ref h_now, .ref h_trial, .ref h_diary, .int (f_acts - 1), .ref h_kept, .ref h_isKept, .ref h_line, .int f_length, .int f_spot, .int f_out])), (h_now, .inl (cI, 377, .inl f_now)), (h_diary, .inl (cI, 5278, .inl f_diary))] := hD
    refine lv_aload_n hx hb dX5_undo_31 rfl (lv_at hl 0 rfl) ?_
    refine va_get (D := D) (ci := 5) (v := .ref h_diary) (C := RX5) (T := TX5) (N := 13) hx hb hts xin_X5_undo_X5 hown hK hP 0 rfl rfl 5 (by decide) (hts (.fieldLink RX5 19 "TakeLogModel" "diary" "[I") (by decide +kernel)) (fun _ h9 => h9) rfl dX5_undo_32 ?_
    refine lv_sipush (v := 377) hx hb dX5_undo_35 (by decide) ?_
    refine lv_aload_n hx hb dX5_undo_38 rfl (lv_at hl 0 rfl) ?_
    refine va_get (D := D) (ci := 5) (v := .int (f_acts - 1)) (C := RX5) (T := TX5) (N := 13) hx hb hts xin_X5_undo_X5 hown hK hP 0 rfl rfl 6 (by decide) (hts (.fieldLink RX5 164 "TakeLogModel" "acts" "I") (by decide +kernel)) (fun _ h9 => h9) rfl dX5_undo_39 ?_
    refine lv_imul hx hb dX5_undo_42 ?_
    refine lv_aload_n hx hb dX5_undo_43 rfl (lv_at hl 0 rfl) ?_
    refine va_get (D := D) (ci := 5) (v := .ref h_now) (C := RX5) (T := TX5) (N := 13) hx hb hts xin_X5_undo_X5 hown hK hP 0 rfl rfl 3 (by decide) (hts (.fieldLink RX5 13 "TakeLogModel" "now" "[I") (by decide +kernel)) (fun _ h9 => h9) rfl dX5_undo_44 ?_
    refine lv_iconst (v := 0) hx hb dX5_undo_47 (by decide) ?_
    refine x_joinv (ws1 := fun (u3 : (Nat → Int32)) => [(h, .inr (5, [.int u1, .ref h_text, .int f_size, .ref h_now, .ref h_trial, .ref h_diary, .int (f_acts - 1), .ref h_kept, .ref h_isKept, .ref h_line, .int f_length, .int f_spot, .int f_out])), (h_now, .inl (cI, 377, .inl u3)), (h_diary, .inl (cI, 5278, .inl f_diary))]) (x_runO (n0 := 4) (As := [.ref h_diary, .int (377 * (f_acts - 1)), .ref h_now, .int 0]) (rest := []) C0 (xc_X5_copyState l D cI cC cZ cL h_diary h_now 5278 377 H.size f_diary f_now (377 * (f_acts - 1)) 0 _ hk) gX5_undo_X5_copyState rfl ⟨rfl, rfl⟩ (by decide +kernel) rfl ⟨by decide, by decide⟩ ⟨Nat.zero_le _, Nat.zero_le _⟩ hP hD [2, 1] rfl rfl hl.1 rfl (Nat.le_of_ble_eq_true rfl) dX5_undo_48) hP hD hS hA [2, 1] [0] [0, 2, 1] rfl rfl rfl (by decide) (fun _ => rfl) rfl (fun u3 H locs hk hP hD hS => ?_)
    refine lv_aload_n hx hb dX5_undo_51 rfl (lv_at hl 0 rfl) ?_
    refine va_get (D := D) (ci := 5) (v := .int (f_acts - 1)) (C := RX5) (T := TX5) (N := 13) hx hb hts xin_X5_undo_X5 hown hK hP 0 rfl rfl 6 (by decide) (hts (.fieldLink RX5 164 "TakeLogModel" "acts" "I") (by decide +kernel)) (fun _ h9 => h9) rfl dX5_undo_52 ?_
    exact x_reti C0 (u1, u3, f_acts - 1) hk hP hD hS dX5_undo_55
  · have hk := hk.2 c2
    refine lv_iconst (v := 0) hx hb dX5_undo_19 (by decide) ?_
    exact x_reti C0 (u1, f_now, f_acts) hk hP hD hS dX5_undo_20
set_option maxHeartbeats 4000000 in
set_option maxRecDepth 100000 in
theorem xb_X5_undo_0 {p : Program} {l : Launch} {e : Env} {s : State} {m : MethodId} {args : Array Value} {below : List Frame} {meth : Method} {c : Code} {A : Nat → Prop} {D : va_G} {cI cC cZ cL : ClassId} {h h_text h_now h_trial h_diary h_kept h_isKept h_line : Nat}  {f_size : Int32} {f_length : Int32} {f_spot : Int32} {f_out : Int32} {f_diary : Nat → Int32} {K : Int32 → (Int32 × (Nat → Int32) × Int32) → Prop}  (C0 : xC p s m args meth c cX5_undo 1 (some .int) wsX5_undo RX5 D (xTY cI cC cZ cL)) (hA : ∀ q : Nat, s.heap.size ≤ q → A q)  : ∀ (f_refusal : Int32) (f_now : Nat → Int32) (f_acts : Int32) , xp_X5_undo f_diary f_refusal f_now f_acts K → ∀ (H : Heap) (locs : List Loc) (ls : Array Slot), va_P D vwCl [(h, .inr (5, [.int f_refusal, .ref h_text, .int f_size, .ref h_now, .ref h_trial, .ref h_diary, .int f_acts, .ref h_kept, .ref h_isKept, .ref h_line, .int f_length, .int f_spot, .int f_out])), (h_now, .inl (cI, 377, .inl f_now)), (h_diary, .inl (cI, 5278, .inl f_diary))] H → va_D A [(h, .inr (5, [.int f_refusal, .ref h_text, .int f_size, .ref h_now, .ref h_trial, .ref h_diary, .int f_acts, .ref h_kept, .ref h_isKept, .ref h_line, .int f_length, .int f_spot, .int f_out])), (h_now, .inl (cI, 377, .inl f_now)), (h_diary, .inl (cI, 5278, .inl f_diary))] → va_S A s.heap H locs → lv_has ls 1 [(0, .ref h)] → W p l e ({ frames := 1, cells := 0, slots := 0, locals := 24 } : Room) s m args below meth c H locs 0 0 (MQ below (va_Qi (fun (r : Int32) (u : Int32 × (Nat → Int32) × Int32) => K r u) (fun u t => xE D A ((fun (u : Int32 × (Nat → Int32) × Int32) => [(h, .inr (5, [.int u.1, .ref h_text, .int f_size, .ref h_now, .ref h_trial, .ref h_diary, .int u.2.2, .ref h_kept, .ref h_isKept, .ref h_line, .int f_length, .int f_spot, .int f_out])), (h_now, .inl (cI, 377, .inl u.2.1)), (h_diary, .inl (cI, 5278, .inl f_diary))]) u) t) A) args s 0 0 A) (F0 m 0 ls []) := by
  obtain ⟨hx, hb, hr, hml, hown, hts, hlocks, hK, hN⟩ := id C0
  intro f_refusal f_now f_acts hk H locs ls hP hD hS hl
  rw [xp_X5_undo] at hk
  refine lv_aload_n hx hb dX5_undo_0 rfl (lv_at hl 0 rfl) ?_
  refine lv_aload_n hx hb dX5_undo_1 rfl (lv_at hl 0 rfl) ?_
  refine va_get (D := D) (ci := 5) (v := .int f_acts) (C := RX5) (T := TX5) (N := 13) hx hb hts xin_X5_undo_X5 hown hK hP 0 rfl rfl 6 (by decide) (hts (.fieldLink RX5 164 "TakeLogModel" "acts" "I") (by decide +kernel)) (fun _ h9 => h9) rfl dX5_undo_2 ?_
  refine lv_if_ne (tgt := 12) hx hb dX5_undo_5 (by decide) (fun c1 => ?_) (fun c1 => ?_)
  · have hk := hk.1 c1
    refine lv_iconst (v := 0) hx hb dX5_undo_12 (by decide) ?_
    exact xb_X5_undo_13 C0 hA  _ _ _ _ hk H locs ls hP hD hS (lv_sub hl [0] rfl)
  · have hk := hk.2 c1
    refine lv_iconst (v := 1) hx hb dX5_undo_8 (by decide) ?_
    refine lv_goto (tgt := 13) hx hb dX5_undo_9 (by decide) ?_
    exact xb_X5_undo_13 C0 hA  _ _ _ _ hk H locs ls hP hD hS (lv_sub hl [0] rfl)
theorem xc_X5_undo (l : Launch) (D : va_G) (cI cC cZ cL : ClassId) (h h_text h_now h_trial h_diary h_kept h_isKept h_line : Nat)  (sz : Nat) (f_refusal : Int32) (f_size : Int32) (f_acts : Int32) (f_length : Int32) (f_spot : Int32) (f_out : Int32) (f_now : Nat → Int32) (f_diary : Nat → Int32)  (K : Int32 → (Int32 × (Nat → Int32) × Int32) → Prop) (hk : xp_X5_undo f_diary f_refusal f_now f_acts K) : XMi l yX5_undo wsX5_undo ({ frames := 1, cells := 0, slots := 0, locals := 24 } : Room) D (xTY cI cC cZ cL) [.ref h] [(h, .inr (5, [.int f_refusal, .ref h_text, .int f_size, .ref h_now, .ref h_trial, .ref h_diary, .int f_acts, .ref h_kept, .ref h_isKept, .ref h_line, .int f_length, .int f_spot, .int f_out])), (h_now, .inl (cI, 377, .inl f_now)), (h_diary, .inl (cI, 5278, .inl f_diary))] sz (fun (r : Int32) (u : Int32 × (Nat → Int32) × Int32) => K r u) (fun (u : Int32 × (Nat → Int32) × Int32) => [(h, .inr (5, [.int u.1, .ref h_text, .int f_size, .ref h_now, .ref h_trial, .ref h_diary, .int u.2.2, .ref h_kept, .ref h_isKept, .ref h_line, .int f_length, .int f_spot, .int f_out])), (h_now, .inl (cI, 377, .inl u.2.1)), (h_diary, .inl (cI, 5278, .inl f_diary))]) :=
  x_enter (cc := cX5_undo) (maxL := 1) (ret := (some .int)) (own := RX5) (by decide) rfl rfl (Nat.le_of_ble_eq_true rfl) (fun p e s m below meth c ls C0 hA hP hD hS hl => xb_X5_undo_0 C0 hA _ _ _ hk s.heap [] ls hP hD hS hl)
set_option maxRecDepth 20000 in
theorem xin_X5_find_X5 : ∀ w ∈ u_ws RX5 TX5 13, w ∈ wsX5_find := by decide +kernel
set_option maxHeartbeats 4000000 in
set_option maxRecDepth 100000 in
theorem xb_X5_find_97 {p : Program} {l : Launch} {e : Env} {s : State} {m : MethodId} {args : Array Value} {below : List Frame} {meth : Method} {c : Code} {A : Nat → Prop} {D : va_G} {cI cC cZ cL : ClassId} {h h_text h_now h_trial h_diary h_kept h_isKept h_line : Nat}  {f_size : Int32} {f_acts : Int32} {f_length : Int32} {f_spot : Int32} {f_out : Int32} {f_now : Nat → Int32} {K : Int32 → Int32 → Prop} {X20 : Int32 → Int32 → Int32 → Int32 → Int32 → Int32 → Int32 → Prop} (C0 : xC p s m args meth c cX5_find 9 (some .int) wsX5_find RX5 D (xTY cI cC cZ cL)) (hA : ∀ q : Nat, s.heap.size ≤ q → A q) (hX20 : ∀ (f_refusal : Int32) (v1 : Int32) (v2 : Int32) (v3 : Int32) (v4 : Int32) (v5 : Int32) (v6 : Int32), X20 f_refusal v1 v2 v3 v4 v5 v6 → ∀ (H : Heap) (locs : List Loc) (ls : Array Slot), va_P D vwCl [(h, .inr (5, [.int f_refusal, .ref h_text, .int f_size, .ref h_now, .ref h_trial, .ref h_diary, .int f_acts, .ref h_kept, .ref h_isKept, .ref h_line, .int f_length, .int f_spot, .int f_out])), (h_now, .inl (cI, 377, .inl f_now))] H → va_D A [(h, .inr (5, [.int f_refusal, .ref h_text, .int f_size, .ref h_now, .ref h_trial, .ref h_diary, .int f_acts, .ref h_kept, .ref h_isKept, .ref h_line, .int f_length, .int f_spot, .int f_out])), (h_now, .inl (cI, 377, .inl f_now))] → va_S A s.heap H locs → lv_has ls 9 [(0, .ref h), (1, .int v1), (2, .int v2), (3, .int v3), (4, .int v4), (5, .int v5), (6, .int v6)] → W p l e ({ frames := 3, cells := 0, slots := 0, locals := 68 } : Room) s m args below meth c H locs 0 0 (MQ below (va_Qi (fun (r : Int32) (u : Int32) => K r u) (fun u t => xE D A ((fun (u : Int32) => [(h, .inr (5, [.int u, .ref h_text, .int f_size, .ref h_now, .ref h_trial, .ref h_diary, .int f_acts, .ref h_kept, .ref h_isKept, .ref h_line, .int f_length, .int f_spot, .int f_out])), (h_now, .inl (cI, 377, .inl f_now))]) u) t) A) args s 0 0 A) (F0 m 20 ls [])) : ∀ (f_refusal : Int32) (v1 : Int32) (v2 : Int32) (v3 : Int32) (v4 : Int32) (v5 : Int32) (v6 : Int32) (v7 : Int32) (t0 : Int32) , xp_X5_find_97 f_now K X20 f_refusal v1 v2 v3 v4 v5 v6 v7 t0 → ∀ (H : Heap) (locs : List Loc) (ls : Array Slot), va_P D vwCl [(h, .inr (5, [.int f_refusal, .ref h_text, .int f_size, .ref h_now, .ref h_trial, .ref h_diary, .int f_acts, .ref h_kept, .ref h_isKept, .ref h_line, .int f_length, .int f_spot, .int f_out])), (h_now, .inl (cI, 377, .inl f_now))] H → va_D A [(h, .inr (5, [.int f_refusal, .ref h_text, .int f_size, .ref h_now, .ref h_trial, .ref h_diary, .int f_acts, .ref h_kept, .ref h_isKept, .ref h_line, .int f_length, .int f_spot, .int f_out])), (h_now, .inl (cI, 377, .inl f_now))] → va_S A s.heap H locs → lv_has ls 9 [(0, .ref h), (1, .int v1), (2, .int v2), (3, .int v3), (4, .int v4), (5, .int v5), (6, .int v6), (7, .int v7)] → W p l e ({ frames := 3, cells := 0, slots := 0, locals := 68 } : Room) s m args below meth c H locs 0 0 (MQ below (va_Qi (fun (r : Int32) (u : Int32) => K r u) (fun u t => xE D A ((fun (u : Int32) => [(h, .inr (5, [.int u, .ref h_text, .int f_size, .ref h_now, .ref h_trial, .ref h_diary, .int f_acts, .ref h_kept, .ref h_isKept, .ref h_line, .int f_length, .int f_spot, .int f_out])), (h_now, .inl (cI, 377, .inl f_now))]) u) t) A) args s 0 0 A) (F0 m 97 ls [.int t0]) := by
  obtain ⟨hx, hb, hr, hml, hown, hts, hlocks, hK, hN⟩ := id C0
  intro f_refusal v1 v2 v3 v4 v5 v6 v7 t0 hk H locs ls hP hD hS hl
  rw [xp_X5_find_97] at hk
  refine lv_istore (lv' := [(8, .int t0), (0, .ref h), (1, .int v1), (2, .int v2), (3, .int v3), (4, .int v4), (5, .int v5), (6, .int v6), (7, .int v7)]) hx hb dX5_find_97 hl (by decide) rfl (fun ls hl => ?_)
  refine lv_iload hx hb dX5_find_99 (lv_at hl 8 rfl) ?_
  refine lv_if_eq (tgt := 132) hx hb dX5_find_101 (by decide) (fun c1 => ?_) (fun c1 => ?_)
  · have hk := hk.1 c1
    refine lv_iinc (v := (v6 + 1)) (lv' := [(6, .int (v6 + 1)), (8, .int t0), (0, .ref h), (1, .int v1), (2, .int v2), (3, .int v3), (4, .int v4), (5, .int v5), (7, .int v7)]) hx hb dX5_find_132 hl (k := 7) rfl rfl (by decide) rfl (fun ls hl => ?_)
    refine lv_goto (tgt := 20) hx hb dX5_find_135 (by decide) ?_
    exact hX20 _ _ _ _ _ _ _ hk H locs ls hP hD hS (lv_sub hl [2, 3, 4, 5, 6, 7, 0] rfl)
  · have hk := hk.2 c1
    refine lv_iload hx hb dX5_find_104 (lv_at hl 0 rfl) ?_
    refine lv_iload_n hx hb dX5_find_106 rfl (lv_at hl 4 rfl) ?_
    refine lv_icmp_ne (tgt := 132) hx hb dX5_find_107 (by decide) (fun c2 => ?_) (fun c2 => ?_)
    · have hk := hk.1 c2
      refine lv_iinc (v := (v6 + 1)) (lv' := [(6, .int (v6 + 1)), (8, .int t0), (0, .ref h), (1, .int v1), (2, .int v2), (3, .int v3), (4, .int v4), (5, .int v5), (7, .int v7)]) hx hb dX5_find_132 hl (k := 7) rfl rfl (by decide) rfl (fun ls hl => ?_)
      refine lv_goto (tgt := 20) hx hb dX5_find_135 (by decide) ?_
      exact hX20 _ _ _ _ _ _ _ hk H locs ls hP hD hS (lv_sub hl [2, 3, 4, 5, 6, 7, 0] rfl)
    · have hk := hk.2 c2
      refine lv_iload hx hb dX5_find_110 (lv_at hl 5 rfl) ?_
      refine lv_if_ne (tgt := 129) hx hb dX5_find_112 (by decide) (fun c3 => ?_) (fun c3 => ?_)
      · have hk := hk.1 c3
        refine lv_iload hx hb dX5_find_129 (lv_at hl 7 rfl) ?_
        exact x_reti C0 (f_refusal) hk hP hD hS dX5_find_131
      · have hk := hk.2 c3
        refine lv_aload_n hx hb dX5_find_115 rfl (lv_at hl 1 rfl) ?_
        refine va_get (D := D) (ci := 5) (v := .ref h_now) (C := RX5) (T := TX5) (N := 13) hx hb hts xin_X5_find_X5 hown hK hP 0 rfl rfl 3 (by decide) (hts (.fieldLink RX5 13 "TakeLogModel" "now" "[I") (by decide +kernel)) (fun _ h9 => h9) rfl dX5_find_116 ?_
        refine lv_iload hx hb dX5_find_119 (lv_at hl 7 rfl) ?_
        refine lv_bipush (v := 14) hx hb dX5_find_121 (by decide) ?_
        refine x_joini (ws1 := fun (_ : Unit) => [(h, .inr (5, [.int f_refusal, .ref h_text, .int f_size, .ref h_now, .ref h_trial, .ref h_diary, .int f_acts, .ref h_kept, .ref h_isKept, .ref h_line, .int f_length, .int f_spot, .int f_out])), (h_now, .inl (cI, 377, .inl f_now))]) (x_runO (n0 := 3) (As := [.ref h_now, .int v6, .int 14]) (rest := []) C0 (xc_X5_of l D cI cC cZ cL h_now H.size f_now v6 14 _ hk) gX5_find_X5_of rfl ⟨rfl, rfl⟩ (by decide +kernel) rfl ⟨by decide, by decide⟩ ⟨Nat.zero_le _, Nat.zero_le _⟩ hP hD [1] rfl rfl hl.1 rfl (Nat.le_of_ble_eq_true rfl) dX5_find_123) hP hD hS hA [1] [0] [0, 1] rfl rfl rfl (by decide) (fun _ => rfl) rfl (fun r4 u4 H locs hk hP hD hS => ?_)
        refine lv_if_ne (tgt := 132) hx hb dX5_find_126 (by decide) (fun c5 => ?_) (fun c5 => ?_)
        · have hk := hk.1 c5
          refine lv_iinc (v := (v6 + 1)) (lv' := [(6, .int (v6 + 1)), (8, .int t0), (0, .ref h), (1, .int v1), (2, .int v2), (3, .int v3), (4, .int v4), (5, .int v5), (7, .int v7)]) hx hb dX5_find_132 hl (k := 7) rfl rfl (by decide) rfl (fun ls hl => ?_)
          refine lv_goto (tgt := 20) hx hb dX5_find_135 (by decide) ?_
          exact hX20 _ _ _ _ _ _ _ hk H locs ls hP hD hS (lv_sub hl [2, 3, 4, 5, 6, 7, 0] rfl)
        · have hk := hk.2 c5
          refine lv_iload hx hb dX5_find_129 (lv_at hl 7 rfl) ?_
          exact x_reti C0 (f_refusal) hk hP hD hS dX5_find_131
set_option maxHeartbeats 4000000 in
set_option maxRecDepth 100000 in
theorem xb_X5_find_68 {p : Program} {l : Launch} {e : Env} {s : State} {m : MethodId} {args : Array Value} {below : List Frame} {meth : Method} {c : Code} {A : Nat → Prop} {D : va_G} {cI cC cZ cL : ClassId} {h h_text h_now h_trial h_diary h_kept h_isKept h_line : Nat}  {f_size : Int32} {f_acts : Int32} {f_length : Int32} {f_spot : Int32} {f_out : Int32} {f_now : Nat → Int32} {K : Int32 → Int32 → Prop} {X20 : Int32 → Int32 → Int32 → Int32 → Int32 → Int32 → Int32 → Prop} (C0 : xC p s m args meth c cX5_find 9 (some .int) wsX5_find RX5 D (xTY cI cC cZ cL)) (hA : ∀ q : Nat, s.heap.size ≤ q → A q) (hX20 : ∀ (f_refusal : Int32) (v1 : Int32) (v2 : Int32) (v3 : Int32) (v4 : Int32) (v5 : Int32) (v6 : Int32), X20 f_refusal v1 v2 v3 v4 v5 v6 → ∀ (H : Heap) (locs : List Loc) (ls : Array Slot), va_P D vwCl [(h, .inr (5, [.int f_refusal, .ref h_text, .int f_size, .ref h_now, .ref h_trial, .ref h_diary, .int f_acts, .ref h_kept, .ref h_isKept, .ref h_line, .int f_length, .int f_spot, .int f_out])), (h_now, .inl (cI, 377, .inl f_now))] H → va_D A [(h, .inr (5, [.int f_refusal, .ref h_text, .int f_size, .ref h_now, .ref h_trial, .ref h_diary, .int f_acts, .ref h_kept, .ref h_isKept, .ref h_line, .int f_length, .int f_spot, .int f_out])), (h_now, .inl (cI, 377, .inl f_now))] → va_S A s.heap H locs → lv_has ls 9 [(0, .ref h), (1, .int v1), (2, .int v2), (3, .int v3), (4, .int v4), (5, .int v5), (6, .int v6)] → W p l e ({ frames := 3, cells := 0, slots := 0, locals := 68 } : Room) s m args below meth c H locs 0 0 (MQ below (va_Qi (fun (r : Int32) (u : Int32) => K r u) (fun u t => xE D A ((fun (u : Int32) => [(h, .inr (5, [.int u, .ref h_text, .int f_size, .ref h_now, .ref h_trial, .ref h_diary, .int f_acts, .ref h_kept, .ref h_isKept, .ref h_line, .int f_length, .int f_spot, .int f_out])), (h_now, .inl (cI, 377, .inl f_now))]) u) t) A) args s 0 0 A) (F0 m 20 ls [])) : ∀ (f_refusal : Int32) (v1 : Int32) (v2 : Int32) (v3 : Int32) (v4 : Int32) (v5 : Int32) (v6 : Int32) (t0 : Int32) , xp_X5_find_68 f_now K X20 f_refusal v1 v2 v3 v4 v5 v6 t0 → ∀ (H : Heap) (locs : List Loc) (ls : Array Slot), va_P D vwCl [(h, .inr (5, [.int f_refusal, .ref h_text, .int f_size, .ref h_now, .ref h_trial, .ref h_diary, .int f_acts, .ref h_kept, .ref h_isKept, .ref h_line, .int f_length, .int f_spot, .int f_out])), (h_now, .inl (cI, 377, .inl f_now))] H → va_D A [(h, .inr (5, [.int f_refusal, .ref h_text, .int f_size, .ref h_now, .ref h_trial, .ref h_diary, .int f_acts, .ref h_kept, .ref h_isKept, .ref h_line, .int f_length, .int f_spot, .int f_out])), (h_now, .inl (cI, 377, .inl f_now))] → va_S A s.heap H locs → lv_has ls 9 [(0, .ref h), (1, .int v1), (2, .int v2), (3, .int v3), (4, .int v4), (5, .int v5), (6, .int v6)] → W p l e ({ frames := 3, cells := 0, slots := 0, locals := 68 } : Room) s m args below meth c H locs 0 0 (MQ below (va_Qi (fun (r : Int32) (u : Int32) => K r u) (fun u t => xE D A ((fun (u : Int32) => [(h, .inr (5, [.int u, .ref h_text, .int f_size, .ref h_now, .ref h_trial, .ref h_diary, .int f_acts, .ref h_kept, .ref h_isKept, .ref h_line, .int f_length, .int f_spot, .int f_out])), (h_now, .inl (cI, 377, .inl f_now))]) u) t) A) args s 0 0 A) (F0 m 68 ls [.int t0]) := by
  obtain ⟨hx, hb, hr, hml, hown, hts, hlocks, hK, hN⟩ := id C0
  intro f_refusal v1 v2 v3 v4 v5 v6 t0 hk H locs ls hP hD hS hl
  rw [xp_X5_find_68] at hk
  refine lv_istore (lv' := [(7, .int t0), (0, .ref h), (1, .int v1), (2, .int v2), (3, .int v3), (4, .int v4), (5, .int v5), (6, .int v6)]) hx hb dX5_find_68 hl (by decide) rfl (fun ls hl => ?_)
  refine lv_iload hx hb dX5_find_70 (lv_at hl 5 rfl) ?_
  refine lv_if_eq (tgt := 88) hx hb dX5_find_72 (by decide) (fun c1 => ?_) (fun c1 => ?_)
  · have hk := hk.1 c1
    refine lv_aload_n hx hb dX5_find_88 rfl (lv_at hl 1 rfl) ?_
    refine va_get (D := D) (ci := 5) (v := .ref h_now) (C := RX5) (T := TX5) (N := 13) hx hb hts xin_X5_find_X5 hown hK hP 0 rfl rfl 3 (by decide) (hts (.fieldLink RX5 13 "TakeLogModel" "now" "[I") (by decide +kernel)) (fun _ h9 => h9) rfl dX5_find_89 ?_
    refine lv_iload hx hb dX5_find_92 (lv_at hl 7 rfl) ?_
    refine x_joini (ws1 := fun (_ : Unit) => [(h, .inr (5, [.int f_refusal, .ref h_text, .int f_size, .ref h_now, .ref h_trial, .ref h_diary, .int f_acts, .ref h_kept, .ref h_isKept, .ref h_line, .int f_length, .int f_spot, .int f_out])), (h_now, .inl (cI, 377, .inl f_now))]) (x_runO (n0 := 2) (As := [.ref h_now, .int v6]) (rest := []) C0 (xc_X5_numberOf l D cI cC cZ cL h_now H.size f_now v6 _ hk) gX5_find_X5_numberOf rfl ⟨rfl, rfl⟩ (by decide +kernel) rfl ⟨by decide, by decide⟩ ⟨Nat.zero_le _, Nat.zero_le _⟩ hP hD [1] rfl rfl hl.1 rfl (Nat.le_of_ble_eq_true rfl) dX5_find_94) hP hD hS hA [1] [0] [0, 1] rfl rfl rfl (by decide) (fun _ => rfl) rfl (fun r2 u2 H locs hk hP hD hS => ?_)
    exact xb_X5_find_97 C0 hA hX20 _ _ _ _ _ _ _ _ _ hk H locs ls hP hD hS (lv_sub hl [1, 2, 3, 4, 5, 6, 7, 0] rfl)
  · have hk := hk.2 c1
    refine lv_aload_n hx hb dX5_find_75 rfl (lv_at hl 1 rfl) ?_
    refine va_get (D := D) (ci := 5) (v := .ref h_now) (C := RX5) (T := TX5) (N := 13) hx hb hts xin_X5_find_X5 hown hK hP 0 rfl rfl 3 (by decide) (hts (.fieldLink RX5 13 "TakeLogModel" "now" "[I") (by decide +kernel)) (fun _ h9 => h9) rfl dX5_find_76 ?_
    refine lv_iload hx hb dX5_find_79 (lv_at hl 7 rfl) ?_
    refine lv_iconst (v := 4) hx hb dX5_find_81 (by decide) ?_
    refine x_joini (ws1 := fun (_ : Unit) => [(h, .inr (5, [.int f_refusal, .ref h_text, .int f_size, .ref h_now, .ref h_trial, .ref h_diary, .int f_acts, .ref h_kept, .ref h_isKept, .ref h_line, .int f_length, .int f_spot, .int f_out])), (h_now, .inl (cI, 377, .inl f_now))]) (x_runO (n0 := 3) (As := [.ref h_now, .int v6, .int 4]) (rest := []) C0 (xc_X5_of l D cI cC cZ cL h_now H.size f_now v6 4 _ hk) gX5_find_X5_of rfl ⟨rfl, rfl⟩ (by decide +kernel) rfl ⟨by decide, by decide⟩ ⟨Nat.zero_le _, Nat.zero_le _⟩ hP hD [1] rfl rfl hl.1 rfl (Nat.le_of_ble_eq_true rfl) dX5_find_82) hP hD hS hA [1] [0] [0, 1] rfl rfl rfl (by decide) (fun _ => rfl) rfl (fun r3 u3 H locs hk hP hD hS => ?_)
    refine lv_goto (tgt := 97) hx hb dX5_find_85 (by decide) ?_
    exact xb_X5_find_97 C0 hA hX20 _ _ _ _ _ _ _ _ _ hk H locs ls hP hD hS (lv_sub hl [1, 2, 3, 4, 5, 6, 7, 0] rfl)
set_option maxHeartbeats 4000000 in
set_option maxRecDepth 100000 in
theorem xb_X5_find_20 {p : Program} {l : Launch} {e : Env} {s : State} {m : MethodId} {args : Array Value} {below : List Frame} {meth : Method} {c : Code} {A : Nat → Prop} {D : va_G} {cI cC cZ cL : ClassId} {h h_text h_now h_trial h_diary h_kept h_isKept h_line : Nat}  {f_size : Int32} {f_acts : Int32} {f_length : Int32} {f_spot : Int32} {f_out : Int32} {f_now : Nat → Int32} {K : Int32 → Int32 → Prop}  (C0 : xC p s m args meth c cX5_find 9 (some .int) wsX5_find RX5 D (xTY cI cC cZ cL)) (hA : ∀ q : Nat, s.heap.size ≤ q → A q)  : ∀ (n : Nat) (f_refusal : Int32) (v1 : Int32) (v2 : Int32) (v3 : Int32) (v4 : Int32) (v5 : Int32) (v6 : Int32) , xp_X5_find_20 f_now K n f_refusal v1 v2 v3 v4 v5 v6 → ∀ (H : Heap) (locs : List Loc) (ls : Array Slot), va_P D vwCl [(h, .inr (5, [.int f_refusal, .ref h_text, .int f_size, .ref h_now, .ref h_trial, .ref h_diary, .int f_acts, .ref h_kept, .ref h_isKept, .ref h_line, .int f_length, .int f_spot, .int f_out])), (h_now, .inl (cI, 377, .inl f_now))] H → va_D A [(h, .inr (5, [.int f_refusal, .ref h_text, .int f_size, .ref h_now, .ref h_trial, .ref h_diary, .int f_acts, .ref h_kept, .ref h_isKept, .ref h_line, .int f_length, .int f_spot, .int f_out])), (h_now, .inl (cI, 377, .inl f_now))] → va_S A s.heap H locs → lv_has ls 9 [(0, .ref h), (1, .int v1), (2, .int v2), (3, .int v3), (4, .int v4), (5, .int v5), (6, .int v6)] → W p l e ({ frames := 3, cells := 0, slots := 0, locals := 68 } : Room) s m args below meth c H locs 0 0 (MQ below (va_Qi (fun (r : Int32) (u : Int32) => K r u) (fun u t => xE D A ((fun (u : Int32) => [(h, .inr (5, [.int u, .ref h_text, .int f_size, .ref h_now, .ref h_trial, .ref h_diary, .int f_acts, .ref h_kept, .ref h_isKept, .ref h_line, .int f_length, .int f_spot, .int f_out])), (h_now, .inl (cI, 377, .inl f_now))]) u) t) A) args s 0 0 A) (F0 m 20 ls []) := by
  obtain ⟨hx, hb, hr, hml, hown, hts, hlocks, hK, hN⟩ := id C0
  intro n
  induction n with
  | zero => intro f_refusal v1 v2 v3 v4 v5 v6 hk; exact hk.elim
  | succ n ih =>
    intro f_refusal v1 v2 v3 v4 v5 v6 hk H locs ls hP hD hS hl
    rw [xp_X5_find_20] at hk
    refine lv_iload hx hb dX5_find_20 (lv_at hl 6 rfl) ?_
    refine lv_aload_n hx hb dX5_find_22 rfl (lv_at hl 0 rfl) ?_
    refine va_get (D := D) (ci := 5) (v := .ref h_now) (C := RX5) (T := TX5) (N := 13) hx hb hts xin_X5_find_X5 hown hK hP 0 rfl rfl 3 (by decide) (hts (.fieldLink RX5 13 "TakeLogModel" "now" "[I") (by decide +kernel)) (fun _ h9 => h9) rfl dX5_find_23 ?_
    refine lv_iconst (v := 0) hx hb dX5_find_26 (by decide) ?_
    refine x_iald (k := 0) hx hb hK hP 1 0 rfl rfl (x_lit rfl (by decide) (by decide)) rfl (v := (f_now 0)) rfl dX5_find_27 ?_
    refine lv_icmp_ge (tgt := 138) hx hb dX5_find_28 (by decide) (fun c1 => ?_) (fun c1 => ?_)
    · have hk := hk.1 c1
      refine lv_iconst (v := (-1 : Int32)) hx hb dX5_find_138 (by decide) ?_
      exact x_reti C0 (f_refusal) hk hP hD hS dX5_find_139
    · have hk := hk.2 c1
      refine lv_aload_n hx hb dX5_find_31 rfl (lv_at hl 0 rfl) ?_
      refine va_get (D := D) (ci := 5) (v := .ref h_now) (C := RX5) (T := TX5) (N := 13) hx hb hts xin_X5_find_X5 hown hK hP 0 rfl rfl 3 (by decide) (hts (.fieldLink RX5 13 "TakeLogModel" "now" "[I") (by decide +kernel)) (fun _ h9 => h9) rfl dX5_find_32 ?_
      refine lv_iload hx hb dX5_find_35 (lv_at hl 6 rfl) ?_
      refine lv_iload hx hb dX5_find_37 (lv_at hl 5 rfl) ?_
      refine x_joini (ws1 := fun (_ : Unit) => [(h, .inr (5, [.int f_refusal, .ref h_text, .int f_size, .ref h_now, .ref h_trial, .ref h_diary, .int f_acts, .ref h_kept, .ref h_isKept, .ref h_line, .int f_length, .int f_spot, .int f_out])), (h_now, .inl (cI, 377, .inl f_now))]) (x_runO (n0 := 3) (As := [.ref h_now, .int v6, .int v5]) (rest := []) C0 (xc_X5_of l D cI cC cZ cL h_now H.size f_now v6 v5 _ hk) gX5_find_X5_of rfl ⟨rfl, rfl⟩ (by decide +kernel) rfl ⟨by decide, by decide⟩ ⟨Nat.zero_le _, Nat.zero_le _⟩ hP hD [1] rfl rfl hl.1 rfl (Nat.le_of_ble_eq_true rfl) dX5_find_39) hP hD hS hA [1] [0] [0, 1] rfl rfl rfl (by decide) (fun _ => rfl) rfl (fun r2 u2 H locs hk hP hD hS => ?_)
      refine lv_iload_n hx hb dX5_find_42 rfl (lv_at hl 1 rfl) ?_
      refine lv_icmp_ne (tgt := 67) hx hb dX5_find_43 (by decide) (fun c3 => ?_) (fun c3 => ?_)
      · have hk := hk.1 c3
        refine lv_iconst (v := 0) hx hb dX5_find_67 (by decide) ?_
        exact xb_X5_find_68 C0 hA ih _ _ _ _ _ _ _ _ hk H locs ls hP hD hS (lv_sub hl [0, 1, 2, 3, 4, 5, 6] rfl)
      · have hk := hk.2 c3
        refine lv_aload_n hx hb dX5_find_46 rfl (lv_at hl 0 rfl) ?_
        refine va_get (D := D) (ci := 5) (v := .ref h_now) (C := RX5) (T := TX5) (N := 13) hx hb hts xin_X5_find_X5 hown hK hP 0 rfl rfl 3 (by decide) (hts (.fieldLink RX5 13 "TakeLogModel" "now" "[I") (by decide +kernel)) (fun _ h9 => h9) rfl dX5_find_47 ?_
        refine lv_iload hx hb dX5_find_50 (lv_at hl 6 rfl) ?_
        refine lv_iload hx hb dX5_find_52 (lv_at hl 5 rfl) ?_
        refine lv_iconst (v := 1) hx hb dX5_find_54 (by decide) ?_
        refine lv_iadd hx hb dX5_find_55 ?_
        refine x_joini (ws1 := fun (_ : Unit) => [(h, .inr (5, [.int f_refusal, .ref h_text, .int f_size, .ref h_now, .ref h_trial, .ref h_diary, .int f_acts, .ref h_kept, .ref h_isKept, .ref h_line, .int f_length, .int f_spot, .int f_out])), (h_now, .inl (cI, 377, .inl f_now))]) (x_runO (n0 := 3) (As := [.ref h_now, .int v6, .int (v5 + 1)]) (rest := []) C0 (xc_X5_of l D cI cC cZ cL h_now H.size f_now v6 (v5 + 1) _ hk) gX5_find_X5_of rfl ⟨rfl, rfl⟩ (by decide +kernel) rfl ⟨by decide, by decide⟩ ⟨Nat.zero_le _, Nat.zero_le _⟩ hP hD [1] rfl rfl hl.1 rfl (Nat.le_of_ble_eq_true rfl) dX5_find_56) hP hD hS hA [1] [0] [0, 1] rfl rfl rfl (by decide) (fun _ => rfl) rfl (fun r4 u4 H locs hk hP hD hS => ?_)
        refine lv_iload_n hx hb dX5_find_59 rfl (lv_at hl 2 rfl) ?_
        refine lv_icmp_ne (tgt := 67) hx hb dX5_find_60 (by decide) (fun c5 => ?_) (fun c5 => ?_)
        · have hk := hk.1 c5
          refine lv_iconst (v := 0) hx hb dX5_find_67 (by decide) ?_
          exact xb_X5_find_68 C0 hA ih _ _ _ _ _ _ _ _ hk H locs ls hP hD hS (lv_sub hl [0, 1, 2, 3, 4, 5, 6] rfl)
        · have hk := hk.2 c5
          refine lv_iconst (v := 1) hx hb dX5_find_63 (by decide) ?_
          refine lv_goto (tgt := 68) hx hb dX5_find_64 (by decide) ?_
          exact xb_X5_find_68 C0 hA ih _ _ _ _ _ _ _ _ hk H locs ls hP hD hS (lv_sub hl [0, 1, 2, 3, 4, 5, 6] rfl)
set_option maxHeartbeats 4000000 in
set_option maxRecDepth 100000 in
theorem xb_X5_find_0 {p : Program} {l : Launch} {e : Env} {s : State} {m : MethodId} {args : Array Value} {below : List Frame} {meth : Method} {c : Code} {A : Nat → Prop} {D : va_G} {cI cC cZ cL : ClassId} {h h_text h_now h_trial h_diary h_kept h_isKept h_line : Nat}  {f_size : Int32} {f_acts : Int32} {f_length : Int32} {f_spot : Int32} {f_out : Int32} {f_now : Nat → Int32} {K : Int32 → Int32 → Prop}  (C0 : xC p s m args meth c cX5_find 9 (some .int) wsX5_find RX5 D (xTY cI cC cZ cL)) (hA : ∀ q : Nat, s.heap.size ≤ q → A q)  : ∀ (f_refusal : Int32) (x1 : Int32) (x2 : Int32) (x3 : Int32) (x4 : Int32) , xp_X5_find f_now f_refusal x1 x2 x3 x4 K → ∀ (H : Heap) (locs : List Loc) (ls : Array Slot), va_P D vwCl [(h, .inr (5, [.int f_refusal, .ref h_text, .int f_size, .ref h_now, .ref h_trial, .ref h_diary, .int f_acts, .ref h_kept, .ref h_isKept, .ref h_line, .int f_length, .int f_spot, .int f_out])), (h_now, .inl (cI, 377, .inl f_now))] H → va_D A [(h, .inr (5, [.int f_refusal, .ref h_text, .int f_size, .ref h_now, .ref h_trial, .ref h_diary, .int f_acts, .ref h_kept, .ref h_isKept, .ref h_line, .int f_length, .int f_spot, .int f_out])), (h_now, .inl (cI, 377, .inl f_now))] → va_S A s.heap H locs → lv_has ls 9 [(0, .ref h), (1, .int x1), (2, .int x2), (3, .int x3), (4, .int x4)] → W p l e ({ frames := 3, cells := 0, slots := 0, locals := 68 } : Room) s m args below meth c H locs 0 0 (MQ below (va_Qi (fun (r : Int32) (u : Int32) => K r u) (fun u t => xE D A ((fun (u : Int32) => [(h, .inr (5, [.int u, .ref h_text, .int f_size, .ref h_now, .ref h_trial, .ref h_diary, .int f_acts, .ref h_kept, .ref h_isKept, .ref h_line, .int f_length, .int f_spot, .int f_out])), (h_now, .inl (cI, 377, .inl f_now))]) u) t) A) args s 0 0 A) (F0 m 0 ls []) := by
  obtain ⟨hx, hb, hr, hml, hown, hts, hlocks, hK, hN⟩ := id C0
  intro f_refusal x1 x2 x3 x4 hk H locs ls hP hD hS hl
  rw [xp_X5_find] at hk
  refine lv_aload_n hx hb dX5_find_0 rfl (lv_at hl 0 rfl) ?_
  refine lv_iconst (v := 0) hx hb dX5_find_1 (by decide) ?_
  refine va_put (D := D) (ci := 5) (v := .int 0) (ty := .int) (C := RX5) (T := TX5) (N := 13) hx hb hts xin_X5_find_X5 tyX5 tyX5_ok nmX5 hown hK hP hD hS 0 rfl rfl 0 (by decide) (hts (.fieldLink RX5 36 "TakeLogModel" "refusal" "I") (by decide +kernel)) (fun _ h9 => h9) rfl (by decide +kernel) rfl rfl (Nat.le_of_ble_eq_true rfl) dX5_find_2 (fun H locs hP hD hS => ?_)
  have hP : va_P D vwCl [(h, .inr (5, [.int 0, .ref h_text, .int f_size, .ref h_now, .ref h_trial, .ref h_diary, .int f_acts, .ref h_kept, .ref h_isKept, .ref h_line, .int f_length, .int f_spot, .int f_out])), (h_now, .inl (cI, 377, .inl f_now))] H := hP
  have hD : va_D A [(h, .inr (5, [.int 0, .ref h_text, .int f_size, .ref h_now, .ref h_trial, .ref h_diary, .int f_acts, .ref h_kept, .ref h_isKept, .ref h_line, .int f_length, .int f_spot, .int f_out])), (h_now, .inl (cI, 377, .inl f_now))] := hD
  refine lv_iload hx hb dX5_find_5 (lv_at hl 4 rfl) ?_
  refine lv_if_eq (tgt := 14) hx hb dX5_find_7 (by decide) (fun c1 => ?_) (fun c1 => ?_)
  · have hk := hk.1 c1
    refine lv_iconst (v := 0) hx hb dX5_find_14 (by decide) ?_
    refine lv_istore (lv' := [(5, .int 0), (0, .ref h), (1, .int x1), (2, .int x2), (3, .int x3), (4, .int x4)]) hx hb dX5_find_15 hl (by decide) rfl (fun ls hl => ?_)
    refine lv_iconst (v := 0) hx hb dX5_find_17 (by decide) ?_
    refine lv_istore (lv' := [(6, .int 0), (5, .int 0), (0, .ref h), (1, .int x1), (2, .int x2), (3, .int x3), (4, .int x4)]) hx hb dX5_find_18 hl (by decide) rfl (fun ls hl => ?_)
    obtain ⟨n9, hk⟩ := hk
    exact xb_X5_find_20 C0 hA  n9 _ _ _ _ _ _ _ hk H locs ls hP hD hS (lv_sub hl [2, 3, 4, 5, 6, 1, 0] rfl)
  · have hk := hk.2 c1
    refine lv_iconst (v := 2) hx hb dX5_find_10 (by decide) ?_
    refine lv_goto (tgt := 15) hx hb dX5_find_11 (by decide) ?_
    refine lv_istore (lv' := [(5, .int 2), (0, .ref h), (1, .int x1), (2, .int x2), (3, .int x3), (4, .int x4)]) hx hb dX5_find_15 hl (by decide) rfl (fun ls hl => ?_)
    refine lv_iconst (v := 0) hx hb dX5_find_17 (by decide) ?_
    refine lv_istore (lv' := [(6, .int 0), (5, .int 2), (0, .ref h), (1, .int x1), (2, .int x2), (3, .int x3), (4, .int x4)]) hx hb dX5_find_18 hl (by decide) rfl (fun ls hl => ?_)
    obtain ⟨n9, hk⟩ := hk
    exact xb_X5_find_20 C0 hA  n9 _ _ _ _ _ _ _ hk H locs ls hP hD hS (lv_sub hl [2, 3, 4, 5, 6, 1, 0] rfl)
theorem xc_X5_find (l : Launch) (D : va_G) (cI cC cZ cL : ClassId) (h h_text h_now h_trial h_diary h_kept h_isKept h_line : Nat)  (sz : Nat) (f_refusal : Int32) (f_size : Int32) (f_acts : Int32) (f_length : Int32) (f_spot : Int32) (f_out : Int32) (f_now : Nat → Int32) (x1 : Int32) (x2 : Int32) (x3 : Int32) (x4 : Int32) (K : Int32 → Int32 → Prop) (hk : xp_X5_find f_now f_refusal x1 x2 x3 x4 K) : XMi l yX5_find wsX5_find ({ frames := 3, cells := 0, slots := 0, locals := 68 } : Room) D (xTY cI cC cZ cL) [.ref h, .int x1, .int x2, .int x3, .int x4] [(h, .inr (5, [.int f_refusal, .ref h_text, .int f_size, .ref h_now, .ref h_trial, .ref h_diary, .int f_acts, .ref h_kept, .ref h_isKept, .ref h_line, .int f_length, .int f_spot, .int f_out])), (h_now, .inl (cI, 377, .inl f_now))] sz (fun (r : Int32) (u : Int32) => K r u) (fun (u : Int32) => [(h, .inr (5, [.int u, .ref h_text, .int f_size, .ref h_now, .ref h_trial, .ref h_diary, .int f_acts, .ref h_kept, .ref h_isKept, .ref h_line, .int f_length, .int f_spot, .int f_out])), (h_now, .inl (cI, 377, .inl f_now))]) :=
  x_enter (cc := cX5_find) (maxL := 9) (ret := (some .int)) (own := RX5) (by decide) rfl rfl (Nat.le_of_ble_eq_true rfl) (fun p e s m below meth c ls C0 hA hP hD hS hl => xb_X5_find_0 C0 hA _ _ _ _ _ hk s.heap [] ls hP hD hS hl)
set_option maxHeartbeats 4000000 in
set_option maxRecDepth 100000 in
theorem xb_X5_covers_36 {p : Program} {l : Launch} {e : Env} {s : State} {m : MethodId} {args : Array Value} {below : List Frame} {meth : Method} {c : Code} {A : Nat → Prop} {D : va_G} {cI cC cZ cL : ClassId} {g1 : Nat}  {f_p1 : Nat → Int32} {K : Int32 → Prop} {X3 : Int32 → Int32 → Int32 → Int32 → Int32 → Prop} (C0 : xC p s m args meth c cX5_covers 8 (some .int) wsX5_covers RX5 D (xTY cI cC cZ cL)) (hA : ∀ q : Nat, s.heap.size ≤ q → A q) (hX3 : ∀ (v1 : Int32) (v2 : Int32) (v3 : Int32) (v4 : Int32) (v5 : Int32), X3 v1 v2 v3 v4 v5 → ∀ (H : Heap) (locs : List Loc) (ls : Array Slot), va_P D vwCl [(g1, .inl (cI, 377, .inl f_p1))] H → va_D A [(g1, .inl (cI, 377, .inl f_p1))] → va_S A s.heap H locs → lv_has ls 8 [(0, .ref g1), (1, .int v1), (2, .int v2), (3, .int v3), (4, .int v4), (5, .int v5)] → W p l e ({ frames := 1, cells := 0, slots := 0, locals := 22 } : Room) s m args below meth c H locs 0 0 (MQ below (va_Qi (fun (r : Int32) (_ : Unit) => K r) (fun u t => xE D A ((fun (_ : Unit) => [(g1, .inl (cI, 377, .inl f_p1))]) u) t) A) args s 0 0 A) (F0 m 3 ls [])) : ∀ (v1 : Int32) (v2 : Int32) (v3 : Int32) (v4 : Int32) (v5 : Int32) (t0 : Int32) , xp_X5_covers_36 f_p1 K X3 v1 v2 v3 v4 v5 t0 → ∀ (H : Heap) (locs : List Loc) (ls : Array Slot), va_P D vwCl [(g1, .inl (cI, 377, .inl f_p1))] H → va_D A [(g1, .inl (cI, 377, .inl f_p1))] → va_S A s.heap H locs → lv_has ls 8 [(0, .ref g1), (1, .int v1), (2, .int v2), (3, .int v3), (4, .int v4), (5, .int v5)] → W p l e ({ frames := 1, cells := 0, slots := 0, locals := 22 } : Room) s m args below meth c H locs 0 0 (MQ below (va_Qi (fun (r : Int32) (_ : Unit) => K r) (fun u t => xE D A ((fun (_ : Unit) => [(g1, .inl (cI, 377, .inl f_p1))]) u) t) A) args s 0 0 A) (F0 m 36 ls [.int t0]) := by
  obtain ⟨hx, hb, hr, hml, hown, hts, hlocks, hK, hN⟩ := id C0
  intro v1 v2 v3 v4 v5 t0 hk H locs ls hP hD hS hl
  rw [xp_X5_covers_36] at hk
  refine lv_istore (lv' := [(6, .int t0), (0, .ref g1), (1, .int v1), (2, .int v2), (3, .int v3), (4, .int v4), (5, .int v5)]) hx hb dX5_covers_36 hl (by decide) rfl (fun ls hl => ?_)
  refine lv_aload_n hx hb dX5_covers_38 rfl (lv_at hl 1 rfl) ?_
  refine lv_iload hx hb dX5_covers_39 (lv_at hl 6 rfl) ?_
  refine lv_iload_n hx hb dX5_covers_41 rfl (lv_at hl 4 rfl) ?_
  refine x_joini (ws1 := fun (_ : Unit) => [(g1, .inl (cI, 377, .inl f_p1))]) (x_runO (n0 := 3) (As := [.ref g1, .int v5, .int v3]) (rest := []) C0 (xc_X5_of l D cI cC cZ cL g1 H.size f_p1 v5 v3 _ hk) gX5_covers_X5_of rfl ⟨rfl, rfl⟩ (by decide +kernel) rfl ⟨by decide, by decide⟩ ⟨Nat.zero_le _, Nat.zero_le _⟩ hP hD [0] rfl rfl hl.1 rfl (Nat.le_of_ble_eq_true rfl) dX5_covers_42) hP hD hS hA [0] [] [0] rfl rfl rfl (by decide) (fun _ => rfl) rfl (fun r1 u1 H locs hk hP hD hS => ?_)
  refine lv_istore (lv' := [(7, .int r1), (6, .int t0), (0, .ref g1), (1, .int v1), (2, .int v2), (3, .int v3), (4, .int v4), (5, .int v5)]) hx hb dX5_covers_45 hl (by decide) rfl (fun ls hl => ?_)
  refine lv_iload hx hb dX5_covers_47 (lv_at hl 1 rfl) ?_
  refine lv_if_eq (tgt := 78) hx hb dX5_covers_49 (by decide) (fun c2 => ?_) (fun c2 => ?_)
  · have hk := hk.1 c2
    refine lv_iinc (v := (v5 + 1)) (lv' := [(5, .int (v5 + 1)), (7, .int r1), (6, .int t0), (0, .ref g1), (1, .int v1), (2, .int v2), (3, .int v3), (4, .int v4)]) hx hb dX5_covers_78 hl (k := 7) rfl rfl (by decide) rfl (fun ls hl => ?_)
    refine lv_goto (tgt := 3) hx hb dX5_covers_81 (by decide) ?_
    exact hX3 _ _ _ _ _ hk H locs ls hP hD hS (lv_sub hl [3, 4, 5, 6, 7, 0] rfl)
  · have hk := hk.2 c2
    refine lv_iload hx hb dX5_covers_52 (lv_at hl 6 rfl) ?_
    refine lv_iload hx hb dX5_covers_54 (lv_at hl 0 rfl) ?_
    refine lv_icmp_lt (tgt := 78) hx hb dX5_covers_56 (by decide) (fun c3 => ?_) (fun c3 => ?_)
    · have hk := hk.1 c3
      refine lv_iinc (v := (v5 + 1)) (lv' := [(5, .int (v5 + 1)), (7, .int r1), (6, .int t0), (0, .ref g1), (1, .int v1), (2, .int v2), (3, .int v3), (4, .int v4)]) hx hb dX5_covers_78 hl (k := 7) rfl rfl (by decide) rfl (fun ls hl => ?_)
      refine lv_goto (tgt := 3) hx hb dX5_covers_81 (by decide) ?_
      exact hX3 _ _ _ _ _ hk H locs ls hP hD hS (lv_sub hl [3, 4, 5, 6, 7, 0] rfl)
    · have hk := hk.2 c3
      refine lv_iload hx hb dX5_covers_59 (lv_at hl 6 rfl) ?_
      refine lv_iload hx hb dX5_covers_61 (lv_at hl 0 rfl) ?_
      refine lv_aload_n hx hb dX5_covers_63 rfl (lv_at hl 2 rfl) ?_
      refine lv_iload hx hb dX5_covers_64 (lv_at hl 7 rfl) ?_
      refine lv_bipush (v := 7) hx hb dX5_covers_66 (by decide) ?_
      refine x_joini (ws1 := fun (_ : Unit) => [(g1, .inl (cI, 377, .inl f_p1))]) (x_runO (n0 := 3) (As := [.ref g1, .int v5, .int 7]) (rest := [.int r1, .int v4]) C0 (xc_X5_of l D cI cC cZ cL g1 H.size f_p1 v5 7 _ hk) gX5_covers_X5_of rfl ⟨rfl, rfl⟩ (by decide +kernel) rfl ⟨by decide, by decide⟩ ⟨Nat.zero_le _, Nat.zero_le _⟩ hP hD [0] rfl rfl hl.1 rfl (Nat.le_of_ble_eq_true rfl) dX5_covers_68) hP hD hS hA [0] [] [0] rfl rfl rfl (by decide) (fun _ => rfl) rfl (fun r4 u4 H locs hk hP hD hS => ?_)
      refine lv_iadd hx hb dX5_covers_71 ?_
      refine lv_icmp_ge (tgt := 78) hx hb dX5_covers_72 (by decide) (fun c5 => ?_) (fun c5 => ?_)
      · have hk := hk.1 c5
        refine lv_iinc (v := (v5 + 1)) (lv' := [(5, .int (v5 + 1)), (7, .int r1), (6, .int t0), (0, .ref g1), (1, .int v1), (2, .int v2), (3, .int v3), (4, .int v4)]) hx hb dX5_covers_78 hl (k := 7) rfl rfl (by decide) rfl (fun ls hl => ?_)
        refine lv_goto (tgt := 3) hx hb dX5_covers_81 (by decide) ?_
        exact hX3 _ _ _ _ _ hk H locs ls hP hD hS (lv_sub hl [3, 4, 5, 6, 7, 0] rfl)
      · have hk := hk.2 c5
        refine lv_iload hx hb dX5_covers_75 (lv_at hl 7 rfl) ?_
        exact x_reti C0 () hk hP hD hS dX5_covers_77
set_option maxHeartbeats 4000000 in
set_option maxRecDepth 100000 in
theorem xb_X5_covers_3 {p : Program} {l : Launch} {e : Env} {s : State} {m : MethodId} {args : Array Value} {below : List Frame} {meth : Method} {c : Code} {A : Nat → Prop} {D : va_G} {cI cC cZ cL : ClassId} {g1 : Nat}  {f_p1 : Nat → Int32} {K : Int32 → Prop}  (C0 : xC p s m args meth c cX5_covers 8 (some .int) wsX5_covers RX5 D (xTY cI cC cZ cL)) (hA : ∀ q : Nat, s.heap.size ≤ q → A q)  : ∀ (n : Nat) (v1 : Int32) (v2 : Int32) (v3 : Int32) (v4 : Int32) (v5 : Int32) , xp_X5_covers_3 f_p1 K n v1 v2 v3 v4 v5 → ∀ (H : Heap) (locs : List Loc) (ls : Array Slot), va_P D vwCl [(g1, .inl (cI, 377, .inl f_p1))] H → va_D A [(g1, .inl (cI, 377, .inl f_p1))] → va_S A s.heap H locs → lv_has ls 8 [(0, .ref g1), (1, .int v1), (2, .int v2), (3, .int v3), (4, .int v4), (5, .int v5)] → W p l e ({ frames := 1, cells := 0, slots := 0, locals := 22 } : Room) s m args below meth c H locs 0 0 (MQ below (va_Qi (fun (r : Int32) (_ : Unit) => K r) (fun u t => xE D A ((fun (_ : Unit) => [(g1, .inl (cI, 377, .inl f_p1))]) u) t) A) args s 0 0 A) (F0 m 3 ls []) := by
  obtain ⟨hx, hb, hr, hml, hown, hts, hlocks, hK, hN⟩ := id C0
  intro n
  induction n with
  | zero => intro v1 v2 v3 v4 v5 hk; exact hk.elim
  | succ n ih =>
    intro v1 v2 v3 v4 v5 hk H locs ls hP hD hS hl
    rw [xp_X5_covers_3] at hk
    refine lv_iload hx hb dX5_covers_3 (lv_at hl 5 rfl) ?_
    refine lv_aload_n hx hb dX5_covers_5 rfl (lv_at hl 0 rfl) ?_
    refine lv_iconst (v := 0) hx hb dX5_covers_6 (by decide) ?_
    refine x_iald (k := 0) hx hb hK hP 0 0 rfl rfl (x_lit rfl (by decide) (by decide)) rfl (v := (f_p1 0)) rfl dX5_covers_7 ?_
    refine lv_icmp_ge (tgt := 84) hx hb dX5_covers_8 (by decide) (fun c1 => ?_) (fun c1 => ?_)
    · have hk := hk.1 c1
      refine lv_iconst (v := (-1 : Int32)) hx hb dX5_covers_84 (by decide) ?_
      exact x_reti C0 () hk hP hD hS dX5_covers_85
    · have hk := hk.2 c1
      refine lv_iload_n hx hb dX5_covers_11 rfl (lv_at hl 1 rfl) ?_
      refine lv_iconst (v := (-1 : Int32)) hx hb dX5_covers_12 (by decide) ?_
      refine lv_icmp_eq (tgt := 31) hx hb dX5_covers_13 (by decide) (fun c2 => ?_) (fun c2 => ?_)
      · have hk := hk.1 c2
        refine lv_iconst (v := 1) hx hb dX5_covers_31 (by decide) ?_
        refine lv_goto (tgt := 36) hx hb dX5_covers_32 (by decide) ?_
        exact xb_X5_covers_36 C0 hA ih _ _ _ _ _ _ hk H locs ls hP hD hS (lv_sub hl [0, 1, 2, 3, 4, 5] rfl)
      · have hk := hk.2 c2
        refine lv_iload_n hx hb dX5_covers_16 rfl (lv_at hl 2 rfl) ?_
        refine lv_if_le (tgt := 35) hx hb dX5_covers_17 (by decide) (fun c3 => ?_) (fun c3 => ?_)
        · have hk := hk.1 c3
          refine lv_iconst (v := 0) hx hb dX5_covers_35 (by decide) ?_
          exact xb_X5_covers_36 C0 hA ih _ _ _ _ _ _ hk H locs ls hP hD hS (lv_sub hl [0, 1, 2, 3, 4, 5] rfl)
        · have hk := hk.2 c3
          refine lv_aload_n hx hb dX5_covers_20 rfl (lv_at hl 0 rfl) ?_
          refine lv_iload hx hb dX5_covers_21 (lv_at hl 5 rfl) ?_
          refine lv_iload_n hx hb dX5_covers_23 rfl (lv_at hl 1 rfl) ?_
          refine x_joini (ws1 := fun (_ : Unit) => [(g1, .inl (cI, 377, .inl f_p1))]) (x_runO (n0 := 3) (As := [.ref g1, .int v5, .int v1]) (rest := []) C0 (xc_X5_of l D cI cC cZ cL g1 H.size f_p1 v5 v1 _ hk) gX5_covers_X5_of rfl ⟨rfl, rfl⟩ (by decide +kernel) rfl ⟨by decide, by decide⟩ ⟨Nat.zero_le _, Nat.zero_le _⟩ hP hD [0] rfl rfl hl.1 rfl (Nat.le_of_ble_eq_true rfl) dX5_covers_24) hP hD hS hA [0] [] [0] rfl rfl rfl (by decide) (fun _ => rfl) rfl (fun r4 u4 H locs hk hP hD hS => ?_)
          refine lv_iload_n hx hb dX5_covers_27 rfl (lv_at hl 2 rfl) ?_
          refine lv_icmp_ne (tgt := 35) hx hb dX5_covers_28 (by decide) (fun c5 => ?_) (fun c5 => ?_)
          · have hk := hk.1 c5
            refine lv_iconst (v := 0) hx hb dX5_covers_35 (by decide) ?_
            exact xb_X5_covers_36 C0 hA ih _ _ _ _ _ _ hk H locs ls hP hD hS (lv_sub hl [0, 1, 2, 3, 4, 5] rfl)
          · have hk := hk.2 c5
            refine lv_iconst (v := 1) hx hb dX5_covers_31 (by decide) ?_
            refine lv_goto (tgt := 36) hx hb dX5_covers_32 (by decide) ?_
            exact xb_X5_covers_36 C0 hA ih _ _ _ _ _ _ hk H locs ls hP hD hS (lv_sub hl [0, 1, 2, 3, 4, 5] rfl)
set_option maxHeartbeats 4000000 in
set_option maxRecDepth 100000 in
theorem xb_X5_covers_0 {p : Program} {l : Launch} {e : Env} {s : State} {m : MethodId} {args : Array Value} {below : List Frame} {meth : Method} {c : Code} {A : Nat → Prop} {D : va_G} {cI cC cZ cL : ClassId} {g1 : Nat}  {f_p1 : Nat → Int32} {K : Int32 → Prop}  (C0 : xC p s m args meth c cX5_covers 8 (some .int) wsX5_covers RX5 D (xTY cI cC cZ cL)) (hA : ∀ q : Nat, s.heap.size ≤ q → A q)  : ∀ (x2 : Int32) (x3 : Int32) (x4 : Int32) (x5 : Int32) , xp_X5_covers f_p1 x2 x3 x4 x5 K → ∀ (H : Heap) (locs : List Loc) (ls : Array Slot), va_P D vwCl [(g1, .inl (cI, 377, .inl f_p1))] H → va_D A [(g1, .inl (cI, 377, .inl f_p1))] → va_S A s.heap H locs → lv_has ls 8 [(0, .ref g1), (1, .int x2), (2, .int x3), (3, .int x4), (4, .int x5)] → W p l e ({ frames := 1, cells := 0, slots := 0, locals := 22 } : Room) s m args below meth c H locs 0 0 (MQ below (va_Qi (fun (r : Int32) (_ : Unit) => K r) (fun u t => xE D A ((fun (_ : Unit) => [(g1, .inl (cI, 377, .inl f_p1))]) u) t) A) args s 0 0 A) (F0 m 0 ls []) := by
  obtain ⟨hx, hb, hr, hml, hown, hts, hlocks, hK, hN⟩ := id C0
  intro x2 x3 x4 x5 hk H locs ls hP hD hS hl
  rw [xp_X5_covers] at hk
  refine lv_iconst (v := 0) hx hb dX5_covers_0 (by decide) ?_
  refine lv_istore (lv' := [(5, .int 0), (0, .ref g1), (1, .int x2), (2, .int x3), (3, .int x4), (4, .int x5)]) hx hb dX5_covers_1 hl (by decide) rfl (fun ls hl => ?_)
  obtain ⟨n9, hk⟩ := hk
  exact xb_X5_covers_3 C0 hA  n9 _ _ _ _ _ hk H locs ls hP hD hS (lv_sub hl [1, 2, 3, 4, 5, 0] rfl)
theorem xc_X5_covers (l : Launch) (D : va_G) (cI cC cZ cL : ClassId) (g1 : Nat)  (sz : Nat) (f_p1 : Nat → Int32) (x2 : Int32) (x3 : Int32) (x4 : Int32) (x5 : Int32) (K : Int32 → Prop) (hk : xp_X5_covers f_p1 x2 x3 x4 x5 K) : XMi l yX5_covers wsX5_covers ({ frames := 1, cells := 0, slots := 0, locals := 22 } : Room) D (xTY cI cC cZ cL) [.ref g1, .int x2, .int x3, .int x4, .int x5] [(g1, .inl (cI, 377, .inl f_p1))] sz (fun (r : Int32) (_ : Unit) => K r) (fun (_ : Unit) => [(g1, .inl (cI, 377, .inl f_p1))]) :=
  x_enter (cc := cX5_covers) (maxL := 8) (ret := (some .int)) (own := RX5) (by decide) rfl rfl (Nat.le_of_ble_eq_true rfl) (fun p e s m below meth c ls C0 hA hP hD hS hl => xb_X5_covers_0 C0 hA _ _ _ _ hk s.heap [] ls hP hD hS hl)
set_option maxRecDepth 20000 in
theorem xin_X5_atCamera_X5 : ∀ w ∈ u_ws RX5 TX5 13, w ∈ wsX5_atCamera := by decide +kernel
set_option maxHeartbeats 4000000 in
set_option maxRecDepth 100000 in
theorem xb_X5_atCamera_0 {p : Program} {l : Launch} {e : Env} {s : State} {m : MethodId} {args : Array Value} {below : List Frame} {meth : Method} {c : Code} {A : Nat → Prop} {D : va_G} {cI cC cZ cL : ClassId} {h h_text h_now h_trial h_diary h_kept h_isKept h_line : Nat}  {f_size : Int32} {f_acts : Int32} {f_length : Int32} {f_spot : Int32} {f_out : Int32} {f_now : Nat → Int32} {K : Int32 → Int32 → Prop}  (C0 : xC p s m args meth c cX5_atCamera 3 (some .int) wsX5_atCamera RX5 D (xTY cI cC cZ cL)) (hA : ∀ q : Nat, s.heap.size ≤ q → A q)  : ∀ (f_refusal : Int32) (x1 : Int32) (x2 : Int32) , xp_X5_atCamera f_now f_refusal x1 x2 K → ∀ (H : Heap) (locs : List Loc) (ls : Array Slot), va_P D vwCl [(h, .inr (5, [.int f_refusal, .ref h_text, .int f_size, .ref h_now, .ref h_trial, .ref h_diary, .int f_acts, .ref h_kept, .ref h_isKept, .ref h_line, .int f_length, .int f_spot, .int f_out])), (h_now, .inl (cI, 377, .inl f_now))] H → va_D A [(h, .inr (5, [.int f_refusal, .ref h_text, .int f_size, .ref h_now, .ref h_trial, .ref h_diary, .int f_acts, .ref h_kept, .ref h_isKept, .ref h_line, .int f_length, .int f_spot, .int f_out])), (h_now, .inl (cI, 377, .inl f_now))] → va_S A s.heap H locs → lv_has ls 3 [(0, .ref h), (1, .int x1), (2, .int x2)] → W p l e ({ frames := 2, cells := 0, slots := 0, locals := 49 } : Room) s m args below meth c H locs 0 0 (MQ below (va_Qi (fun (r : Int32) (u : Int32) => K r u) (fun u t => xE D A ((fun (u : Int32) => [(h, .inr (5, [.int u, .ref h_text, .int f_size, .ref h_now, .ref h_trial, .ref h_diary, .int f_acts, .ref h_kept, .ref h_isKept, .ref h_line, .int f_length, .int f_spot, .int f_out])), (h_now, .inl (cI, 377, .inl f_now))]) u) t) A) args s 0 0 A) (F0 m 0 ls []) := by
  obtain ⟨hx, hb, hr, hml, hown, hts, hlocks, hK, hN⟩ := id C0
  intro f_refusal x1 x2 hk H locs ls hP hD hS hl
  rw [xp_X5_atCamera] at hk
  refine lv_aload_n hx hb dX5_atCamera_0 rfl (lv_at hl 0 rfl) ?_
  refine lv_iconst (v := 0) hx hb dX5_atCamera_1 (by decide) ?_
  refine va_put (D := D) (ci := 5) (v := .int 0) (ty := .int) (C := RX5) (T := TX5) (N := 13) hx hb hts xin_X5_atCamera_X5 tyX5 tyX5_ok nmX5 hown hK hP hD hS 0 rfl rfl 0 (by decide) (hts (.fieldLink RX5 36 "TakeLogModel" "refusal" "I") (by decide +kernel)) (fun _ h9 => h9) rfl (by decide +kernel) rfl rfl (Nat.le_of_ble_eq_true rfl) dX5_atCamera_2 (fun H locs hP hD hS => ?_)
  have hP : va_P D vwCl [(h, .inr (5, [.int 0, .ref h_text, .int f_size, .ref h_now, .ref h_trial, .ref h_diary, .int f_acts, .ref h_kept, .ref h_isKept, .ref h_line, .int f_length, .int f_spot, .int f_out])), (h_now, .inl (cI, 377, .inl f_now))] H := hP
  have hD : va_D A [(h, .inr (5, [.int 0, .ref h_text, .int f_size, .ref h_now, .ref h_trial, .ref h_diary, .int f_acts, .ref h_kept, .ref h_isKept, .ref h_line, .int f_length, .int f_spot, .int f_out])), (h_now, .inl (cI, 377, .inl f_now))] := hD
  refine lv_aload_n hx hb dX5_atCamera_5 rfl (lv_at hl 0 rfl) ?_
  refine va_get (D := D) (ci := 5) (v := .ref h_now) (C := RX5) (T := TX5) (N := 13) hx hb hts xin_X5_atCamera_X5 hown hK hP 0 rfl rfl 3 (by decide) (hts (.fieldLink RX5 13 "TakeLogModel" "now" "[I") (by decide +kernel)) (fun _ h9 => h9) rfl dX5_atCamera_6 ?_
  refine lv_iconst (v := 5) hx hb dX5_atCamera_9 (by decide) ?_
  refine lv_iload_n hx hb dX5_atCamera_10 rfl (lv_at hl 1 rfl) ?_
  refine lv_bipush (v := 6) hx hb dX5_atCamera_11 (by decide) ?_
  refine lv_iload_n hx hb dX5_atCamera_13 rfl (lv_at hl 2 rfl) ?_
  refine x_joini (ws1 := fun (_ : Unit) => [(h, .inr (5, [.int 0, .ref h_text, .int f_size, .ref h_now, .ref h_trial, .ref h_diary, .int f_acts, .ref h_kept, .ref h_isKept, .ref h_line, .int f_length, .int f_spot, .int f_out])), (h_now, .inl (cI, 377, .inl f_now))]) (x_runO (n0 := 5) (As := [.ref h_now, .int 5, .int x1, .int 6, .int x2]) (rest := []) C0 (xc_X5_covers l D cI cC cZ cL h_now H.size f_now 5 x1 6 x2 _ hk) gX5_atCamera_X5_covers rfl ⟨rfl, rfl⟩ (by decide +kernel) rfl ⟨by decide, by decide⟩ ⟨Nat.zero_le _, Nat.zero_le _⟩ hP hD [1] rfl rfl hl.1 rfl (Nat.le_of_ble_eq_true rfl) dX5_atCamera_14) hP hD hS hA [1] [0] [0, 1] rfl rfl rfl (by decide) (fun _ => rfl) rfl (fun r1 u1 H locs hk hP hD hS => ?_)
  exact x_reti C0 (0) hk hP hD hS dX5_atCamera_17
theorem xc_X5_atCamera (l : Launch) (D : va_G) (cI cC cZ cL : ClassId) (h h_text h_now h_trial h_diary h_kept h_isKept h_line : Nat)  (sz : Nat) (f_refusal : Int32) (f_size : Int32) (f_acts : Int32) (f_length : Int32) (f_spot : Int32) (f_out : Int32) (f_now : Nat → Int32) (x1 : Int32) (x2 : Int32) (K : Int32 → Int32 → Prop) (hk : xp_X5_atCamera f_now f_refusal x1 x2 K) : XMi l yX5_atCamera wsX5_atCamera ({ frames := 2, cells := 0, slots := 0, locals := 49 } : Room) D (xTY cI cC cZ cL) [.ref h, .int x1, .int x2] [(h, .inr (5, [.int f_refusal, .ref h_text, .int f_size, .ref h_now, .ref h_trial, .ref h_diary, .int f_acts, .ref h_kept, .ref h_isKept, .ref h_line, .int f_length, .int f_spot, .int f_out])), (h_now, .inl (cI, 377, .inl f_now))] sz (fun (r : Int32) (u : Int32) => K r u) (fun (u : Int32) => [(h, .inr (5, [.int u, .ref h_text, .int f_size, .ref h_now, .ref h_trial, .ref h_diary, .int f_acts, .ref h_kept, .ref h_isKept, .ref h_line, .int f_length, .int f_spot, .int f_out])), (h_now, .inl (cI, 377, .inl f_now))]) :=
  x_enter (cc := cX5_atCamera) (maxL := 3) (ret := (some .int)) (own := RX5) (by decide) rfl rfl (Nat.le_of_ble_eq_true rfl) (fun p e s m below meth c ls C0 hA hP hD hS hl => xb_X5_atCamera_0 C0 hA _ _ _ hk s.heap [] ls hP hD hS hl)
set_option maxRecDepth 20000 in
theorem xin_X5_atSound_X5 : ∀ w ∈ u_ws RX5 TX5 13, w ∈ wsX5_atSound := by decide +kernel
set_option maxHeartbeats 4000000 in
set_option maxRecDepth 100000 in
theorem xb_X5_atSound_0 {p : Program} {l : Launch} {e : Env} {s : State} {m : MethodId} {args : Array Value} {below : List Frame} {meth : Method} {c : Code} {A : Nat → Prop} {D : va_G} {cI cC cZ cL : ClassId} {h h_text h_now h_trial h_diary h_kept h_isKept h_line : Nat}  {f_size : Int32} {f_acts : Int32} {f_length : Int32} {f_spot : Int32} {f_out : Int32} {f_now : Nat → Int32} {K : Int32 → Int32 → Prop}  (C0 : xC p s m args meth c cX5_atSound 3 (some .int) wsX5_atSound RX5 D (xTY cI cC cZ cL)) (hA : ∀ q : Nat, s.heap.size ≤ q → A q)  : ∀ (f_refusal : Int32) (x1 : Int32) (x2 : Int32) , xp_X5_atSound f_now f_refusal x1 x2 K → ∀ (H : Heap) (locs : List Loc) (ls : Array Slot), va_P D vwCl [(h, .inr (5, [.int f_refusal, .ref h_text, .int f_size, .ref h_now, .ref h_trial, .ref h_diary, .int f_acts, .ref h_kept, .ref h_isKept, .ref h_line, .int f_length, .int f_spot, .int f_out])), (h_now, .inl (cI, 377, .inl f_now))] H → va_D A [(h, .inr (5, [.int f_refusal, .ref h_text, .int f_size, .ref h_now, .ref h_trial, .ref h_diary, .int f_acts, .ref h_kept, .ref h_isKept, .ref h_line, .int f_length, .int f_spot, .int f_out])), (h_now, .inl (cI, 377, .inl f_now))] → va_S A s.heap H locs → lv_has ls 3 [(0, .ref h), (1, .int x1), (2, .int x2)] → W p l e ({ frames := 2, cells := 0, slots := 0, locals := 49 } : Room) s m args below meth c H locs 0 0 (MQ below (va_Qi (fun (r : Int32) (u : Int32) => K r u) (fun u t => xE D A ((fun (u : Int32) => [(h, .inr (5, [.int u, .ref h_text, .int f_size, .ref h_now, .ref h_trial, .ref h_diary, .int f_acts, .ref h_kept, .ref h_isKept, .ref h_line, .int f_length, .int f_spot, .int f_out])), (h_now, .inl (cI, 377, .inl f_now))]) u) t) A) args s 0 0 A) (F0 m 0 ls []) := by
  obtain ⟨hx, hb, hr, hml, hown, hts, hlocks, hK, hN⟩ := id C0
  intro f_refusal x1 x2 hk H locs ls hP hD hS hl
  rw [xp_X5_atSound] at hk
  refine lv_aload_n hx hb dX5_atSound_0 rfl (lv_at hl 0 rfl) ?_
  refine lv_iconst (v := 0) hx hb dX5_atSound_1 (by decide) ?_
  refine va_put (D := D) (ci := 5) (v := .int 0) (ty := .int) (C := RX5) (T := TX5) (N := 13) hx hb hts xin_X5_atSound_X5 tyX5 tyX5_ok nmX5 hown hK hP hD hS 0 rfl rfl 0 (by decide) (hts (.fieldLink RX5 36 "TakeLogModel" "refusal" "I") (by decide +kernel)) (fun _ h9 => h9) rfl (by decide +kernel) rfl rfl (Nat.le_of_ble_eq_true rfl) dX5_atSound_2 (fun H locs hP hD hS => ?_)
  have hP : va_P D vwCl [(h, .inr (5, [.int 0, .ref h_text, .int f_size, .ref h_now, .ref h_trial, .ref h_diary, .int f_acts, .ref h_kept, .ref h_isKept, .ref h_line, .int f_length, .int f_spot, .int f_out])), (h_now, .inl (cI, 377, .inl f_now))] H := hP
  have hD : va_D A [(h, .inr (5, [.int 0, .ref h_text, .int f_size, .ref h_now, .ref h_trial, .ref h_diary, .int f_acts, .ref h_kept, .ref h_isKept, .ref h_line, .int f_length, .int f_spot, .int f_out])), (h_now, .inl (cI, 377, .inl f_now))] := hD
  refine lv_aload_n hx hb dX5_atSound_5 rfl (lv_at hl 0 rfl) ?_
  refine va_get (D := D) (ci := 5) (v := .ref h_now) (C := RX5) (T := TX5) (N := 13) hx hb hts xin_X5_atSound_X5 hown hK hP 0 rfl rfl 3 (by decide) (hts (.fieldLink RX5 13 "TakeLogModel" "now" "[I") (by decide +kernel)) (fun _ h9 => h9) rfl dX5_atSound_6 ?_
  refine lv_bipush (v := 8) hx hb dX5_atSound_9 (by decide) ?_
  refine lv_iload_n hx hb dX5_atSound_11 rfl (lv_at hl 1 rfl) ?_
  refine lv_bipush (v := 9) hx hb dX5_atSound_12 (by decide) ?_
  refine lv_iload_n hx hb dX5_atSound_14 rfl (lv_at hl 2 rfl) ?_
  refine x_joini (ws1 := fun (_ : Unit) => [(h, .inr (5, [.int 0, .ref h_text, .int f_size, .ref h_now, .ref h_trial, .ref h_diary, .int f_acts, .ref h_kept, .ref h_isKept, .ref h_line, .int f_length, .int f_spot, .int f_out])), (h_now, .inl (cI, 377, .inl f_now))]) (x_runO (n0 := 5) (As := [.ref h_now, .int 8, .int x1, .int 9, .int x2]) (rest := []) C0 (xc_X5_covers l D cI cC cZ cL h_now H.size f_now 8 x1 9 x2 _ hk) gX5_atSound_X5_covers rfl ⟨rfl, rfl⟩ (by decide +kernel) rfl ⟨by decide, by decide⟩ ⟨Nat.zero_le _, Nat.zero_le _⟩ hP hD [1] rfl rfl hl.1 rfl (Nat.le_of_ble_eq_true rfl) dX5_atSound_15) hP hD hS hA [1] [0] [0, 1] rfl rfl rfl (by decide) (fun _ => rfl) rfl (fun r1 u1 H locs hk hP hD hS => ?_)
  exact x_reti C0 (0) hk hP hD hS dX5_atSound_18
theorem xc_X5_atSound (l : Launch) (D : va_G) (cI cC cZ cL : ClassId) (h h_text h_now h_trial h_diary h_kept h_isKept h_line : Nat)  (sz : Nat) (f_refusal : Int32) (f_size : Int32) (f_acts : Int32) (f_length : Int32) (f_spot : Int32) (f_out : Int32) (f_now : Nat → Int32) (x1 : Int32) (x2 : Int32) (K : Int32 → Int32 → Prop) (hk : xp_X5_atSound f_now f_refusal x1 x2 K) : XMi l yX5_atSound wsX5_atSound ({ frames := 2, cells := 0, slots := 0, locals := 49 } : Room) D (xTY cI cC cZ cL) [.ref h, .int x1, .int x2] [(h, .inr (5, [.int f_refusal, .ref h_text, .int f_size, .ref h_now, .ref h_trial, .ref h_diary, .int f_acts, .ref h_kept, .ref h_isKept, .ref h_line, .int f_length, .int f_spot, .int f_out])), (h_now, .inl (cI, 377, .inl f_now))] sz (fun (r : Int32) (u : Int32) => K r u) (fun (u : Int32) => [(h, .inr (5, [.int u, .ref h_text, .int f_size, .ref h_now, .ref h_trial, .ref h_diary, .int f_acts, .ref h_kept, .ref h_isKept, .ref h_line, .int f_length, .int f_spot, .int f_out])), (h_now, .inl (cI, 377, .inl f_now))]) :=
  x_enter (cc := cX5_atSound) (maxL := 3) (ret := (some .int)) (own := RX5) (by decide) rfl rfl (Nat.le_of_ble_eq_true rfl) (fun p e s m below meth c ls C0 hA hP hD hS hl => xb_X5_atSound_0 C0 hA _ _ _ hk s.heap [] ls hP hD hS hl)
set_option maxRecDepth 20000 in
theorem xin_X5_atTime_X5 : ∀ w ∈ u_ws RX5 TX5 13, w ∈ wsX5_atTime := by decide +kernel
set_option maxHeartbeats 4000000 in
set_option maxRecDepth 100000 in
theorem xb_X5_atTime_0 {p : Program} {l : Launch} {e : Env} {s : State} {m : MethodId} {args : Array Value} {below : List Frame} {meth : Method} {c : Code} {A : Nat → Prop} {D : va_G} {cI cC cZ cL : ClassId} {h h_text h_now h_trial h_diary h_kept h_isKept h_line : Nat}  {f_size : Int32} {f_acts : Int32} {f_length : Int32} {f_spot : Int32} {f_out : Int32} {f_now : Nat → Int32} {K : Int32 → Int32 → Prop}  (C0 : xC p s m args meth c cX5_atTime 2 (some .int) wsX5_atTime RX5 D (xTY cI cC cZ cL)) (hA : ∀ q : Nat, s.heap.size ≤ q → A q)  : ∀ (f_refusal : Int32) (x1 : Int32) , xp_X5_atTime f_now f_refusal x1 K → ∀ (H : Heap) (locs : List Loc) (ls : Array Slot), va_P D vwCl [(h, .inr (5, [.int f_refusal, .ref h_text, .int f_size, .ref h_now, .ref h_trial, .ref h_diary, .int f_acts, .ref h_kept, .ref h_isKept, .ref h_line, .int f_length, .int f_spot, .int f_out])), (h_now, .inl (cI, 377, .inl f_now))] H → va_D A [(h, .inr (5, [.int f_refusal, .ref h_text, .int f_size, .ref h_now, .ref h_trial, .ref h_diary, .int f_acts, .ref h_kept, .ref h_isKept, .ref h_line, .int f_length, .int f_spot, .int f_out])), (h_now, .inl (cI, 377, .inl f_now))] → va_S A s.heap H locs → lv_has ls 2 [(0, .ref h), (1, .int x1)] → W p l e ({ frames := 2, cells := 0, slots := 0, locals := 49 } : Room) s m args below meth c H locs 0 0 (MQ below (va_Qi (fun (r : Int32) (u : Int32) => K r u) (fun u t => xE D A ((fun (u : Int32) => [(h, .inr (5, [.int u, .ref h_text, .int f_size, .ref h_now, .ref h_trial, .ref h_diary, .int f_acts, .ref h_kept, .ref h_isKept, .ref h_line, .int f_length, .int f_spot, .int f_out])), (h_now, .inl (cI, 377, .inl f_now))]) u) t) A) args s 0 0 A) (F0 m 0 ls []) := by
  obtain ⟨hx, hb, hr, hml, hown, hts, hlocks, hK, hN⟩ := id C0
  intro f_refusal x1 hk H locs ls hP hD hS hl
  rw [xp_X5_atTime] at hk
  refine lv_aload_n hx hb dX5_atTime_0 rfl (lv_at hl 0 rfl) ?_
  refine lv_iconst (v := 0) hx hb dX5_atTime_1 (by decide) ?_
  refine va_put (D := D) (ci := 5) (v := .int 0) (ty := .int) (C := RX5) (T := TX5) (N := 13) hx hb hts xin_X5_atTime_X5 tyX5 tyX5_ok nmX5 hown hK hP hD hS 0 rfl rfl 0 (by decide) (hts (.fieldLink RX5 36 "TakeLogModel" "refusal" "I") (by decide +kernel)) (fun _ h9 => h9) rfl (by decide +kernel) rfl rfl (Nat.le_of_ble_eq_true rfl) dX5_atTime_2 (fun H locs hP hD hS => ?_)
  have hP : va_P D vwCl [(h, .inr (5, [.int 0, .ref h_text, .int f_size, .ref h_now, .ref h_trial, .ref h_diary, .int f_acts, .ref h_kept, .ref h_isKept, .ref h_line, .int f_length, .int f_spot, .int f_out])), (h_now, .inl (cI, 377, .inl f_now))] H := hP
  have hD : va_D A [(h, .inr (5, [.int 0, .ref h_text, .int f_size, .ref h_now, .ref h_trial, .ref h_diary, .int f_acts, .ref h_kept, .ref h_isKept, .ref h_line, .int f_length, .int f_spot, .int f_out])), (h_now, .inl (cI, 377, .inl f_now))] := hD
  refine lv_aload_n hx hb dX5_atTime_5 rfl (lv_at hl 0 rfl) ?_
  refine va_get (D := D) (ci := 5) (v := .ref h_now) (C := RX5) (T := TX5) (N := 13) hx hb hts xin_X5_atTime_X5 hown hK hP 0 rfl rfl 3 (by decide) (hts (.fieldLink RX5 13 "TakeLogModel" "now" "[I") (by decide +kernel)) (fun _ h9 => h9) rfl dX5_atTime_6 ?_
  refine lv_iconst (v := (-1 : Int32)) hx hb dX5_atTime_9 (by decide) ?_
  refine lv_iconst (v := 0) hx hb dX5_atTime_10 (by decide) ?_
  refine lv_bipush (v := 11) hx hb dX5_atTime_11 (by decide) ?_
  refine lv_iload_n hx hb dX5_atTime_13 rfl (lv_at hl 1 rfl) ?_
  refine x_joini (ws1 := fun (_ : Unit) => [(h, .inr (5, [.int 0, .ref h_text, .int f_size, .ref h_now, .ref h_trial, .ref h_diary, .int f_acts, .ref h_kept, .ref h_isKept, .ref h_line, .int f_length, .int f_spot, .int f_out])), (h_now, .inl (cI, 377, .inl f_now))]) (x_runO (n0 := 5) (As := [.ref h_now, .int (-1 : Int32), .int 0, .int 11, .int x1]) (rest := []) C0 (xc_X5_covers l D cI cC cZ cL h_now H.size f_now (-1 : Int32) 0 11 x1 _ hk) gX5_atTime_X5_covers rfl ⟨rfl, rfl⟩ (by decide +kernel) rfl ⟨by decide, by decide⟩ ⟨Nat.zero_le _, Nat.zero_le _⟩ hP hD [1] rfl rfl hl.1 rfl (Nat.le_of_ble_eq_true rfl) dX5_atTime_14) hP hD hS hA [1] [0] [0, 1] rfl rfl rfl (by decide) (fun _ => rfl) rfl (fun r1 u1 H locs hk hP hD hS => ?_)
  exact x_reti C0 (0) hk hP hD hS dX5_atTime_17
theorem xc_X5_atTime (l : Launch) (D : va_G) (cI cC cZ cL : ClassId) (h h_text h_now h_trial h_diary h_kept h_isKept h_line : Nat)  (sz : Nat) (f_refusal : Int32) (f_size : Int32) (f_acts : Int32) (f_length : Int32) (f_spot : Int32) (f_out : Int32) (f_now : Nat → Int32) (x1 : Int32) (K : Int32 → Int32 → Prop) (hk : xp_X5_atTime f_now f_refusal x1 K) : XMi l yX5_atTime wsX5_atTime ({ frames := 2, cells := 0, slots := 0, locals := 49 } : Room) D (xTY cI cC cZ cL) [.ref h, .int x1] [(h, .inr (5, [.int f_refusal, .ref h_text, .int f_size, .ref h_now, .ref h_trial, .ref h_diary, .int f_acts, .ref h_kept, .ref h_isKept, .ref h_line, .int f_length, .int f_spot, .int f_out])), (h_now, .inl (cI, 377, .inl f_now))] sz (fun (r : Int32) (u : Int32) => K r u) (fun (u : Int32) => [(h, .inr (5, [.int u, .ref h_text, .int f_size, .ref h_now, .ref h_trial, .ref h_diary, .int f_acts, .ref h_kept, .ref h_isKept, .ref h_line, .int f_length, .int f_spot, .int f_out])), (h_now, .inl (cI, 377, .inl f_now))]) :=
  x_enter (cc := cX5_atTime) (maxL := 2) (ret := (some .int)) (own := RX5) (by decide) rfl rfl (Nat.le_of_ble_eq_true rfl) (fun p e s m below meth c ls C0 hA hP hD hS hl => xb_X5_atTime_0 C0 hA _ _ hk s.heap [] ls hP hD hS hl)
set_option maxRecDepth 20000 in
theorem xin_X5_byFile_X5 : ∀ w ∈ u_ws RX5 TX5 13, w ∈ wsX5_byFile := by decide +kernel
set_option maxHeartbeats 4000000 in
set_option maxRecDepth 100000 in
theorem xb_X5_byFile_7 {p : Program} {l : Launch} {e : Env} {s : State} {m : MethodId} {args : Array Value} {below : List Frame} {meth : Method} {c : Code} {A : Nat → Prop} {D : va_G} {cI cC cZ cL : ClassId} {h h_text h_now h_trial h_diary h_kept h_isKept h_line : Nat}  {f_size : Int32} {f_acts : Int32} {f_length : Int32} {f_spot : Int32} {f_out : Int32} {f_now : Nat → Int32} {K : Int32 → Int32 → Prop}  (C0 : xC p s m args meth c cX5_byFile 4 (some .int) wsX5_byFile RX5 D (xTY cI cC cZ cL)) (hA : ∀ q : Nat, s.heap.size ≤ q → A q)  : ∀ (n : Nat) (f_refusal : Int32) (v1 : Int32) (v2 : Int32) (v3 : Int32) , xp_X5_byFile_7 f_now K n f_refusal v1 v2 v3 → ∀ (H : Heap) (locs : List Loc) (ls : Array Slot), va_P D vwCl [(h, .inr (5, [.int f_refusal, .ref h_text, .int f_size, .ref h_now, .ref h_trial, .ref h_diary, .int f_acts, .ref h_kept, .ref h_isKept, .ref h_line, .int f_length, .int f_spot, .int f_out])), (h_now, .inl (cI, 377, .inl f_now))] H → va_D A [(h, .inr (5, [.int f_refusal, .ref h_text, .int f_size, .ref h_now, .ref h_trial, .ref h_diary, .int f_acts, .ref h_kept, .ref h_isKept, .ref h_line, .int f_length, .int f_spot, .int f_out])), (h_now, .inl (cI, 377, .inl f_now))] → va_S A s.heap H locs → lv_has ls 4 [(0, .ref h), (1, .int v1), (2, .int v2), (3, .int v3)] → W p l e ({ frames := 1, cells := 0, slots := 0, locals := 22 } : Room) s m args below meth c H locs 0 0 (MQ below (va_Qi (fun (r : Int32) (u : Int32) => K r u) (fun u t => xE D A ((fun (u : Int32) => [(h, .inr (5, [.int u, .ref h_text, .int f_size, .ref h_now, .ref h_trial, .ref h_diary, .int f_acts, .ref h_kept, .ref h_isKept, .ref h_line, .int f_length, .int f_spot, .int f_out])), (h_now, .inl (cI, 377, .inl f_now))]) u) t) A) args s 0 0 A) (F0 m 7 ls []) := by
  obtain ⟨hx, hb, hr, hml, hown, hts, hlocks, hK, hN⟩ := id C0
  intro n
  induction n with
  | zero => intro f_refusal v1 v2 v3 hk; exact hk.elim
  | succ n ih =>
    intro f_refusal v1 v2 v3 hk H locs ls hP hD hS hl
    rw [xp_X5_byFile_7] at hk
    refine lv_iload_n hx hb dX5_byFile_7 rfl (lv_at hl 3 rfl) ?_
    refine lv_aload_n hx hb dX5_byFile_8 rfl (lv_at hl 0 rfl) ?_
    refine va_get (D := D) (ci := 5) (v := .ref h_now) (C := RX5) (T := TX5) (N := 13) hx hb hts xin_X5_byFile_X5 hown hK hP 0 rfl rfl 3 (by decide) (hts (.fieldLink RX5 13 "TakeLogModel" "now" "[I") (by decide +kernel)) (fun _ h9 => h9) rfl dX5_byFile_9 ?_
    refine lv_iconst (v := 0) hx hb dX5_byFile_12 (by decide) ?_
    refine x_iald (k := 0) hx hb hK hP 1 0 rfl rfl (x_lit rfl (by decide) (by decide)) rfl (v := (f_now 0)) rfl dX5_byFile_13 ?_
    refine lv_icmp_ge (tgt := 57) hx hb dX5_byFile_14 (by decide) (fun c1 => ?_) (fun c1 => ?_)
    · have hk := hk.1 c1
      refine lv_iconst (v := (-1 : Int32)) hx hb dX5_byFile_57 (by decide) ?_
      exact x_reti C0 (f_refusal) hk hP hD hS dX5_byFile_58
    · have hk := hk.2 c1
      refine lv_iload_n hx hb dX5_byFile_17 rfl (lv_at hl 1 rfl) ?_
      refine lv_if_le (tgt := 51) hx hb dX5_byFile_18 (by decide) (fun c2 => ?_) (fun c2 => ?_)
      · have hk := hk.1 c2
        refine lv_iinc (v := (v3 + 1)) (lv' := [(3, .int (v3 + 1)), (0, .ref h), (1, .int v1), (2, .int v2)]) hx hb dX5_byFile_51 hl (k := 3) rfl rfl (by decide) rfl (fun ls hl => ?_)
        refine lv_goto (tgt := 7) hx hb dX5_byFile_54 (by decide) ?_
        exact ih _ _ _ _ hk H locs ls hP hD hS (lv_sub hl [1, 2, 3, 0] rfl)
      · have hk := hk.2 c2
        refine lv_aload_n hx hb dX5_byFile_21 rfl (lv_at hl 0 rfl) ?_
        refine va_get (D := D) (ci := 5) (v := .ref h_now) (C := RX5) (T := TX5) (N := 13) hx hb hts xin_X5_byFile_X5 hown hK hP 0 rfl rfl 3 (by decide) (hts (.fieldLink RX5 13 "TakeLogModel" "now" "[I") (by decide +kernel)) (fun _ h9 => h9) rfl dX5_byFile_22 ?_
        refine lv_iload_n hx hb dX5_byFile_25 rfl (lv_at hl 3 rfl) ?_
        refine lv_bipush (v := 8) hx hb dX5_byFile_26 (by decide) ?_
        refine x_joini (ws1 := fun (_ : Unit) => [(h, .inr (5, [.int f_refusal, .ref h_text, .int f_size, .ref h_now, .ref h_trial, .ref h_diary, .int f_acts, .ref h_kept, .ref h_isKept, .ref h_line, .int f_length, .int f_spot, .int f_out])), (h_now, .inl (cI, 377, .inl f_now))]) (x_runO (n0 := 3) (As := [.ref h_now, .int v3, .int 8]) (rest := []) C0 (xc_X5_of l D cI cC cZ cL h_now H.size f_now v3 8 _ hk) gX5_byFile_X5_of rfl ⟨rfl, rfl⟩ (by decide +kernel) rfl ⟨by decide, by decide⟩ ⟨Nat.zero_le _, Nat.zero_le _⟩ hP hD [1] rfl rfl hl.1 rfl (Nat.le_of_ble_eq_true rfl) dX5_byFile_28) hP hD hS hA [1] [0] [0, 1] rfl rfl rfl (by decide) (fun _ => rfl) rfl (fun r3 u3 H locs hk hP hD hS => ?_)
        refine lv_iload_n hx hb dX5_byFile_31 rfl (lv_at hl 1 rfl) ?_
        refine lv_icmp_ne (tgt := 51) hx hb dX5_byFile_32 (by decide) (fun c4 => ?_) (fun c4 => ?_)
        · have hk := hk.1 c4
          refine lv_iinc (v := (v3 + 1)) (lv' := [(3, .int (v3 + 1)), (0, .ref h), (1, .int v1), (2, .int v2)]) hx hb dX5_byFile_51 hl (k := 3) rfl rfl (by decide) rfl (fun ls hl => ?_)
          refine lv_goto (tgt := 7) hx hb dX5_byFile_54 (by decide) ?_
          exact ih _ _ _ _ hk H locs ls hP hD hS (lv_sub hl [1, 2, 3, 0] rfl)
        · have hk := hk.2 c4
          refine lv_aload_n hx hb dX5_byFile_35 rfl (lv_at hl 0 rfl) ?_
          refine va_get (D := D) (ci := 5) (v := .ref h_now) (C := RX5) (T := TX5) (N := 13) hx hb hts xin_X5_byFile_X5 hown hK hP 0 rfl rfl 3 (by decide) (hts (.fieldLink RX5 13 "TakeLogModel" "now" "[I") (by decide +kernel)) (fun _ h9 => h9) rfl dX5_byFile_36 ?_
          refine lv_iload_n hx hb dX5_byFile_39 rfl (lv_at hl 3 rfl) ?_
          refine lv_bipush (v := 10) hx hb dX5_byFile_40 (by decide) ?_
          refine x_joini (ws1 := fun (_ : Unit) => [(h, .inr (5, [.int f_refusal, .ref h_text, .int f_size, .ref h_now, .ref h_trial, .ref h_diary, .int f_acts, .ref h_kept, .ref h_isKept, .ref h_line, .int f_length, .int f_spot, .int f_out])), (h_now, .inl (cI, 377, .inl f_now))]) (x_runO (n0 := 3) (As := [.ref h_now, .int v3, .int 10]) (rest := []) C0 (xc_X5_of l D cI cC cZ cL h_now H.size f_now v3 10 _ hk) gX5_byFile_X5_of rfl ⟨rfl, rfl⟩ (by decide +kernel) rfl ⟨by decide, by decide⟩ ⟨Nat.zero_le _, Nat.zero_le _⟩ hP hD [1] rfl rfl hl.1 rfl (Nat.le_of_ble_eq_true rfl) dX5_byFile_42) hP hD hS hA [1] [0] [0, 1] rfl rfl rfl (by decide) (fun _ => rfl) rfl (fun r5 u5 H locs hk hP hD hS => ?_)
          refine lv_iload_n hx hb dX5_byFile_45 rfl (lv_at hl 2 rfl) ?_
          refine lv_icmp_ne (tgt := 51) hx hb dX5_byFile_46 (by decide) (fun c6 => ?_) (fun c6 => ?_)
          · have hk := hk.1 c6
            refine lv_iinc (v := (v3 + 1)) (lv' := [(3, .int (v3 + 1)), (0, .ref h), (1, .int v1), (2, .int v2)]) hx hb dX5_byFile_51 hl (k := 3) rfl rfl (by decide) rfl (fun ls hl => ?_)
            refine lv_goto (tgt := 7) hx hb dX5_byFile_54 (by decide) ?_
            exact ih _ _ _ _ hk H locs ls hP hD hS (lv_sub hl [1, 2, 3, 0] rfl)
          · have hk := hk.2 c6
            refine lv_iload_n hx hb dX5_byFile_49 rfl (lv_at hl 3 rfl) ?_
            exact x_reti C0 (f_refusal) hk hP hD hS dX5_byFile_50
set_option maxHeartbeats 4000000 in
set_option maxRecDepth 100000 in
theorem xb_X5_byFile_0 {p : Program} {l : Launch} {e : Env} {s : State} {m : MethodId} {args : Array Value} {below : List Frame} {meth : Method} {c : Code} {A : Nat → Prop} {D : va_G} {cI cC cZ cL : ClassId} {h h_text h_now h_trial h_diary h_kept h_isKept h_line : Nat}  {f_size : Int32} {f_acts : Int32} {f_length : Int32} {f_spot : Int32} {f_out : Int32} {f_now : Nat → Int32} {K : Int32 → Int32 → Prop}  (C0 : xC p s m args meth c cX5_byFile 4 (some .int) wsX5_byFile RX5 D (xTY cI cC cZ cL)) (hA : ∀ q : Nat, s.heap.size ≤ q → A q)  : ∀ (f_refusal : Int32) (x1 : Int32) (x2 : Int32) , xp_X5_byFile f_now f_refusal x1 x2 K → ∀ (H : Heap) (locs : List Loc) (ls : Array Slot), va_P D vwCl [(h, .inr (5, [.int f_refusal, .ref h_text, .int f_size, .ref h_now, .ref h_trial, .ref h_diary, .int f_acts, .ref h_kept, .ref h_isKept, .ref h_line, .int f_length, .int f_spot, .int f_out])), (h_now, .inl (cI, 377, .inl f_now))] H → va_D A [(h, .inr (5, [.int f_refusal, .ref h_text, .int f_size, .ref h_now, .ref h_trial, .ref h_diary, .int f_acts, .ref h_kept, .ref h_isKept, .ref h_line, .int f_length, .int f_spot, .int f_out])), (h_now, .inl (cI, 377, .inl f_now))] → va_S A s.heap H locs → lv_has ls 4 [(0, .ref h), (1, .int x1), (2, .int x2)] → W p l e ({ frames := 1, cells := 0, slots := 0, locals := 22 } : Room) s m args below meth c H locs 0 0 (MQ below (va_Qi (fun (r : Int32) (u : Int32) => K r u) (fun u t => xE D A ((fun (u : Int32) => [(h, .inr (5, [.int u, .ref h_text, .int f_size, .ref h_now, .ref h_trial, .ref h_diary, .int f_acts, .ref h_kept, .ref h_isKept, .ref h_line, .int f_length, .int f_spot, .int f_out])), (h_now, .inl (cI, 377, .inl f_now))]) u) t) A) args s 0 0 A) (F0 m 0 ls []) := by
  obtain ⟨hx, hb, hr, hml, hown, hts, hlocks, hK, hN⟩ := id C0
  intro f_refusal x1 x2 hk H locs ls hP hD hS hl
  rw [xp_X5_byFile] at hk
  refine lv_aload_n hx hb dX5_byFile_0 rfl (lv_at hl 0 rfl) ?_
  refine lv_iconst (v := 0) hx hb dX5_byFile_1 (by decide) ?_
  refine va_put (D := D) (ci := 5) (v := .int 0) (ty := .int) (C := RX5) (T := TX5) (N := 13) hx hb hts xin_X5_byFile_X5 tyX5 tyX5_ok nmX5 hown hK hP hD hS 0 rfl rfl 0 (by decide) (hts (.fieldLink RX5 36 "TakeLogModel" "refusal" "I") (by decide +kernel)) (fun _ h9 => h9) rfl (by decide +kernel) rfl rfl (Nat.le_of_ble_eq_true rfl) dX5_byFile_2 (fun H locs hP hD hS => ?_)
  have hP : va_P D vwCl [(h, .inr (5, [.int 0, .ref h_text, .int f_size, .ref h_now, .ref h_trial, .ref h_diary, .int f_acts, .ref h_kept, .ref h_isKept, .ref h_line, .int f_length, .int f_spot, .int f_out])), (h_now, .inl (cI, 377, .inl f_now))] H := hP
  have hD : va_D A [(h, .inr (5, [.int 0, .ref h_text, .int f_size, .ref h_now, .ref h_trial, .ref h_diary, .int f_acts, .ref h_kept, .ref h_isKept, .ref h_line, .int f_length, .int f_spot, .int f_out])), (h_now, .inl (cI, 377, .inl f_now))] := hD
  refine lv_iconst (v := 0) hx hb dX5_byFile_5 (by decide) ?_
  refine lv_istore_n (lv' := [(3, .int 0), (0, .ref h), (1, .int x1), (2, .int x2)]) hx hb dX5_byFile_6 rfl hl (by decide) rfl (fun ls hl => ?_)
  obtain ⟨n9, hk⟩ := hk
  exact xb_X5_byFile_7 C0 hA  n9 _ _ _ _ hk H locs ls hP hD hS (lv_sub hl [1, 2, 3, 0] rfl)
theorem xc_X5_byFile (l : Launch) (D : va_G) (cI cC cZ cL : ClassId) (h h_text h_now h_trial h_diary h_kept h_isKept h_line : Nat)  (sz : Nat) (f_refusal : Int32) (f_size : Int32) (f_acts : Int32) (f_length : Int32) (f_spot : Int32) (f_out : Int32) (f_now : Nat → Int32) (x1 : Int32) (x2 : Int32) (K : Int32 → Int32 → Prop) (hk : xp_X5_byFile f_now f_refusal x1 x2 K) : XMi l yX5_byFile wsX5_byFile ({ frames := 1, cells := 0, slots := 0, locals := 22 } : Room) D (xTY cI cC cZ cL) [.ref h, .int x1, .int x2] [(h, .inr (5, [.int f_refusal, .ref h_text, .int f_size, .ref h_now, .ref h_trial, .ref h_diary, .int f_acts, .ref h_kept, .ref h_isKept, .ref h_line, .int f_length, .int f_spot, .int f_out])), (h_now, .inl (cI, 377, .inl f_now))] sz (fun (r : Int32) (u : Int32) => K r u) (fun (u : Int32) => [(h, .inr (5, [.int u, .ref h_text, .int f_size, .ref h_now, .ref h_trial, .ref h_diary, .int f_acts, .ref h_kept, .ref h_isKept, .ref h_line, .int f_length, .int f_spot, .int f_out])), (h_now, .inl (cI, 377, .inl f_now))]) :=
  x_enter (cc := cX5_byFile) (maxL := 4) (ret := (some .int)) (own := RX5) (by decide) rfl rfl (Nat.le_of_ble_eq_true rfl) (fun p e s m below meth c ls C0 hA hP hD hS hl => xb_X5_byFile_0 C0 hA _ _ _ hk s.heap [] ls hP hD hS hl)
set_option maxRecDepth 20000 in
theorem xin_X5_synced_X5 : ∀ w ∈ u_ws RX5 TX5 13, w ∈ wsX5_synced := by decide +kernel
set_option maxHeartbeats 4000000 in
set_option maxRecDepth 100000 in
theorem xb_X5_synced_17 {p : Program} {l : Launch} {e : Env} {s : State} {m : MethodId} {args : Array Value} {below : List Frame} {meth : Method} {c : Code} {A : Nat → Prop} {D : va_G} {cI cC cZ cL : ClassId} {h h_text h_now h_trial h_diary h_kept h_isKept h_line : Nat}  {f_size : Int32} {f_acts : Int32} {f_length : Int32} {f_spot : Int32} {f_out : Int32} {f_now : Nat → Int32} {K : Int32 → Int32 → Prop}  (C0 : xC p s m args meth c cX5_synced 2 (some .int) wsX5_synced RX5 D (xTY cI cC cZ cL)) (hA : ∀ q : Nat, s.heap.size ≤ q → A q)  : ∀ (f_refusal : Int32) (v1 : Int32) (t0 : Int32) , xp_X5_synced_17 f_now K f_refusal v1 t0 → ∀ (H : Heap) (locs : List Loc) (ls : Array Slot), va_P D vwCl [(h, .inr (5, [.int f_refusal, .ref h_text, .int f_size, .ref h_now, .ref h_trial, .ref h_diary, .int f_acts, .ref h_kept, .ref h_isKept, .ref h_line, .int f_length, .int f_spot, .int f_out])), (h_now, .inl (cI, 377, .inl f_now))] H → va_D A [(h, .inr (5, [.int f_refusal, .ref h_text, .int f_size, .ref h_now, .ref h_trial, .ref h_diary, .int f_acts, .ref h_kept, .ref h_isKept, .ref h_line, .int f_length, .int f_spot, .int f_out])), (h_now, .inl (cI, 377, .inl f_now))] → va_S A s.heap H locs → lv_has ls 2 [(0, .ref h), (1, .int v1)] → W p l e ({ frames := 3, cells := 0, slots := 0, locals := 77 } : Room) s m args below meth c H locs 0 0 (MQ below (va_Qi (fun (r : Int32) (u : Int32) => K r u) (fun u t => xE D A ((fun (u : Int32) => [(h, .inr (5, [.int u, .ref h_text, .int f_size, .ref h_now, .ref h_trial, .ref h_diary, .int f_acts, .ref h_kept, .ref h_isKept, .ref h_line, .int f_length, .int f_spot, .int f_out])), (h_now, .inl (cI, 377, .inl f_now))]) u) t) A) args s 0 0 A) (F0 m 17 ls [.int t0, .ref h]) := by
  obtain ⟨hx, hb, hr, hml, hown, hts, hlocks, hK, hN⟩ := id C0
  intro f_refusal v1 t0 hk H locs ls hP hD hS hl
  rw [xp_X5_synced_17] at hk
  refine x_joini (ws1 := fun (u1 : Int32) => [(h, .inr (5, [.int u1, .ref h_text, .int f_size, .ref h_now, .ref h_trial, .ref h_diary, .int f_acts, .ref h_kept, .ref h_isKept, .ref h_line, .int f_length, .int f_spot, .int f_out])), (h_now, .inl (cI, 377, .inl f_now))]) (x_runV (n0 := 1) (As := [.int t0]) (rest := []) C0 (xc_X5_refused l D cI cC cZ cL h h_text h_now h_trial h_diary h_kept h_isKept h_line H.size f_refusal f_size f_acts f_length f_spot f_out t0 _ hk) gX5_synced_X5_refused rfl ⟨rfl, rfl⟩ (by decide +kernel) rfl ⟨by decide, by decide⟩ ⟨Nat.zero_le _, Nat.zero_le _⟩ hP hD [0] rfl rfl (k := 0) rfl rfl rfl hl.1 rfl (Nat.le_of_ble_eq_true rfl) dX5_synced_17) hP hD hS hA [0] [1] [1, 0] rfl rfl rfl (by decide) (fun _ => rfl) rfl (fun r1 u1 H locs hk hP hD hS => ?_)
  refine lv_if_eq (tgt := 25) hx hb dX5_synced_20 (by decide) (fun c2 => ?_) (fun c2 => ?_)
  · have hk := hk.1 c2
    refine lv_aload_n hx hb dX5_synced_25 rfl (lv_at hl 0 rfl) ?_
    refine va_get (D := D) (ci := 5) (v := .ref h_now) (C := RX5) (T := TX5) (N := 13) hx hb hts xin_X5_synced_X5 hown hK hP 0 rfl rfl 3 (by decide) (hts (.fieldLink RX5 13 "TakeLogModel" "now" "[I") (by decide +kernel)) (fun _ h9 => h9) rfl dX5_synced_26 ?_
    refine lv_iload_n hx hb dX5_synced_29 rfl (lv_at hl 1 rfl) ?_
    refine lv_iconst (v := 0) hx hb dX5_synced_30 (by decide) ?_
    refine x_joini (ws1 := fun (_ : Unit) => [(h, .inr (5, [.int u1, .ref h_text, .int f_size, .ref h_now, .ref h_trial, .ref h_diary, .int f_acts, .ref h_kept, .ref h_isKept, .ref h_line, .int f_length, .int f_spot, .int f_out])), (h_now, .inl (cI, 377, .inl f_now))]) (x_runO (n0 := 3) (As := [.ref h_now, .int v1, .int 0]) (rest := []) C0 (xc_X5_syncedBy l D cI cC cZ cL h_now H.size f_now v1 0 _ hk) gX5_synced_X5_syncedBy rfl ⟨rfl, rfl⟩ (by decide +kernel) rfl ⟨by decide, by decide⟩ ⟨Nat.zero_le _, Nat.zero_le _⟩ hP hD [1] rfl rfl hl.1 rfl (Nat.le_of_ble_eq_true rfl) dX5_synced_31) hP hD hS hA [1] [0] [0, 1] rfl rfl rfl (by decide) (fun _ => rfl) rfl (fun r3 u3 H locs hk hP hD hS => ?_)
    exact x_reti C0 (u1) hk hP hD hS dX5_synced_34
  · have hk := hk.2 c2
    refine lv_iconst (v := 0) hx hb dX5_synced_23 (by decide) ?_
    exact x_reti C0 (u1) hk hP hD hS dX5_synced_24
set_option maxHeartbeats 4000000 in
set_option maxRecDepth 100000 in
theorem xb_X5_synced_0 {p : Program} {l : Launch} {e : Env} {s : State} {m : MethodId} {args : Array Value} {below : List Frame} {meth : Method} {c : Code} {A : Nat → Prop} {D : va_G} {cI cC cZ cL : ClassId} {h h_text h_now h_trial h_diary h_kept h_isKept h_line : Nat}  {f_size : Int32} {f_acts : Int32} {f_length : Int32} {f_spot : Int32} {f_out : Int32} {f_now : Nat → Int32} {K : Int32 → Int32 → Prop}  (C0 : xC p s m args meth c cX5_synced 2 (some .int) wsX5_synced RX5 D (xTY cI cC cZ cL)) (hA : ∀ q : Nat, s.heap.size ≤ q → A q)  : ∀ (f_refusal : Int32) (x1 : Int32) , xp_X5_synced f_now f_refusal x1 K → ∀ (H : Heap) (locs : List Loc) (ls : Array Slot), va_P D vwCl [(h, .inr (5, [.int f_refusal, .ref h_text, .int f_size, .ref h_now, .ref h_trial, .ref h_diary, .int f_acts, .ref h_kept, .ref h_isKept, .ref h_line, .int f_length, .int f_spot, .int f_out])), (h_now, .inl (cI, 377, .inl f_now))] H → va_D A [(h, .inr (5, [.int f_refusal, .ref h_text, .int f_size, .ref h_now, .ref h_trial, .ref h_diary, .int f_acts, .ref h_kept, .ref h_isKept, .ref h_line, .int f_length, .int f_spot, .int f_out])), (h_now, .inl (cI, 377, .inl f_now))] → va_S A s.heap H locs → lv_has ls 2 [(0, .ref h), (1, .int x1)] → W p l e ({ frames := 3, cells := 0, slots := 0, locals := 77 } : Room) s m args below meth c H locs 0 0 (MQ below (va_Qi (fun (r : Int32) (u : Int32) => K r u) (fun u t => xE D A ((fun (u : Int32) => [(h, .inr (5, [.int u, .ref h_text, .int f_size, .ref h_now, .ref h_trial, .ref h_diary, .int f_acts, .ref h_kept, .ref h_isKept, .ref h_line, .int f_length, .int f_spot, .int f_out])), (h_now, .inl (cI, 377, .inl f_now))]) u) t) A) args s 0 0 A) (F0 m 0 ls []) := by
  obtain ⟨hx, hb, hr, hml, hown, hts, hlocks, hK, hN⟩ := id C0
  intro f_refusal x1 hk H locs ls hP hD hS hl
  rw [xp_X5_synced] at hk
  refine lv_aload_n hx hb dX5_synced_0 rfl (lv_at hl 0 rfl) ?_
  refine lv_aload_n hx hb dX5_synced_1 rfl (lv_at hl 0 rfl) ?_
  refine va_get (D := D) (ci := 5) (v := .ref h_now) (C := RX5) (T := TX5) (N := 13) hx hb hts xin_X5_synced_X5 hown hK hP 0 rfl rfl 3 (by decide) (hts (.fieldLink RX5 13 "TakeLogModel" "now" "[I") (by decide +kernel)) (fun _ h9 => h9) rfl dX5_synced_2 ?_
  refine lv_iload_n hx hb dX5_synced_5 rfl (lv_at hl 1 rfl) ?_
  refine x_joini (ws1 := fun (_ : Unit) => [(h, .inr (5, [.int f_refusal, .ref h_text, .int f_size, .ref h_now, .ref h_trial, .ref h_diary, .int f_acts, .ref h_kept, .ref h_isKept, .ref h_line, .int f_length, .int f_spot, .int f_out])), (h_now, .inl (cI, 377, .inl f_now))]) (x_runO (n0 := 2) (As := [.ref h_now, .int x1]) (rest := [.ref h]) C0 (xc_X5_isTake l D cI cC cZ cL h_now H.size f_now x1 _ hk) gX5_synced_X5_isTake rfl ⟨rfl, rfl⟩ (by decide +kernel) rfl ⟨by decide, by decide⟩ ⟨Nat.zero_le _, Nat.zero_le _⟩ hP hD [1] rfl rfl hl.1 rfl (Nat.le_of_ble_eq_true rfl) dX5_synced_6) hP hD hS hA [1] [0] [0, 1] rfl rfl rfl (by decide) (fun _ => rfl) rfl (fun r1 u1 H locs hk hP hD hS => ?_)
  refine lv_if_eq (tgt := 16) hx hb dX5_synced_9 (by decide) (fun c2 => ?_) (fun c2 => ?_)
  · have hk := hk.1 c2
    refine lv_iconst (v := 1) hx hb dX5_synced_16 (by decide) ?_
    exact xb_X5_synced_17 C0 hA  _ _ _ hk H locs ls hP hD hS (lv_sub hl [0, 1] rfl)
  · have hk := hk.2 c2
    refine lv_iconst (v := 0) hx hb dX5_synced_12 (by decide) ?_
    refine lv_goto (tgt := 17) hx hb dX5_synced_13 (by decide) ?_
    exact xb_X5_synced_17 C0 hA  _ _ _ hk H locs ls hP hD hS (lv_sub hl [0, 1] rfl)
theorem xc_X5_synced (l : Launch) (D : va_G) (cI cC cZ cL : ClassId) (h h_text h_now h_trial h_diary h_kept h_isKept h_line : Nat)  (sz : Nat) (f_refusal : Int32) (f_size : Int32) (f_acts : Int32) (f_length : Int32) (f_spot : Int32) (f_out : Int32) (f_now : Nat → Int32) (x1 : Int32) (K : Int32 → Int32 → Prop) (hk : xp_X5_synced f_now f_refusal x1 K) : XMi l yX5_synced wsX5_synced ({ frames := 3, cells := 0, slots := 0, locals := 77 } : Room) D (xTY cI cC cZ cL) [.ref h, .int x1] [(h, .inr (5, [.int f_refusal, .ref h_text, .int f_size, .ref h_now, .ref h_trial, .ref h_diary, .int f_acts, .ref h_kept, .ref h_isKept, .ref h_line, .int f_length, .int f_spot, .int f_out])), (h_now, .inl (cI, 377, .inl f_now))] sz (fun (r : Int32) (u : Int32) => K r u) (fun (u : Int32) => [(h, .inr (5, [.int u, .ref h_text, .int f_size, .ref h_now, .ref h_trial, .ref h_diary, .int f_acts, .ref h_kept, .ref h_isKept, .ref h_line, .int f_length, .int f_spot, .int f_out])), (h_now, .inl (cI, 377, .inl f_now))]) :=
  x_enter (cc := cX5_synced) (maxL := 2) (ret := (some .int)) (own := RX5) (by decide) rfl rfl (Nat.le_of_ble_eq_true rfl) (fun p e s m below meth c ls C0 hA hP hD hS hl => xb_X5_synced_0 C0 hA _ _ hk s.heap [] ls hP hD hS hl)
set_option maxHeartbeats 4000000 in
set_option maxRecDepth 100000 in
theorem xb_X5_own_4 {p : Program} {l : Launch} {e : Env} {s : State} {m : MethodId} {args : Array Value} {below : List Frame} {meth : Method} {c : Code} {A : Nat → Prop} {D : va_G} {cI cC cZ cL : ClassId} {g1 : Nat}  {f_p1 : Nat → Int32} {K : Int32 → Prop}  (C0 : xC p s m args meth c cX5_own 4 (some .int) wsX5_own RX5 D (xTY cI cC cZ cL)) (hA : ∀ q : Nat, s.heap.size ≤ q → A q)  : ∀ (n : Nat) (v1 : Int32) (v2 : Int32) (v3 : Int32) , xp_X5_own_4 f_p1 K n v1 v2 v3 → ∀ (H : Heap) (locs : List Loc) (ls : Array Slot), va_P D vwCl [(g1, .inl (cI, 377, .inl f_p1))] H → va_D A [(g1, .inl (cI, 377, .inl f_p1))] → va_S A s.heap H locs → lv_has ls 4 [(0, .ref g1), (1, .int v1), (2, .int v2), (3, .int v3)] → W p l e ({ frames := 3, cells := 0, slots := 0, locals := 77 } : Room) s m args below meth c H locs 0 0 (MQ below (va_Qi (fun (r : Int32) (_ : Unit) => K r) (fun u t => xE D A ((fun (_ : Unit) => [(g1, .inl (cI, 377, .inl f_p1))]) u) t) A) args s 0 0 A) (F0 m 4 ls []) := by
  obtain ⟨hx, hb, hr, hml, hown, hts, hlocks, hK, hN⟩ := id C0
  intro n
  induction n with
  | zero => intro v1 v2 v3 hk; exact hk.elim
  | succ n ih =>
    intro v1 v2 v3 hk H locs ls hP hD hS hl
    rw [xp_X5_own_4] at hk
    refine lv_iload_n hx hb dX5_own_4 rfl (lv_at hl 3 rfl) ?_
    refine lv_aload_n hx hb dX5_own_5 rfl (lv_at hl 0 rfl) ?_
    refine lv_iconst (v := 0) hx hb dX5_own_6 (by decide) ?_
    refine x_iald (k := 0) hx hb hK hP 0 0 rfl rfl (x_lit rfl (by decide) (by decide)) rfl (v := (f_p1 0)) rfl dX5_own_7 ?_
    refine lv_icmp_ge (tgt := 46) hx hb dX5_own_8 (by decide) (fun c1 => ?_) (fun c1 => ?_)
    · have hk := hk.1 c1
      refine lv_iload_n hx hb dX5_own_46 rfl (lv_at hl 2 rfl) ?_
      exact x_reti C0 () hk hP hD hS dX5_own_47
    · have hk := hk.2 c1
      refine lv_iload_n hx hb dX5_own_11 rfl (lv_at hl 2 rfl) ?_
      refine lv_aload_n hx hb dX5_own_12 rfl (lv_at hl 0 rfl) ?_
      refine lv_iload_n hx hb dX5_own_13 rfl (lv_at hl 3 rfl) ?_
      refine lv_bipush (v := 8) hx hb dX5_own_14 (by decide) ?_
      refine x_joini (ws1 := fun (_ : Unit) => [(g1, .inl (cI, 377, .inl f_p1))]) (x_runO (n0 := 3) (As := [.ref g1, .int v3, .int 8]) (rest := [.int v2]) C0 (xc_X5_of l D cI cC cZ cL g1 H.size f_p1 v3 8 _ hk) gX5_own_X5_of rfl ⟨rfl, rfl⟩ (by decide +kernel) rfl ⟨by decide, by decide⟩ ⟨Nat.zero_le _, Nat.zero_le _⟩ hP hD [0] rfl rfl hl.1 rfl (Nat.le_of_ble_eq_true rfl) dX5_own_16) hP hD hS hA [0] [] [0] rfl rfl rfl (by decide) (fun _ => rfl) rfl (fun r2 u2 H locs hk hP hD hS => ?_)
      refine lv_iconst (v := (-1 : Int32)) hx hb dX5_own_19 (by decide) ?_
      refine lv_icmp_eq (tgt := 37) hx hb dX5_own_20 (by decide) (fun c3 => ?_) (fun c3 => ?_)
      · have hk := hk.1 c3
        refine lv_iconst (v := 0) hx hb dX5_own_37 (by decide) ?_
        refine lv_iadd hx hb dX5_own_38 ?_
        refine lv_istore_n (lv' := [(2, .int (v2 + 0)), (0, .ref g1), (1, .int v1), (3, .int v3)]) hx hb dX5_own_39 rfl hl (by decide) rfl (fun ls hl => ?_)
        refine lv_iinc (v := (v3 + 1)) (lv' := [(3, .int (v3 + 1)), (2, .int (v2 + 0)), (0, .ref g1), (1, .int v1)]) hx hb dX5_own_40 hl (k := 3) rfl rfl (by decide) rfl (fun ls hl => ?_)
        refine lv_goto (tgt := 4) hx hb dX5_own_43 (by decide) ?_
        exact ih _ _ _ hk H locs ls hP hD hS (lv_sub hl [2, 3, 1, 0] rfl)
      · have hk := hk.2 c3
        refine lv_aload_n hx hb dX5_own_23 rfl (lv_at hl 0 rfl) ?_
        refine lv_iload_n hx hb dX5_own_24 rfl (lv_at hl 3 rfl) ?_
        refine lv_iload_n hx hb dX5_own_25 rfl (lv_at hl 1 rfl) ?_
        refine x_joini (ws1 := fun (_ : Unit) => [(g1, .inl (cI, 377, .inl f_p1))]) (x_runO (n0 := 3) (As := [.ref g1, .int v3, .int v1]) (rest := [.int v2]) C0 (xc_X5_syncedBy l D cI cC cZ cL g1 H.size f_p1 v3 v1 _ hk) gX5_own_X5_syncedBy rfl ⟨rfl, rfl⟩ (by decide +kernel) rfl ⟨by decide, by decide⟩ ⟨Nat.zero_le _, Nat.zero_le _⟩ hP hD [0] rfl rfl hl.1 rfl (Nat.le_of_ble_eq_true rfl) dX5_own_26) hP hD hS hA [0] [] [0] rfl rfl rfl (by decide) (fun _ => rfl) rfl (fun r4 u4 H locs hk hP hD hS => ?_)
        refine lv_iload_n hx hb dX5_own_29 rfl (lv_at hl 3 rfl) ?_
        refine lv_icmp_ne (tgt := 37) hx hb dX5_own_30 (by decide) (fun c5 => ?_) (fun c5 => ?_)
        · have hk := hk.1 c5
          refine lv_iconst (v := 0) hx hb dX5_own_37 (by decide) ?_
          refine lv_iadd hx hb dX5_own_38 ?_
          refine lv_istore_n (lv' := [(2, .int (v2 + 0)), (0, .ref g1), (1, .int v1), (3, .int v3)]) hx hb dX5_own_39 rfl hl (by decide) rfl (fun ls hl => ?_)
          refine lv_iinc (v := (v3 + 1)) (lv' := [(3, .int (v3 + 1)), (2, .int (v2 + 0)), (0, .ref g1), (1, .int v1)]) hx hb dX5_own_40 hl (k := 3) rfl rfl (by decide) rfl (fun ls hl => ?_)
          refine lv_goto (tgt := 4) hx hb dX5_own_43 (by decide) ?_
          exact ih _ _ _ hk H locs ls hP hD hS (lv_sub hl [2, 3, 1, 0] rfl)
        · have hk := hk.2 c5
          refine lv_iconst (v := 1) hx hb dX5_own_33 (by decide) ?_
          refine lv_goto (tgt := 38) hx hb dX5_own_34 (by decide) ?_
          refine lv_iadd hx hb dX5_own_38 ?_
          refine lv_istore_n (lv' := [(2, .int (v2 + 1)), (0, .ref g1), (1, .int v1), (3, .int v3)]) hx hb dX5_own_39 rfl hl (by decide) rfl (fun ls hl => ?_)
          refine lv_iinc (v := (v3 + 1)) (lv' := [(3, .int (v3 + 1)), (2, .int (v2 + 1)), (0, .ref g1), (1, .int v1)]) hx hb dX5_own_40 hl (k := 3) rfl rfl (by decide) rfl (fun ls hl => ?_)
          refine lv_goto (tgt := 4) hx hb dX5_own_43 (by decide) ?_
          exact ih _ _ _ hk H locs ls hP hD hS (lv_sub hl [2, 3, 1, 0] rfl)
set_option maxHeartbeats 4000000 in
set_option maxRecDepth 100000 in
theorem xb_X5_own_0 {p : Program} {l : Launch} {e : Env} {s : State} {m : MethodId} {args : Array Value} {below : List Frame} {meth : Method} {c : Code} {A : Nat → Prop} {D : va_G} {cI cC cZ cL : ClassId} {g1 : Nat}  {f_p1 : Nat → Int32} {K : Int32 → Prop}  (C0 : xC p s m args meth c cX5_own 4 (some .int) wsX5_own RX5 D (xTY cI cC cZ cL)) (hA : ∀ q : Nat, s.heap.size ≤ q → A q)  : ∀ (x2 : Int32) , xp_X5_own f_p1 x2 K → ∀ (H : Heap) (locs : List Loc) (ls : Array Slot), va_P D vwCl [(g1, .inl (cI, 377, .inl f_p1))] H → va_D A [(g1, .inl (cI, 377, .inl f_p1))] → va_S A s.heap H locs → lv_has ls 4 [(0, .ref g1), (1, .int x2)] → W p l e ({ frames := 3, cells := 0, slots := 0, locals := 77 } : Room) s m args below meth c H locs 0 0 (MQ below (va_Qi (fun (r : Int32) (_ : Unit) => K r) (fun u t => xE D A ((fun (_ : Unit) => [(g1, .inl (cI, 377, .inl f_p1))]) u) t) A) args s 0 0 A) (F0 m 0 ls []) := by
  obtain ⟨hx, hb, hr, hml, hown, hts, hlocks, hK, hN⟩ := id C0
  intro x2 hk H locs ls hP hD hS hl
  rw [xp_X5_own] at hk
  refine lv_iconst (v := 0) hx hb dX5_own_0 (by decide) ?_
  refine lv_istore_n (lv' := [(2, .int 0), (0, .ref g1), (1, .int x2)]) hx hb dX5_own_1 rfl hl (by decide) rfl (fun ls hl => ?_)
  refine lv_iconst (v := 0) hx hb dX5_own_2 (by decide) ?_
  refine lv_istore_n (lv' := [(3, .int 0), (2, .int 0), (0, .ref g1), (1, .int x2)]) hx hb dX5_own_3 rfl hl (by decide) rfl (fun ls hl => ?_)
  obtain ⟨n9, hk⟩ := hk
  exact xb_X5_own_4 C0 hA  n9 _ _ _ hk H locs ls hP hD hS (lv_sub hl [2, 3, 1, 0] rfl)
theorem xc_X5_own (l : Launch) (D : va_G) (cI cC cZ cL : ClassId) (g1 : Nat)  (sz : Nat) (f_p1 : Nat → Int32) (x2 : Int32) (K : Int32 → Prop) (hk : xp_X5_own f_p1 x2 K) : XMi l yX5_own wsX5_own ({ frames := 3, cells := 0, slots := 0, locals := 77 } : Room) D (xTY cI cC cZ cL) [.ref g1, .int x2] [(g1, .inl (cI, 377, .inl f_p1))] sz (fun (r : Int32) (_ : Unit) => K r) (fun (_ : Unit) => [(g1, .inl (cI, 377, .inl f_p1))]) :=
  x_enter (cc := cX5_own) (maxL := 4) (ret := (some .int)) (own := RX5) (by decide) rfl rfl (Nat.le_of_ble_eq_true rfl) (fun p e s m below meth c ls C0 hA hP hD hS hl => xb_X5_own_0 C0 hA _ hk s.heap [] ls hP hD hS hl)
set_option maxRecDepth 20000 in
theorem xin_X5_bestShift_X5 : ∀ w ∈ u_ws RX5 TX5 13, w ∈ wsX5_bestShift := by decide +kernel
set_option maxHeartbeats 4000000 in
set_option maxRecDepth 100000 in
theorem xb_X5_bestShift_70 {p : Program} {l : Launch} {e : Env} {s : State} {m : MethodId} {args : Array Value} {below : List Frame} {meth : Method} {c : Code} {A : Nat → Prop} {D : va_G} {cI cC cZ cL : ClassId} {h h_text h_now h_trial h_diary h_kept h_isKept h_line : Nat}  {f_size : Int32} {f_acts : Int32} {f_length : Int32} {f_spot : Int32} {f_out : Int32} {f_now : Nat → Int32} {K : Int32 → Int32 → Prop} {X18 : Int32 → Int32 → Int32 → Int32 → Prop} {X28 : Int32 → Int32 → Int32 → Int32 → Int32 → Prop} (C0 : xC p s m args meth c cX5_bestShift 6 (some .int) wsX5_bestShift RX5 D (xTY cI cC cZ cL)) (hA : ∀ q : Nat, s.heap.size ≤ q → A q) (hX18 : ∀ (f_refusal : Int32) (v1 : Int32) (v2 : Int32) (v3 : Int32), X18 f_refusal v1 v2 v3 → ∀ (H : Heap) (locs : List Loc) (ls : Array Slot), va_P D vwCl [(h, .inr (5, [.int f_refusal, .ref h_text, .int f_size, .ref h_now, .ref h_trial, .ref h_diary, .int f_acts, .ref h_kept, .ref h_isKept, .ref h_line, .int f_length, .int f_spot, .int f_out])), (h_now, .inl (cI, 377, .inl f_now))] H → va_D A [(h, .inr (5, [.int f_refusal, .ref h_text, .int f_size, .ref h_now, .ref h_trial, .ref h_diary, .int f_acts, .ref h_kept, .ref h_isKept, .ref h_line, .int f_length, .int f_spot, .int f_out])), (h_now, .inl (cI, 377, .inl f_now))] → va_S A s.heap H locs → lv_has ls 6 [(0, .ref h), (1, .int v1), (2, .int v2), (3, .int v3)] → W p l e ({ frames := 4, cells := 0, slots := 0, locals := 100 } : Room) s m args below meth c H locs 0 0 (MQ below (va_Qi (fun (r : Int32) (u : Int32) => K r u) (fun u t => xE D A ((fun (u : Int32) => [(h, .inr (5, [.int u, .ref h_text, .int f_size, .ref h_now, .ref h_trial, .ref h_diary, .int f_acts, .ref h_kept, .ref h_isKept, .ref h_line, .int f_length, .int f_spot, .int f_out])), (h_now, .inl (cI, 377, .inl f_now))]) u) t) A) args s 0 0 A) (F0 m 18 ls [])) (hX28 : ∀ (f_refusal : Int32) (v1 : Int32) (v2 : Int32) (v3 : Int32) (v4 : Int32), X28 f_refusal v1 v2 v3 v4 → ∀ (H : Heap) (locs : List Loc) (ls : Array Slot), va_P D vwCl [(h, .inr (5, [.int f_refusal, .ref h_text, .int f_size, .ref h_now, .ref h_trial, .ref h_diary, .int f_acts, .ref h_kept, .ref h_isKept, .ref h_line, .int f_length, .int f_spot, .int f_out])), (h_now, .inl (cI, 377, .inl f_now))] H → va_D A [(h, .inr (5, [.int f_refusal, .ref h_text, .int f_size, .ref h_now, .ref h_trial, .ref h_diary, .int f_acts, .ref h_kept, .ref h_isKept, .ref h_line, .int f_length, .int f_spot, .int f_out])), (h_now, .inl (cI, 377, .inl f_now))] → va_S A s.heap H locs → lv_has ls 6 [(0, .ref h), (1, .int v1), (2, .int v2), (3, .int v3), (4, .int v4)] → W p l e ({ frames := 4, cells := 0, slots := 0, locals := 100 } : Room) s m args below meth c H locs 0 0 (MQ below (va_Qi (fun (r : Int32) (u : Int32) => K r u) (fun u t => xE D A ((fun (u : Int32) => [(h, .inr (5, [.int u, .ref h_text, .int f_size, .ref h_now, .ref h_trial, .ref h_diary, .int f_acts, .ref h_kept, .ref h_isKept, .ref h_line, .int f_length, .int f_spot, .int f_out])), (h_now, .inl (cI, 377, .inl f_now))]) u) t) A) args s 0 0 A) (F0 m 28 ls [])) : ∀ (f_refusal : Int32) (v1 : Int32) (v3 : Int32) (v4 : Int32) (t0 : Int32) , xp_X5_bestShift_70 f_now K X18 X28 f_refusal v1 v3 v4 t0 → ∀ (H : Heap) (locs : List Loc) (ls : Array Slot), va_P D vwCl [(h, .inr (5, [.int f_refusal, .ref h_text, .int f_size, .ref h_now, .ref h_trial, .ref h_diary, .int f_acts, .ref h_kept, .ref h_isKept, .ref h_line, .int f_length, .int f_spot, .int f_out])), (h_now, .inl (cI, 377, .inl f_now))] H → va_D A [(h, .inr (5, [.int f_refusal, .ref h_text, .int f_size, .ref h_now, .ref h_trial, .ref h_diary, .int f_acts, .ref h_kept, .ref h_isKept, .ref h_line, .int f_length, .int f_spot, .int f_out])), (h_now, .inl (cI, 377, .inl f_now))] → va_S A s.heap H locs → lv_has ls 6 [(0, .ref h), (1, .int v1), (3, .int v3), (4, .int v4)] → W p l e ({ frames := 4, cells := 0, slots := 0, locals := 100 } : Room) s m args below meth c H locs 0 0 (MQ below (va_Qi (fun (r : Int32) (u : Int32) => K r u) (fun u t => xE D A ((fun (u : Int32) => [(h, .inr (5, [.int u, .ref h_text, .int f_size, .ref h_now, .ref h_trial, .ref h_diary, .int f_acts, .ref h_kept, .ref h_isKept, .ref h_line, .int f_length, .int f_spot, .int f_out])), (h_now, .inl (cI, 377, .inl f_now))]) u) t) A) args s 0 0 A) (F0 m 70 ls [.int t0]) := by
  obtain ⟨hx, hb, hr, hml, hown, hts, hlocks, hK, hN⟩ := id C0
  intro f_refusal v1 v3 v4 t0 hk H locs ls hP hD hS hl
  rw [xp_X5_bestShift_70] at hk
  refine lv_istore_n (lv' := [(2, .int t0), (0, .ref h), (1, .int v1), (3, .int v3), (4, .int v4)]) hx hb dX5_bestShift_70 rfl hl (by decide) rfl (fun ls hl => ?_)
  refine lv_iload hx hb dX5_bestShift_71 (lv_at hl 4 rfl) ?_
  refine lv_iconst (v := 2) hx hb dX5_bestShift_73 (by decide) ?_
  refine lv_iload_n hx hb dX5_bestShift_74 rfl (lv_at hl 3 rfl) ?_
  refine lv_imul hx hb dX5_bestShift_75 ?_
  refine lv_iadd hx hb dX5_bestShift_76 ?_
  refine lv_istore (lv' := [(4, .int (v4 + (2 * v3))), (2, .int t0), (0, .ref h), (1, .int v1), (3, .int v3)]) hx hb dX5_bestShift_77 hl (by decide) rfl (fun ls hl => ?_)
  refine lv_goto (tgt := 28) hx hb dX5_bestShift_79 (by decide) ?_
  exact hX28 _ _ _ _ _ hk H locs ls hP hD hS (lv_sub hl [2, 3, 1, 4, 0] rfl)
set_option maxHeartbeats 4000000 in
set_option maxRecDepth 100000 in
theorem xb_X5_bestShift_57 {p : Program} {l : Launch} {e : Env} {s : State} {m : MethodId} {args : Array Value} {below : List Frame} {meth : Method} {c : Code} {A : Nat → Prop} {D : va_G} {cI cC cZ cL : ClassId} {h h_text h_now h_trial h_diary h_kept h_isKept h_line : Nat}  {f_size : Int32} {f_acts : Int32} {f_length : Int32} {f_spot : Int32} {f_out : Int32} {f_now : Nat → Int32} {K : Int32 → Int32 → Prop} {X18 : Int32 → Int32 → Int32 → Int32 → Prop} {X28 : Int32 → Int32 → Int32 → Int32 → Int32 → Prop} (C0 : xC p s m args meth c cX5_bestShift 6 (some .int) wsX5_bestShift RX5 D (xTY cI cC cZ cL)) (hA : ∀ q : Nat, s.heap.size ≤ q → A q) (hX18 : ∀ (f_refusal : Int32) (v1 : Int32) (v2 : Int32) (v3 : Int32), X18 f_refusal v1 v2 v3 → ∀ (H : Heap) (locs : List Loc) (ls : Array Slot), va_P D vwCl [(h, .inr (5, [.int f_refusal, .ref h_text, .int f_size, .ref h_now, .ref h_trial, .ref h_diary, .int f_acts, .ref h_kept, .ref h_isKept, .ref h_line, .int f_length, .int f_spot, .int f_out])), (h_now, .inl (cI, 377, .inl f_now))] H → va_D A [(h, .inr (5, [.int f_refusal, .ref h_text, .int f_size, .ref h_now, .ref h_trial, .ref h_diary, .int f_acts, .ref h_kept, .ref h_isKept, .ref h_line, .int f_length, .int f_spot, .int f_out])), (h_now, .inl (cI, 377, .inl f_now))] → va_S A s.heap H locs → lv_has ls 6 [(0, .ref h), (1, .int v1), (2, .int v2), (3, .int v3)] → W p l e ({ frames := 4, cells := 0, slots := 0, locals := 100 } : Room) s m args below meth c H locs 0 0 (MQ below (va_Qi (fun (r : Int32) (u : Int32) => K r u) (fun u t => xE D A ((fun (u : Int32) => [(h, .inr (5, [.int u, .ref h_text, .int f_size, .ref h_now, .ref h_trial, .ref h_diary, .int f_acts, .ref h_kept, .ref h_isKept, .ref h_line, .int f_length, .int f_spot, .int f_out])), (h_now, .inl (cI, 377, .inl f_now))]) u) t) A) args s 0 0 A) (F0 m 18 ls [])) (hX28 : ∀ (f_refusal : Int32) (v1 : Int32) (v2 : Int32) (v3 : Int32) (v4 : Int32), X28 f_refusal v1 v2 v3 v4 → ∀ (H : Heap) (locs : List Loc) (ls : Array Slot), va_P D vwCl [(h, .inr (5, [.int f_refusal, .ref h_text, .int f_size, .ref h_now, .ref h_trial, .ref h_diary, .int f_acts, .ref h_kept, .ref h_isKept, .ref h_line, .int f_length, .int f_spot, .int f_out])), (h_now, .inl (cI, 377, .inl f_now))] H → va_D A [(h, .inr (5, [.int f_refusal, .ref h_text, .int f_size, .ref h_now, .ref h_trial, .ref h_diary, .int f_acts, .ref h_kept, .ref h_isKept, .ref h_line, .int f_length, .int f_spot, .int f_out])), (h_now, .inl (cI, 377, .inl f_now))] → va_S A s.heap H locs → lv_has ls 6 [(0, .ref h), (1, .int v1), (2, .int v2), (3, .int v3), (4, .int v4)] → W p l e ({ frames := 4, cells := 0, slots := 0, locals := 100 } : Room) s m args below meth c H locs 0 0 (MQ below (va_Qi (fun (r : Int32) (u : Int32) => K r u) (fun u t => xE D A ((fun (u : Int32) => [(h, .inr (5, [.int u, .ref h_text, .int f_size, .ref h_now, .ref h_trial, .ref h_diary, .int f_acts, .ref h_kept, .ref h_isKept, .ref h_line, .int f_length, .int f_spot, .int f_out])), (h_now, .inl (cI, 377, .inl f_now))]) u) t) A) args s 0 0 A) (F0 m 28 ls [])) : ∀ (f_refusal : Int32) (v2 : Int32) (v3 : Int32) (v4 : Int32) (v5 : Int32) (t0 : Int32) , xp_X5_bestShift_57 f_now K X18 X28 f_refusal v2 v3 v4 v5 t0 → ∀ (H : Heap) (locs : List Loc) (ls : Array Slot), va_P D vwCl [(h, .inr (5, [.int f_refusal, .ref h_text, .int f_size, .ref h_now, .ref h_trial, .ref h_diary, .int f_acts, .ref h_kept, .ref h_isKept, .ref h_line, .int f_length, .int f_spot, .int f_out])), (h_now, .inl (cI, 377, .inl f_now))] H → va_D A [(h, .inr (5, [.int f_refusal, .ref h_text, .int f_size, .ref h_now, .ref h_trial, .ref h_diary, .int f_acts, .ref h_kept, .ref h_isKept, .ref h_line, .int f_length, .int f_spot, .int f_out])), (h_now, .inl (cI, 377, .inl f_now))] → va_S A s.heap H locs → lv_has ls 6 [(0, .ref h), (2, .int v2), (3, .int v3), (4, .int v4), (5, .int v5)] → W p l e ({ frames := 4, cells := 0, slots := 0, locals := 100 } : Room) s m args below meth c H locs 0 0 (MQ below (va_Qi (fun (r : Int32) (u : Int32) => K r u) (fun u t => xE D A ((fun (u : Int32) => [(h, .inr (5, [.int u, .ref h_text, .int f_size, .ref h_now, .ref h_trial, .ref h_diary, .int f_acts, .ref h_kept, .ref h_isKept, .ref h_line, .int f_length, .int f_spot, .int f_out])), (h_now, .inl (cI, 377, .inl f_now))]) u) t) A) args s 0 0 A) (F0 m 57 ls [.int t0]) := by
  obtain ⟨hx, hb, hr, hml, hown, hts, hlocks, hK, hN⟩ := id C0
  intro f_refusal v2 v3 v4 v5 t0 hk H locs ls hP hD hS hl
  rw [xp_X5_bestShift_57] at hk
  refine lv_istore_n (lv' := [(1, .int t0), (0, .ref h), (2, .int v2), (3, .int v3), (4, .int v4), (5, .int v5)]) hx hb dX5_bestShift_57 rfl hl (by decide) rfl (fun ls hl => ?_)
  refine lv_iload hx hb dX5_bestShift_58 (lv_at hl 5 rfl) ?_
  refine lv_iload_n hx hb dX5_bestShift_60 rfl (lv_at hl 2 rfl) ?_
  refine lv_icmp_le (tgt := 69) hx hb dX5_bestShift_61 (by decide) (fun c1 => ?_) (fun c1 => ?_)
  · have hk := hk.1 c1
    refine lv_iload_n hx hb dX5_bestShift_69 rfl (lv_at hl 2 rfl) ?_
    exact xb_X5_bestShift_70 C0 hA hX18 hX28 _ _ _ _ _ hk H locs ls hP hD hS (lv_sub hl [1, 0, 3, 4] rfl)
  · have hk := hk.2 c1
    refine lv_iload hx hb dX5_bestShift_64 (lv_at hl 5 rfl) ?_
    refine lv_goto (tgt := 70) hx hb dX5_bestShift_66 (by decide) ?_
    exact xb_X5_bestShift_70 C0 hA hX18 hX28 _ _ _ _ _ hk H locs ls hP hD hS (lv_sub hl [1, 0, 3, 4] rfl)
set_option maxHeartbeats 4000000 in
set_option maxRecDepth 100000 in
theorem xb_X5_bestShift_28 {p : Program} {l : Launch} {e : Env} {s : State} {m : MethodId} {args : Array Value} {below : List Frame} {meth : Method} {c : Code} {A : Nat → Prop} {D : va_G} {cI cC cZ cL : ClassId} {h h_text h_now h_trial h_diary h_kept h_isKept h_line : Nat}  {f_size : Int32} {f_acts : Int32} {f_length : Int32} {f_spot : Int32} {f_out : Int32} {f_now : Nat → Int32} {K : Int32 → Int32 → Prop} {X18 : Int32 → Int32 → Int32 → Int32 → Prop} (C0 : xC p s m args meth c cX5_bestShift 6 (some .int) wsX5_bestShift RX5 D (xTY cI cC cZ cL)) (hA : ∀ q : Nat, s.heap.size ≤ q → A q) (hX18 : ∀ (f_refusal : Int32) (v1 : Int32) (v2 : Int32) (v3 : Int32), X18 f_refusal v1 v2 v3 → ∀ (H : Heap) (locs : List Loc) (ls : Array Slot), va_P D vwCl [(h, .inr (5, [.int f_refusal, .ref h_text, .int f_size, .ref h_now, .ref h_trial, .ref h_diary, .int f_acts, .ref h_kept, .ref h_isKept, .ref h_line, .int f_length, .int f_spot, .int f_out])), (h_now, .inl (cI, 377, .inl f_now))] H → va_D A [(h, .inr (5, [.int f_refusal, .ref h_text, .int f_size, .ref h_now, .ref h_trial, .ref h_diary, .int f_acts, .ref h_kept, .ref h_isKept, .ref h_line, .int f_length, .int f_spot, .int f_out])), (h_now, .inl (cI, 377, .inl f_now))] → va_S A s.heap H locs → lv_has ls 6 [(0, .ref h), (1, .int v1), (2, .int v2), (3, .int v3)] → W p l e ({ frames := 4, cells := 0, slots := 0, locals := 100 } : Room) s m args below meth c H locs 0 0 (MQ below (va_Qi (fun (r : Int32) (u : Int32) => K r u) (fun u t => xE D A ((fun (u : Int32) => [(h, .inr (5, [.int u, .ref h_text, .int f_size, .ref h_now, .ref h_trial, .ref h_diary, .int f_acts, .ref h_kept, .ref h_isKept, .ref h_line, .int f_length, .int f_spot, .int f_out])), (h_now, .inl (cI, 377, .inl f_now))]) u) t) A) args s 0 0 A) (F0 m 18 ls [])) : ∀ (n : Nat) (f_refusal : Int32) (v1 : Int32) (v2 : Int32) (v3 : Int32) (v4 : Int32) , xp_X5_bestShift_28 f_now K X18 n f_refusal v1 v2 v3 v4 → ∀ (H : Heap) (locs : List Loc) (ls : Array Slot), va_P D vwCl [(h, .inr (5, [.int f_refusal, .ref h_text, .int f_size, .ref h_now, .ref h_trial, .ref h_diary, .int f_acts, .ref h_kept, .ref h_isKept, .ref h_line, .int f_length, .int f_spot, .int f_out])), (h_now, .inl (cI, 377, .inl f_now))] H → va_D A [(h, .inr (5, [.int f_refusal, .ref h_text, .int f_size, .ref h_now, .ref h_trial, .ref h_diary, .int f_acts, .ref h_kept, .ref h_isKept, .ref h_line, .int f_length, .int f_spot, .int f_out])), (h_now, .inl (cI, 377, .inl f_now))] → va_S A s.heap H locs → lv_has ls 6 [(0, .ref h), (1, .int v1), (2, .int v2), (3, .int v3), (4, .int v4)] → W p l e ({ frames := 4, cells := 0, slots := 0, locals := 100 } : Room) s m args below meth c H locs 0 0 (MQ below (va_Qi (fun (r : Int32) (u : Int32) => K r u) (fun u t => xE D A ((fun (u : Int32) => [(h, .inr (5, [.int u, .ref h_text, .int f_size, .ref h_now, .ref h_trial, .ref h_diary, .int f_acts, .ref h_kept, .ref h_isKept, .ref h_line, .int f_length, .int f_spot, .int f_out])), (h_now, .inl (cI, 377, .inl f_now))]) u) t) A) args s 0 0 A) (F0 m 28 ls []) := by
  obtain ⟨hx, hb, hr, hml, hown, hts, hlocks, hK, hN⟩ := id C0
  intro n
  induction n with
  | zero => intro f_refusal v1 v2 v3 v4 hk; exact hk.elim
  | succ n ih =>
    intro f_refusal v1 v2 v3 v4 hk H locs ls hP hD hS hl
    rw [xp_X5_bestShift_28] at hk
    refine lv_iload hx hb dX5_bestShift_28 (lv_at hl 4 rfl) ?_
    refine lv_iload_n hx hb dX5_bestShift_30 rfl (lv_at hl 3 rfl) ?_
    refine lv_icmp_gt (tgt := 82) hx hb dX5_bestShift_31 (by decide) (fun c1 => ?_) (fun c1 => ?_)
    · have hk := hk.1 c1
      refine lv_iinc (v := (v3 + 1)) (lv' := [(3, .int (v3 + 1)), (0, .ref h), (1, .int v1), (2, .int v2), (4, .int v4)]) hx hb dX5_bestShift_82 hl (k := 3) rfl rfl (by decide) rfl (fun ls hl => ?_)
      refine lv_goto (tgt := 18) hx hb dX5_bestShift_85 (by decide) ?_
      exact hX18 _ _ _ _ hk H locs ls hP hD hS (lv_sub hl [1, 2, 3, 0] rfl)
    · have hk := hk.2 c1
      refine lv_aload_n hx hb dX5_bestShift_34 rfl (lv_at hl 0 rfl) ?_
      refine va_get (D := D) (ci := 5) (v := .ref h_now) (C := RX5) (T := TX5) (N := 13) hx hb hts xin_X5_bestShift_X5 hown hK hP 0 rfl rfl 3 (by decide) (hts (.fieldLink RX5 13 "TakeLogModel" "now" "[I") (by decide +kernel)) (fun _ h9 => h9) rfl dX5_bestShift_35 ?_
      refine lv_iload hx hb dX5_bestShift_38 (lv_at hl 4 rfl) ?_
      refine x_joini (ws1 := fun (_ : Unit) => [(h, .inr (5, [.int f_refusal, .ref h_text, .int f_size, .ref h_now, .ref h_trial, .ref h_diary, .int f_acts, .ref h_kept, .ref h_isKept, .ref h_line, .int f_length, .int f_spot, .int f_out])), (h_now, .inl (cI, 377, .inl f_now))]) (x_runO (n0 := 2) (As := [.ref h_now, .int v4]) (rest := []) C0 (xc_X5_own l D cI cC cZ cL h_now H.size f_now v4 _ hk) gX5_bestShift_X5_own rfl ⟨rfl, rfl⟩ (by decide +kernel) rfl ⟨by decide, by decide⟩ ⟨Nat.zero_le _, Nat.zero_le _⟩ hP hD [1] rfl rfl hl.1 rfl (Nat.le_of_ble_eq_true rfl) dX5_bestShift_40) hP hD hS hA [1] [0] [0, 1] rfl rfl rfl (by decide) (fun _ => rfl) rfl (fun r2 u2 H locs hk hP hD hS => ?_)
      refine lv_istore (lv' := [(5, .int r2), (0, .ref h), (1, .int v1), (2, .int v2), (3, .int v3), (4, .int v4)]) hx hb dX5_bestShift_43 hl (by decide) rfl (fun ls hl => ?_)
      refine lv_iload hx hb dX5_bestShift_45 (lv_at hl 0 rfl) ?_
      refine lv_iload_n hx hb dX5_bestShift_47 rfl (lv_at hl 3 rfl) ?_
      refine lv_icmp_le (tgt := 56) hx hb dX5_bestShift_48 (by decide) (fun c3 => ?_) (fun c3 => ?_)
      · have hk := hk.1 c3
        refine lv_iload_n hx hb dX5_bestShift_56 rfl (lv_at hl 2 rfl) ?_
        exact xb_X5_bestShift_57 C0 hA hX18 ih _ _ _ _ _ _ hk H locs ls hP hD hS (lv_sub hl [1, 3, 4, 5, 0] rfl)
      · have hk := hk.2 c3
        refine lv_iload hx hb dX5_bestShift_51 (lv_at hl 5 rfl) ?_
        refine lv_goto (tgt := 57) hx hb dX5_bestShift_53 (by decide) ?_
        exact xb_X5_bestShift_57 C0 hA hX18 ih _ _ _ _ _ _ hk H locs ls hP hD hS (lv_sub hl [1, 3, 4, 5, 0] rfl)
set_option maxHeartbeats 4000000 in
set_option maxRecDepth 100000 in
theorem xb_X5_bestShift_18 {p : Program} {l : Launch} {e : Env} {s : State} {m : MethodId} {args : Array Value} {below : List Frame} {meth : Method} {c : Code} {A : Nat → Prop} {D : va_G} {cI cC cZ cL : ClassId} {h h_text h_now h_trial h_diary h_kept h_isKept h_line : Nat}  {f_size : Int32} {f_acts : Int32} {f_length : Int32} {f_spot : Int32} {f_out : Int32} {f_now : Nat → Int32} {K : Int32 → Int32 → Prop}  (C0 : xC p s m args meth c cX5_bestShift 6 (some .int) wsX5_bestShift RX5 D (xTY cI cC cZ cL)) (hA : ∀ q : Nat, s.heap.size ≤ q → A q)  : ∀ (n : Nat) (f_refusal : Int32) (v1 : Int32) (v2 : Int32) (v3 : Int32) , xp_X5_bestShift_18 f_now K n f_refusal v1 v2 v3 → ∀ (H : Heap) (locs : List Loc) (ls : Array Slot), va_P D vwCl [(h, .inr (5, [.int f_refusal, .ref h_text, .int f_size, .ref h_now, .ref h_trial, .ref h_diary, .int f_acts, .ref h_kept, .ref h_isKept, .ref h_line, .int f_length, .int f_spot, .int f_out])), (h_now, .inl (cI, 377, .inl f_now))] H → va_D A [(h, .inr (5, [.int f_refusal, .ref h_text, .int f_size, .ref h_now, .ref h_trial, .ref h_diary, .int f_acts, .ref h_kept, .ref h_isKept, .ref h_line, .int f_length, .int f_spot, .int f_out])), (h_now, .inl (cI, 377, .inl f_now))] → va_S A s.heap H locs → lv_has ls 6 [(0, .ref h), (1, .int v1), (2, .int v2), (3, .int v3)] → W p l e ({ frames := 4, cells := 0, slots := 0, locals := 100 } : Room) s m args below meth c H locs 0 0 (MQ below (va_Qi (fun (r : Int32) (u : Int32) => K r u) (fun u t => xE D A ((fun (u : Int32) => [(h, .inr (5, [.int u, .ref h_text, .int f_size, .ref h_now, .ref h_trial, .ref h_diary, .int f_acts, .ref h_kept, .ref h_isKept, .ref h_line, .int f_length, .int f_spot, .int f_out])), (h_now, .inl (cI, 377, .inl f_now))]) u) t) A) args s 0 0 A) (F0 m 18 ls []) := by
  obtain ⟨hx, hb, hr, hml, hown, hts, hlocks, hK, hN⟩ := id C0
  intro n
  induction n with
  | zero => intro f_refusal v1 v2 v3 hk; exact hk.elim
  | succ n ih =>
    intro f_refusal v1 v2 v3 hk H locs ls hP hD hS hl
    rw [xp_X5_bestShift_18] at hk
    refine lv_iload_n hx hb dX5_bestShift_18 rfl (lv_at hl 3 rfl) ?_
    refine lv_bipush (v := 99) hx hb dX5_bestShift_19 (by decide) ?_
    refine lv_icmp_gt (tgt := 88) hx hb dX5_bestShift_21 (by decide) (fun c1 => ?_) (fun c1 => ?_)
    · have hk := hk.1 c1
      refine lv_iload_n hx hb dX5_bestShift_88 rfl (lv_at hl 1 rfl) ?_
      exact x_reti C0 (f_refusal) hk hP hD hS dX5_bestShift_89
    · have hk := hk.2 c1
      refine lv_iload_n hx hb dX5_bestShift_24 rfl (lv_at hl 3 rfl) ?_
      refine lv_ineg hx hb dX5_bestShift_25 ?_
      refine lv_istore (lv' := [(4, .int (-v3)), (0, .ref h), (1, .int v1), (2, .int v2), (3, .int v3)]) hx hb dX5_bestShift_26 hl (by decide) rfl (fun ls hl => ?_)
      obtain ⟨n9, hk⟩ := hk
      exact xb_X5_bestShift_28 C0 hA ih n9 _ _ _ _ _ hk H locs ls hP hD hS (lv_sub hl [1, 2, 3, 4, 0] rfl)
set_option maxHeartbeats 4000000 in
set_option maxRecDepth 100000 in
theorem xb_X5_bestShift_0 {p : Program} {l : Launch} {e : Env} {s : State} {m : MethodId} {args : Array Value} {below : List Frame} {meth : Method} {c : Code} {A : Nat → Prop} {D : va_G} {cI cC cZ cL : ClassId} {h h_text h_now h_trial h_diary h_kept h_isKept h_line : Nat}  {f_size : Int32} {f_acts : Int32} {f_length : Int32} {f_spot : Int32} {f_out : Int32} {f_now : Nat → Int32} {K : Int32 → Int32 → Prop}  (C0 : xC p s m args meth c cX5_bestShift 6 (some .int) wsX5_bestShift RX5 D (xTY cI cC cZ cL)) (hA : ∀ q : Nat, s.heap.size ≤ q → A q)  : ∀ (f_refusal : Int32) , xp_X5_bestShift f_now f_refusal K → ∀ (H : Heap) (locs : List Loc) (ls : Array Slot), va_P D vwCl [(h, .inr (5, [.int f_refusal, .ref h_text, .int f_size, .ref h_now, .ref h_trial, .ref h_diary, .int f_acts, .ref h_kept, .ref h_isKept, .ref h_line, .int f_length, .int f_spot, .int f_out])), (h_now, .inl (cI, 377, .inl f_now))] H → va_D A [(h, .inr (5, [.int f_refusal, .ref h_text, .int f_size, .ref h_now, .ref h_trial, .ref h_diary, .int f_acts, .ref h_kept, .ref h_isKept, .ref h_line, .int f_length, .int f_spot, .int f_out])), (h_now, .inl (cI, 377, .inl f_now))] → va_S A s.heap H locs → lv_has ls 6 [(0, .ref h)] → W p l e ({ frames := 4, cells := 0, slots := 0, locals := 100 } : Room) s m args below meth c H locs 0 0 (MQ below (va_Qi (fun (r : Int32) (u : Int32) => K r u) (fun u t => xE D A ((fun (u : Int32) => [(h, .inr (5, [.int u, .ref h_text, .int f_size, .ref h_now, .ref h_trial, .ref h_diary, .int f_acts, .ref h_kept, .ref h_isKept, .ref h_line, .int f_length, .int f_spot, .int f_out])), (h_now, .inl (cI, 377, .inl f_now))]) u) t) A) args s 0 0 A) (F0 m 0 ls []) := by
  obtain ⟨hx, hb, hr, hml, hown, hts, hlocks, hK, hN⟩ := id C0
  intro f_refusal hk H locs ls hP hD hS hl
  rw [xp_X5_bestShift] at hk
  refine lv_aload_n hx hb dX5_bestShift_0 rfl (lv_at hl 0 rfl) ?_
  refine lv_iconst (v := 0) hx hb dX5_bestShift_1 (by decide) ?_
  refine va_put (D := D) (ci := 5) (v := .int 0) (ty := .int) (C := RX5) (T := TX5) (N := 13) hx hb hts xin_X5_bestShift_X5 tyX5 tyX5_ok nmX5 hown hK hP hD hS 0 rfl rfl 0 (by decide) (hts (.fieldLink RX5 36 "TakeLogModel" "refusal" "I") (by decide +kernel)) (fun _ h9 => h9) rfl (by decide +kernel) rfl rfl (Nat.le_of_ble_eq_true rfl) dX5_bestShift_2 (fun H locs hP hD hS => ?_)
  have hP : va_P D vwCl [(h, .inr (5, [.int 0, .ref h_text, .int f_size, .ref h_now, .ref h_trial, .ref h_diary, .int f_acts, .ref h_kept, .ref h_isKept, .ref h_line, .int f_length, .int f_spot, .int f_out])), (h_now, .inl (cI, 377, .inl f_now))] H := hP
  have hD : va_D A [(h, .inr (5, [.int 0, .ref h_text, .int f_size, .ref h_now, .ref h_trial, .ref h_diary, .int f_acts, .ref h_kept, .ref h_isKept, .ref h_line, .int f_length, .int f_spot, .int f_out])), (h_now, .inl (cI, 377, .inl f_now))] := hD
  refine lv_iconst (v := 0) hx hb dX5_bestShift_5 (by decide) ?_
  refine lv_istore_n (lv' := [(1, .int 0), (0, .ref h)]) hx hb dX5_bestShift_6 rfl hl (by decide) rfl (fun ls hl => ?_)
  refine lv_aload_n hx hb dX5_bestShift_7 rfl (lv_at hl 1 rfl) ?_
  refine va_get (D := D) (ci := 5) (v := .ref h_now) (C := RX5) (T := TX5) (N := 13) hx hb hts xin_X5_bestShift_X5 hown hK hP 0 rfl rfl 3 (by decide) (hts (.fieldLink RX5 13 "TakeLogModel" "now" "[I") (by decide +kernel)) (fun _ h9 => h9) rfl dX5_bestShift_8 ?_
  refine lv_iconst (v := 0) hx hb dX5_bestShift_11 (by decide) ?_
  refine x_joini (ws1 := fun (_ : Unit) => [(h, .inr (5, [.int 0, .ref h_text, .int f_size, .ref h_now, .ref h_trial, .ref h_diary, .int f_acts, .ref h_kept, .ref h_isKept, .ref h_line, .int f_length, .int f_spot, .int f_out])), (h_now, .inl (cI, 377, .inl f_now))]) (x_runO (n0 := 2) (As := [.ref h_now, .int 0]) (rest := []) C0 (xc_X5_own l D cI cC cZ cL h_now H.size f_now 0 _ hk) gX5_bestShift_X5_own rfl ⟨rfl, rfl⟩ (by decide +kernel) rfl ⟨by decide, by decide⟩ ⟨Nat.zero_le _, Nat.zero_le _⟩ hP hD [1] rfl rfl hl.1 rfl (Nat.le_of_ble_eq_true rfl) dX5_bestShift_12) hP hD hS hA [1] [0] [0, 1] rfl rfl rfl (by decide) (fun _ => rfl) rfl (fun r1 u1 H locs hk hP hD hS => ?_)
  refine lv_istore_n (lv' := [(2, .int r1), (1, .int 0), (0, .ref h)]) hx hb dX5_bestShift_15 rfl hl (by decide) rfl (fun ls hl => ?_)
  refine lv_iconst (v := 1) hx hb dX5_bestShift_16 (by decide) ?_
  refine lv_istore_n (lv' := [(3, .int 1), (2, .int r1), (1, .int 0), (0, .ref h)]) hx hb dX5_bestShift_17 rfl hl (by decide) rfl (fun ls hl => ?_)
  obtain ⟨n9, hk⟩ := hk
  exact xb_X5_bestShift_18 C0 hA  n9 _ _ _ _ hk H locs ls hP hD hS (lv_sub hl [3, 2, 1, 0] rfl)
theorem xc_X5_bestShift (l : Launch) (D : va_G) (cI cC cZ cL : ClassId) (h h_text h_now h_trial h_diary h_kept h_isKept h_line : Nat)  (sz : Nat) (f_refusal : Int32) (f_size : Int32) (f_acts : Int32) (f_length : Int32) (f_spot : Int32) (f_out : Int32) (f_now : Nat → Int32)  (K : Int32 → Int32 → Prop) (hk : xp_X5_bestShift f_now f_refusal K) : XMi l yX5_bestShift wsX5_bestShift ({ frames := 4, cells := 0, slots := 0, locals := 100 } : Room) D (xTY cI cC cZ cL) [.ref h] [(h, .inr (5, [.int f_refusal, .ref h_text, .int f_size, .ref h_now, .ref h_trial, .ref h_diary, .int f_acts, .ref h_kept, .ref h_isKept, .ref h_line, .int f_length, .int f_spot, .int f_out])), (h_now, .inl (cI, 377, .inl f_now))] sz (fun (r : Int32) (u : Int32) => K r u) (fun (u : Int32) => [(h, .inr (5, [.int u, .ref h_text, .int f_size, .ref h_now, .ref h_trial, .ref h_diary, .int f_acts, .ref h_kept, .ref h_isKept, .ref h_line, .int f_length, .int f_spot, .int f_out])), (h_now, .inl (cI, 377, .inl f_now))]) :=
  x_enter (cc := cX5_bestShift) (maxL := 6) (ret := (some .int)) (own := RX5) (by decide) rfl rfl (Nat.le_of_ble_eq_true rfl) (fun p e s m below meth c ls C0 hA hP hD hS hl => xb_X5_bestShift_0 C0 hA _ hk s.heap [] ls hP hD hS hl)
set_option maxRecDepth 20000 in
theorem xin_X5_rolls_X5 : ∀ w ∈ u_ws RX5 TX5 13, w ∈ wsX5_rolls := by decide +kernel
set_option maxHeartbeats 4000000 in
set_option maxRecDepth 100000 in
theorem xb_X5_rolls_74 {p : Program} {l : Launch} {e : Env} {s : State} {m : MethodId} {args : Array Value} {below : List Frame} {meth : Method} {c : Code} {A : Nat → Prop} {D : va_G} {cI cC cZ cL : ClassId} {h h_text h_now h_trial h_diary h_kept h_isKept h_line : Nat}  {f_size : Int32} {f_acts : Int32} {f_length : Int32} {f_spot : Int32} {f_out : Int32} {f_now : Nat → Int32} {K : Int32 → Int32 → Prop} {X52 : Int32 → Int32 → Int32 → Int32 → Int32 → Int32 → Prop} (C0 : xC p s m args meth c cX5_rolls 6 (some .int) wsX5_rolls RX5 D (xTY cI cC cZ cL)) (hA : ∀ q : Nat, s.heap.size ≤ q → A q) (hX52 : ∀ (f_refusal : Int32) (v1 : Int32) (v2 : Int32) (v3 : Int32) (v4 : Int32) (v5 : Int32), X52 f_refusal v1 v2 v3 v4 v5 → ∀ (H : Heap) (locs : List Loc) (ls : Array Slot), va_P D vwCl [(h, .inr (5, [.int f_refusal, .ref h_text, .int f_size, .ref h_now, .ref h_trial, .ref h_diary, .int f_acts, .ref h_kept, .ref h_isKept, .ref h_line, .int f_length, .int f_spot, .int f_out])), (h_now, .inl (cI, 377, .inl f_now))] H → va_D A [(h, .inr (5, [.int f_refusal, .ref h_text, .int f_size, .ref h_now, .ref h_trial, .ref h_diary, .int f_acts, .ref h_kept, .ref h_isKept, .ref h_line, .int f_length, .int f_spot, .int f_out])), (h_now, .inl (cI, 377, .inl f_now))] → va_S A s.heap H locs → lv_has ls 6 [(0, .ref h), (1, .int v1), (2, .int v2), (3, .int v3), (4, .int v4), (5, .int v5)] → W p l e ({ frames := 1, cells := 0, slots := 0, locals := 25 } : Room) s m args below meth c H locs 0 0 (MQ below (va_Qi (fun (r : Int32) (u : Int32) => K r u) (fun u t => xE D A ((fun (u : Int32) => [(h, .inr (5, [.int u, .ref h_text, .int f_size, .ref h_now, .ref h_trial, .ref h_diary, .int f_acts, .ref h_kept, .ref h_isKept, .ref h_line, .int f_length, .int f_spot, .int f_out])), (h_now, .inl (cI, 377, .inl f_now))]) u) t) A) args s 0 0 A) (F0 m 52 ls [])) : ∀ (f_refusal : Int32) (v1 : Int32) (v2 : Int32) (v3 : Int32) (v4 : Int32) (v5 : Int32) , xp_X5_rolls_74 f_now K X52 f_refusal v1 v2 v3 v4 v5 → ∀ (H : Heap) (locs : List Loc) (ls : Array Slot), va_P D vwCl [(h, .inr (5, [.int f_refusal, .ref h_text, .int f_size, .ref h_now, .ref h_trial, .ref h_diary, .int f_acts, .ref h_kept, .ref h_isKept, .ref h_line, .int f_length, .int f_spot, .int f_out])), (h_now, .inl (cI, 377, .inl f_now))] H → va_D A [(h, .inr (5, [.int f_refusal, .ref h_text, .int f_size, .ref h_now, .ref h_trial, .ref h_diary, .int f_acts, .ref h_kept, .ref h_isKept, .ref h_line, .int f_length, .int f_spot, .int f_out])), (h_now, .inl (cI, 377, .inl f_now))] → va_S A s.heap H locs → lv_has ls 6 [(0, .ref h), (1, .int v1), (2, .int v2), (3, .int v3), (4, .int v4), (5, .int v5)] → W p l e ({ frames := 1, cells := 0, slots := 0, locals := 25 } : Room) s m args below meth c H locs 0 0 (MQ below (va_Qi (fun (r : Int32) (u : Int32) => K r u) (fun u t => xE D A ((fun (u : Int32) => [(h, .inr (5, [.int u, .ref h_text, .int f_size, .ref h_now, .ref h_trial, .ref h_diary, .int f_acts, .ref h_kept, .ref h_isKept, .ref h_line, .int f_length, .int f_spot, .int f_out])), (h_now, .inl (cI, 377, .inl f_now))]) u) t) A) args s 0 0 A) (F0 m 74 ls []) := by
  obtain ⟨hx, hb, hr, hml, hown, hts, hlocks, hK, hN⟩ := id C0
  intro f_refusal v1 v2 v3 v4 v5 hk H locs ls hP hD hS hl
  rw [xp_X5_rolls_74] at hk
  refine lv_iload_n hx hb dX5_rolls_74 rfl (lv_at hl 3 rfl) ?_
  refine lv_iload_n hx hb dX5_rolls_75 rfl (lv_at hl 3 rfl) ?_
  refine lv_iload_n hx hb dX5_rolls_76 rfl (lv_at hl 1 rfl) ?_
  refine lv_icmp_ge (tgt := 84) hx hb dX5_rolls_77 (by decide) (fun c1 => ?_) (fun c1 => ?_)
  · have hk := hk.1 c1
    refine lv_iload_n hx hb dX5_rolls_84 rfl (lv_at hl 1 rfl) ?_
    refine lv_isub hx hb dX5_rolls_85 ?_
    refine lv_istore_n (lv' := [(3, .int (v3 - v1)), (0, .ref h), (1, .int v1), (2, .int v2), (4, .int v4), (5, .int v5)]) hx hb dX5_rolls_86 rfl hl (by decide) rfl (fun ls hl => ?_)
    refine lv_iinc (v := (v5 + 1)) (lv' := [(5, .int (v5 + 1)), (3, .int (v3 - v1)), (0, .ref h), (1, .int v1), (2, .int v2), (4, .int v4)]) hx hb dX5_rolls_87 hl (k := 5) rfl rfl (by decide) rfl (fun ls hl => ?_)
    refine lv_goto (tgt := 52) hx hb dX5_rolls_90 (by decide) ?_
    exact hX52 _ _ _ _ _ _ hk H locs ls hP hD hS (lv_sub hl [2, 3, 4, 1, 5, 0] rfl)
  · have hk := hk.2 c1
    refine lv_iload_n hx hb dX5_rolls_80 rfl (lv_at hl 3 rfl) ?_
    refine lv_goto (tgt := 85) hx hb dX5_rolls_81 (by decide) ?_
    refine lv_isub hx hb dX5_rolls_85 ?_
    refine lv_istore_n (lv' := [(3, .int (v3 - v3)), (0, .ref h), (1, .int v1), (2, .int v2), (4, .int v4), (5, .int v5)]) hx hb dX5_rolls_86 rfl hl (by decide) rfl (fun ls hl => ?_)
    refine lv_iinc (v := (v5 + 1)) (lv' := [(5, .int (v5 + 1)), (3, .int (v3 - v3)), (0, .ref h), (1, .int v1), (2, .int v2), (4, .int v4)]) hx hb dX5_rolls_87 hl (k := 5) rfl rfl (by decide) rfl (fun ls hl => ?_)
    refine lv_goto (tgt := 52) hx hb dX5_rolls_90 (by decide) ?_
    exact hX52 _ _ _ _ _ _ hk H locs ls hP hD hS (lv_sub hl [2, 3, 4, 1, 5, 0] rfl)
set_option maxHeartbeats 4000000 in
set_option maxRecDepth 100000 in
theorem xb_X5_rolls_52 {p : Program} {l : Launch} {e : Env} {s : State} {m : MethodId} {args : Array Value} {below : List Frame} {meth : Method} {c : Code} {A : Nat → Prop} {D : va_G} {cI cC cZ cL : ClassId} {h h_text h_now h_trial h_diary h_kept h_isKept h_line : Nat}  {f_size : Int32} {f_acts : Int32} {f_length : Int32} {f_spot : Int32} {f_out : Int32} {f_now : Nat → Int32} {K : Int32 → Int32 → Prop}  (C0 : xC p s m args meth c cX5_rolls 6 (some .int) wsX5_rolls RX5 D (xTY cI cC cZ cL)) (hA : ∀ q : Nat, s.heap.size ≤ q → A q)  : ∀ (n : Nat) (f_refusal : Int32) (v1 : Int32) (v2 : Int32) (v3 : Int32) (v4 : Int32) (v5 : Int32) , xp_X5_rolls_52 f_now K n f_refusal v1 v2 v3 v4 v5 → ∀ (H : Heap) (locs : List Loc) (ls : Array Slot), va_P D vwCl [(h, .inr (5, [.int f_refusal, .ref h_text, .int f_size, .ref h_now, .ref h_trial, .ref h_diary, .int f_acts, .ref h_kept, .ref h_isKept, .ref h_line, .int f_length, .int f_spot, .int f_out])), (h_now, .inl (cI, 377, .inl f_now))] H → va_D A [(h, .inr (5, [.int f_refusal, .ref h_text, .int f_size, .ref h_now, .ref h_trial, .ref h_diary, .int f_acts, .ref h_kept, .ref h_isKept, .ref h_line, .int f_length, .int f_spot, .int f_out])), (h_now, .inl (cI, 377, .inl f_now))] → va_S A s.heap H locs → lv_has ls 6 [(0, .ref h), (1, .int v1), (2, .int v2), (3, .int v3), (4, .int v4), (5, .int v5)] → W p l e ({ frames := 1, cells := 0, slots := 0, locals := 25 } : Room) s m args below meth c H locs 0 0 (MQ below (va_Qi (fun (r : Int32) (u : Int32) => K r u) (fun u t => xE D A ((fun (u : Int32) => [(h, .inr (5, [.int u, .ref h_text, .int f_size, .ref h_now, .ref h_trial, .ref h_diary, .int f_acts, .ref h_kept, .ref h_isKept, .ref h_line, .int f_length, .int f_spot, .int f_out])), (h_now, .inl (cI, 377, .inl f_now))]) u) t) A) args s 0 0 A) (F0 m 52 ls []) := by
  obtain ⟨hx, hb, hr, hml, hown, hts, hlocks, hK, hN⟩ := id C0
  intro n
  induction n with
  | zero => intro f_refusal v1 v2 v3 v4 v5 hk; exact hk.elim
  | succ n ih =>
    intro f_refusal v1 v2 v3 v4 v5 hk H locs ls hP hD hS hl
    rw [xp_X5_rolls_52] at hk
    refine lv_iload hx hb dX5_rolls_52 (lv_at hl 5 rfl) ?_
    refine lv_iload_n hx hb dX5_rolls_54 rfl (lv_at hl 2 rfl) ?_
    refine lv_icmp_ge (tgt := 93) hx hb dX5_rolls_55 (by decide) (fun c1 => ?_) (fun c1 => ?_)
    · have hk := hk.1 c1
      refine lv_iload hx hb dX5_rolls_93 (lv_at hl 4 rfl) ?_
      exact x_reti C0 (f_refusal) hk hP hD hS dX5_rolls_95
    · have hk := hk.2 c1
      refine lv_iload_n hx hb dX5_rolls_58 rfl (lv_at hl 3 rfl) ?_
      refine lv_iload_n hx hb dX5_rolls_59 rfl (lv_at hl 1 rfl) ?_
      refine lv_icmp_ge (tgt := 74) hx hb dX5_rolls_60 (by decide) (fun c2 => ?_) (fun c2 => ?_)
      · have hk := hk.1 c2
        exact xb_X5_rolls_74 C0 hA ih _ _ _ _ _ _ hk H locs ls hP hD hS (lv_sub hl [0, 1, 2, 3, 4, 5] rfl)
      · have hk := hk.2 c2
        refine lv_iinc (v := (v4 + 1)) (lv' := [(4, .int (v4 + 1)), (0, .ref h), (1, .int v1), (2, .int v2), (3, .int v3), (5, .int v5)]) hx hb dX5_rolls_63 hl (k := 4) rfl rfl (by decide) rfl (fun ls hl => ?_)
        refine lv_aload_n hx hb dX5_rolls_66 rfl (lv_at hl 1 rfl) ?_
        refine va_get (D := D) (ci := 5) (v := .ref h_now) (C := RX5) (T := TX5) (N := 13) hx hb hts xin_X5_rolls_X5 hown hK hP 0 rfl rfl 3 (by decide) (hts (.fieldLink RX5 13 "TakeLogModel" "now" "[I") (by decide +kernel)) (fun _ h9 => h9) rfl dX5_rolls_67 ?_
        refine lv_bipush (v := 13) hx hb dX5_rolls_70 (by decide) ?_
        refine x_iald (k := 13) hx hb hK hP 1 0 rfl rfl (x_lit rfl (by decide) (by decide)) rfl (v := (f_now 13)) rfl dX5_rolls_72 ?_
        refine lv_istore_n (lv' := [(3, .int (f_now 13)), (4, .int (v4 + 1)), (0, .ref h), (1, .int v1), (2, .int v2), (5, .int v5)]) hx hb dX5_rolls_73 rfl hl (by decide) rfl (fun ls hl => ?_)
        exact xb_X5_rolls_74 C0 hA ih _ _ _ _ _ _ hk H locs ls hP hD hS (lv_sub hl [2, 3, 4, 0, 1, 5] rfl)
set_option maxHeartbeats 4000000 in
set_option maxRecDepth 100000 in
theorem xb_X5_rolls_30 {p : Program} {l : Launch} {e : Env} {s : State} {m : MethodId} {args : Array Value} {below : List Frame} {meth : Method} {c : Code} {A : Nat → Prop} {D : va_G} {cI cC cZ cL : ClassId} {h h_text h_now h_trial h_diary h_kept h_isKept h_line : Nat}  {f_size : Int32} {f_acts : Int32} {f_length : Int32} {f_spot : Int32} {f_out : Int32} {f_now : Nat → Int32} {K : Int32 → Int32 → Prop}  (C0 : xC p s m args meth c cX5_rolls 6 (some .int) wsX5_rolls RX5 D (xTY cI cC cZ cL)) (hA : ∀ q : Nat, s.heap.size ≤ q → A q)  : ∀ (f_refusal : Int32) (v1 : Int32) (v2 : Int32) (t0 : Int32) , xp_X5_rolls_30 f_now K f_refusal v1 v2 t0 → ∀ (H : Heap) (locs : List Loc) (ls : Array Slot), va_P D vwCl [(h, .inr (5, [.int f_refusal, .ref h_text, .int f_size, .ref h_now, .ref h_trial, .ref h_diary, .int f_acts, .ref h_kept, .ref h_isKept, .ref h_line, .int f_length, .int f_spot, .int f_out])), (h_now, .inl (cI, 377, .inl f_now))] H → va_D A [(h, .inr (5, [.int f_refusal, .ref h_text, .int f_size, .ref h_now, .ref h_trial, .ref h_diary, .int f_acts, .ref h_kept, .ref h_isKept, .ref h_line, .int f_length, .int f_spot, .int f_out])), (h_now, .inl (cI, 377, .inl f_now))] → va_S A s.heap H locs → lv_has ls 6 [(0, .ref h), (1, .int v1), (2, .int v2)] → W p l e ({ frames := 1, cells := 0, slots := 0, locals := 25 } : Room) s m args below meth c H locs 0 0 (MQ below (va_Qi (fun (r : Int32) (u : Int32) => K r u) (fun u t => xE D A ((fun (u : Int32) => [(h, .inr (5, [.int u, .ref h_text, .int f_size, .ref h_now, .ref h_trial, .ref h_diary, .int f_acts, .ref h_kept, .ref h_isKept, .ref h_line, .int f_length, .int f_spot, .int f_out])), (h_now, .inl (cI, 377, .inl f_now))]) u) t) A) args s 0 0 A) (F0 m 30 ls [.int t0, .ref h]) := by
  obtain ⟨hx, hb, hr, hml, hown, hts, hlocks, hK, hN⟩ := id C0
  intro f_refusal v1 v2 t0 hk H locs ls hP hD hS hl
  rw [xp_X5_rolls_30] at hk
  refine x_joini (ws1 := fun (u1 : Int32) => [(h, .inr (5, [.int u1, .ref h_text, .int f_size, .ref h_now, .ref h_trial, .ref h_diary, .int f_acts, .ref h_kept, .ref h_isKept, .ref h_line, .int f_length, .int f_spot, .int f_out])), (h_now, .inl (cI, 377, .inl f_now))]) (x_runV (n0 := 1) (As := [.int t0]) (rest := []) C0 (xc_X5_refused l D cI cC cZ cL h h_text h_now h_trial h_diary h_kept h_isKept h_line H.size f_refusal f_size f_acts f_length f_spot f_out t0 _ hk) gX5_rolls_X5_refused rfl ⟨rfl, rfl⟩ (by decide +kernel) rfl ⟨by decide, by decide⟩ ⟨Nat.zero_le _, Nat.zero_le _⟩ hP hD [0] rfl rfl (k := 0) rfl rfl rfl hl.1 rfl (Nat.le_of_ble_eq_true rfl) dX5_rolls_30) hP hD hS hA [0] [1] [1, 0] rfl rfl rfl (by decide) (fun _ => rfl) rfl (fun r1 u1 H locs hk hP hD hS => ?_)
  refine lv_if_eq (tgt := 38) hx hb dX5_rolls_33 (by decide) (fun c2 => ?_) (fun c2 => ?_)
  · have hk := hk.1 c2
    refine lv_aload_n hx hb dX5_rolls_38 rfl (lv_at hl 0 rfl) ?_
    refine va_get (D := D) (ci := 5) (v := .ref h_now) (C := RX5) (T := TX5) (N := 13) hx hb hts xin_X5_rolls_X5 hown hK hP 0 rfl rfl 3 (by decide) (hts (.fieldLink RX5 13 "TakeLogModel" "now" "[I") (by decide +kernel)) (fun _ h9 => h9) rfl dX5_rolls_39 ?_
    refine x_joini (ws1 := fun (_ : Unit) => [(h, .inr (5, [.int u1, .ref h_text, .int f_size, .ref h_now, .ref h_trial, .ref h_diary, .int f_acts, .ref h_kept, .ref h_isKept, .ref h_line, .int f_length, .int f_spot, .int f_out])), (h_now, .inl (cI, 377, .inl f_now))]) (x_runO (n0 := 1) (As := [.ref h_now]) (rest := []) C0 (xc_X5_left l D cI cC cZ cL h_now H.size f_now _ hk) gX5_rolls_X5_left rfl ⟨rfl, rfl⟩ (by decide +kernel) rfl ⟨by decide, by decide⟩ ⟨Nat.zero_le _, Nat.zero_le _⟩ hP hD [1] rfl rfl hl.1 rfl (Nat.le_of_ble_eq_true rfl) dX5_rolls_42) hP hD hS hA [1] [0] [0, 1] rfl rfl rfl (by decide) (fun _ => rfl) rfl (fun r3 u3 H locs hk hP hD hS => ?_)
    refine lv_istore_n (lv' := [(3, .int r3), (0, .ref h), (1, .int v1), (2, .int v2)]) hx hb dX5_rolls_45 rfl hl (by decide) rfl (fun ls hl => ?_)
    refine lv_iconst (v := 0) hx hb dX5_rolls_46 (by decide) ?_
    refine lv_istore (lv' := [(4, .int 0), (3, .int r3), (0, .ref h), (1, .int v1), (2, .int v2)]) hx hb dX5_rolls_47 hl (by decide) rfl (fun ls hl => ?_)
    refine lv_iconst (v := 0) hx hb dX5_rolls_49 (by decide) ?_
    refine lv_istore (lv' := [(5, .int 0), (4, .int 0), (3, .int r3), (0, .ref h), (1, .int v1), (2, .int v2)]) hx hb dX5_rolls_50 hl (by decide) rfl (fun ls hl => ?_)
    obtain ⟨n9, hk⟩ := hk
    exact xb_X5_rolls_52 C0 hA  n9 _ _ _ _ _ _ hk H locs ls hP hD hS (lv_sub hl [3, 4, 5, 2, 1, 0] rfl)
  · have hk := hk.2 c2
    refine lv_iconst (v := 0) hx hb dX5_rolls_36 (by decide) ?_
    exact x_reti C0 (u1) hk hP hD hS dX5_rolls_37
set_option maxHeartbeats 4000000 in
set_option maxRecDepth 100000 in
theorem xb_X5_rolls_0 {p : Program} {l : Launch} {e : Env} {s : State} {m : MethodId} {args : Array Value} {below : List Frame} {meth : Method} {c : Code} {A : Nat → Prop} {D : va_G} {cI cC cZ cL : ClassId} {h h_text h_now h_trial h_diary h_kept h_isKept h_line : Nat}  {f_size : Int32} {f_acts : Int32} {f_length : Int32} {f_spot : Int32} {f_out : Int32} {f_now : Nat → Int32} {K : Int32 → Int32 → Prop}  (C0 : xC p s m args meth c cX5_rolls 6 (some .int) wsX5_rolls RX5 D (xTY cI cC cZ cL)) (hA : ∀ q : Nat, s.heap.size ≤ q → A q)  : ∀ (f_refusal : Int32) (x1 : Int32) (x2 : Int32) , xp_X5_rolls f_now f_refusal x1 x2 K → ∀ (H : Heap) (locs : List Loc) (ls : Array Slot), va_P D vwCl [(h, .inr (5, [.int f_refusal, .ref h_text, .int f_size, .ref h_now, .ref h_trial, .ref h_diary, .int f_acts, .ref h_kept, .ref h_isKept, .ref h_line, .int f_length, .int f_spot, .int f_out])), (h_now, .inl (cI, 377, .inl f_now))] H → va_D A [(h, .inr (5, [.int f_refusal, .ref h_text, .int f_size, .ref h_now, .ref h_trial, .ref h_diary, .int f_acts, .ref h_kept, .ref h_isKept, .ref h_line, .int f_length, .int f_spot, .int f_out])), (h_now, .inl (cI, 377, .inl f_now))] → va_S A s.heap H locs → lv_has ls 6 [(0, .ref h), (1, .int x1), (2, .int x2)] → W p l e ({ frames := 1, cells := 0, slots := 0, locals := 25 } : Room) s m args below meth c H locs 0 0 (MQ below (va_Qi (fun (r : Int32) (u : Int32) => K r u) (fun u t => xE D A ((fun (u : Int32) => [(h, .inr (5, [.int u, .ref h_text, .int f_size, .ref h_now, .ref h_trial, .ref h_diary, .int f_acts, .ref h_kept, .ref h_isKept, .ref h_line, .int f_length, .int f_spot, .int f_out])), (h_now, .inl (cI, 377, .inl f_now))]) u) t) A) args s 0 0 A) (F0 m 0 ls []) := by
  obtain ⟨hx, hb, hr, hml, hown, hts, hlocks, hK, hN⟩ := id C0
  intro f_refusal x1 x2 hk H locs ls hP hD hS hl
  rw [xp_X5_rolls] at hk
  refine lv_aload_n hx hb dX5_rolls_0 rfl (lv_at hl 0 rfl) ?_
  refine lv_iload_n hx hb dX5_rolls_1 rfl (lv_at hl 1 rfl) ?_
  refine lv_i2l hx hb dX5_rolls_2 rfl ?_
  refine lv_lconst (v := 1) hx hb dX5_rolls_3 (by decide) ?_
  refine lv_ldc2 (own := RX5) hx hb hown (hts (.constantLong RX5 196 (120)) (by decide +kernel)) dX5_rolls_4 ?_
  refine x_joini (ws1 := fun (_ : Unit) => [(h, .inr (5, [.int f_refusal, .ref h_text, .int f_size, .ref h_now, .ref h_trial, .ref h_diary, .int f_acts, .ref h_kept, .ref h_isKept, .ref h_line, .int f_length, .int f_spot, .int f_out])), (h_now, .inl (cI, 377, .inl f_now))]) (x_runO (n0 := 3) (As := [.long x1.toInt64, .long 1, .long 120]) (rest := [.ref h]) C0 (xc_X5_in l D cI cC cZ cL  H.size x1.toInt64 1 120 _ hk) gX5_rolls_X5_in rfl ⟨rfl, rfl⟩ (by decide +kernel) rfl ⟨by decide, by decide⟩ ⟨Nat.zero_le _, Nat.zero_le _⟩ hP hD [] rfl rfl hl.1 rfl (Nat.le_of_ble_eq_true rfl) dX5_rolls_7) hP hD hS hA [] [0, 1] [0, 1] rfl rfl rfl (by decide) (fun _ => rfl) rfl (fun r1 u1 H locs hk hP hD hS => ?_)
  refine lv_if_eq (tgt := 29) hx hb dX5_rolls_10 (by decide) (fun c2 => ?_) (fun c2 => ?_)
  · have hk := hk.1 c2
    refine lv_iconst (v := 1) hx hb dX5_rolls_29 (by decide) ?_
    exact xb_X5_rolls_30 C0 hA  _ _ _ _ hk H locs ls hP hD hS (lv_sub hl [0, 1, 2] rfl)
  · have hk := hk.2 c2
    refine lv_iload_n hx hb dX5_rolls_13 rfl (lv_at hl 2 rfl) ?_
    refine lv_i2l hx hb dX5_rolls_14 rfl ?_
    refine lv_lconst (v := 1) hx hb dX5_rolls_15 (by decide) ?_
    refine lv_ldc2 (own := RX5) hx hb hown (hts (.constantLong RX5 44 (99)) (by decide +kernel)) dX5_rolls_16 ?_
    refine x_joini (ws1 := fun (_ : Unit) => [(h, .inr (5, [.int f_refusal, .ref h_text, .int f_size, .ref h_now, .ref h_trial, .ref h_diary, .int f_acts, .ref h_kept, .ref h_isKept, .ref h_line, .int f_length, .int f_spot, .int f_out])), (h_now, .inl (cI, 377, .inl f_now))]) (x_runO (n0 := 3) (As := [.long x2.toInt64, .long 1, .long 99]) (rest := [.ref h]) C0 (xc_X5_in l D cI cC cZ cL  H.size x2.toInt64 1 99 _ hk) gX5_rolls_X5_in rfl ⟨rfl, rfl⟩ (by decide +kernel) rfl ⟨by decide, by decide⟩ ⟨Nat.zero_le _, Nat.zero_le _⟩ hP hD [] rfl rfl hl.1 rfl (Nat.le_of_ble_eq_true rfl) dX5_rolls_19) hP hD hS hA [] [0, 1] [0, 1] rfl rfl rfl (by decide) (fun _ => rfl) rfl (fun r3 u3 H locs hk hP hD hS => ?_)
    refine lv_if_eq (tgt := 29) hx hb dX5_rolls_22 (by decide) (fun c4 => ?_) (fun c4 => ?_)
    · have hk := hk.1 c4
      refine lv_iconst (v := 1) hx hb dX5_rolls_29 (by decide) ?_
      exact xb_X5_rolls_30 C0 hA  _ _ _ _ hk H locs ls hP hD hS (lv_sub hl [0, 1, 2] rfl)
    · have hk := hk.2 c4
      refine lv_iconst (v := 0) hx hb dX5_rolls_25 (by decide) ?_
      refine lv_goto (tgt := 30) hx hb dX5_rolls_26 (by decide) ?_
      exact xb_X5_rolls_30 C0 hA  _ _ _ _ hk H locs ls hP hD hS (lv_sub hl [0, 1, 2] rfl)
theorem xc_X5_rolls (l : Launch) (D : va_G) (cI cC cZ cL : ClassId) (h h_text h_now h_trial h_diary h_kept h_isKept h_line : Nat)  (sz : Nat) (f_refusal : Int32) (f_size : Int32) (f_acts : Int32) (f_length : Int32) (f_spot : Int32) (f_out : Int32) (f_now : Nat → Int32) (x1 : Int32) (x2 : Int32) (K : Int32 → Int32 → Prop) (hk : xp_X5_rolls f_now f_refusal x1 x2 K) : XMi l yX5_rolls wsX5_rolls ({ frames := 1, cells := 0, slots := 0, locals := 25 } : Room) D (xTY cI cC cZ cL) [.ref h, .int x1, .int x2] [(h, .inr (5, [.int f_refusal, .ref h_text, .int f_size, .ref h_now, .ref h_trial, .ref h_diary, .int f_acts, .ref h_kept, .ref h_isKept, .ref h_line, .int f_length, .int f_spot, .int f_out])), (h_now, .inl (cI, 377, .inl f_now))] sz (fun (r : Int32) (u : Int32) => K r u) (fun (u : Int32) => [(h, .inr (5, [.int u, .ref h_text, .int f_size, .ref h_now, .ref h_trial, .ref h_diary, .int f_acts, .ref h_kept, .ref h_isKept, .ref h_line, .int f_length, .int f_spot, .int f_out])), (h_now, .inl (cI, 377, .inl f_now))]) :=
  x_enter (cc := cX5_rolls) (maxL := 6) (ret := (some .int)) (own := RX5) (by decide) rfl rfl (Nat.le_of_ble_eq_true rfl) (fun p e s m below meth c ls C0 hA hP hD hS hl => xb_X5_rolls_0 C0 hA _ _ _ hk s.heap [] ls hP hD hS hl)
set_option maxRecDepth 20000 in
theorem xin_X5_ifFalse_X5 : ∀ w ∈ u_ws RX5 TX5 13, w ∈ wsX5_ifFalse := by decide +kernel
set_option maxHeartbeats 4000000 in
set_option maxRecDepth 100000 in
theorem xb_X5_ifFalse_64 {p : Program} {l : Launch} {e : Env} {s : State} {m : MethodId} {args : Array Value} {below : List Frame} {meth : Method} {c : Code} {A : Nat → Prop} {D : va_G} {cI cC cZ cL : ClassId} {h h_text h_now h_trial h_diary h_kept h_isKept h_line : Nat}  {f_size : Int32} {f_acts : Int32} {f_length : Int32} {f_spot : Int32} {f_out : Int32} {f_now : Nat → Int32} {K : Int32 → (Int32 × (Nat → Int32)) → Prop}  (C0 : xC p s m args meth c cX5_ifFalse 4 (some .int) wsX5_ifFalse RX5 D (xTY cI cC cZ cL)) (hA : ∀ q : Nat, s.heap.size ≤ q → A q)  : ∀ (n : Nat) (f_refusal : Int32) (f_trial : Nat → Int32) (v2 : Int32) (v3 : Int32) , xp_X5_ifFalse_64 f_now K n f_refusal f_trial v2 v3 → ∀ (H : Heap) (locs : List Loc) (ls : Array Slot), va_P D vwCl [(h, .inr (5, [.int f_refusal, .ref h_text, .int f_size, .ref h_now, .ref h_trial, .ref h_diary, .int f_acts, .ref h_kept, .ref h_isKept, .ref h_line, .int f_length, .int f_spot, .int f_out])), (h_now, .inl (cI, 377, .inl f_now)), (h_trial, .inl (cI, 377, .inl f_trial))] H → va_D A [(h, .inr (5, [.int f_refusal, .ref h_text, .int f_size, .ref h_now, .ref h_trial, .ref h_diary, .int f_acts, .ref h_kept, .ref h_isKept, .ref h_line, .int f_length, .int f_spot, .int f_out])), (h_now, .inl (cI, 377, .inl f_now)), (h_trial, .inl (cI, 377, .inl f_trial))] → va_S A s.heap H locs → lv_has ls 4 [(0, .ref h), (2, .int v2), (3, .int v3)] → W p l e ({ frames := 4, cells := 0, slots := 0, locals := 89 } : Room) s m args below meth c H locs 0 0 (MQ below (va_Qi (fun (r : Int32) (u : Int32 × (Nat → Int32)) => K r u) (fun u t => xE D A ((fun (u : Int32 × (Nat → Int32)) => [(h, .inr (5, [.int u.1, .ref h_text, .int f_size, .ref h_now, .ref h_trial, .ref h_diary, .int f_acts, .ref h_kept, .ref h_isKept, .ref h_line, .int f_length, .int f_spot, .int f_out])), (h_now, .inl (cI, 377, .inl f_now)), (h_trial, .inl (cI, 377, .inl u.2))]) u) t) A) args s 0 0 A) (F0 m 64 ls []) := by
  obtain ⟨hx, hb, hr, hml, hown, hts, hlocks, hK, hN⟩ := id C0
  intro n
  induction n with
  | zero => intro f_refusal f_trial v2 v3 hk; exact hk.elim
  | succ n ih =>
    intro f_refusal f_trial v2 v3 hk H locs ls hP hD hS hl
    rw [xp_X5_ifFalse_64] at hk
    refine lv_iload_n hx hb dX5_ifFalse_64 rfl (lv_at hl 2 rfl) ?_
    refine lv_aload_n hx hb dX5_ifFalse_65 rfl (lv_at hl 0 rfl) ?_
    refine va_get (D := D) (ci := 5) (v := .ref h_now) (C := RX5) (T := TX5) (N := 13) hx hb hts xin_X5_ifFalse_X5 hown hK hP 0 rfl rfl 3 (by decide) (hts (.fieldLink RX5 13 "TakeLogModel" "now" "[I") (by decide +kernel)) (fun _ h9 => h9) rfl dX5_ifFalse_66 ?_
    refine lv_iconst (v := 0) hx hb dX5_ifFalse_69 (by decide) ?_
    refine x_iald (k := 0) hx hb hK hP 1 0 rfl rfl (x_lit rfl (by decide) (by decide)) rfl (v := (f_now 0)) rfl dX5_ifFalse_70 ?_
    refine lv_icmp_ge (tgt := 109) hx hb dX5_ifFalse_71 (by decide) (fun c1 => ?_) (fun c1 => ?_)
    · have hk := hk.1 c1
      refine lv_iload_n hx hb dX5_ifFalse_109 rfl (lv_at hl 1 rfl) ?_
      exact x_reti C0 (f_refusal, f_trial) hk hP hD hS dX5_ifFalse_110
    · have hk := hk.2 c1
      refine lv_iload_n hx hb dX5_ifFalse_74 rfl (lv_at hl 1 rfl) ?_
      refine lv_aload_n hx hb dX5_ifFalse_75 rfl (lv_at hl 0 rfl) ?_
      refine va_get (D := D) (ci := 5) (v := .ref h_now) (C := RX5) (T := TX5) (N := 13) hx hb hts xin_X5_ifFalse_X5 hown hK hP 0 rfl rfl 3 (by decide) (hts (.fieldLink RX5 13 "TakeLogModel" "now" "[I") (by decide +kernel)) (fun _ h9 => h9) rfl dX5_ifFalse_76 ?_
      refine lv_iload_n hx hb dX5_ifFalse_79 rfl (lv_at hl 2 rfl) ?_
      refine x_joini (ws1 := fun (_ : Unit) => [(h, .inr (5, [.int f_refusal, .ref h_text, .int f_size, .ref h_now, .ref h_trial, .ref h_diary, .int f_acts, .ref h_kept, .ref h_isKept, .ref h_line, .int f_length, .int f_spot, .int f_out])), (h_now, .inl (cI, 377, .inl f_now)), (h_trial, .inl (cI, 377, .inl f_trial))]) (x_runO (n0 := 2) (As := [.ref h_now, .int v3]) (rest := [.int v2]) C0 (xc_X5_isRight l D cI cC cZ cL h_now H.size f_now v3 _ hk) gX5_ifFalse_X5_isRight rfl ⟨rfl, rfl⟩ (by decide +kernel) rfl ⟨by decide, by decide⟩ ⟨Nat.zero_le _, Nat.zero_le _⟩ hP hD [1] rfl rfl hl.1 rfl (Nat.le_of_ble_eq_true rfl) dX5_ifFalse_80) hP hD hS hA [1] [0, 2] [0, 2, 1] rfl rfl rfl (by decide) (fun _ => rfl) rfl (fun r2 u2 H locs hk hP hD hS => ?_)
      refine lv_aload_n hx hb dX5_ifFalse_83 rfl (lv_at hl 0 rfl) ?_
      refine va_get (D := D) (ci := 5) (v := .ref h_trial) (C := RX5) (T := TX5) (N := 13) hx hb hts xin_X5_ifFalse_X5 hown hK hP 0 rfl rfl 4 (by decide) (hts (.fieldLink RX5 16 "TakeLogModel" "trial" "[I") (by decide +kernel)) (fun _ h9 => h9) rfl dX5_ifFalse_84 ?_
      refine lv_iload_n hx hb dX5_ifFalse_87 rfl (lv_at hl 2 rfl) ?_
      refine x_joini (ws1 := fun (_ : Unit) => [(h, .inr (5, [.int f_refusal, .ref h_text, .int f_size, .ref h_now, .ref h_trial, .ref h_diary, .int f_acts, .ref h_kept, .ref h_isKept, .ref h_line, .int f_length, .int f_spot, .int f_out])), (h_now, .inl (cI, 377, .inl f_now)), (h_trial, .inl (cI, 377, .inl f_trial))]) (x_runO (n0 := 2) (As := [.ref h_trial, .int v3]) (rest := [.int r2, .int v2]) C0 (xc_X5_isRight l D cI cC cZ cL h_trial H.size f_trial v3 _ hk) gX5_ifFalse_X5_isRight rfl ⟨rfl, rfl⟩ (by decide +kernel) rfl ⟨by decide, by decide⟩ ⟨Nat.zero_le _, Nat.zero_le _⟩ hP hD [2] rfl rfl hl.1 rfl (Nat.le_of_ble_eq_true rfl) dX5_ifFalse_88) hP hD hS hA [2] [0, 1] [0, 1, 2] rfl rfl rfl (by decide) (fun _ => rfl) rfl (fun r3 u3 H locs hk hP hD hS => ?_)
      refine lv_icmp_ne (tgt := 98) hx hb dX5_ifFalse_91 (by decide) (fun c4 => ?_) (fun c4 => ?_)
      · have hk := hk.1 c4
        refine lv_iconst (v := 1) hx hb dX5_ifFalse_98 (by decide) ?_
        refine lv_iload_n hx hb dX5_ifFalse_99 rfl (lv_at hl 2 rfl) ?_
        refine lv_ishl hx hb dX5_ifFalse_100 ?_
        refine lv_ior hx hb dX5_ifFalse_101 ?_
        refine lv_istore_n (lv' := [(2, .int (v2 ||| ((1 : Int32) <<< (v3 &&& 31)))), (0, .ref h), (3, .int v3)]) hx hb dX5_ifFalse_102 rfl hl (by decide) rfl (fun ls hl => ?_)
        refine lv_iinc (v := (v3 + 1)) (lv' := [(3, .int (v3 + 1)), (2, .int (v2 ||| ((1 : Int32) <<< (v3 &&& 31)))), (0, .ref h)]) hx hb dX5_ifFalse_103 hl (k := 2) rfl rfl (by decide) rfl (fun ls hl => ?_)
        refine lv_goto (tgt := 64) hx hb dX5_ifFalse_106 (by decide) ?_
        exact ih _ _ _ _ hk H locs ls hP hD hS (lv_sub hl [2, 1, 0] rfl)
      · have hk := hk.2 c4
        refine lv_iconst (v := 0) hx hb dX5_ifFalse_94 (by decide) ?_
        refine lv_goto (tgt := 101) hx hb dX5_ifFalse_95 (by decide) ?_
        refine lv_ior hx hb dX5_ifFalse_101 ?_
        refine lv_istore_n (lv' := [(2, .int (v2 ||| 0)), (0, .ref h), (3, .int v3)]) hx hb dX5_ifFalse_102 rfl hl (by decide) rfl (fun ls hl => ?_)
        refine lv_iinc (v := (v3 + 1)) (lv' := [(3, .int (v3 + 1)), (2, .int (v2 ||| 0)), (0, .ref h)]) hx hb dX5_ifFalse_103 hl (k := 2) rfl rfl (by decide) rfl (fun ls hl => ?_)
        refine lv_goto (tgt := 64) hx hb dX5_ifFalse_106 (by decide) ?_
        exact ih _ _ _ _ hk H locs ls hP hD hS (lv_sub hl [2, 1, 0] rfl)
set_option maxHeartbeats 4000000 in
set_option maxRecDepth 100000 in
theorem xb_X5_ifFalse_17 {p : Program} {l : Launch} {e : Env} {s : State} {m : MethodId} {args : Array Value} {below : List Frame} {meth : Method} {c : Code} {A : Nat → Prop} {D : va_G} {cI cC cZ cL : ClassId} {h h_text h_now h_trial h_diary h_kept h_isKept h_line : Nat}  {f_size : Int32} {f_acts : Int32} {f_length : Int32} {f_spot : Int32} {f_out : Int32} {f_now : Nat → Int32} {K : Int32 → (Int32 × (Nat → Int32)) → Prop}  (C0 : xC p s m args meth c cX5_ifFalse 4 (some .int) wsX5_ifFalse RX5 D (xTY cI cC cZ cL)) (hA : ∀ q : Nat, s.heap.size ≤ q → A q)  : ∀ (f_refusal : Int32) (f_trial : Nat → Int32) (v1 : Int32) (t0 : Int32) , xp_X5_ifFalse_17 f_now K f_refusal f_trial v1 t0 → ∀ (H : Heap) (locs : List Loc) (ls : Array Slot), va_P D vwCl [(h, .inr (5, [.int f_refusal, .ref h_text, .int f_size, .ref h_now, .ref h_trial, .ref h_diary, .int f_acts, .ref h_kept, .ref h_isKept, .ref h_line, .int f_length, .int f_spot, .int f_out])), (h_now, .inl (cI, 377, .inl f_now)), (h_trial, .inl (cI, 377, .inl f_trial))] H → va_D A [(h, .inr (5, [.int f_refusal, .ref h_text, .int f_size, .ref h_now, .ref h_trial, .ref h_diary, .int f_acts, .ref h_kept, .ref h_isKept, .ref h_line, .int f_length, .int f_spot, .int f_out])), (h_now, .inl (cI, 377, .inl f_now)), (h_trial, .inl (cI, 377, .inl f_trial))] → va_S A s.heap H locs → lv_has ls 4 [(0, .ref h), (1, .int v1)] → W p l e ({ frames := 4, cells := 0, slots := 0, locals := 89 } : Room) s m args below meth c H locs 0 0 (MQ below (va_Qi (fun (r : Int32) (u : Int32 × (Nat → Int32)) => K r u) (fun u t => xE D A ((fun (u : Int32 × (Nat → Int32)) => [(h, .inr (5, [.int u.1, .ref h_text, .int f_size, .ref h_now, .ref h_trial, .ref h_diary, .int f_acts, .ref h_kept, .ref h_isKept, .ref h_line, .int f_length, .int f_spot, .int f_out])), (h_now, .inl (cI, 377, .inl f_now)), (h_trial, .inl (cI, 377, .inl u.2))]) u) t) A) args s 0 0 A) (F0 m 17 ls [.int t0, .ref h]) := by
  obtain ⟨hx, hb, hr, hml, hown, hts, hlocks, hK, hN⟩ := id C0
  intro f_refusal f_trial v1 t0 hk H locs ls hP hD hS hl
  rw [xp_X5_ifFalse_17] at hk
  refine x_joini (ws1 := fun (u1 : Int32) => [(h, .inr (5, [.int u1, .ref h_text, .int f_size, .ref h_now, .ref h_trial, .ref h_diary, .int f_acts, .ref h_kept, .ref h_isKept, .ref h_line, .int f_length, .int f_spot, .int f_out])), (h_now, .inl (cI, 377, .inl f_now)), (h_trial, .inl (cI, 377, .inl f_trial))]) (x_runV (n0 := 1) (As := [.int t0]) (rest := []) C0 (xc_X5_refused l D cI cC cZ cL h h_text h_now h_trial h_diary h_kept h_isKept h_line H.size f_refusal f_size f_acts f_length f_spot f_out t0 _ hk) gX5_ifFalse_X5_refused rfl ⟨rfl, rfl⟩ (by decide +kernel) rfl ⟨by decide, by decide⟩ ⟨Nat.zero_le _, Nat.zero_le _⟩ hP hD [0] rfl rfl (k := 0) rfl rfl rfl hl.1 rfl (Nat.le_of_ble_eq_true rfl) dX5_ifFalse_17) hP hD hS hA [0] [1, 2] [2, 0, 1] rfl rfl rfl (by decide) (fun _ => rfl) rfl (fun r1 u1 H locs hk hP hD hS => ?_)
  refine lv_if_eq (tgt := 25) hx hb dX5_ifFalse_20 (by decide) (fun c2 => ?_) (fun c2 => ?_)
  · have hk := hk.1 c2
    refine lv_aload_n hx hb dX5_ifFalse_25 rfl (lv_at hl 0 rfl) ?_
    refine va_get (D := D) (ci := 5) (v := .ref h_now) (C := RX5) (T := TX5) (N := 13) hx hb hts xin_X5_ifFalse_X5 hown hK hP 0 rfl rfl 3 (by decide) (hts (.fieldLink RX5 13 "TakeLogModel" "now" "[I") (by decide +kernel)) (fun _ h9 => h9) rfl dX5_ifFalse_26 ?_
    refine lv_iconst (v := 0) hx hb dX5_ifFalse_29 (by decide) ?_
    refine lv_aload_n hx hb dX5_ifFalse_30 rfl (lv_at hl 0 rfl) ?_
    refine va_get (D := D) (ci := 5) (v := .ref h_trial) (C := RX5) (T := TX5) (N := 13) hx hb hts xin_X5_ifFalse_X5 hown hK hP 0 rfl rfl 4 (by decide) (hts (.fieldLink RX5 16 "TakeLogModel" "trial" "[I") (by decide +kernel)) (fun _ h9 => h9) rfl dX5_ifFalse_31 ?_
    refine lv_iconst (v := 0) hx hb dX5_ifFalse_34 (by decide) ?_
    refine x_joinv (ws1 := fun (u3 : (Nat → Int32)) => [(h, .inr (5, [.int u1, .ref h_text, .int f_size, .ref h_now, .ref h_trial, .ref h_diary, .int f_acts, .ref h_kept, .ref h_isKept, .ref h_line, .int f_length, .int f_spot, .int f_out])), (h_now, .inl (cI, 377, .inl f_now)), (h_trial, .inl (cI, 377, .inl u3))]) (x_runO (n0 := 4) (As := [.ref h_now, .int 0, .ref h_trial, .int 0]) (rest := []) C0 (xc_X5_copyState l D cI cC cZ cL h_now h_trial 377 377 H.size f_now f_trial 0 0 _ hk) gX5_ifFalse_X5_copyState rfl ⟨rfl, rfl⟩ (by decide +kernel) rfl ⟨by decide, by decide⟩ ⟨Nat.zero_le _, Nat.zero_le _⟩ hP hD [1, 2] rfl rfl hl.1 rfl (Nat.le_of_ble_eq_true rfl) dX5_ifFalse_35) hP hD hS hA [1, 2] [0] [0, 1, 2] rfl rfl rfl (by decide) (fun _ => rfl) rfl (fun u3 H locs hk hP hD hS => ?_)
    refine lv_aload_n hx hb dX5_ifFalse_38 rfl (lv_at hl 0 rfl) ?_
    refine va_get (D := D) (ci := 5) (v := .ref h_trial) (C := RX5) (T := TX5) (N := 13) hx hb hts xin_X5_ifFalse_X5 hown hK hP 0 rfl rfl 4 (by decide) (hts (.fieldLink RX5 16 "TakeLogModel" "trial" "[I") (by decide +kernel)) (fun _ h9 => h9) rfl dX5_ifFalse_39 ?_
    refine lv_iload_n hx hb dX5_ifFalse_42 rfl (lv_at hl 1 rfl) ?_
    refine lv_bipush (v := 14) hx hb dX5_ifFalse_43 (by decide) ?_
    refine lv_iconst (v := 1) hx hb dX5_ifFalse_45 (by decide) ?_
    refine lv_aload_n hx hb dX5_ifFalse_46 rfl (lv_at hl 0 rfl) ?_
    refine va_get (D := D) (ci := 5) (v := .ref h_now) (C := RX5) (T := TX5) (N := 13) hx hb hts xin_X5_ifFalse_X5 hown hK hP 0 rfl rfl 3 (by decide) (hts (.fieldLink RX5 13 "TakeLogModel" "now" "[I") (by decide +kernel)) (fun _ h9 => h9) rfl dX5_ifFalse_47 ?_
    refine lv_iload_n hx hb dX5_ifFalse_50 rfl (lv_at hl 1 rfl) ?_
    refine lv_bipush (v := 14) hx hb dX5_ifFalse_51 (by decide) ?_
    refine x_joini (ws1 := fun (_ : Unit) => [(h, .inr (5, [.int u1, .ref h_text, .int f_size, .ref h_now, .ref h_trial, .ref h_diary, .int f_acts, .ref h_kept, .ref h_isKept, .ref h_line, .int f_length, .int f_spot, .int f_out])), (h_now, .inl (cI, 377, .inl f_now)), (h_trial, .inl (cI, 377, .inl u3))]) (x_runO (n0 := 3) (As := [.ref h_now, .int v1, .int 14]) (rest := [.int 1, .int 14, .int v1, .ref h_trial]) C0 (xc_X5_of l D cI cC cZ cL h_now H.size f_now v1 14 _ hk) gX5_ifFalse_X5_of rfl ⟨rfl, rfl⟩ (by decide +kernel) rfl ⟨by decide, by decide⟩ ⟨Nat.zero_le _, Nat.zero_le _⟩ hP hD [1] rfl rfl hl.1 rfl (Nat.le_of_ble_eq_true rfl) dX5_ifFalse_53) hP hD hS hA [1] [0, 2] [0, 2, 1] rfl rfl rfl (by decide) (fun _ => rfl) rfl (fun r4 u4 H locs hk hP hD hS => ?_)
    refine lv_isub hx hb dX5_ifFalse_56 ?_
    refine x_joinv (ws1 := fun (u5 : (Nat → Int32)) => [(h, .inr (5, [.int u1, .ref h_text, .int f_size, .ref h_now, .ref h_trial, .ref h_diary, .int f_acts, .ref h_kept, .ref h_isKept, .ref h_line, .int f_length, .int f_spot, .int f_out])), (h_now, .inl (cI, 377, .inl f_now)), (h_trial, .inl (cI, 377, .inl u5))]) (x_runO (n0 := 4) (As := [.ref h_trial, .int v1, .int 14, .int (1 - r4)]) (rest := []) C0 (xc_X5_lay l D cI cC cZ cL h_trial H.size u3 v1 14 (1 - r4) _ hk) gX5_ifFalse_X5_lay rfl ⟨rfl, rfl⟩ (by decide +kernel) rfl ⟨by decide, by decide⟩ ⟨Nat.zero_le _, Nat.zero_le _⟩ hP hD [2] rfl rfl hl.1 rfl (Nat.le_of_ble_eq_true rfl) dX5_ifFalse_57) hP hD hS hA [2] [0, 1] [0, 1, 2] rfl rfl rfl (by decide) (fun _ => rfl) rfl (fun u5 H locs hk hP hD hS => ?_)
    refine lv_iconst (v := 0) hx hb dX5_ifFalse_60 (by decide) ?_
    refine lv_istore_n (lv' := [(2, .int 0), (0, .ref h), (1, .int v1)]) hx hb dX5_ifFalse_61 rfl hl (by decide) rfl (fun ls hl => ?_)
    refine lv_iconst (v := 0) hx hb dX5_ifFalse_62 (by decide) ?_
    refine lv_istore_n (lv' := [(3, .int 0), (2, .int 0), (0, .ref h), (1, .int v1)]) hx hb dX5_ifFalse_63 rfl hl (by decide) rfl (fun ls hl => ?_)
    obtain ⟨n9, hk⟩ := hk
    exact xb_X5_ifFalse_64 C0 hA  n9 _ _ _ _ hk H locs ls hP hD hS (lv_sub hl [2, 1, 0] rfl)
  · have hk := hk.2 c2
    refine lv_iconst (v := 0) hx hb dX5_ifFalse_23 (by decide) ?_
    exact x_reti C0 (u1, f_trial) hk hP hD hS dX5_ifFalse_24
set_option maxHeartbeats 4000000 in
set_option maxRecDepth 100000 in
theorem xb_X5_ifFalse_0 {p : Program} {l : Launch} {e : Env} {s : State} {m : MethodId} {args : Array Value} {below : List Frame} {meth : Method} {c : Code} {A : Nat → Prop} {D : va_G} {cI cC cZ cL : ClassId} {h h_text h_now h_trial h_diary h_kept h_isKept h_line : Nat}  {f_size : Int32} {f_acts : Int32} {f_length : Int32} {f_spot : Int32} {f_out : Int32} {f_now : Nat → Int32} {K : Int32 → (Int32 × (Nat → Int32)) → Prop}  (C0 : xC p s m args meth c cX5_ifFalse 4 (some .int) wsX5_ifFalse RX5 D (xTY cI cC cZ cL)) (hA : ∀ q : Nat, s.heap.size ≤ q → A q)  : ∀ (f_refusal : Int32) (f_trial : Nat → Int32) (x1 : Int32) , xp_X5_ifFalse f_now f_refusal f_trial x1 K → ∀ (H : Heap) (locs : List Loc) (ls : Array Slot), va_P D vwCl [(h, .inr (5, [.int f_refusal, .ref h_text, .int f_size, .ref h_now, .ref h_trial, .ref h_diary, .int f_acts, .ref h_kept, .ref h_isKept, .ref h_line, .int f_length, .int f_spot, .int f_out])), (h_now, .inl (cI, 377, .inl f_now)), (h_trial, .inl (cI, 377, .inl f_trial))] H → va_D A [(h, .inr (5, [.int f_refusal, .ref h_text, .int f_size, .ref h_now, .ref h_trial, .ref h_diary, .int f_acts, .ref h_kept, .ref h_isKept, .ref h_line, .int f_length, .int f_spot, .int f_out])), (h_now, .inl (cI, 377, .inl f_now)), (h_trial, .inl (cI, 377, .inl f_trial))] → va_S A s.heap H locs → lv_has ls 4 [(0, .ref h), (1, .int x1)] → W p l e ({ frames := 4, cells := 0, slots := 0, locals := 89 } : Room) s m args below meth c H locs 0 0 (MQ below (va_Qi (fun (r : Int32) (u : Int32 × (Nat → Int32)) => K r u) (fun u t => xE D A ((fun (u : Int32 × (Nat → Int32)) => [(h, .inr (5, [.int u.1, .ref h_text, .int f_size, .ref h_now, .ref h_trial, .ref h_diary, .int f_acts, .ref h_kept, .ref h_isKept, .ref h_line, .int f_length, .int f_spot, .int f_out])), (h_now, .inl (cI, 377, .inl f_now)), (h_trial, .inl (cI, 377, .inl u.2))]) u) t) A) args s 0 0 A) (F0 m 0 ls []) := by
  obtain ⟨hx, hb, hr, hml, hown, hts, hlocks, hK, hN⟩ := id C0
  intro f_refusal f_trial x1 hk H locs ls hP hD hS hl
  rw [xp_X5_ifFalse] at hk
  refine lv_aload_n hx hb dX5_ifFalse_0 rfl (lv_at hl 0 rfl) ?_
  refine lv_aload_n hx hb dX5_ifFalse_1 rfl (lv_at hl 0 rfl) ?_
  refine va_get (D := D) (ci := 5) (v := .ref h_now) (C := RX5) (T := TX5) (N := 13) hx hb hts xin_X5_ifFalse_X5 hown hK hP 0 rfl rfl 3 (by decide) (hts (.fieldLink RX5 13 "TakeLogModel" "now" "[I") (by decide +kernel)) (fun _ h9 => h9) rfl dX5_ifFalse_2 ?_
  refine lv_iload_n hx hb dX5_ifFalse_5 rfl (lv_at hl 1 rfl) ?_
  refine x_joini (ws1 := fun (_ : Unit) => [(h, .inr (5, [.int f_refusal, .ref h_text, .int f_size, .ref h_now, .ref h_trial, .ref h_diary, .int f_acts, .ref h_kept, .ref h_isKept, .ref h_line, .int f_length, .int f_spot, .int f_out])), (h_now, .inl (cI, 377, .inl f_now)), (h_trial, .inl (cI, 377, .inl f_trial))]) (x_runO (n0 := 2) (As := [.ref h_now, .int x1]) (rest := [.ref h]) C0 (xc_X5_isTake l D cI cC cZ cL h_now H.size f_now x1 _ hk) gX5_ifFalse_X5_isTake rfl ⟨rfl, rfl⟩ (by decide +kernel) rfl ⟨by decide, by decide⟩ ⟨Nat.zero_le _, Nat.zero_le _⟩ hP hD [1] rfl rfl hl.1 rfl (Nat.le_of_ble_eq_true rfl) dX5_ifFalse_6) hP hD hS hA [1] [0, 2] [0, 2, 1] rfl rfl rfl (by decide) (fun _ => rfl) rfl (fun r1 u1 H locs hk hP hD hS => ?_)
  refine lv_if_eq (tgt := 16) hx hb dX5_ifFalse_9 (by decide) (fun c2 => ?_) (fun c2 => ?_)
  · have hk := hk.1 c2
    refine lv_iconst (v := 1) hx hb dX5_ifFalse_16 (by decide) ?_
    exact xb_X5_ifFalse_17 C0 hA  _ _ _ _ hk H locs ls hP hD hS (lv_sub hl [0, 1] rfl)
  · have hk := hk.2 c2
    refine lv_iconst (v := 0) hx hb dX5_ifFalse_12 (by decide) ?_
    refine lv_goto (tgt := 17) hx hb dX5_ifFalse_13 (by decide) ?_
    exact xb_X5_ifFalse_17 C0 hA  _ _ _ _ hk H locs ls hP hD hS (lv_sub hl [0, 1] rfl)
theorem xc_X5_ifFalse (l : Launch) (D : va_G) (cI cC cZ cL : ClassId) (h h_text h_now h_trial h_diary h_kept h_isKept h_line : Nat)  (sz : Nat) (f_refusal : Int32) (f_size : Int32) (f_acts : Int32) (f_length : Int32) (f_spot : Int32) (f_out : Int32) (f_now : Nat → Int32) (f_trial : Nat → Int32) (x1 : Int32) (K : Int32 → (Int32 × (Nat → Int32)) → Prop) (hk : xp_X5_ifFalse f_now f_refusal f_trial x1 K) : XMi l yX5_ifFalse wsX5_ifFalse ({ frames := 4, cells := 0, slots := 0, locals := 89 } : Room) D (xTY cI cC cZ cL) [.ref h, .int x1] [(h, .inr (5, [.int f_refusal, .ref h_text, .int f_size, .ref h_now, .ref h_trial, .ref h_diary, .int f_acts, .ref h_kept, .ref h_isKept, .ref h_line, .int f_length, .int f_spot, .int f_out])), (h_now, .inl (cI, 377, .inl f_now)), (h_trial, .inl (cI, 377, .inl f_trial))] sz (fun (r : Int32) (u : Int32 × (Nat → Int32)) => K r u) (fun (u : Int32 × (Nat → Int32)) => [(h, .inr (5, [.int u.1, .ref h_text, .int f_size, .ref h_now, .ref h_trial, .ref h_diary, .int f_acts, .ref h_kept, .ref h_isKept, .ref h_line, .int f_length, .int f_spot, .int f_out])), (h_now, .inl (cI, 377, .inl f_now)), (h_trial, .inl (cI, 377, .inl u.2))]) :=
  x_enter (cc := cX5_ifFalse) (maxL := 4) (ret := (some .int)) (own := RX5) (by decide) rfl rfl (Nat.le_of_ble_eq_true rfl) (fun p e s m below meth c ls C0 hA hP hD hS hl => xb_X5_ifFalse_0 C0 hA _ _ _ hk s.heap [] ls hP hD hS hl)
set_option maxRecDepth 20000 in
theorem xin_X5_scene_X5 : ∀ w ∈ u_ws RX5 TX5 13, w ∈ wsX5_scene := by decide +kernel
set_option maxHeartbeats 4000000 in
set_option maxRecDepth 100000 in
theorem xb_X5_scene_162 {p : Program} {l : Launch} {e : Env} {s : State} {m : MethodId} {args : Array Value} {below : List Frame} {meth : Method} {c : Code} {A : Nat → Prop} {D : va_G} {cI cC cZ cL : ClassId} {h h_text h_now h_trial h_diary h_kept h_isKept h_line : Nat}  {f_size : Int32} {f_acts : Int32} {f_length : Int32} {f_spot : Int32} {f_out : Int32} {f_now : Nat → Int32} {K : Int32 → Int32 → Prop}  (C0 : xC p s m args meth c cX5_scene 11 (some .int) wsX5_scene RX5 D (xTY cI cC cZ cL)) (hA : ∀ q : Nat, s.heap.size ≤ q → A q)  : ∀ (n : Nat) (f_refusal : Int32) (v2 : Int32) (v3 : Int32) (v4 : Int32) (v5 : Int32) (v6 : Int32) (v7 : Int32) (v8 : Int32) (v9 : Int32) (v10 : Int32) , xp_X5_scene_162 f_now K n f_refusal v2 v3 v4 v5 v6 v7 v8 v9 v10 → ∀ (H : Heap) (locs : List Loc) (ls : Array Slot), va_P D vwCl [(h, .inr (5, [.int f_refusal, .ref h_text, .int f_size, .ref h_now, .ref h_trial, .ref h_diary, .int f_acts, .ref h_kept, .ref h_isKept, .ref h_line, .int f_length, .int f_spot, .int f_out])), (h_now, .inl (cI, 377, .inl f_now))] H → va_D A [(h, .inr (5, [.int f_refusal, .ref h_text, .int f_size, .ref h_now, .ref h_trial, .ref h_diary, .int f_acts, .ref h_kept, .ref h_isKept, .ref h_line, .int f_length, .int f_spot, .int f_out])), (h_now, .inl (cI, 377, .inl f_now))] → va_S A s.heap H locs → lv_has ls 11 [(2, .int v2), (3, .int v3), (4, .int v4), (5, .int v5), (6, .int v6), (7, .int v7), (8, .int v8), (9, .int v9), (10, .int v10)] → W p l e ({ frames := 1, cells := 0, slots := 0, locals := 25 } : Room) s m args below meth c H locs 0 0 (MQ below (va_Qi (fun (r : Int32) (u : Int32) => K r u) (fun u t => xE D A ((fun (u : Int32) => [(h, .inr (5, [.int u, .ref h_text, .int f_size, .ref h_now, .ref h_trial, .ref h_diary, .int f_acts, .ref h_kept, .ref h_isKept, .ref h_line, .int f_length, .int f_spot, .int f_out])), (h_now, .inl (cI, 377, .inl f_now))]) u) t) A) args s 0 0 A) (F0 m 162 ls []) := by
  obtain ⟨hx, hb, hr, hml, hown, hts, hlocks, hK, hN⟩ := id C0
  intro n
  induction n with
  | zero => intro f_refusal v2 v3 v4 v5 v6 v7 v8 v9 v10 hk; exact hk.elim
  | succ n ih =>
    intro f_refusal v2 v3 v4 v5 v6 v7 v8 v9 v10 hk H locs ls hP hD hS hl
    rw [xp_X5_scene_162] at hk
    refine lv_iload hx hb dX5_scene_162 (lv_at hl 8 rfl) ?_
    refine lv_bipush (v := 26) hx hb dX5_scene_164 (by decide) ?_
    refine lv_icmp_ge (tgt := 204) hx hb dX5_scene_166 (by decide) (fun c1 => ?_) (fun c1 => ?_)
    · have hk := hk.1 c1
      refine lv_iload_n hx hb dX5_scene_204 rfl (lv_at hl 0 rfl) ?_
      refine lv_if_ne (tgt := 212) hx hb dX5_scene_205 (by decide) (fun c2 => ?_) (fun c2 => ?_)
      · have hk := hk.1 c2
        refine lv_iload_n hx hb dX5_scene_212 rfl (lv_at hl 0 rfl) ?_
        refine lv_iconst (v := 1) hx hb dX5_scene_213 (by decide) ?_
        refine lv_icmp_ne (tgt := 222) hx hb dX5_scene_214 (by decide) (fun c3 => ?_) (fun c3 => ?_)
        · have hk := hk.1 c3
          refine lv_iload_n hx hb dX5_scene_222 rfl (lv_at hl 0 rfl) ?_
          refine lv_iconst (v := 2) hx hb dX5_scene_223 (by decide) ?_
          refine lv_icmp_ne (tgt := 232) hx hb dX5_scene_224 (by decide) (fun c4 => ?_) (fun c4 => ?_)
          · have hk := hk.1 c4
            refine lv_iload_n hx hb dX5_scene_232 rfl (lv_at hl 0 rfl) ?_
            refine lv_iconst (v := 3) hx hb dX5_scene_233 (by decide) ?_
            refine lv_icmp_ne (tgt := 242) hx hb dX5_scene_234 (by decide) (fun c5 => ?_) (fun c5 => ?_)
            · have hk := hk.1 c5
              refine lv_iload hx hb dX5_scene_242 (lv_at hl 7 rfl) ?_
              exact x_reti C0 (f_refusal) hk hP hD hS dX5_scene_244
            · have hk := hk.2 c5
              refine lv_iload hx hb dX5_scene_237 (lv_at hl 3 rfl) ?_
              refine lv_goto (tgt := 244) hx hb dX5_scene_239 (by decide) ?_
              exact x_reti C0 (f_refusal) hk hP hD hS dX5_scene_244
          · have hk := hk.2 c4
            refine lv_iload hx hb dX5_scene_227 (lv_at hl 6 rfl) ?_
            refine lv_goto (tgt := 244) hx hb dX5_scene_229 (by decide) ?_
            exact x_reti C0 (f_refusal) hk hP hD hS dX5_scene_244
        · have hk := hk.2 c3
          refine lv_iload hx hb dX5_scene_217 (lv_at hl 2 rfl) ?_
          refine lv_goto (tgt := 244) hx hb dX5_scene_219 (by decide) ?_
          exact x_reti C0 (f_refusal) hk hP hD hS dX5_scene_244
      · have hk := hk.2 c2
        refine lv_iload_n hx hb dX5_scene_208 rfl (lv_at hl 1 rfl) ?_
        refine lv_goto (tgt := 244) hx hb dX5_scene_209 (by decide) ?_
        exact x_reti C0 (f_refusal) hk hP hD hS dX5_scene_244
    · have hk := hk.2 c1
      refine lv_iload hx hb dX5_scene_169 (lv_at hl 6 rfl) ?_
      refine lv_iload hx hb dX5_scene_171 (lv_at hl 4 rfl) ?_
      refine lv_iload hx hb dX5_scene_173 (lv_at hl 8 rfl) ?_
      refine lv_ishr hx hb dX5_scene_175 ?_
      refine lv_iconst (v := 1) hx hb dX5_scene_176 (by decide) ?_
      refine lv_iand hx hb dX5_scene_177 ?_
      refine lv_iadd hx hb dX5_scene_178 ?_
      refine lv_istore (lv' := [(8, .int (v8 + ((v6 >>> (v10 &&& 31)) &&& 1))), (2, .int v2), (3, .int v3), (4, .int v4), (5, .int v5), (6, .int v6), (7, .int v7), (9, .int v9), (10, .int v10)]) hx hb dX5_scene_179 hl (by decide) rfl (fun ls hl => ?_)
      refine lv_iload hx hb dX5_scene_181 (lv_at hl 7 rfl) ?_
      refine lv_iload hx hb dX5_scene_183 (lv_at hl 5 rfl) ?_
      refine lv_iload hx hb dX5_scene_185 (lv_at hl 6 rfl) ?_
      refine lv_iconst (v := (-1 : Int32)) hx hb dX5_scene_187 (by decide) ?_
      refine lv_ixor hx hb dX5_scene_188 ?_
      refine lv_iand hx hb dX5_scene_189 ?_
      refine lv_iload hx hb dX5_scene_190 (lv_at hl 8 rfl) ?_
      refine lv_ishr hx hb dX5_scene_192 ?_
      refine lv_iconst (v := 1) hx hb dX5_scene_193 (by decide) ?_
      refine lv_iand hx hb dX5_scene_194 ?_
      refine lv_iadd hx hb dX5_scene_195 ?_
      refine lv_istore (lv' := [(9, .int (v9 + (((v6 &&& (v7 ^^^ (-1 : Int32))) >>> (v10 &&& 31)) &&& 1))), (8, .int (v8 + ((v6 >>> (v10 &&& 31)) &&& 1))), (2, .int v2), (3, .int v3), (4, .int v4), (5, .int v5), (6, .int v6), (7, .int v7), (10, .int v10)]) hx hb dX5_scene_196 hl (by decide) rfl (fun ls hl => ?_)
      refine lv_iinc (v := (v10 + 1)) (lv' := [(10, .int (v10 + 1)), (9, .int (v9 + (((v6 &&& (v7 ^^^ (-1 : Int32))) >>> (v10 &&& 31)) &&& 1))), (8, .int (v8 + ((v6 >>> (v10 &&& 31)) &&& 1))), (2, .int v2), (3, .int v3), (4, .int v4), (5, .int v5), (6, .int v6), (7, .int v7)]) hx hb dX5_scene_198 hl (k := 8) rfl rfl (by decide) rfl (fun ls hl => ?_)
      refine lv_goto (tgt := 162) hx hb dX5_scene_201 (by decide) ?_
      exact ih _ _ _ _ _ _ _ _ _ _ hk H locs ls hP hD hS (lv_sub hl [3, 4, 5, 6, 7, 8, 2, 1, 0] rfl)
set_option maxHeartbeats 4000000 in
set_option maxRecDepth 100000 in
theorem xb_X5_scene_43 {p : Program} {l : Launch} {e : Env} {s : State} {m : MethodId} {args : Array Value} {below : List Frame} {meth : Method} {c : Code} {A : Nat → Prop} {D : va_G} {cI cC cZ cL : ClassId} {h h_text h_now h_trial h_diary h_kept h_isKept h_line : Nat}  {f_size : Int32} {f_acts : Int32} {f_length : Int32} {f_spot : Int32} {f_out : Int32} {f_now : Nat → Int32} {K : Int32 → Int32 → Prop}  (C0 : xC p s m args meth c cX5_scene 11 (some .int) wsX5_scene RX5 D (xTY cI cC cZ cL)) (hA : ∀ q : Nat, s.heap.size ≤ q → A q)  : ∀ (n : Nat) (f_refusal : Int32) (v1 : Int32) (v2 : Int32) (v3 : Int32) (v4 : Int32) (v5 : Int32) (v6 : Int32) (v7 : Int32) (v8 : Int32) , xp_X5_scene_43 f_now K n f_refusal v1 v2 v3 v4 v5 v6 v7 v8 → ∀ (H : Heap) (locs : List Loc) (ls : Array Slot), va_P D vwCl [(h, .inr (5, [.int f_refusal, .ref h_text, .int f_size, .ref h_now, .ref h_trial, .ref h_diary, .int f_acts, .ref h_kept, .ref h_isKept, .ref h_line, .int f_length, .int f_spot, .int f_out])), (h_now, .inl (cI, 377, .inl f_now))] H → va_D A [(h, .inr (5, [.int f_refusal, .ref h_text, .int f_size, .ref h_now, .ref h_trial, .ref h_diary, .int f_acts, .ref h_kept, .ref h_isKept, .ref h_line, .int f_length, .int f_spot, .int f_out])), (h_now, .inl (cI, 377, .inl f_now))] → va_S A s.heap H locs → lv_has ls 11 [(0, .ref h), (1, .int v1), (2, .int v2), (3, .int v3), (4, .int v4), (5, .int v5), (6, .int v6), (7, .int v7), (8, .int v8)] → W p l e ({ frames := 1, cells := 0, slots := 0, locals := 25 } : Room) s m args below meth c H locs 0 0 (MQ below (va_Qi (fun (r : Int32) (u : Int32) => K r u) (fun u t => xE D A ((fun (u : Int32) => [(h, .inr (5, [.int u, .ref h_text, .int f_size, .ref h_now, .ref h_trial, .ref h_diary, .int f_acts, .ref h_kept, .ref h_isKept, .ref h_line, .int f_length, .int f_spot, .int f_out])), (h_now, .inl (cI, 377, .inl f_now))]) u) t) A) args s 0 0 A) (F0 m 43 ls []) := by
  obtain ⟨hx, hb, hr, hml, hown, hts, hlocks, hK, hN⟩ := id C0
  intro n
  induction n with
  | zero => intro f_refusal v1 v2 v3 v4 v5 v6 v7 v8 hk; exact hk.elim
  | succ n ih =>
    intro f_refusal v1 v2 v3 v4 v5 v6 v7 v8 hk H locs ls hP hD hS hl
    rw [xp_X5_scene_43] at hk
    refine lv_iload hx hb dX5_scene_43 (lv_at hl 8 rfl) ?_
    refine lv_aload_n hx hb dX5_scene_45 rfl (lv_at hl 0 rfl) ?_
    refine va_get (D := D) (ci := 5) (v := .ref h_now) (C := RX5) (T := TX5) (N := 13) hx hb hts xin_X5_scene_X5 hown hK hP 0 rfl rfl 3 (by decide) (hts (.fieldLink RX5 13 "TakeLogModel" "now" "[I") (by decide +kernel)) (fun _ h9 => h9) rfl dX5_scene_46 ?_
    refine lv_iconst (v := 0) hx hb dX5_scene_49 (by decide) ?_
    refine x_iald (k := 0) hx hb hK hP 1 0 rfl rfl (x_lit rfl (by decide) (by decide)) rfl (v := (f_now 0)) rfl dX5_scene_50 ?_
    refine lv_icmp_ge (tgt := 153) hx hb dX5_scene_51 (by decide) (fun c1 => ?_) (fun c1 => ?_)
    · have hk := hk.1 c1
      refine lv_iconst (v := 0) hx hb dX5_scene_153 (by decide) ?_
      refine lv_istore (lv' := [(8, .int 0), (0, .ref h), (1, .int v1), (2, .int v2), (3, .int v3), (4, .int v4), (5, .int v5), (6, .int v6), (7, .int v7)]) hx hb dX5_scene_154 hl (by decide) rfl (fun ls hl => ?_)
      refine lv_iconst (v := 0) hx hb dX5_scene_156 (by decide) ?_
      refine lv_istore (lv' := [(9, .int 0), (8, .int 0), (0, .ref h), (1, .int v1), (2, .int v2), (3, .int v3), (4, .int v4), (5, .int v5), (6, .int v6), (7, .int v7)]) hx hb dX5_scene_157 hl (by decide) rfl (fun ls hl => ?_)
      refine lv_iconst (v := 0) hx hb dX5_scene_159 (by decide) ?_
      refine lv_istore (lv' := [(10, .int 0), (9, .int 0), (8, .int 0), (0, .ref h), (1, .int v1), (2, .int v2), (3, .int v3), (4, .int v4), (5, .int v5), (6, .int v6), (7, .int v7)]) hx hb dX5_scene_160 hl (by decide) rfl (fun ls hl => ?_)
      obtain ⟨n9, hk⟩ := hk
      exact xb_X5_scene_162 C0 hA  n9 _ _ _ _ _ _ _ _ _ _ hk H locs ls hP hD hS (lv_sub hl [5, 6, 7, 8, 9, 10, 2, 1, 0] rfl)
    · have hk := hk.2 c1
      refine lv_aload_n hx hb dX5_scene_54 rfl (lv_at hl 0 rfl) ?_
      refine va_get (D := D) (ci := 5) (v := .ref h_now) (C := RX5) (T := TX5) (N := 13) hx hb hts xin_X5_scene_X5 hown hK hP 0 rfl rfl 3 (by decide) (hts (.fieldLink RX5 13 "TakeLogModel" "now" "[I") (by decide +kernel)) (fun _ h9 => h9) rfl dX5_scene_55 ?_
      refine lv_iload hx hb dX5_scene_58 (lv_at hl 8 rfl) ?_
      refine lv_iconst (v := 0) hx hb dX5_scene_60 (by decide) ?_
      refine x_joini (ws1 := fun (_ : Unit) => [(h, .inr (5, [.int f_refusal, .ref h_text, .int f_size, .ref h_now, .ref h_trial, .ref h_diary, .int f_acts, .ref h_kept, .ref h_isKept, .ref h_line, .int f_length, .int f_spot, .int f_out])), (h_now, .inl (cI, 377, .inl f_now))]) (x_runO (n0 := 3) (As := [.ref h_now, .int v8, .int 0]) (rest := []) C0 (xc_X5_of l D cI cC cZ cL h_now H.size f_now v8 0 _ hk) gX5_scene_X5_of rfl ⟨rfl, rfl⟩ (by decide +kernel) rfl ⟨by decide, by decide⟩ ⟨Nat.zero_le _, Nat.zero_le _⟩ hP hD [1] rfl rfl hl.1 rfl (Nat.le_of_ble_eq_true rfl) dX5_scene_61) hP hD hS hA [1] [0] [0, 1] rfl rfl rfl (by decide) (fun _ => rfl) rfl (fun r2 u2 H locs hk hP hD hS => ?_)
      refine lv_iload_n hx hb dX5_scene_64 rfl (lv_at hl 1 rfl) ?_
      refine lv_icmp_ne (tgt := 147) hx hb dX5_scene_65 (by decide) (fun c3 => ?_) (fun c3 => ?_)
      · have hk := hk.1 c3
        refine lv_iinc (v := (v8 + 1)) (lv' := [(8, .int (v8 + 1)), (0, .ref h), (1, .int v1), (2, .int v2), (3, .int v3), (4, .int v4), (5, .int v5), (6, .int v6), (7, .int v7)]) hx hb dX5_scene_147 hl (k := 8) rfl rfl (by decide) rfl (fun ls hl => ?_)
        refine lv_goto (tgt := 43) hx hb dX5_scene_150 (by decide) ?_
        exact ih _ _ _ _ _ _ _ _ _ hk H locs ls hP hD hS (lv_sub hl [1, 2, 3, 4, 5, 6, 7, 8, 0] rfl)
      · have hk := hk.2 c3
        refine lv_iinc (v := (v3 + 1)) (lv' := [(3, .int (v3 + 1)), (0, .ref h), (1, .int v1), (2, .int v2), (4, .int v4), (5, .int v5), (6, .int v6), (7, .int v7), (8, .int v8)]) hx hb dX5_scene_68 hl (k := 3) rfl rfl (by decide) rfl (fun ls hl => ?_)
        refine lv_iload hx hb dX5_scene_71 (lv_at hl 4 rfl) ?_
        refine lv_aload_n hx hb dX5_scene_73 rfl (lv_at hl 1 rfl) ?_
        refine va_get (D := D) (ci := 5) (v := .ref h_now) (C := RX5) (T := TX5) (N := 13) hx hb hts xin_X5_scene_X5 hown hK hP 0 rfl rfl 3 (by decide) (hts (.fieldLink RX5 13 "TakeLogModel" "now" "[I") (by decide +kernel)) (fun _ h9 => h9) rfl dX5_scene_74 ?_
        refine lv_iload hx hb dX5_scene_77 (lv_at hl 8 rfl) ?_
        refine lv_bipush (v := 13) hx hb dX5_scene_79 (by decide) ?_
        refine x_joini (ws1 := fun (_ : Unit) => [(h, .inr (5, [.int f_refusal, .ref h_text, .int f_size, .ref h_now, .ref h_trial, .ref h_diary, .int f_acts, .ref h_kept, .ref h_isKept, .ref h_line, .int f_length, .int f_spot, .int f_out])), (h_now, .inl (cI, 377, .inl f_now))]) (x_runO (n0 := 3) (As := [.ref h_now, .int v8, .int 13]) (rest := [.int v4]) C0 (xc_X5_of l D cI cC cZ cL h_now H.size f_now v8 13 _ hk) gX5_scene_X5_of rfl ⟨rfl, rfl⟩ (by decide +kernel) rfl ⟨by decide, by decide⟩ ⟨Nat.zero_le _, Nat.zero_le _⟩ hP hD [1] rfl rfl hl.1 rfl (Nat.le_of_ble_eq_true rfl) dX5_scene_81) hP hD hS hA [1] [0] [0, 1] rfl rfl rfl (by decide) (fun _ => rfl) rfl (fun r4 u4 H locs hk hP hD hS => ?_)
        refine lv_iadd hx hb dX5_scene_84 ?_
        refine lv_istore (lv' := [(4, .int (v4 + r4)), (3, .int (v3 + 1)), (0, .ref h), (1, .int v1), (2, .int v2), (5, .int v5), (6, .int v6), (7, .int v7), (8, .int v8)]) hx hb dX5_scene_85 hl (by decide) rfl (fun ls hl => ?_)
        refine lv_iload hx hb dX5_scene_87 (lv_at hl 5 rfl) ?_
        refine lv_aload_n hx hb dX5_scene_89 rfl (lv_at hl 2 rfl) ?_
        refine va_get (D := D) (ci := 5) (v := .ref h_now) (C := RX5) (T := TX5) (N := 13) hx hb hts xin_X5_scene_X5 hown hK hP 0 rfl rfl 3 (by decide) (hts (.fieldLink RX5 13 "TakeLogModel" "now" "[I") (by decide +kernel)) (fun _ h9 => h9) rfl dX5_scene_90 ?_
        refine lv_iload hx hb dX5_scene_93 (lv_at hl 8 rfl) ?_
        refine lv_bipush (v := 7) hx hb dX5_scene_95 (by decide) ?_
        refine x_joini (ws1 := fun (_ : Unit) => [(h, .inr (5, [.int f_refusal, .ref h_text, .int f_size, .ref h_now, .ref h_trial, .ref h_diary, .int f_acts, .ref h_kept, .ref h_isKept, .ref h_line, .int f_length, .int f_spot, .int f_out])), (h_now, .inl (cI, 377, .inl f_now))]) (x_runO (n0 := 3) (As := [.ref h_now, .int v8, .int 7]) (rest := [.int v5]) C0 (xc_X5_of l D cI cC cZ cL h_now H.size f_now v8 7 _ hk) gX5_scene_X5_of rfl ⟨rfl, rfl⟩ (by decide +kernel) rfl ⟨by decide, by decide⟩ ⟨Nat.zero_le _, Nat.zero_le _⟩ hP hD [1] rfl rfl hl.1 rfl (Nat.le_of_ble_eq_true rfl) dX5_scene_97) hP hD hS hA [1] [0] [0, 1] rfl rfl rfl (by decide) (fun _ => rfl) rfl (fun r5 u5 H locs hk hP hD hS => ?_)
        refine lv_iadd hx hb dX5_scene_100 ?_
        refine lv_istore (lv' := [(5, .int (v5 + r5)), (4, .int (v4 + r4)), (3, .int (v3 + 1)), (0, .ref h), (1, .int v1), (2, .int v2), (6, .int v6), (7, .int v7), (8, .int v8)]) hx hb dX5_scene_101 hl (by decide) rfl (fun ls hl => ?_)
        refine lv_iload hx hb dX5_scene_103 (lv_at hl 6 rfl) ?_
        refine lv_iconst (v := 1) hx hb dX5_scene_105 (by decide) ?_
        refine lv_aload_n hx hb dX5_scene_106 rfl (lv_at hl 3 rfl) ?_
        refine va_get (D := D) (ci := 5) (v := .ref h_now) (C := RX5) (T := TX5) (N := 13) hx hb hts xin_X5_scene_X5 hown hK hP 0 rfl rfl 3 (by decide) (hts (.fieldLink RX5 13 "TakeLogModel" "now" "[I") (by decide +kernel)) (fun _ h9 => h9) rfl dX5_scene_107 ?_
        refine lv_iload hx hb dX5_scene_110 (lv_at hl 8 rfl) ?_
        refine lv_iconst (v := 1) hx hb dX5_scene_112 (by decide) ?_
        refine x_joini (ws1 := fun (_ : Unit) => [(h, .inr (5, [.int f_refusal, .ref h_text, .int f_size, .ref h_now, .ref h_trial, .ref h_diary, .int f_acts, .ref h_kept, .ref h_isKept, .ref h_line, .int f_length, .int f_spot, .int f_out])), (h_now, .inl (cI, 377, .inl f_now))]) (x_runO (n0 := 3) (As := [.ref h_now, .int v8, .int 1]) (rest := [.int 1, .int v6]) C0 (xc_X5_of l D cI cC cZ cL h_now H.size f_now v8 1 _ hk) gX5_scene_X5_of rfl ⟨rfl, rfl⟩ (by decide +kernel) rfl ⟨by decide, by decide⟩ ⟨Nat.zero_le _, Nat.zero_le _⟩ hP hD [1] rfl rfl hl.1 rfl (Nat.le_of_ble_eq_true rfl) dX5_scene_113) hP hD hS hA [1] [0] [0, 1] rfl rfl rfl (by decide) (fun _ => rfl) rfl (fun r6 u6 H locs hk hP hD hS => ?_)
        refine lv_ishl hx hb dX5_scene_116 ?_
        refine lv_ior hx hb dX5_scene_117 ?_
        refine lv_istore (lv' := [(6, .int (v6 ||| ((1 : Int32) <<< (r6 &&& 31)))), (5, .int (v5 + r5)), (4, .int (v4 + r4)), (3, .int (v3 + 1)), (0, .ref h), (1, .int v1), (2, .int v2), (7, .int v7), (8, .int v8)]) hx hb dX5_scene_118 hl (by decide) rfl (fun ls hl => ?_)
        refine lv_iload hx hb dX5_scene_120 (lv_at hl 7 rfl) ?_
        refine lv_aload_n hx hb dX5_scene_122 rfl (lv_at hl 4 rfl) ?_
        refine va_get (D := D) (ci := 5) (v := .ref h_now) (C := RX5) (T := TX5) (N := 13) hx hb hts xin_X5_scene_X5 hown hK hP 0 rfl rfl 3 (by decide) (hts (.fieldLink RX5 13 "TakeLogModel" "now" "[I") (by decide +kernel)) (fun _ h9 => h9) rfl dX5_scene_123 ?_
        refine lv_iload hx hb dX5_scene_126 (lv_at hl 8 rfl) ?_
        refine lv_bipush (v := 13) hx hb dX5_scene_128 (by decide) ?_
        refine x_joini (ws1 := fun (_ : Unit) => [(h, .inr (5, [.int f_refusal, .ref h_text, .int f_size, .ref h_now, .ref h_trial, .ref h_diary, .int f_acts, .ref h_kept, .ref h_isKept, .ref h_line, .int f_length, .int f_spot, .int f_out])), (h_now, .inl (cI, 377, .inl f_now))]) (x_runO (n0 := 3) (As := [.ref h_now, .int v8, .int 13]) (rest := [.int v7]) C0 (xc_X5_of l D cI cC cZ cL h_now H.size f_now v8 13 _ hk) gX5_scene_X5_of rfl ⟨rfl, rfl⟩ (by decide +kernel) rfl ⟨by decide, by decide⟩ ⟨Nat.zero_le _, Nat.zero_le _⟩ hP hD [1] rfl rfl hl.1 rfl (Nat.le_of_ble_eq_true rfl) dX5_scene_130) hP hD hS hA [1] [0] [0, 1] rfl rfl rfl (by decide) (fun _ => rfl) rfl (fun r7 u7 H locs hk hP hD hS => ?_)
        refine lv_aload_n hx hb dX5_scene_133 rfl (lv_at hl 4 rfl) ?_
        refine va_get (D := D) (ci := 5) (v := .ref h_now) (C := RX5) (T := TX5) (N := 13) hx hb hts xin_X5_scene_X5 hown hK hP 0 rfl rfl 3 (by decide) (hts (.fieldLink RX5 13 "TakeLogModel" "now" "[I") (by decide +kernel)) (fun _ h9 => h9) rfl dX5_scene_134 ?_
        refine lv_iload hx hb dX5_scene_137 (lv_at hl 8 rfl) ?_
        refine lv_iconst (v := 1) hx hb dX5_scene_139 (by decide) ?_
        refine x_joini (ws1 := fun (_ : Unit) => [(h, .inr (5, [.int f_refusal, .ref h_text, .int f_size, .ref h_now, .ref h_trial, .ref h_diary, .int f_acts, .ref h_kept, .ref h_isKept, .ref h_line, .int f_length, .int f_spot, .int f_out])), (h_now, .inl (cI, 377, .inl f_now))]) (x_runO (n0 := 3) (As := [.ref h_now, .int v8, .int 1]) (rest := [.int r7, .int v7]) C0 (xc_X5_of l D cI cC cZ cL h_now H.size f_now v8 1 _ hk) gX5_scene_X5_of rfl ⟨rfl, rfl⟩ (by decide +kernel) rfl ⟨by decide, by decide⟩ ⟨Nat.zero_le _, Nat.zero_le _⟩ hP hD [1] rfl rfl hl.1 rfl (Nat.le_of_ble_eq_true rfl) dX5_scene_140) hP hD hS hA [1] [0] [0, 1] rfl rfl rfl (by decide) (fun _ => rfl) rfl (fun r8 u8 H locs hk hP hD hS => ?_)
        refine lv_ishl hx hb dX5_scene_143 ?_
        refine lv_ior hx hb dX5_scene_144 ?_
        refine lv_istore (lv' := [(7, .int (v7 ||| (r7 <<< (r8 &&& 31)))), (6, .int (v6 ||| ((1 : Int32) <<< (r6 &&& 31)))), (5, .int (v5 + r5)), (4, .int (v4 + r4)), (3, .int (v3 + 1)), (0, .ref h), (1, .int v1), (2, .int v2), (8, .int v8)]) hx hb dX5_scene_145 hl (by decide) rfl (fun ls hl => ?_)
        refine lv_iinc (v := (v8 + 1)) (lv' := [(8, .int (v8 + 1)), (7, .int (v7 ||| (r7 <<< (r8 &&& 31)))), (6, .int (v6 ||| ((1 : Int32) <<< (r6 &&& 31)))), (5, .int (v5 + r5)), (4, .int (v4 + r4)), (3, .int (v3 + 1)), (0, .ref h), (1, .int v1), (2, .int v2)]) hx hb dX5_scene_147 hl (k := 8) rfl rfl (by decide) rfl (fun ls hl => ?_)
        refine lv_goto (tgt := 43) hx hb dX5_scene_150 (by decide) ?_
        exact ih _ _ _ _ _ _ _ _ _ hk H locs ls hP hD hS (lv_sub hl [6, 7, 8, 5, 4, 3, 2, 1, 0] rfl)
set_option maxHeartbeats 4000000 in
set_option maxRecDepth 100000 in
theorem xb_X5_scene_18 {p : Program} {l : Launch} {e : Env} {s : State} {m : MethodId} {args : Array Value} {below : List Frame} {meth : Method} {c : Code} {A : Nat → Prop} {D : va_G} {cI cC cZ cL : ClassId} {h h_text h_now h_trial h_diary h_kept h_isKept h_line : Nat}  {f_size : Int32} {f_acts : Int32} {f_length : Int32} {f_spot : Int32} {f_out : Int32} {f_now : Nat → Int32} {K : Int32 → Int32 → Prop}  (C0 : xC p s m args meth c cX5_scene 11 (some .int) wsX5_scene RX5 D (xTY cI cC cZ cL)) (hA : ∀ q : Nat, s.heap.size ≤ q → A q)  : ∀ (f_refusal : Int32) (v1 : Int32) (v2 : Int32) (t0 : Int32) , xp_X5_scene_18 f_now K f_refusal v1 v2 t0 → ∀ (H : Heap) (locs : List Loc) (ls : Array Slot), va_P D vwCl [(h, .inr (5, [.int f_refusal, .ref h_text, .int f_size, .ref h_now, .ref h_trial, .ref h_diary, .int f_acts, .ref h_kept, .ref h_isKept, .ref h_line, .int f_length, .int f_spot, .int f_out])), (h_now, .inl (cI, 377, .inl f_now))] H → va_D A [(h, .inr (5, [.int f_refusal, .ref h_text, .int f_size, .ref h_now, .ref h_trial, .ref h_diary, .int f_acts, .ref h_kept, .ref h_isKept, .ref h_line, .int f_length, .int f_spot, .int f_out])), (h_now, .inl (cI, 377, .inl f_now))] → va_S A s.heap H locs → lv_has ls 11 [(0, .ref h), (1, .int v1), (2, .int v2)] → W p l e ({ frames := 1, cells := 0, slots := 0, locals := 25 } : Room) s m args below meth c H locs 0 0 (MQ below (va_Qi (fun (r : Int32) (u : Int32) => K r u) (fun u t => xE D A ((fun (u : Int32) => [(h, .inr (5, [.int u, .ref h_text, .int f_size, .ref h_now, .ref h_trial, .ref h_diary, .int f_acts, .ref h_kept, .ref h_isKept, .ref h_line, .int f_length, .int f_spot, .int f_out])), (h_now, .inl (cI, 377, .inl f_now))]) u) t) A) args s 0 0 A) (F0 m 18 ls [.int t0, .ref h]) := by
  obtain ⟨hx, hb, hr, hml, hown, hts, hlocks, hK, hN⟩ := id C0
  intro f_refusal v1 v2 t0 hk H locs ls hP hD hS hl
  rw [xp_X5_scene_18] at hk
  refine x_joini (ws1 := fun (u1 : Int32) => [(h, .inr (5, [.int u1, .ref h_text, .int f_size, .ref h_now, .ref h_trial, .ref h_diary, .int f_acts, .ref h_kept, .ref h_isKept, .ref h_line, .int f_length, .int f_spot, .int f_out])), (h_now, .inl (cI, 377, .inl f_now))]) (x_runV (n0 := 1) (As := [.int t0]) (rest := []) C0 (xc_X5_refused l D cI cC cZ cL h h_text h_now h_trial h_diary h_kept h_isKept h_line H.size f_refusal f_size f_acts f_length f_spot f_out t0 _ hk) gX5_scene_X5_refused rfl ⟨rfl, rfl⟩ (by decide +kernel) rfl ⟨by decide, by decide⟩ ⟨Nat.zero_le _, Nat.zero_le _⟩ hP hD [0] rfl rfl (k := 0) rfl rfl rfl hl.1 rfl (Nat.le_of_ble_eq_true rfl) dX5_scene_18) hP hD hS hA [0] [1] [1, 0] rfl rfl rfl (by decide) (fun _ => rfl) rfl (fun r1 u1 H locs hk hP hD hS => ?_)
  refine lv_if_eq (tgt := 26) hx hb dX5_scene_21 (by decide) (fun c2 => ?_) (fun c2 => ?_)
  · have hk := hk.1 c2
    refine lv_iconst (v := 0) hx hb dX5_scene_26 (by decide) ?_
    refine lv_istore_n (lv' := [(3, .int 0), (0, .ref h), (1, .int v1), (2, .int v2)]) hx hb dX5_scene_27 rfl hl (by decide) rfl (fun ls hl => ?_)
    refine lv_iconst (v := 0) hx hb dX5_scene_28 (by decide) ?_
    refine lv_istore (lv' := [(4, .int 0), (3, .int 0), (0, .ref h), (1, .int v1), (2, .int v2)]) hx hb dX5_scene_29 hl (by decide) rfl (fun ls hl => ?_)
    refine lv_iconst (v := 0) hx hb dX5_scene_31 (by decide) ?_
    refine lv_istore (lv' := [(5, .int 0), (4, .int 0), (3, .int 0), (0, .ref h), (1, .int v1), (2, .int v2)]) hx hb dX5_scene_32 hl (by decide) rfl (fun ls hl => ?_)
    refine lv_iconst (v := 0) hx hb dX5_scene_34 (by decide) ?_
    refine lv_istore (lv' := [(6, .int 0), (5, .int 0), (4, .int 0), (3, .int 0), (0, .ref h), (1, .int v1), (2, .int v2)]) hx hb dX5_scene_35 hl (by decide) rfl (fun ls hl => ?_)
    refine lv_iconst (v := 0) hx hb dX5_scene_37 (by decide) ?_
    refine lv_istore (lv' := [(7, .int 0), (6, .int 0), (5, .int 0), (4, .int 0), (3, .int 0), (0, .ref h), (1, .int v1), (2, .int v2)]) hx hb dX5_scene_38 hl (by decide) rfl (fun ls hl => ?_)
    refine lv_iconst (v := 0) hx hb dX5_scene_40 (by decide) ?_
    refine lv_istore (lv' := [(8, .int 0), (7, .int 0), (6, .int 0), (5, .int 0), (4, .int 0), (3, .int 0), (0, .ref h), (1, .int v1), (2, .int v2)]) hx hb dX5_scene_41 hl (by decide) rfl (fun ls hl => ?_)
    obtain ⟨n9, hk⟩ := hk
    exact xb_X5_scene_43 C0 hA  n9 _ _ _ _ _ _ _ _ _ hk H locs ls hP hD hS (lv_sub hl [6, 7, 8, 5, 4, 3, 2, 1, 0] rfl)
  · have hk := hk.2 c2
    refine lv_iconst (v := 0) hx hb dX5_scene_24 (by decide) ?_
    exact x_reti C0 (u1) hk hP hD hS dX5_scene_25
set_option maxHeartbeats 4000000 in
set_option maxRecDepth 100000 in
theorem xb_X5_scene_0 {p : Program} {l : Launch} {e : Env} {s : State} {m : MethodId} {args : Array Value} {below : List Frame} {meth : Method} {c : Code} {A : Nat → Prop} {D : va_G} {cI cC cZ cL : ClassId} {h h_text h_now h_trial h_diary h_kept h_isKept h_line : Nat}  {f_size : Int32} {f_acts : Int32} {f_length : Int32} {f_spot : Int32} {f_out : Int32} {f_now : Nat → Int32} {K : Int32 → Int32 → Prop}  (C0 : xC p s m args meth c cX5_scene 11 (some .int) wsX5_scene RX5 D (xTY cI cC cZ cL)) (hA : ∀ q : Nat, s.heap.size ≤ q → A q)  : ∀ (f_refusal : Int32) (x1 : Int32) (x2 : Int32) , xp_X5_scene f_now f_refusal x1 x2 K → ∀ (H : Heap) (locs : List Loc) (ls : Array Slot), va_P D vwCl [(h, .inr (5, [.int f_refusal, .ref h_text, .int f_size, .ref h_now, .ref h_trial, .ref h_diary, .int f_acts, .ref h_kept, .ref h_isKept, .ref h_line, .int f_length, .int f_spot, .int f_out])), (h_now, .inl (cI, 377, .inl f_now))] H → va_D A [(h, .inr (5, [.int f_refusal, .ref h_text, .int f_size, .ref h_now, .ref h_trial, .ref h_diary, .int f_acts, .ref h_kept, .ref h_isKept, .ref h_line, .int f_length, .int f_spot, .int f_out])), (h_now, .inl (cI, 377, .inl f_now))] → va_S A s.heap H locs → lv_has ls 11 [(0, .ref h), (1, .int x1), (2, .int x2)] → W p l e ({ frames := 1, cells := 0, slots := 0, locals := 25 } : Room) s m args below meth c H locs 0 0 (MQ below (va_Qi (fun (r : Int32) (u : Int32) => K r u) (fun u t => xE D A ((fun (u : Int32) => [(h, .inr (5, [.int u, .ref h_text, .int f_size, .ref h_now, .ref h_trial, .ref h_diary, .int f_acts, .ref h_kept, .ref h_isKept, .ref h_line, .int f_length, .int f_spot, .int f_out])), (h_now, .inl (cI, 377, .inl f_now))]) u) t) A) args s 0 0 A) (F0 m 0 ls []) := by
  obtain ⟨hx, hb, hr, hml, hown, hts, hlocks, hK, hN⟩ := id C0
  intro f_refusal x1 x2 hk H locs ls hP hD hS hl
  rw [xp_X5_scene] at hk
  refine lv_aload_n hx hb dX5_scene_0 rfl (lv_at hl 0 rfl) ?_
  refine lv_iload_n hx hb dX5_scene_1 rfl (lv_at hl 2 rfl) ?_
  refine lv_i2l hx hb dX5_scene_2 rfl ?_
  refine lv_lconst (v := 0) hx hb dX5_scene_3 (by decide) ?_
  refine lv_ldc2 (own := RX5) hx hb hown (hts (.constantLong RX5 213 (4)) (by decide +kernel)) dX5_scene_4 ?_
  refine x_joini (ws1 := fun (_ : Unit) => [(h, .inr (5, [.int f_refusal, .ref h_text, .int f_size, .ref h_now, .ref h_trial, .ref h_diary, .int f_acts, .ref h_kept, .ref h_isKept, .ref h_line, .int f_length, .int f_spot, .int f_out])), (h_now, .inl (cI, 377, .inl f_now))]) (x_runO (n0 := 3) (As := [.long x2.toInt64, .long 0, .long 4]) (rest := [.ref h]) C0 (xc_X5_in l D cI cC cZ cL  H.size x2.toInt64 0 4 _ hk) gX5_scene_X5_in rfl ⟨rfl, rfl⟩ (by decide +kernel) rfl ⟨by decide, by decide⟩ ⟨Nat.zero_le _, Nat.zero_le _⟩ hP hD [] rfl rfl hl.1 rfl (Nat.le_of_ble_eq_true rfl) dX5_scene_7) hP hD hS hA [] [0, 1] [0, 1] rfl rfl rfl (by decide) (fun _ => rfl) rfl (fun r1 u1 H locs hk hP hD hS => ?_)
  refine lv_if_eq (tgt := 17) hx hb dX5_scene_10 (by decide) (fun c2 => ?_) (fun c2 => ?_)
  · have hk := hk.1 c2
    refine lv_iconst (v := 1) hx hb dX5_scene_17 (by decide) ?_
    exact xb_X5_scene_18 C0 hA  _ _ _ _ hk H locs ls hP hD hS (lv_sub hl [0, 1, 2] rfl)
  · have hk := hk.2 c2
    refine lv_iconst (v := 0) hx hb dX5_scene_13 (by decide) ?_
    refine lv_goto (tgt := 18) hx hb dX5_scene_14 (by decide) ?_
    exact xb_X5_scene_18 C0 hA  _ _ _ _ hk H locs ls hP hD hS (lv_sub hl [0, 1, 2] rfl)
theorem xc_X5_scene (l : Launch) (D : va_G) (cI cC cZ cL : ClassId) (h h_text h_now h_trial h_diary h_kept h_isKept h_line : Nat)  (sz : Nat) (f_refusal : Int32) (f_size : Int32) (f_acts : Int32) (f_length : Int32) (f_spot : Int32) (f_out : Int32) (f_now : Nat → Int32) (x1 : Int32) (x2 : Int32) (K : Int32 → Int32 → Prop) (hk : xp_X5_scene f_now f_refusal x1 x2 K) : XMi l yX5_scene wsX5_scene ({ frames := 1, cells := 0, slots := 0, locals := 25 } : Room) D (xTY cI cC cZ cL) [.ref h, .int x1, .int x2] [(h, .inr (5, [.int f_refusal, .ref h_text, .int f_size, .ref h_now, .ref h_trial, .ref h_diary, .int f_acts, .ref h_kept, .ref h_isKept, .ref h_line, .int f_length, .int f_spot, .int f_out])), (h_now, .inl (cI, 377, .inl f_now))] sz (fun (r : Int32) (u : Int32) => K r u) (fun (u : Int32) => [(h, .inr (5, [.int u, .ref h_text, .int f_size, .ref h_now, .ref h_trial, .ref h_diary, .int f_acts, .ref h_kept, .ref h_isKept, .ref h_line, .int f_length, .int f_spot, .int f_out])), (h_now, .inl (cI, 377, .inl f_now))]) :=
  x_enter (cc := cX5_scene) (maxL := 11) (ret := (some .int)) (own := RX5) (by decide) rfl rfl (Nat.le_of_ble_eq_true rfl) (fun p e s m below meth c ls C0 hA hP hD hS hl => xb_X5_scene_0 C0 hA _ _ _ hk s.heap [] ls hP hD hS hl)
set_option maxHeartbeats 4000000 in
set_option maxRecDepth 100000 in
theorem xb_X5_command_124 {p : Program} {l : Launch} {e : Env} {s : State} {m : MethodId} {args : Array Value} {below : List Frame} {meth : Method} {c : Code} {A : Nat → Prop} {D : va_G} {cI cC cZ cL : ClassId} {g1 : Nat}   {K : Int32 → ((Nat → Int32)) → Prop}  (C0 : xC p s m args meth c cX5_command 6 (some .boolean) wsX5_command RX5 D (xTY cI cC cZ cL)) (hA : ∀ q : Nat, s.heap.size ≤ q → A q)  : ∀ (f_p1 : Nat → Int32) (t0 : Int32) (t1 : Int32) , xp_X5_command_124 K f_p1 t0 t1 → ∀ (H : Heap) (locs : List Loc) (ls : Array Slot), va_P D vwCl [(g1, .inl (cI, 377, .inl f_p1))] H → va_D A [(g1, .inl (cI, 377, .inl f_p1))] → va_S A s.heap H locs → lv_has ls 6 [] → W p l e ({ frames := 6, cells := 0, slots := 0, locals := 134 } : Room) s m args below meth c H locs 0 0 (MQ below (va_Qi (fun (r : Int32) (u : (Nat → Int32)) => K r u) (fun u t => xE D A ((fun (u : (Nat → Int32)) => [(g1, .inl (cI, 377, .inl u))]) u) t) A) args s 0 0 A) (F0 m 124 ls [.int t0, .int t1, .ref g1]) := by
  obtain ⟨hx, hb, hr, hml, hown, hts, hlocks, hK, hN⟩ := id C0
  intro f_p1 t0 t1 hk H locs ls hP hD hS hl
  rw [xp_X5_command_124] at hk
  refine x_joini (ws1 := fun (u1 : (Nat → Int32)) => [(g1, .inl (cI, 377, .inl u1))]) (x_runO (n0 := 3) (As := [.ref g1, .int t1, .int t0]) (rest := []) C0 (xc_X5_shootOn l D cI cC cZ cL g1 H.size f_p1 t1 t0 _ hk) gX5_command_X5_shootOn rfl ⟨rfl, rfl⟩ (by decide +kernel) rfl ⟨by decide, by decide⟩ ⟨Nat.zero_le _, Nat.zero_le _⟩ hP hD [0] rfl rfl hl.1 rfl (Nat.le_of_ble_eq_true rfl) dX5_command_124) hP hD hS hA [0] [] [0] rfl rfl rfl (by decide) (fun _ => rfl) rfl (fun r1 u1 H locs hk hP hD hS => ?_)
  refine lv_if_le (tgt := 134) hx hb dX5_command_127 (by decide) (fun c2 => ?_) (fun c2 => ?_)
  · have hk := hk.1 c2
    refine lv_iconst (v := 0) hx hb dX5_command_134 (by decide) ?_
    exact x_retz rfl C0 (u1) hk hP hD hS dX5_command_135
  · have hk := hk.2 c2
    refine lv_iconst (v := 1) hx hb dX5_command_130 (by decide) ?_
    refine lv_goto (tgt := 135) hx hb dX5_command_131 (by decide) ?_
    exact x_retz rfl C0 (u1) hk hP hD hS dX5_command_135
set_option maxHeartbeats 4000000 in
set_option maxRecDepth 100000 in
theorem xb_X5_command_199 {p : Program} {l : Launch} {e : Env} {s : State} {m : MethodId} {args : Array Value} {below : List Frame} {meth : Method} {c : Code} {A : Nat → Prop} {D : va_G} {cI cC cZ cL : ClassId} {g1 : Nat}   {K : Int32 → ((Nat → Int32)) → Prop}  (C0 : xC p s m args meth c cX5_command 6 (some .boolean) wsX5_command RX5 D (xTY cI cC cZ cL)) (hA : ∀ q : Nat, s.heap.size ≤ q → A q)  : ∀ (f_p1 : Nat → Int32) (t0 : Int32) (t2 : Int32) , xp_X5_command_199 K f_p1 t0 t2 → ∀ (H : Heap) (locs : List Loc) (ls : Array Slot), va_P D vwCl [(g1, .inl (cI, 377, .inl f_p1))] H → va_D A [(g1, .inl (cI, 377, .inl f_p1))] → va_S A s.heap H locs → lv_has ls 6 [] → W p l e ({ frames := 6, cells := 0, slots := 0, locals := 134 } : Room) s m args below meth c H locs 0 0 (MQ below (va_Qi (fun (r : Int32) (u : (Nat → Int32)) => K r u) (fun u t => xE D A ((fun (u : (Nat → Int32)) => [(g1, .inl (cI, 377, .inl u))]) u) t) A) args s 0 0 A) (F0 m 199 ls [.int t0, .int 14, .int t2, .ref g1]) := by
  obtain ⟨hx, hb, hr, hml, hown, hts, hlocks, hK, hN⟩ := id C0
  intro f_p1 t0 t2 hk H locs ls hP hD hS hl
  rw [xp_X5_command_199] at hk
  refine x_joini (ws1 := fun (u1 : (Nat → Int32)) => [(g1, .inl (cI, 377, .inl u1))]) (x_runO (n0 := 4) (As := [.ref g1, .int t2, .int 14, .int t0]) (rest := []) C0 (xc_X5_markOn l D cI cC cZ cL g1 H.size f_p1 t2 14 t0 _ hk) gX5_command_X5_markOn rfl ⟨rfl, rfl⟩ (by decide +kernel) rfl ⟨by decide, by decide⟩ ⟨Nat.zero_le _, Nat.zero_le _⟩ hP hD [0] rfl rfl hl.1 rfl (Nat.le_of_ble_eq_true rfl) dX5_command_199) hP hD hS hA [0] [] [0] rfl rfl rfl (by decide) (fun _ => rfl) rfl (fun r1 u1 H locs hk hP hD hS => ?_)
  refine lv_if_lt (tgt := 209) hx hb dX5_command_202 (by decide) (fun c2 => ?_) (fun c2 => ?_)
  · have hk := hk.1 c2
    refine lv_iconst (v := 0) hx hb dX5_command_209 (by decide) ?_
    exact x_retz rfl C0 (u1) hk hP hD hS dX5_command_210
  · have hk := hk.2 c2
    refine lv_iconst (v := 1) hx hb dX5_command_205 (by decide) ?_
    refine lv_goto (tgt := 210) hx hb dX5_command_206 (by decide) ?_
    exact x_retz rfl C0 (u1) hk hP hD hS dX5_command_210
set_option maxHeartbeats 4000000 in
set_option maxRecDepth 100000 in
theorem xb_X5_command_22 {p : Program} {l : Launch} {e : Env} {s : State} {m : MethodId} {args : Array Value} {below : List Frame} {meth : Method} {c : Code} {A : Nat → Prop} {D : va_G} {cI cC cZ cL : ClassId} {g1 : Nat}   {K : Int32 → ((Nat → Int32)) → Prop}  (C0 : xC p s m args meth c cX5_command 6 (some .boolean) wsX5_command RX5 D (xTY cI cC cZ cL)) (hA : ∀ q : Nat, s.heap.size ≤ q → A q)  : ∀ (f_p1 : Nat → Int32) (v1 : Int32) (v2 : Int32) (v3 : Int32) (v4 : Int32) (t0 : Int32) , xp_X5_command_22 K f_p1 v1 v2 v3 v4 t0 → ∀ (H : Heap) (locs : List Loc) (ls : Array Slot), va_P D vwCl [(g1, .inl (cI, 377, .inl f_p1))] H → va_D A [(g1, .inl (cI, 377, .inl f_p1))] → va_S A s.heap H locs → lv_has ls 6 [(0, .ref g1), (1, .int v1), (2, .int v2), (3, .int v3), (4, .int v4)] → W p l e ({ frames := 6, cells := 0, slots := 0, locals := 134 } : Room) s m args below meth c H locs 0 0 (MQ below (va_Qi (fun (r : Int32) (u : (Nat → Int32)) => K r u) (fun u t => xE D A ((fun (u : (Nat → Int32)) => [(g1, .inl (cI, 377, .inl u))]) u) t) A) args s 0 0 A) (F0 m 22 ls [.int t0]) := by
  obtain ⟨hx, hb, hr, hml, hown, hts, hlocks, hK, hN⟩ := id C0
  intro f_p1 v1 v2 v3 v4 t0 hk H locs ls hP hD hS hl
  rw [xp_X5_command_22] at hk
  refine lv_istore (lv' := [(5, .int t0), (0, .ref g1), (1, .int v1), (2, .int v2), (3, .int v3), (4, .int v4)]) hx hb dX5_command_22 hl (by decide) rfl (fun ls hl => ?_)
  refine lv_iload_n hx hb dX5_command_24 rfl (lv_at hl 2 rfl) ?_
  by_cases c2 : v1 = 1
  · have hk := hk.1 c2
    refine lv_tableIn (x := v1) (off := 51) (tgt := 76) hx hb dX5_command_25 (by rw [c2]; decide) (by rw [c2]; decide) (by rw [c2]; rfl) (by decide) ?_
    refine lv_iload_n hx hb dX5_command_76 rfl (lv_at hl 3 rfl) ?_
    refine lv_sipush (v := 2000) hx hb dX5_command_77 (by decide) ?_
    refine lv_icmp_ge (tgt := 134) hx hb dX5_command_80 (by decide) (fun c3 => ?_) (fun c3 => ?_)
    · have hk := hk.1 c3
      refine lv_iconst (v := 0) hx hb dX5_command_134 (by decide) ?_
      exact x_retz rfl C0 (f_p1) hk hP hD hS dX5_command_135
    · have hk := hk.2 c3
      refine lv_iload_n hx hb dX5_command_83 rfl (lv_at hl 3 rfl) ?_
      refine lv_sipush (v := 1000) hx hb dX5_command_84 (by decide) ?_
      refine lv_irem hx hb dX5_command_87 (by decide) ?_
      refine lv_i2l hx hb dX5_command_88 rfl ?_
      refine lv_lconst (v := 1) hx hb dX5_command_89 (by decide) ?_
      refine lv_ldc2 (own := RX5) hx hb hown (hts (.constantLong RX5 196 (120)) (by decide +kernel)) dX5_command_90 ?_
      refine x_joini (ws1 := fun (_ : Unit) => [(g1, .inl (cI, 377, .inl f_p1))]) (x_runO (n0 := 3) (As := [.long ((v2 - v2 / 1000 * 1000).toInt64), .long 1, .long 120]) (rest := []) C0 (xc_X5_in l D cI cC cZ cL  H.size ((v2 - v2 / 1000 * 1000).toInt64) 1 120 _ hk) gX5_command_X5_in rfl ⟨rfl, rfl⟩ (by decide +kernel) rfl ⟨by decide, by decide⟩ ⟨Nat.zero_le _, Nat.zero_le _⟩ hP hD [] rfl rfl hl.1 rfl (Nat.le_of_ble_eq_true rfl) dX5_command_93) hP hD hS hA [] [0] [0] rfl rfl rfl (by decide) (fun _ => rfl) rfl (fun r4 u4 H locs hk hP hD hS => ?_)
      refine lv_if_eq (tgt := 134) hx hb dX5_command_96 (by decide) (fun c5 => ?_) (fun c5 => ?_)
      · have hk := hk.1 c5
        refine lv_iconst (v := 0) hx hb dX5_command_134 (by decide) ?_
        exact x_retz rfl C0 (f_p1) hk hP hD hS dX5_command_135
      · have hk := hk.2 c5
        refine lv_aload_n hx hb dX5_command_99 rfl (lv_at hl 1 rfl) ?_
        refine x_joini (ws1 := fun (_ : Unit) => [(g1, .inl (cI, 377, .inl f_p1))]) (x_runO (n0 := 1) (As := [.ref g1]) (rest := []) C0 (xc_X5_canShoot l D cI cC cZ cL g1 H.size f_p1 _ hk) gX5_command_X5_canShoot rfl ⟨rfl, rfl⟩ (by decide +kernel) rfl ⟨by decide, by decide⟩ ⟨Nat.zero_le _, Nat.zero_le _⟩ hP hD [0] rfl rfl hl.1 rfl (Nat.le_of_ble_eq_true rfl) dX5_command_100) hP hD hS hA [0] [] [0] rfl rfl rfl (by decide) (fun _ => rfl) rfl (fun r6 u6 H locs hk hP hD hS => ?_)
        refine lv_if_eq (tgt := 134) hx hb dX5_command_103 (by decide) (fun c7 => ?_) (fun c7 => ?_)
        · have hk := hk.1 c7
          refine lv_iconst (v := 0) hx hb dX5_command_134 (by decide) ?_
          exact x_retz rfl C0 (f_p1) hk hP hD hS dX5_command_135
        · have hk := hk.2 c7
          refine lv_aload_n hx hb dX5_command_106 rfl (lv_at hl 1 rfl) ?_
          refine lv_iload_n hx hb dX5_command_107 rfl (lv_at hl 3 rfl) ?_
          refine lv_sipush (v := 1000) hx hb dX5_command_108 (by decide) ?_
          refine lv_irem hx hb dX5_command_111 (by decide) ?_
          refine lv_iload_n hx hb dX5_command_112 rfl (lv_at hl 3 rfl) ?_
          refine lv_sipush (v := 1000) hx hb dX5_command_113 (by decide) ?_
          refine lv_icmp_lt (tgt := 123) hx hb dX5_command_116 (by decide) (fun c8 => ?_) (fun c8 => ?_)
          · have hk := hk.1 c8
            refine lv_iconst (v := 0) hx hb dX5_command_123 (by decide) ?_
            exact xb_X5_command_124 C0 hA  _ _ _ hk H locs ls hP hD hS (lv_sub hl [] rfl)
          · have hk := hk.2 c8
            refine lv_iconst (v := 1) hx hb dX5_command_119 (by decide) ?_
            refine lv_goto (tgt := 124) hx hb dX5_command_120 (by decide) ?_
            exact xb_X5_command_124 C0 hA  _ _ _ hk H locs ls hP hD hS (lv_sub hl [] rfl)
  have hk := hk.2 c2
  by_cases c9 : v1 = 2
  · have hk := hk.1 c9
    refine lv_tableIn (x := v1) (off := 111) (tgt := 136) hx hb dX5_command_25 (by rw [c9]; decide) (by rw [c9]; decide) (by rw [c9]; rfl) (by decide) ?_
    refine lv_iload_n hx hb dX5_command_136 rfl (lv_at hl 4 rfl) ?_
    refine lv_if_ne (tgt := 169) hx hb dX5_command_137 (by decide) (fun c10 => ?_) (fun c10 => ?_)
    · have hk := hk.1 c10
      refine lv_iconst (v := 0) hx hb dX5_command_169 (by decide) ?_
      exact x_retz rfl C0 (f_p1) hk hP hD hS dX5_command_170
    · have hk := hk.2 c10
      refine lv_iload hx hb dX5_command_140 (lv_at hl 0 rfl) ?_
      refine lv_if_eq (tgt := 169) hx hb dX5_command_142 (by decide) (fun c11 => ?_) (fun c11 => ?_)
      · have hk := hk.1 c11
        refine lv_iconst (v := 0) hx hb dX5_command_169 (by decide) ?_
        exact x_retz rfl C0 (f_p1) hk hP hD hS dX5_command_170
      · have hk := hk.2 c11
        refine lv_iload hx hb dX5_command_145 (lv_at hl 5 rfl) ?_
        refine lv_iconst (v := 1) hx hb dX5_command_147 (by decide) ?_
        refine lv_icmp_ne (tgt := 158) hx hb dX5_command_148 (by decide) (fun c12 => ?_) (fun c12 => ?_)
        · have hk := hk.1 c12
          refine lv_aload_n hx hb dX5_command_158 rfl (lv_at hl 1 rfl) ?_
          refine x_joini (ws1 := fun (u13 : (Nat → Int32)) => [(g1, .inl (cI, 377, .inl u13))]) (x_runO (n0 := 1) (As := [.ref g1]) (rest := []) C0 (xc_X5_newCameraOn l D cI cC cZ cL g1 H.size f_p1 _ hk) gX5_command_X5_newCameraOn rfl ⟨rfl, rfl⟩ (by decide +kernel) rfl ⟨by decide, by decide⟩ ⟨Nat.zero_le _, Nat.zero_le _⟩ hP hD [0] rfl rfl hl.1 rfl (Nat.le_of_ble_eq_true rfl) dX5_command_159) hP hD hS hA [0] [] [0] rfl rfl rfl (by decide) (fun _ => rfl) rfl (fun r13 u13 H locs hk hP hD hS => ?_)
          refine lv_if_le (tgt := 169) hx hb dX5_command_162 (by decide) (fun c14 => ?_) (fun c14 => ?_)
          · have hk := hk.1 c14
            refine lv_iconst (v := 0) hx hb dX5_command_169 (by decide) ?_
            exact x_retz rfl C0 (u13) hk hP hD hS dX5_command_170
          · have hk := hk.2 c14
            refine lv_iconst (v := 1) hx hb dX5_command_165 (by decide) ?_
            refine lv_goto (tgt := 170) hx hb dX5_command_166 (by decide) ?_
            exact x_retz rfl C0 (u13) hk hP hD hS dX5_command_170
        · have hk := hk.2 c12
          refine lv_aload_n hx hb dX5_command_151 rfl (lv_at hl 1 rfl) ?_
          refine x_joini (ws1 := fun (u15 : (Nat → Int32)) => [(g1, .inl (cI, 377, .inl u15))]) (x_runO (n0 := 1) (As := [.ref g1]) (rest := []) C0 (xc_X5_newSoundOn l D cI cC cZ cL g1 H.size f_p1 _ hk) gX5_command_X5_newSoundOn rfl ⟨rfl, rfl⟩ (by decide +kernel) rfl ⟨by decide, by decide⟩ ⟨Nat.zero_le _, Nat.zero_le _⟩ hP hD [0] rfl rfl hl.1 rfl (Nat.le_of_ble_eq_true rfl) dX5_command_152) hP hD hS hA [0] [] [0] rfl rfl rfl (by decide) (fun _ => rfl) rfl (fun r15 u15 H locs hk hP hD hS => ?_)
          refine lv_goto (tgt := 162) hx hb dX5_command_155 (by decide) ?_
          refine lv_if_le (tgt := 169) hx hb dX5_command_162 (by decide) (fun c16 => ?_) (fun c16 => ?_)
          · have hk := hk.1 c16
            refine lv_iconst (v := 0) hx hb dX5_command_169 (by decide) ?_
            exact x_retz rfl C0 (u15) hk hP hD hS dX5_command_170
          · have hk := hk.2 c16
            refine lv_iconst (v := 1) hx hb dX5_command_165 (by decide) ?_
            refine lv_goto (tgt := 170) hx hb dX5_command_166 (by decide) ?_
            exact x_retz rfl C0 (u15) hk hP hD hS dX5_command_170
  have hk := hk.2 c9
  by_cases c17 : v1 = 3
  · have hk := hk.1 c17
    refine lv_tableIn (x := v1) (off := 146) (tgt := 171) hx hb dX5_command_25 (by rw [c17]; decide) (by rw [c17]; decide) (by rw [c17]; rfl) (by decide) ?_
    refine lv_iload hx hb dX5_command_171 (lv_at hl 0 rfl) ?_
    refine lv_if_eq (tgt := 209) hx hb dX5_command_173 (by decide) (fun c18 => ?_) (fun c18 => ?_)
    · have hk := hk.1 c18
      refine lv_iconst (v := 0) hx hb dX5_command_209 (by decide) ?_
      exact x_retz rfl C0 (f_p1) hk hP hD hS dX5_command_210
    · have hk := hk.2 c18
      refine lv_aload_n hx hb dX5_command_176 rfl (lv_at hl 1 rfl) ?_
      refine lv_iload_n hx hb dX5_command_177 rfl (lv_at hl 4 rfl) ?_
      refine x_joini (ws1 := fun (_ : Unit) => [(g1, .inl (cI, 377, .inl f_p1))]) (x_runO (n0 := 2) (As := [.ref g1, .int v3]) (rest := []) C0 (xc_X5_isTake l D cI cC cZ cL g1 H.size f_p1 v3 _ hk) gX5_command_X5_isTake rfl ⟨rfl, rfl⟩ (by decide +kernel) rfl ⟨by decide, by decide⟩ ⟨Nat.zero_le _, Nat.zero_le _⟩ hP hD [0] rfl rfl hl.1 rfl (Nat.le_of_ble_eq_true rfl) dX5_command_178) hP hD hS hA [0] [] [0] rfl rfl rfl (by decide) (fun _ => rfl) rfl (fun r19 u19 H locs hk hP hD hS => ?_)
      refine lv_if_eq (tgt := 209) hx hb dX5_command_181 (by decide) (fun c20 => ?_) (fun c20 => ?_)
      · have hk := hk.1 c20
        refine lv_iconst (v := 0) hx hb dX5_command_209 (by decide) ?_
        exact x_retz rfl C0 (f_p1) hk hP hD hS dX5_command_210
      · have hk := hk.2 c20
        refine lv_aload_n hx hb dX5_command_184 rfl (lv_at hl 1 rfl) ?_
        refine lv_iload_n hx hb dX5_command_185 rfl (lv_at hl 4 rfl) ?_
        refine lv_bipush (v := 14) hx hb dX5_command_186 (by decide) ?_
        refine lv_iload hx hb dX5_command_188 (lv_at hl 5 rfl) ?_
        refine lv_iconst (v := 1) hx hb dX5_command_190 (by decide) ?_
        refine lv_icmp_ne (tgt := 198) hx hb dX5_command_191 (by decide) (fun c21 => ?_) (fun c21 => ?_)
        · have hk := hk.1 c21
          refine lv_iconst (v := 0) hx hb dX5_command_198 (by decide) ?_
          exact xb_X5_command_199 C0 hA  _ _ _ hk H locs ls hP hD hS (lv_sub hl [] rfl)
        · have hk := hk.2 c21
          refine lv_iconst (v := 1) hx hb dX5_command_194 (by decide) ?_
          refine lv_goto (tgt := 199) hx hb dX5_command_195 (by decide) ?_
          exact xb_X5_command_199 C0 hA  _ _ _ hk H locs ls hP hD hS (lv_sub hl [] rfl)
  have hk := hk.2 c17
  by_cases c22 : v1 = 4
  · have hk := hk.1 c22
    refine lv_tableIn (x := v1) (off := 186) (tgt := 211) hx hb dX5_command_25 (by rw [c22]; decide) (by rw [c22]; decide) (by rw [c22]; rfl) (by decide) ?_
    refine lv_iload_n hx hb dX5_command_211 rfl (lv_at hl 4 rfl) ?_
    refine lv_iload hx hb dX5_command_212 (lv_at hl 5 rfl) ?_
    refine x_joini (ws1 := fun (_ : Unit) => [(g1, .inl (cI, 377, .inl f_p1))]) (x_runO (n0 := 2) (As := [.int v3, .int v4]) (rest := []) C0 (xc_X5_isSetup l D cI cC cZ cL  H.size v3 v4 _ hk) gX5_command_X5_isSetup rfl ⟨rfl, rfl⟩ (by decide +kernel) rfl ⟨by decide, by decide⟩ ⟨Nat.zero_le _, Nat.zero_le _⟩ hP hD [] rfl rfl hl.1 rfl (Nat.le_of_ble_eq_true rfl) dX5_command_214) hP hD hS hA [] [0] [0] rfl rfl rfl (by decide) (fun _ => rfl) rfl (fun r23 u23 H locs hk hP hD hS => ?_)
    refine lv_if_eq (tgt := 234) hx hb dX5_command_217 (by decide) (fun c24 => ?_) (fun c24 => ?_)
    · have hk := hk.1 c24
      refine lv_iconst (v := 0) hx hb dX5_command_234 (by decide) ?_
      exact x_retz rfl C0 (f_p1) hk hP hD hS dX5_command_235
    · have hk := hk.2 c24
      refine lv_aload_n hx hb dX5_command_220 rfl (lv_at hl 1 rfl) ?_
      refine lv_iload_n hx hb dX5_command_221 rfl (lv_at hl 4 rfl) ?_
      refine lv_iload hx hb dX5_command_222 (lv_at hl 5 rfl) ?_
      refine x_joini (ws1 := fun (u25 : (Nat → Int32)) => [(g1, .inl (cI, 377, .inl u25))]) (x_runO (n0 := 3) (As := [.ref g1, .int v3, .int v4]) (rest := []) C0 (xc_X5_callOn l D cI cC cZ cL g1 H.size f_p1 v3 v4 _ hk) gX5_command_X5_callOn rfl ⟨rfl, rfl⟩ (by decide +kernel) rfl ⟨by decide, by decide⟩ ⟨Nat.zero_le _, Nat.zero_le _⟩ hP hD [0] rfl rfl hl.1 rfl (Nat.le_of_ble_eq_true rfl) dX5_command_224) hP hD hS hA [0] [] [0] rfl rfl rfl (by decide) (fun _ => rfl) rfl (fun r25 u25 H locs hk hP hD hS => ?_)
      refine lv_if_le (tgt := 234) hx hb dX5_command_227 (by decide) (fun c26 => ?_) (fun c26 => ?_)
      · have hk := hk.1 c26
        refine lv_iconst (v := 0) hx hb dX5_command_234 (by decide) ?_
        exact x_retz rfl C0 (u25) hk hP hD hS dX5_command_235
      · have hk := hk.2 c26
        refine lv_iconst (v := 1) hx hb dX5_command_230 (by decide) ?_
        refine lv_goto (tgt := 235) hx hb dX5_command_231 (by decide) ?_
        exact x_retz rfl C0 (u25) hk hP hD hS dX5_command_235
  have hk := hk.2 c22
  by_cases c27 : v1 = 5
  · have hk := hk.1 c27
    refine lv_tableIn (x := v1) (off := 211) (tgt := 236) hx hb dX5_command_25 (by rw [c27]; decide) (by rw [c27]; decide) (by rw [c27]; rfl) (by decide) ?_
    refine lv_iload_n hx hb dX5_command_236 rfl (lv_at hl 3 rfl) ?_
    refine lv_if_ne (tgt := 251) hx hb dX5_command_237 (by decide) (fun c28 => ?_) (fun c28 => ?_)
    · have hk := hk.1 c28
      refine lv_iconst (v := 0) hx hb dX5_command_251 (by decide) ?_
      exact x_retz rfl C0 (f_p1) hk hP hD hS dX5_command_252
    · have hk := hk.2 c28
      refine lv_aload_n hx hb dX5_command_240 rfl (lv_at hl 1 rfl) ?_
      refine x_joini (ws1 := fun (u29 : (Nat → Int32)) => [(g1, .inl (cI, 377, .inl u29))]) (x_runO (n0 := 1) (As := [.ref g1]) (rest := []) C0 (xc_X5_rightOn l D cI cC cZ cL g1 H.size f_p1 _ hk) gX5_command_X5_rightOn rfl ⟨rfl, rfl⟩ (by decide +kernel) rfl ⟨by decide, by decide⟩ ⟨Nat.zero_le _, Nat.zero_le _⟩ hP hD [0] rfl rfl hl.1 rfl (Nat.le_of_ble_eq_true rfl) dX5_command_241) hP hD hS hA [0] [] [0] rfl rfl rfl (by decide) (fun _ => rfl) rfl (fun r29 u29 H locs hk hP hD hS => ?_)
      refine lv_if_le (tgt := 251) hx hb dX5_command_244 (by decide) (fun c30 => ?_) (fun c30 => ?_)
      · have hk := hk.1 c30
        refine lv_iconst (v := 0) hx hb dX5_command_251 (by decide) ?_
        exact x_retz rfl C0 (u29) hk hP hD hS dX5_command_252
      · have hk := hk.2 c30
        refine lv_iconst (v := 1) hx hb dX5_command_247 (by decide) ?_
        refine lv_goto (tgt := 252) hx hb dX5_command_248 (by decide) ?_
        exact x_retz rfl C0 (u29) hk hP hD hS dX5_command_252
  have hk := hk.2 c27
  by_cases c31 : v1 = 6
  · have hk := hk.1 c31
    refine lv_tableIn (x := v1) (off := 228) (tgt := 253) hx hb dX5_command_25 (by rw [c31]; decide) (by rw [c31]; decide) (by rw [c31]; rfl) (by decide) ?_
    refine lv_iload hx hb dX5_command_253 (lv_at hl 0 rfl) ?_
    refine lv_if_eq (tgt := 289) hx hb dX5_command_255 (by decide) (fun c32 => ?_) (fun c32 => ?_)
    · have hk := hk.1 c32
      refine lv_iconst (v := 0) hx hb dX5_command_289 (by decide) ?_
      exact x_retz rfl C0 (f_p1) hk hP hD hS dX5_command_290
    · have hk := hk.2 c32
      refine lv_aload_n hx hb dX5_command_258 rfl (lv_at hl 1 rfl) ?_
      refine lv_iload_n hx hb dX5_command_259 rfl (lv_at hl 4 rfl) ?_
      refine x_joini (ws1 := fun (_ : Unit) => [(g1, .inl (cI, 377, .inl f_p1))]) (x_runO (n0 := 2) (As := [.ref g1, .int v3]) (rest := []) C0 (xc_X5_isTake l D cI cC cZ cL g1 H.size f_p1 v3 _ hk) gX5_command_X5_isTake rfl ⟨rfl, rfl⟩ (by decide +kernel) rfl ⟨by decide, by decide⟩ ⟨Nat.zero_le _, Nat.zero_le _⟩ hP hD [0] rfl rfl hl.1 rfl (Nat.le_of_ble_eq_true rfl) dX5_command_260) hP hD hS hA [0] [] [0] rfl rfl rfl (by decide) (fun _ => rfl) rfl (fun r33 u33 H locs hk hP hD hS => ?_)
      refine lv_if_eq (tgt := 289) hx hb dX5_command_263 (by decide) (fun c34 => ?_) (fun c34 => ?_)
      · have hk := hk.1 c34
        refine lv_iconst (v := 0) hx hb dX5_command_289 (by decide) ?_
        exact x_retz rfl C0 (f_p1) hk hP hD hS dX5_command_290
      · have hk := hk.2 c34
        refine lv_aload_n hx hb dX5_command_266 rfl (lv_at hl 1 rfl) ?_
        refine lv_iload_n hx hb dX5_command_267 rfl (lv_at hl 4 rfl) ?_
        refine x_joini (ws1 := fun (_ : Unit) => [(g1, .inl (cI, 377, .inl f_p1))]) (x_runO (n0 := 2) (As := [.ref g1, .int v3]) (rest := []) C0 (xc_X5_isRight l D cI cC cZ cL g1 H.size f_p1 v3 _ hk) gX5_command_X5_isRight rfl ⟨rfl, rfl⟩ (by decide +kernel) rfl ⟨by decide, by decide⟩ ⟨Nat.zero_le _, Nat.zero_le _⟩ hP hD [0] rfl rfl hl.1 rfl (Nat.le_of_ble_eq_true rfl) dX5_command_268) hP hD hS hA [0] [] [0] rfl rfl rfl (by decide) (fun _ => rfl) rfl (fun r35 u35 H locs hk hP hD hS => ?_)
        refine lv_iload hx hb dX5_command_271 (lv_at hl 5 rfl) ?_
        refine lv_iconst (v := 1) hx hb dX5_command_273 (by decide) ?_
        refine lv_icmp_ne (tgt := 281) hx hb dX5_command_274 (by decide) (fun c36 => ?_) (fun c36 => ?_)
        · have hk := hk.1 c36
          refine lv_iconst (v := 0) hx hb dX5_command_281 (by decide) ?_
          refine lv_icmp_ne (tgt := 289) hx hb dX5_command_282 (by decide) (fun c37 => ?_) (fun c37 => ?_)
          · have hk := hk.1 c37
            refine lv_iconst (v := 0) hx hb dX5_command_289 (by decide) ?_
            exact x_retz rfl C0 (f_p1) hk hP hD hS dX5_command_290
          · have hk := hk.2 c37
            refine lv_iconst (v := 1) hx hb dX5_command_285 (by decide) ?_
            refine lv_goto (tgt := 290) hx hb dX5_command_286 (by decide) ?_
            exact x_retz rfl C0 (f_p1) hk hP hD hS dX5_command_290
        · have hk := hk.2 c36
          refine lv_iconst (v := 1) hx hb dX5_command_277 (by decide) ?_
          refine lv_goto (tgt := 282) hx hb dX5_command_278 (by decide) ?_
          refine lv_icmp_ne (tgt := 289) hx hb dX5_command_282 (by decide) (fun c38 => ?_) (fun c38 => ?_)
          · have hk := hk.1 c38
            refine lv_iconst (v := 0) hx hb dX5_command_289 (by decide) ?_
            exact x_retz rfl C0 (f_p1) hk hP hD hS dX5_command_290
          · have hk := hk.2 c38
            refine lv_iconst (v := 1) hx hb dX5_command_285 (by decide) ?_
            refine lv_goto (tgt := 290) hx hb dX5_command_286 (by decide) ?_
            exact x_retz rfl C0 (f_p1) hk hP hD hS dX5_command_290
  have hk := hk.2 c31
  by_cases c39 : v1 = 7
  · have hk := hk.1 c39
    refine lv_tableIn (x := v1) (off := 266) (tgt := 291) hx hb dX5_command_25 (by rw [c39]; decide) (by rw [c39]; decide) (by rw [c39]; rfl) (by decide) ?_
    refine lv_iload_n hx hb dX5_command_291 rfl (lv_at hl 4 rfl) ?_
    refine lv_if_ne (tgt := 308) hx hb dX5_command_292 (by decide) (fun c40 => ?_) (fun c40 => ?_)
    · have hk := hk.1 c40
      refine lv_iconst (v := 0) hx hb dX5_command_308 (by decide) ?_
      exact x_retz rfl C0 (f_p1) hk hP hD hS dX5_command_309
    · have hk := hk.2 c40
      refine lv_aload_n hx hb dX5_command_295 rfl (lv_at hl 1 rfl) ?_
      refine x_joini (ws1 := fun (_ : Unit) => [(g1, .inl (cI, 377, .inl f_p1))]) (x_runO (n0 := 1) (As := [.ref g1]) (rest := []) C0 (xc_X5_wrong l D cI cC cZ cL g1 H.size f_p1 _ hk) gX5_command_X5_wrong rfl ⟨rfl, rfl⟩ (by decide +kernel) rfl ⟨by decide, by decide⟩ ⟨Nat.zero_le _, Nat.zero_le _⟩ hP hD [0] rfl rfl hl.1 rfl (Nat.le_of_ble_eq_true rfl) dX5_command_296) hP hD hS hA [0] [] [0] rfl rfl rfl (by decide) (fun _ => rfl) rfl (fun r41 u41 H locs hk hP hD hS => ?_)
      refine lv_iload hx hb dX5_command_299 (lv_at hl 5 rfl) ?_
      refine lv_icmp_gt (tgt := 308) hx hb dX5_command_301 (by decide) (fun c42 => ?_) (fun c42 => ?_)
      · have hk := hk.1 c42
        refine lv_iconst (v := 0) hx hb dX5_command_308 (by decide) ?_
        exact x_retz rfl C0 (f_p1) hk hP hD hS dX5_command_309
      · have hk := hk.2 c42
        refine lv_iconst (v := 1) hx hb dX5_command_304 (by decide) ?_
        refine lv_goto (tgt := 309) hx hb dX5_command_305 (by decide) ?_
        exact x_retz rfl C0 (f_p1) hk hP hD hS dX5_command_309
  have hk := hk.2 c39
  by_cases c43 : v1 = 8
  · have hk := hk.1 c43
    refine lv_tableIn (x := v1) (off := 285) (tgt := 310) hx hb dX5_command_25 (by rw [c43]; decide) (by rw [c43]; decide) (by rw [c43]; rfl) (by decide) ?_
    refine lv_aload_n hx hb dX5_command_310 rfl (lv_at hl 1 rfl) ?_
    refine lv_iload_n hx hb dX5_command_311 rfl (lv_at hl 4 rfl) ?_
    refine x_joini (ws1 := fun (_ : Unit) => [(g1, .inl (cI, 377, .inl f_p1))]) (x_runO (n0 := 2) (As := [.ref g1, .int v3]) (rest := []) C0 (xc_X5_isTake l D cI cC cZ cL g1 H.size f_p1 v3 _ hk) gX5_command_X5_isTake rfl ⟨rfl, rfl⟩ (by decide +kernel) rfl ⟨by decide, by decide⟩ ⟨Nat.zero_le _, Nat.zero_le _⟩ hP hD [0] rfl rfl hl.1 rfl (Nat.le_of_ble_eq_true rfl) dX5_command_312) hP hD hS hA [0] [] [0] rfl rfl rfl (by decide) (fun _ => rfl) rfl (fun r44 u44 H locs hk hP hD hS => ?_)
    refine lv_if_eq (tgt := 342) hx hb dX5_command_315 (by decide) (fun c45 => ?_) (fun c45 => ?_)
    · have hk := hk.1 c45
      refine lv_iconst (v := 0) hx hb dX5_command_342 (by decide) ?_
      exact x_retz rfl C0 (f_p1) hk hP hD hS dX5_command_343
    · have hk := hk.2 c45
      refine lv_aload_n hx hb dX5_command_318 rfl (lv_at hl 1 rfl) ?_
      refine lv_iload hx hb dX5_command_319 (lv_at hl 5 rfl) ?_
      refine x_joini (ws1 := fun (_ : Unit) => [(g1, .inl (cI, 377, .inl f_p1))]) (x_runO (n0 := 2) (As := [.ref g1, .int v4]) (rest := []) C0 (xc_X5_isTake l D cI cC cZ cL g1 H.size f_p1 v4 _ hk) gX5_command_X5_isTake rfl ⟨rfl, rfl⟩ (by decide +kernel) rfl ⟨by decide, by decide⟩ ⟨Nat.zero_le _, Nat.zero_le _⟩ hP hD [0] rfl rfl hl.1 rfl (Nat.le_of_ble_eq_true rfl) dX5_command_321) hP hD hS hA [0] [] [0] rfl rfl rfl (by decide) (fun _ => rfl) rfl (fun r46 u46 H locs hk hP hD hS => ?_)
      refine lv_if_eq (tgt := 342) hx hb dX5_command_324 (by decide) (fun c47 => ?_) (fun c47 => ?_)
      · have hk := hk.1 c47
        refine lv_iconst (v := 0) hx hb dX5_command_342 (by decide) ?_
        exact x_retz rfl C0 (f_p1) hk hP hD hS dX5_command_343
      · have hk := hk.2 c47
        refine lv_aload_n hx hb dX5_command_327 rfl (lv_at hl 1 rfl) ?_
        refine lv_iload_n hx hb dX5_command_328 rfl (lv_at hl 4 rfl) ?_
        refine lv_iconst (v := 0) hx hb dX5_command_329 (by decide) ?_
        refine x_joini (ws1 := fun (_ : Unit) => [(g1, .inl (cI, 377, .inl f_p1))]) (x_runO (n0 := 3) (As := [.ref g1, .int v3, .int 0]) (rest := []) C0 (xc_X5_syncedBy l D cI cC cZ cL g1 H.size f_p1 v3 0 _ hk) gX5_command_X5_syncedBy rfl ⟨rfl, rfl⟩ (by decide +kernel) rfl ⟨by decide, by decide⟩ ⟨Nat.zero_le _, Nat.zero_le _⟩ hP hD [0] rfl rfl hl.1 rfl (Nat.le_of_ble_eq_true rfl) dX5_command_330) hP hD hS hA [0] [] [0] rfl rfl rfl (by decide) (fun _ => rfl) rfl (fun r48 u48 H locs hk hP hD hS => ?_)
        refine lv_iload hx hb dX5_command_333 (lv_at hl 5 rfl) ?_
        refine lv_icmp_ne (tgt := 342) hx hb dX5_command_335 (by decide) (fun c49 => ?_) (fun c49 => ?_)
        · have hk := hk.1 c49
          refine lv_iconst (v := 0) hx hb dX5_command_342 (by decide) ?_
          exact x_retz rfl C0 (f_p1) hk hP hD hS dX5_command_343
        · have hk := hk.2 c49
          refine lv_iconst (v := 1) hx hb dX5_command_338 (by decide) ?_
          refine lv_goto (tgt := 343) hx hb dX5_command_339 (by decide) ?_
          exact x_retz rfl C0 (f_p1) hk hP hD hS dX5_command_343
  have hk := hk.2 c43
  by_cases c50 : v1 = 9
  · have hk := hk.1 c50
    refine lv_tableIn (x := v1) (off := 319) (tgt := 344) hx hb dX5_command_25 (by rw [c50]; decide) (by rw [c50]; decide) (by rw [c50]; rfl) (by decide) ?_
    refine lv_iload_n hx hb dX5_command_344 rfl (lv_at hl 3 rfl) ?_
    refine lv_sipush (v := 1000) hx hb dX5_command_345 (by decide) ?_
    refine lv_icmp_ge (tgt := 363) hx hb dX5_command_348 (by decide) (fun c51 => ?_) (fun c51 => ?_)
    · have hk := hk.1 c51
      refine lv_iconst (v := 0) hx hb dX5_command_363 (by decide) ?_
      exact x_retz rfl C0 (f_p1) hk hP hD hS dX5_command_364
    · have hk := hk.2 c51
      refine lv_aload_n hx hb dX5_command_351 rfl (lv_at hl 1 rfl) ?_
      refine x_joini (ws1 := fun (_ : Unit) => [(g1, .inl (cI, 377, .inl f_p1))]) (x_runO (n0 := 1) (As := [.ref g1]) (rest := []) C0 (xc_X5_left l D cI cC cZ cL g1 H.size f_p1 _ hk) gX5_command_X5_left rfl ⟨rfl, rfl⟩ (by decide +kernel) rfl ⟨by decide, by decide⟩ ⟨Nat.zero_le _, Nat.zero_le _⟩ hP hD [0] rfl rfl hl.1 rfl (Nat.le_of_ble_eq_true rfl) dX5_command_352) hP hD hS hA [0] [] [0] rfl rfl rfl (by decide) (fun _ => rfl) rfl (fun r52 u52 H locs hk hP hD hS => ?_)
      refine lv_iload_n hx hb dX5_command_355 rfl (lv_at hl 3 rfl) ?_
      refine lv_icmp_lt (tgt := 363) hx hb dX5_command_356 (by decide) (fun c53 => ?_) (fun c53 => ?_)
      · have hk := hk.1 c53
        refine lv_iconst (v := 0) hx hb dX5_command_363 (by decide) ?_
        exact x_retz rfl C0 (f_p1) hk hP hD hS dX5_command_364
      · have hk := hk.2 c53
        refine lv_iconst (v := 1) hx hb dX5_command_359 (by decide) ?_
        refine lv_goto (tgt := 364) hx hb dX5_command_360 (by decide) ?_
        exact x_retz rfl C0 (f_p1) hk hP hD hS dX5_command_364
  have hk := hk.2 c50
  have ec2 := x_ne c2 (k := 1) rfl
  have ec9 := x_ne c9 (k := 2) rfl
  have ec17 := x_ne c17 (k := 3) rfl
  have ec22 := x_ne c22 (k := 4) rfl
  have ec27 := x_ne c27 (k := 5) rfl
  have ec31 := x_ne c31 (k := 6) rfl
  have ec39 := x_ne c39 (k := 7) rfl
  have ec43 := x_ne c43 (k := 8) rfl
  have ec50 := x_ne c50 (k := 9) rfl
  refine lv_tableOut (x := v1) (tgt := 365) hx hb dX5_command_25 (by omega) (by decide) ?_
  refine lv_iconst (v := 0) hx hb dX5_command_365 (by decide) ?_
  exact x_retz rfl C0 (f_p1) hk hP hD hS dX5_command_366
set_option maxHeartbeats 4000000 in
set_option maxRecDepth 100000 in
theorem xb_X5_command_0 {p : Program} {l : Launch} {e : Env} {s : State} {m : MethodId} {args : Array Value} {below : List Frame} {meth : Method} {c : Code} {A : Nat → Prop} {D : va_G} {cI cC cZ cL : ClassId} {g1 : Nat}   {K : Int32 → ((Nat → Int32)) → Prop}  (C0 : xC p s m args meth c cX5_command 6 (some .boolean) wsX5_command RX5 D (xTY cI cC cZ cL)) (hA : ∀ q : Nat, s.heap.size ≤ q → A q)  : ∀ (f_p1 : Nat → Int32) (x2 : Int32) (x3 : Int32) , xp_X5_command f_p1 x2 x3 K → ∀ (H : Heap) (locs : List Loc) (ls : Array Slot), va_P D vwCl [(g1, .inl (cI, 377, .inl f_p1))] H → va_D A [(g1, .inl (cI, 377, .inl f_p1))] → va_S A s.heap H locs → lv_has ls 6 [(0, .ref g1), (1, .int x2), (2, .int x3)] → W p l e ({ frames := 6, cells := 0, slots := 0, locals := 134 } : Room) s m args below meth c H locs 0 0 (MQ below (va_Qi (fun (r : Int32) (u : (Nat → Int32)) => K r u) (fun u t => xE D A ((fun (u : (Nat → Int32)) => [(g1, .inl (cI, 377, .inl u))]) u) t) A) args s 0 0 A) (F0 m 0 ls []) := by
  obtain ⟨hx, hb, hr, hml, hown, hts, hlocks, hK, hN⟩ := id C0
  intro f_p1 x2 x3 hk H locs ls hP hD hS hl
  rw [xp_X5_command] at hk
  refine lv_iload_n hx hb dX5_command_0 rfl (lv_at hl 2 rfl) ?_
  refine lv_bipush (v := 100) hx hb dX5_command_1 (by decide) ?_
  refine lv_idiv hx hb dX5_command_3 (by decide) ?_
  refine lv_istore_n (lv' := [(3, .int (x3 / 100)), (0, .ref g1), (1, .int x2), (2, .int x3)]) hx hb dX5_command_4 rfl hl (by decide) rfl (fun ls hl => ?_)
  refine lv_iload_n hx hb dX5_command_5 rfl (lv_at hl 3 rfl) ?_
  refine lv_bipush (v := 100) hx hb dX5_command_6 (by decide) ?_
  refine lv_irem hx hb dX5_command_8 (by decide) ?_
  refine lv_istore (lv' := [(4, .int (x3 - x3 / 100 * 100)), (3, .int (x3 / 100)), (0, .ref g1), (1, .int x2), (2, .int x3)]) hx hb dX5_command_9 hl (by decide) rfl (fun ls hl => ?_)
  refine lv_iload hx hb dX5_command_11 (lv_at hl 0 rfl) ?_
  refine lv_iconst (v := 2) hx hb dX5_command_13 (by decide) ?_
  refine lv_icmp_ge (tgt := 21) hx hb dX5_command_14 (by decide) (fun c1 => ?_) (fun c1 => ?_)
  · have hk := hk.1 c1
    refine lv_iconst (v := 0) hx hb dX5_command_21 (by decide) ?_
    exact xb_X5_command_22 C0 hA  _ _ _ _ _ _ hk H locs ls hP hD hS (lv_sub hl [2, 3, 4, 1, 0] rfl)
  · have hk := hk.2 c1
    refine lv_iconst (v := 1) hx hb dX5_command_17 (by decide) ?_
    refine lv_goto (tgt := 22) hx hb dX5_command_18 (by decide) ?_
    exact xb_X5_command_22 C0 hA  _ _ _ _ _ _ hk H locs ls hP hD hS (lv_sub hl [2, 3, 4, 1, 0] rfl)
theorem xc_X5_command (l : Launch) (D : va_G) (cI cC cZ cL : ClassId) (g1 : Nat)  (sz : Nat) (f_p1 : Nat → Int32) (x2 : Int32) (x3 : Int32) (K : Int32 → ((Nat → Int32)) → Prop) (hk : xp_X5_command f_p1 x2 x3 K) : XMi l yX5_command wsX5_command ({ frames := 6, cells := 0, slots := 0, locals := 134 } : Room) D (xTY cI cC cZ cL) [.ref g1, .int x2, .int x3] [(g1, .inl (cI, 377, .inl f_p1))] sz (fun (r : Int32) (u : (Nat → Int32)) => K r u) (fun (u : (Nat → Int32)) => [(g1, .inl (cI, 377, .inl u))]) :=
  x_enter (cc := cX5_command) (maxL := 6) (ret := (some .boolean)) (own := RX5) (by decide) rfl rfl (Nat.le_of_ble_eq_true rfl) (fun p e s m below meth c ls C0 hA hP hD hS hl => xb_X5_command_0 C0 hA _ _ _ hk s.heap [] ls hP hD hS hl)
set_option maxRecDepth 20000 in
theorem xin_X5_runScript_X5 : ∀ w ∈ u_ws RX5 TX5 13, w ∈ wsX5_runScript := by decide +kernel
set_option maxHeartbeats 4000000 in
set_option maxRecDepth 100000 in
theorem xb_X5_runScript_86 {p : Program} {l : Launch} {e : Env} {s : State} {m : MethodId} {args : Array Value} {below : List Frame} {meth : Method} {c : Code} {A : Nat → Prop} {D : va_G} {cI cC cZ cL : ClassId} {h h_text h_now h_trial h_diary h_kept h_isKept h_line : Nat}  {f_size : Int32} {f_acts : Int32} {f_length : Int32} {f_spot : Int32} {f_out : Int32} {f_now : Nat → Int32} {K : Int32 → (Int32 × (Nat → Int32)) → Prop}  (C0 : xC p s m args meth c cX5_runScript 8 (some .int) wsX5_runScript RX5 D (xTY cI cC cZ cL)) (hA : ∀ q : Nat, s.heap.size ≤ q → A q)  : ∀ (n : Nat) (f_refusal : Int32) (f_trial : Nat → Int32) (v1 : Int32) (v2 : Int64) (v4 : Int64) (v6 : Int32) , xp_X5_runScript_86 f_now K n f_refusal f_trial v1 v2 v4 v6 → ∀ (H : Heap) (locs : List Loc) (ls : Array Slot), va_P D vwCl [(h, .inr (5, [.int f_refusal, .ref h_text, .int f_size, .ref h_now, .ref h_trial, .ref h_diary, .int f_acts, .ref h_kept, .ref h_isKept, .ref h_line, .int f_length, .int f_spot, .int f_out])), (h_now, .inl (cI, 377, .inl f_now)), (h_trial, .inl (cI, 377, .inl f_trial))] H → va_D A [(h, .inr (5, [.int f_refusal, .ref h_text, .int f_size, .ref h_now, .ref h_trial, .ref h_diary, .int f_acts, .ref h_kept, .ref h_isKept, .ref h_line, .int f_length, .int f_spot, .int f_out])), (h_now, .inl (cI, 377, .inl f_now)), (h_trial, .inl (cI, 377, .inl f_trial))] → va_S A s.heap H locs → lv_has ls 8 [(0, .ref h), (1, .int v1), (2, .long v2), (4, .long v4), (6, .int v6)] → W p l e ({ frames := 7, cells := 0, slots := 0, locals := 159 } : Room) s m args below meth c H locs 0 0 (MQ below (va_Qi (fun (r : Int32) (u : Int32 × (Nat → Int32)) => K r u) (fun u t => xE D A ((fun (u : Int32 × (Nat → Int32)) => [(h, .inr (5, [.int u.1, .ref h_text, .int f_size, .ref h_now, .ref h_trial, .ref h_diary, .int f_acts, .ref h_kept, .ref h_isKept, .ref h_line, .int f_length, .int f_spot, .int f_out])), (h_now, .inl (cI, 377, .inl f_now)), (h_trial, .inl (cI, 377, .inl u.2))]) u) t) A) args s 0 0 A) (F0 m 86 ls []) := by
  obtain ⟨hx, hb, hr, hml, hown, hts, hlocks, hK, hN⟩ := id C0
  intro n
  induction n with
  | zero => intro f_refusal f_trial v1 v2 v4 v6 hk; exact hk.elim
  | succ n ih =>
    intro f_refusal f_trial v1 v2 v4 v6 hk H locs ls hP hD hS hl
    rw [xp_X5_runScript_86] at hk
    refine lv_iload hx hb dX5_runScript_86 (lv_at hl 4 rfl) ?_
    refine lv_iload_n hx hb dX5_runScript_88 rfl (lv_at hl 1 rfl) ?_
    refine lv_icmp_ge (tgt := 142) hx hb dX5_runScript_89 (by decide) (fun c1 => ?_) (fun c1 => ?_)
    · have hk := hk.1 c1
      refine lv_iconst (v := (-1 : Int32)) hx hb dX5_runScript_142 (by decide) ?_
      exact x_reti C0 (f_refusal, f_trial) hk hP hD hS dX5_runScript_143
    · have hk := hk.2 c1
      refine lv_lload hx hb dX5_runScript_92 (lv_at hl 3 rfl) ?_
      refine lv_ldc2 (own := RX5) hx hb hown (hts (.constantLong RX5 215 (100000)) (by decide +kernel)) dX5_runScript_94 ?_
      refine lv_ldiv hx hb dX5_runScript_97 (by decide) ?_
      refine lv_lstore (lv' := [(4, .long (v4 / 100000)), (0, .ref h), (1, .int v1), (2, .long v2), (6, .int v6)]) hx hb dX5_runScript_98 hl (by decide) rfl (fun ls hl => ?_)
      refine lv_lload_n hx hb dX5_runScript_100 rfl (lv_at hl 3 rfl) ?_
      refine lv_lload hx hb dX5_runScript_101 (lv_at hl 0 rfl) ?_
      refine lv_ldiv hx hb dX5_runScript_103 hk.1 ?_
      have hk := hk.2
      refine lv_ldc2 (own := RX5) hx hb hown (hts (.constantLong RX5 215 (100000)) (by decide +kernel)) dX5_runScript_104 ?_
      refine lv_lrem hx hb dX5_runScript_107 (by decide) ?_
      refine lv_l2i hx hb dX5_runScript_108 rfl ?_
      refine lv_istore (lv' := [(7, .int (((v2 / (v4 / 100000)) - (v2 / (v4 / 100000)) / 100000 * 100000).toInt32)), (4, .long (v4 / 100000)), (0, .ref h), (1, .int v1), (2, .long v2), (6, .int v6)]) hx hb dX5_runScript_109 hl (by decide) rfl (fun ls hl => ?_)
      refine lv_aload_n hx hb dX5_runScript_111 rfl (lv_at hl 2 rfl) ?_
      refine va_get (D := D) (ci := 5) (v := .ref h_trial) (C := RX5) (T := TX5) (N := 13) hx hb hts xin_X5_runScript_X5 hown hK hP 0 rfl rfl 4 (by decide) (hts (.fieldLink RX5 16 "TakeLogModel" "trial" "[I") (by decide +kernel)) (fun _ h9 => h9) rfl dX5_runScript_112 ?_
      refine lv_iload hx hb dX5_runScript_115 (lv_at hl 0 rfl) ?_
      refine lv_sipush (v := 10000) hx hb dX5_runScript_117 (by decide) ?_
      refine lv_idiv hx hb dX5_runScript_120 (by decide) ?_
      refine lv_iload hx hb dX5_runScript_121 (lv_at hl 0 rfl) ?_
      refine lv_sipush (v := 10000) hx hb dX5_runScript_123 (by decide) ?_
      refine lv_irem hx hb dX5_runScript_126 (by decide) ?_
      refine x_joini (ws1 := fun (u2 : (Nat → Int32)) => [(h, .inr (5, [.int f_refusal, .ref h_text, .int f_size, .ref h_now, .ref h_trial, .ref h_diary, .int f_acts, .ref h_kept, .ref h_isKept, .ref h_line, .int f_length, .int f_spot, .int f_out])), (h_now, .inl (cI, 377, .inl f_now)), (h_trial, .inl (cI, 377, .inl u2))]) (x_runO (n0 := 3) (As := [.ref h_trial, .int ((((v2 / (v4 / 100000)) - (v2 / (v4 / 100000)) / 100000 * 100000).toInt32) / 10000), .int ((((v2 / (v4 / 100000)) - (v2 / (v4 / 100000)) / 100000 * 100000).toInt32) - (((v2 / (v4 / 100000)) - (v2 / (v4 / 100000)) / 100000 * 100000).toInt32) / 10000 * 10000)]) (rest := []) C0 (xc_X5_command l D cI cC cZ cL h_trial H.size f_trial ((((v2 / (v4 / 100000)) - (v2 / (v4 / 100000)) / 100000 * 100000).toInt32) / 10000) ((((v2 / (v4 / 100000)) - (v2 / (v4 / 100000)) / 100000 * 100000).toInt32) - (((v2 / (v4 / 100000)) - (v2 / (v4 / 100000)) / 100000 * 100000).toInt32) / 10000 * 10000) _ hk) gX5_runScript_X5_command rfl ⟨rfl, rfl⟩ (by decide +kernel) rfl ⟨by decide, by decide⟩ ⟨Nat.zero_le _, Nat.zero_le _⟩ hP hD [2] rfl rfl hl.1 rfl (Nat.le_of_ble_eq_true rfl) dX5_runScript_127) hP hD hS hA [2] [0, 1] [0, 1, 2] rfl rfl rfl (by decide) (fun _ => rfl) rfl (fun r2 u2 H locs hk hP hD hS => ?_)
      refine lv_if_ne (tgt := 136) hx hb dX5_runScript_130 (by decide) (fun c3 => ?_) (fun c3 => ?_)
      · have hk := hk.1 c3
        refine lv_iinc (v := (v6 + 1)) (lv' := [(6, .int (v6 + 1)), (7, .int (((v2 / (v4 / 100000)) - (v2 / (v4 / 100000)) / 100000 * 100000).toInt32)), (4, .long (v4 / 100000)), (0, .ref h), (1, .int v1), (2, .long v2)]) hx hb dX5_runScript_136 hl (k := 5) rfl rfl (by decide) rfl (fun ls hl => ?_)
        refine lv_goto (tgt := 86) hx hb dX5_runScript_139 (by decide) ?_
        exact ih _ _ _ _ _ _ hk H locs ls hP hD hS (lv_sub hl [3, 4, 5, 2, 0] rfl)
      · have hk := hk.2 c3
        refine lv_iload hx hb dX5_runScript_133 (lv_at hl 5 rfl) ?_
        exact x_reti C0 (f_refusal, u2) hk hP hD hS dX5_runScript_135
set_option maxHeartbeats 4000000 in
set_option maxRecDepth 100000 in
theorem xb_X5_runScript_62 {p : Program} {l : Launch} {e : Env} {s : State} {m : MethodId} {args : Array Value} {below : List Frame} {meth : Method} {c : Code} {A : Nat → Prop} {D : va_G} {cI cC cZ cL : ClassId} {h h_text h_now h_trial h_diary h_kept h_isKept h_line : Nat}  {f_size : Int32} {f_acts : Int32} {f_length : Int32} {f_spot : Int32} {f_out : Int32} {f_now : Nat → Int32} {K : Int32 → (Int32 × (Nat → Int32)) → Prop}  (C0 : xC p s m args meth c cX5_runScript 8 (some .int) wsX5_runScript RX5 D (xTY cI cC cZ cL)) (hA : ∀ q : Nat, s.heap.size ≤ q → A q)  : ∀ (f_refusal : Int32) (f_trial : Nat → Int32) (v1 : Int32) (v2 : Int64) (v4 : Int64) (t0 : Int32) , xp_X5_runScript_62 f_now K f_refusal f_trial v1 v2 v4 t0 → ∀ (H : Heap) (locs : List Loc) (ls : Array Slot), va_P D vwCl [(h, .inr (5, [.int f_refusal, .ref h_text, .int f_size, .ref h_now, .ref h_trial, .ref h_diary, .int f_acts, .ref h_kept, .ref h_isKept, .ref h_line, .int f_length, .int f_spot, .int f_out])), (h_now, .inl (cI, 377, .inl f_now)), (h_trial, .inl (cI, 377, .inl f_trial))] H → va_D A [(h, .inr (5, [.int f_refusal, .ref h_text, .int f_size, .ref h_now, .ref h_trial, .ref h_diary, .int f_acts, .ref h_kept, .ref h_isKept, .ref h_line, .int f_length, .int f_spot, .int f_out])), (h_now, .inl (cI, 377, .inl f_now)), (h_trial, .inl (cI, 377, .inl f_trial))] → va_S A s.heap H locs → lv_has ls 8 [(0, .ref h), (1, .int v1), (2, .long v2), (4, .long v4)] → W p l e ({ frames := 7, cells := 0, slots := 0, locals := 159 } : Room) s m args below meth c H locs 0 0 (MQ below (va_Qi (fun (r : Int32) (u : Int32 × (Nat → Int32)) => K r u) (fun u t => xE D A ((fun (u : Int32 × (Nat → Int32)) => [(h, .inr (5, [.int u.1, .ref h_text, .int f_size, .ref h_now, .ref h_trial, .ref h_diary, .int f_acts, .ref h_kept, .ref h_isKept, .ref h_line, .int f_length, .int f_spot, .int f_out])), (h_now, .inl (cI, 377, .inl f_now)), (h_trial, .inl (cI, 377, .inl u.2))]) u) t) A) args s 0 0 A) (F0 m 62 ls [.int t0, .ref h]) := by
  obtain ⟨hx, hb, hr, hml, hown, hts, hlocks, hK, hN⟩ := id C0
  intro f_refusal f_trial v1 v2 v4 t0 hk H locs ls hP hD hS hl
  rw [xp_X5_runScript_62] at hk
  refine x_joini (ws1 := fun (u1 : Int32) => [(h, .inr (5, [.int u1, .ref h_text, .int f_size, .ref h_now, .ref h_trial, .ref h_diary, .int f_acts, .ref h_kept, .ref h_isKept, .ref h_line, .int f_length, .int f_spot, .int f_out])), (h_now, .inl (cI, 377, .inl f_now)), (h_trial, .inl (cI, 377, .inl f_trial))]) (x_runV (n0 := 1) (As := [.int t0]) (rest := []) C0 (xc_X5_refused l D cI cC cZ cL h h_text h_now h_trial h_diary h_kept h_isKept h_line H.size f_refusal f_size f_acts f_length f_spot f_out t0 _ hk) gX5_runScript_X5_refused rfl ⟨rfl, rfl⟩ (by decide +kernel) rfl ⟨by decide, by decide⟩ ⟨Nat.zero_le _, Nat.zero_le _⟩ hP hD [0] rfl rfl (k := 0) rfl rfl rfl hl.1 rfl (Nat.le_of_ble_eq_true rfl) dX5_runScript_62) hP hD hS hA [0] [1, 2] [2, 0, 1] rfl rfl rfl (by decide) (fun _ => rfl) rfl (fun r1 u1 H locs hk hP hD hS => ?_)
  refine lv_if_eq (tgt := 70) hx hb dX5_runScript_65 (by decide) (fun c2 => ?_) (fun c2 => ?_)
  · have hk := hk.1 c2
    refine lv_aload_n hx hb dX5_runScript_70 rfl (lv_at hl 0 rfl) ?_
    refine va_get (D := D) (ci := 5) (v := .ref h_now) (C := RX5) (T := TX5) (N := 13) hx hb hts xin_X5_runScript_X5 hown hK hP 0 rfl rfl 3 (by decide) (hts (.fieldLink RX5 13 "TakeLogModel" "now" "[I") (by decide +kernel)) (fun _ h9 => h9) rfl dX5_runScript_71 ?_
    refine lv_iconst (v := 0) hx hb dX5_runScript_74 (by decide) ?_
    refine lv_aload_n hx hb dX5_runScript_75 rfl (lv_at hl 0 rfl) ?_
    refine va_get (D := D) (ci := 5) (v := .ref h_trial) (C := RX5) (T := TX5) (N := 13) hx hb hts xin_X5_runScript_X5 hown hK hP 0 rfl rfl 4 (by decide) (hts (.fieldLink RX5 16 "TakeLogModel" "trial" "[I") (by decide +kernel)) (fun _ h9 => h9) rfl dX5_runScript_76 ?_
    refine lv_iconst (v := 0) hx hb dX5_runScript_79 (by decide) ?_
    refine x_joinv (ws1 := fun (u3 : (Nat → Int32)) => [(h, .inr (5, [.int u1, .ref h_text, .int f_size, .ref h_now, .ref h_trial, .ref h_diary, .int f_acts, .ref h_kept, .ref h_isKept, .ref h_line, .int f_length, .int f_spot, .int f_out])), (h_now, .inl (cI, 377, .inl f_now)), (h_trial, .inl (cI, 377, .inl u3))]) (x_runO (n0 := 4) (As := [.ref h_now, .int 0, .ref h_trial, .int 0]) (rest := []) C0 (xc_X5_copyState l D cI cC cZ cL h_now h_trial 377 377 H.size f_now f_trial 0 0 _ hk) gX5_runScript_X5_copyState rfl ⟨rfl, rfl⟩ (by decide +kernel) rfl ⟨by decide, by decide⟩ ⟨Nat.zero_le _, Nat.zero_le _⟩ hP hD [1, 2] rfl rfl hl.1 rfl (Nat.le_of_ble_eq_true rfl) dX5_runScript_80) hP hD hS hA [1, 2] [0] [0, 1, 2] rfl rfl rfl (by decide) (fun _ => rfl) rfl (fun u3 H locs hk hP hD hS => ?_)
    refine lv_iconst (v := 0) hx hb dX5_runScript_83 (by decide) ?_
    refine lv_istore (lv' := [(6, .int 0), (0, .ref h), (1, .int v1), (2, .long v2), (4, .long v4)]) hx hb dX5_runScript_84 hl (by decide) rfl (fun ls hl => ?_)
    obtain ⟨n9, hk⟩ := hk
    exact xb_X5_runScript_86 C0 hA  n9 _ _ _ _ _ _ hk H locs ls hP hD hS (lv_sub hl [1, 2, 3, 4, 0] rfl)
  · have hk := hk.2 c2
    refine lv_iconst (v := 0) hx hb dX5_runScript_68 (by decide) ?_
    exact x_reti C0 (u1, f_trial) hk hP hD hS dX5_runScript_69
set_option maxHeartbeats 4000000 in
set_option maxRecDepth 100000 in
theorem xb_X5_runScript_32 {p : Program} {l : Launch} {e : Env} {s : State} {m : MethodId} {args : Array Value} {below : List Frame} {meth : Method} {c : Code} {A : Nat → Prop} {D : va_G} {cI cC cZ cL : ClassId} {h h_text h_now h_trial h_diary h_kept h_isKept h_line : Nat}  {f_size : Int32} {f_acts : Int32} {f_length : Int32} {f_spot : Int32} {f_out : Int32} {f_now : Nat → Int32} {K : Int32 → (Int32 × (Nat → Int32)) → Prop}  (C0 : xC p s m args meth c cX5_runScript 8 (some .int) wsX5_runScript RX5 D (xTY cI cC cZ cL)) (hA : ∀ q : Nat, s.heap.size ≤ q → A q)  : ∀ (f_refusal : Int32) (f_trial : Nat → Int32) (v1 : Int32) (v2 : Int64) (v4 : Int64) , xp_X5_runScript_32 f_now K f_refusal f_trial v1 v2 v4 → ∀ (H : Heap) (locs : List Loc) (ls : Array Slot), va_P D vwCl [(h, .inr (5, [.int f_refusal, .ref h_text, .int f_size, .ref h_now, .ref h_trial, .ref h_diary, .int f_acts, .ref h_kept, .ref h_isKept, .ref h_line, .int f_length, .int f_spot, .int f_out])), (h_now, .inl (cI, 377, .inl f_now)), (h_trial, .inl (cI, 377, .inl f_trial))] H → va_D A [(h, .inr (5, [.int f_refusal, .ref h_text, .int f_size, .ref h_now, .ref h_trial, .ref h_diary, .int f_acts, .ref h_kept, .ref h_isKept, .ref h_line, .int f_length, .int f_spot, .int f_out])), (h_now, .inl (cI, 377, .inl f_now)), (h_trial, .inl (cI, 377, .inl f_trial))] → va_S A s.heap H locs → lv_has ls 8 [(0, .ref h), (1, .int v1), (2, .long v2), (4, .long v4)] → W p l e ({ frames := 7, cells := 0, slots := 0, locals := 159 } : Room) s m args below meth c H locs 0 0 (MQ below (va_Qi (fun (r : Int32) (u : Int32 × (Nat → Int32)) => K r u) (fun u t => xE D A ((fun (u : Int32 × (Nat → Int32)) => [(h, .inr (5, [.int u.1, .ref h_text, .int f_size, .ref h_now, .ref h_trial, .ref h_diary, .int f_acts, .ref h_kept, .ref h_isKept, .ref h_line, .int f_length, .int f_spot, .int f_out])), (h_now, .inl (cI, 377, .inl f_now)), (h_trial, .inl (cI, 377, .inl u.2))]) u) t) A) args s 0 0 A) (F0 m 32 ls []) := by
  obtain ⟨hx, hb, hr, hml, hown, hts, hlocks, hK, hN⟩ := id C0
  intro f_refusal f_trial v1 v2 v4 hk H locs ls hP hD hS hl
  rw [xp_X5_runScript_32] at hk
  refine lv_aload_n hx hb dX5_runScript_32 rfl (lv_at hl 0 rfl) ?_
  refine lv_iload_n hx hb dX5_runScript_33 rfl (lv_at hl 1 rfl) ?_
  refine lv_i2l hx hb dX5_runScript_34 rfl ?_
  refine lv_lconst (v := 1) hx hb dX5_runScript_35 (by decide) ?_
  refine lv_ldc2 (own := RX5) hx hb hown (hts (.constantLong RX5 84 (3)) (by decide +kernel)) dX5_runScript_36 ?_
  refine x_joini (ws1 := fun (_ : Unit) => [(h, .inr (5, [.int f_refusal, .ref h_text, .int f_size, .ref h_now, .ref h_trial, .ref h_diary, .int f_acts, .ref h_kept, .ref h_isKept, .ref h_line, .int f_length, .int f_spot, .int f_out])), (h_now, .inl (cI, 377, .inl f_now)), (h_trial, .inl (cI, 377, .inl f_trial))]) (x_runO (n0 := 3) (As := [.long v1.toInt64, .long 1, .long 3]) (rest := [.ref h]) C0 (xc_X5_in l D cI cC cZ cL  H.size v1.toInt64 1 3 _ hk) gX5_runScript_X5_in rfl ⟨rfl, rfl⟩ (by decide +kernel) rfl ⟨by decide, by decide⟩ ⟨Nat.zero_le _, Nat.zero_le _⟩ hP hD [] rfl rfl hl.1 rfl (Nat.le_of_ble_eq_true rfl) dX5_runScript_39) hP hD hS hA [] [0, 1, 2] [0, 1, 2] rfl rfl rfl (by decide) (fun _ => rfl) rfl (fun r1 u1 H locs hk hP hD hS => ?_)
  refine lv_if_eq (tgt := 61) hx hb dX5_runScript_42 (by decide) (fun c2 => ?_) (fun c2 => ?_)
  · have hk := hk.1 c2
    refine lv_iconst (v := 1) hx hb dX5_runScript_61 (by decide) ?_
    exact xb_X5_runScript_62 C0 hA  _ _ _ _ _ _ hk H locs ls hP hD hS (lv_sub hl [0, 1, 2, 3] rfl)
  · have hk := hk.2 c2
    refine lv_lload_n hx hb dX5_runScript_45 rfl (lv_at hl 2 rfl) ?_
    refine lv_lconst (v := 0) hx hb dX5_runScript_46 (by decide) ?_
    refine lv_lload hx hb dX5_runScript_47 (lv_at hl 3 rfl) ?_
    refine lv_lconst (v := 1) hx hb dX5_runScript_49 (by decide) ?_
    refine lv_lsub hx hb dX5_runScript_50 ?_
    refine x_joini (ws1 := fun (_ : Unit) => [(h, .inr (5, [.int f_refusal, .ref h_text, .int f_size, .ref h_now, .ref h_trial, .ref h_diary, .int f_acts, .ref h_kept, .ref h_isKept, .ref h_line, .int f_length, .int f_spot, .int f_out])), (h_now, .inl (cI, 377, .inl f_now)), (h_trial, .inl (cI, 377, .inl f_trial))]) (x_runO (n0 := 3) (As := [.long v2, .long 0, .long (v4 - 1)]) (rest := [.ref h]) C0 (xc_X5_in l D cI cC cZ cL  H.size v2 0 (v4 - 1) _ hk) gX5_runScript_X5_in rfl ⟨rfl, rfl⟩ (by decide +kernel) rfl ⟨by decide, by decide⟩ ⟨Nat.zero_le _, Nat.zero_le _⟩ hP hD [] rfl rfl hl.1 rfl (Nat.le_of_ble_eq_true rfl) dX5_runScript_51) hP hD hS hA [] [0, 1, 2] [0, 1, 2] rfl rfl rfl (by decide) (fun _ => rfl) rfl (fun r3 u3 H locs hk hP hD hS => ?_)
    refine lv_if_eq (tgt := 61) hx hb dX5_runScript_54 (by decide) (fun c4 => ?_) (fun c4 => ?_)
    · have hk := hk.1 c4
      refine lv_iconst (v := 1) hx hb dX5_runScript_61 (by decide) ?_
      exact xb_X5_runScript_62 C0 hA  _ _ _ _ _ _ hk H locs ls hP hD hS (lv_sub hl [0, 1, 2, 3] rfl)
    · have hk := hk.2 c4
      refine lv_iconst (v := 0) hx hb dX5_runScript_57 (by decide) ?_
      refine lv_goto (tgt := 62) hx hb dX5_runScript_58 (by decide) ?_
      exact xb_X5_runScript_62 C0 hA  _ _ _ _ _ _ hk H locs ls hP hD hS (lv_sub hl [0, 1, 2, 3] rfl)
set_option maxHeartbeats 4000000 in
set_option maxRecDepth 100000 in
theorem xb_X5_runScript_6 {p : Program} {l : Launch} {e : Env} {s : State} {m : MethodId} {args : Array Value} {below : List Frame} {meth : Method} {c : Code} {A : Nat → Prop} {D : va_G} {cI cC cZ cL : ClassId} {h h_text h_now h_trial h_diary h_kept h_isKept h_line : Nat}  {f_size : Int32} {f_acts : Int32} {f_length : Int32} {f_spot : Int32} {f_out : Int32} {f_now : Nat → Int32} {K : Int32 → (Int32 × (Nat → Int32)) → Prop}  (C0 : xC p s m args meth c cX5_runScript 8 (some .int) wsX5_runScript RX5 D (xTY cI cC cZ cL)) (hA : ∀ q : Nat, s.heap.size ≤ q → A q)  : ∀ (n : Nat) (f_refusal : Int32) (f_trial : Nat → Int32) (v1 : Int32) (v2 : Int64) (v4 : Int64) (v6 : Int32) , xp_X5_runScript_6 f_now K n f_refusal f_trial v1 v2 v4 v6 → ∀ (H : Heap) (locs : List Loc) (ls : Array Slot), va_P D vwCl [(h, .inr (5, [.int f_refusal, .ref h_text, .int f_size, .ref h_now, .ref h_trial, .ref h_diary, .int f_acts, .ref h_kept, .ref h_isKept, .ref h_line, .int f_length, .int f_spot, .int f_out])), (h_now, .inl (cI, 377, .inl f_now)), (h_trial, .inl (cI, 377, .inl f_trial))] H → va_D A [(h, .inr (5, [.int f_refusal, .ref h_text, .int f_size, .ref h_now, .ref h_trial, .ref h_diary, .int f_acts, .ref h_kept, .ref h_isKept, .ref h_line, .int f_length, .int f_spot, .int f_out])), (h_now, .inl (cI, 377, .inl f_now)), (h_trial, .inl (cI, 377, .inl f_trial))] → va_S A s.heap H locs → lv_has ls 8 [(0, .ref h), (1, .int v1), (2, .long v2), (4, .long v4), (6, .int v6)] → W p l e ({ frames := 7, cells := 0, slots := 0, locals := 159 } : Room) s m args below meth c H locs 0 0 (MQ below (va_Qi (fun (r : Int32) (u : Int32 × (Nat → Int32)) => K r u) (fun u t => xE D A ((fun (u : Int32 × (Nat → Int32)) => [(h, .inr (5, [.int u.1, .ref h_text, .int f_size, .ref h_now, .ref h_trial, .ref h_diary, .int f_acts, .ref h_kept, .ref h_isKept, .ref h_line, .int f_length, .int f_spot, .int f_out])), (h_now, .inl (cI, 377, .inl f_now)), (h_trial, .inl (cI, 377, .inl u.2))]) u) t) A) args s 0 0 A) (F0 m 6 ls []) := by
  obtain ⟨hx, hb, hr, hml, hown, hts, hlocks, hK, hN⟩ := id C0
  intro n
  induction n with
  | zero => intro f_refusal f_trial v1 v2 v4 v6 hk; exact hk.elim
  | succ n ih =>
    intro f_refusal f_trial v1 v2 v4 v6 hk H locs ls hP hD hS hl
    rw [xp_X5_runScript_6] at hk
    refine lv_iload hx hb dX5_runScript_6 (lv_at hl 4 rfl) ?_
    refine lv_iload_n hx hb dX5_runScript_8 rfl (lv_at hl 1 rfl) ?_
    refine lv_icmp_ge (tgt := 32) hx hb dX5_runScript_9 (by decide) (fun c1 => ?_) (fun c1 => ?_)
    · have hk := hk.1 c1
      exact xb_X5_runScript_32 C0 hA  _ _ _ _ _ hk H locs ls hP hD hS (lv_sub hl [0, 1, 2, 3] rfl)
    · have hk := hk.2 c1
      refine lv_iload hx hb dX5_runScript_12 (lv_at hl 4 rfl) ?_
      refine lv_iconst (v := 3) hx hb dX5_runScript_14 (by decide) ?_
      refine lv_icmp_ge (tgt := 32) hx hb dX5_runScript_15 (by decide) (fun c2 => ?_) (fun c2 => ?_)
      · have hk := hk.1 c2
        exact xb_X5_runScript_32 C0 hA  _ _ _ _ _ hk H locs ls hP hD hS (lv_sub hl [0, 1, 2, 3] rfl)
      · have hk := hk.2 c2
        refine lv_lload hx hb dX5_runScript_18 (lv_at hl 3 rfl) ?_
        refine lv_ldc2 (own := RX5) hx hb hown (hts (.constantLong RX5 215 (100000)) (by decide +kernel)) dX5_runScript_20 ?_
        refine lv_lmul hx hb dX5_runScript_23 ?_
        refine lv_lstore (lv' := [(4, .long (v4 * 100000)), (0, .ref h), (1, .int v1), (2, .long v2), (6, .int v6)]) hx hb dX5_runScript_24 hl (by decide) rfl (fun ls hl => ?_)
        refine lv_iinc (v := (v6 + 1)) (lv' := [(6, .int (v6 + 1)), (4, .long (v4 * 100000)), (0, .ref h), (1, .int v1), (2, .long v2)]) hx hb dX5_runScript_26 hl (k := 4) rfl rfl (by decide) rfl (fun ls hl => ?_)
        refine lv_goto (tgt := 6) hx hb dX5_runScript_29 (by decide) ?_
        exact ih _ _ _ _ _ _ hk H locs ls hP hD hS (lv_sub hl [2, 3, 4, 1, 0] rfl)
set_option maxHeartbeats 4000000 in
set_option maxRecDepth 100000 in
theorem xb_X5_runScript_0 {p : Program} {l : Launch} {e : Env} {s : State} {m : MethodId} {args : Array Value} {below : List Frame} {meth : Method} {c : Code} {A : Nat → Prop} {D : va_G} {cI cC cZ cL : ClassId} {h h_text h_now h_trial h_diary h_kept h_isKept h_line : Nat}  {f_size : Int32} {f_acts : Int32} {f_length : Int32} {f_spot : Int32} {f_out : Int32} {f_now : Nat → Int32} {K : Int32 → (Int32 × (Nat → Int32)) → Prop}  (C0 : xC p s m args meth c cX5_runScript 8 (some .int) wsX5_runScript RX5 D (xTY cI cC cZ cL)) (hA : ∀ q : Nat, s.heap.size ≤ q → A q)  : ∀ (f_refusal : Int32) (f_trial : Nat → Int32) (x1 : Int32) (x2 : Int64) , xp_X5_runScript f_now f_refusal f_trial x1 x2 K → ∀ (H : Heap) (locs : List Loc) (ls : Array Slot), va_P D vwCl [(h, .inr (5, [.int f_refusal, .ref h_text, .int f_size, .ref h_now, .ref h_trial, .ref h_diary, .int f_acts, .ref h_kept, .ref h_isKept, .ref h_line, .int f_length, .int f_spot, .int f_out])), (h_now, .inl (cI, 377, .inl f_now)), (h_trial, .inl (cI, 377, .inl f_trial))] H → va_D A [(h, .inr (5, [.int f_refusal, .ref h_text, .int f_size, .ref h_now, .ref h_trial, .ref h_diary, .int f_acts, .ref h_kept, .ref h_isKept, .ref h_line, .int f_length, .int f_spot, .int f_out])), (h_now, .inl (cI, 377, .inl f_now)), (h_trial, .inl (cI, 377, .inl f_trial))] → va_S A s.heap H locs → lv_has ls 8 [(0, .ref h), (1, .int x1), (2, .long x2)] → W p l e ({ frames := 7, cells := 0, slots := 0, locals := 159 } : Room) s m args below meth c H locs 0 0 (MQ below (va_Qi (fun (r : Int32) (u : Int32 × (Nat → Int32)) => K r u) (fun u t => xE D A ((fun (u : Int32 × (Nat → Int32)) => [(h, .inr (5, [.int u.1, .ref h_text, .int f_size, .ref h_now, .ref h_trial, .ref h_diary, .int f_acts, .ref h_kept, .ref h_isKept, .ref h_line, .int f_length, .int f_spot, .int f_out])), (h_now, .inl (cI, 377, .inl f_now)), (h_trial, .inl (cI, 377, .inl u.2))]) u) t) A) args s 0 0 A) (F0 m 0 ls []) := by
  obtain ⟨hx, hb, hr, hml, hown, hts, hlocks, hK, hN⟩ := id C0
  intro f_refusal f_trial x1 x2 hk H locs ls hP hD hS hl
  rw [xp_X5_runScript] at hk
  refine lv_lconst (v := 1) hx hb dX5_runScript_0 (by decide) ?_
  refine lv_lstore (lv' := [(4, .long 1), (0, .ref h), (1, .int x1), (2, .long x2)]) hx hb dX5_runScript_1 hl (by decide) rfl (fun ls hl => ?_)
  refine lv_iconst (v := 0) hx hb dX5_runScript_3 (by decide) ?_
  refine lv_istore (lv' := [(6, .int 0), (4, .long 1), (0, .ref h), (1, .int x1), (2, .long x2)]) hx hb dX5_runScript_4 hl (by decide) rfl (fun ls hl => ?_)
  obtain ⟨n9, hk⟩ := hk
  exact xb_X5_runScript_6 C0 hA  n9 _ _ _ _ _ _ hk H locs ls hP hD hS (lv_sub hl [2, 3, 4, 1, 0] rfl)
theorem xc_X5_runScript (l : Launch) (D : va_G) (cI cC cZ cL : ClassId) (h h_text h_now h_trial h_diary h_kept h_isKept h_line : Nat)  (sz : Nat) (f_refusal : Int32) (f_size : Int32) (f_acts : Int32) (f_length : Int32) (f_spot : Int32) (f_out : Int32) (f_now : Nat → Int32) (f_trial : Nat → Int32) (x1 : Int32) (x2 : Int64) (K : Int32 → (Int32 × (Nat → Int32)) → Prop) (hk : xp_X5_runScript f_now f_refusal f_trial x1 x2 K) : XMi l yX5_runScript wsX5_runScript ({ frames := 7, cells := 0, slots := 0, locals := 159 } : Room) D (xTY cI cC cZ cL) [.ref h, .int x1, .long x2] [(h, .inr (5, [.int f_refusal, .ref h_text, .int f_size, .ref h_now, .ref h_trial, .ref h_diary, .int f_acts, .ref h_kept, .ref h_isKept, .ref h_line, .int f_length, .int f_spot, .int f_out])), (h_now, .inl (cI, 377, .inl f_now)), (h_trial, .inl (cI, 377, .inl f_trial))] sz (fun (r : Int32) (u : Int32 × (Nat → Int32)) => K r u) (fun (u : Int32 × (Nat → Int32)) => [(h, .inr (5, [.int u.1, .ref h_text, .int f_size, .ref h_now, .ref h_trial, .ref h_diary, .int f_acts, .ref h_kept, .ref h_isKept, .ref h_line, .int f_length, .int f_spot, .int f_out])), (h_now, .inl (cI, 377, .inl f_now)), (h_trial, .inl (cI, 377, .inl u.2))]) :=
  x_enter (cc := cX5_runScript) (maxL := 8) (ret := (some .int)) (own := RX5) (by decide) rfl rfl (Nat.le_of_ble_eq_true rfl) (fun p e s m below meth c ls C0 hA hP hD hS hl => xb_X5_runScript_0 C0 hA _ _ _ _ hk s.heap [] ls hP hD hS hl)
