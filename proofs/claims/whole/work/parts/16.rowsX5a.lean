set_option maxRecDepth 20000 in
theorem xin_X5_thrown_X5 : ∀ w ∈ u_ws RX5 TX5 13, w ∈ wsX5_thrown := by decide +kernel
set_option maxHeartbeats 4000000 in
set_option maxRecDepth 100000 in
theorem xb_X5_thrown_0 {p : Program} {l : Launch} {e : Env} {s : State} {m : MethodId} {args : Array Value} {below : List Frame} {meth : Method} {c : Code} {A : Nat → Prop} {D : va_G} {cI cC cZ cL : ClassId} {h h_text h_now h_trial h_diary h_kept h_isKept h_line : Nat}  {f_refusal : Int32} {f_size : Int32} {f_acts : Int32} {f_length : Int32} {f_spot : Int32} {f_out : Int32} {K : Int32 → Prop}  (C0 : xC p s m args meth c cX5_thrown 1 (some .int) wsX5_thrown RX5 D (xTY cI cC cZ cL)) (hA : ∀ q : Nat, s.heap.size ≤ q → A q)  : xp_X5_thrown f_refusal K → ∀ (H : Heap) (locs : List Loc) (ls : Array Slot), va_P D vwCl [(h, .inr (5, [.int f_refusal, .ref h_text, .int f_size, .ref h_now, .ref h_trial, .ref h_diary, .int f_acts, .ref h_kept, .ref h_isKept, .ref h_line, .int f_length, .int f_spot, .int f_out]))] H → va_D A [(h, .inr (5, [.int f_refusal, .ref h_text, .int f_size, .ref h_now, .ref h_trial, .ref h_diary, .int f_acts, .ref h_kept, .ref h_isKept, .ref h_line, .int f_length, .int f_spot, .int f_out]))] → va_S A s.heap H locs → lv_has ls 1 [(0, .ref h)] → W p l e ({ frames := 0, cells := 0, slots := 0, locals := 0 } : Room) s m args below meth c H locs 0 0 (MQ below (va_Qi (fun (r : Int32) (_ : Unit) => K r) (fun u t => xE D A ((fun (_ : Unit) => [(h, .inr (5, [.int f_refusal, .ref h_text, .int f_size, .ref h_now, .ref h_trial, .ref h_diary, .int f_acts, .ref h_kept, .ref h_isKept, .ref h_line, .int f_length, .int f_spot, .int f_out]))]) u) t) A) args s 0 0 A) (F0 m 0 ls []) := by
  obtain ⟨hx, hb, hr, hml, hown, hts, hlocks, hK, hN⟩ := id C0
  intro  hk H locs ls hP hD hS hl
  rw [xp_X5_thrown] at hk
  refine lv_aload_n hx hb dX5_thrown_0 rfl (lv_at hl 0 rfl) ?_
  refine va_get (D := D) (ci := 5) (v := .int f_refusal) (C := RX5) (T := TX5) (N := 13) hx hb hts xin_X5_thrown_X5 hown hK hP 0 rfl rfl 0 (by decide) (hts (.fieldLink RX5 36 "TakeLogModel" "refusal" "I") (by decide +kernel)) (fun _ h9 => h9) rfl dX5_thrown_1 ?_
  exact x_reti C0 () hk hP hD hS dX5_thrown_4
theorem xc_X5_thrown (l : Launch) (D : va_G) (cI cC cZ cL : ClassId) (h h_text h_now h_trial h_diary h_kept h_isKept h_line : Nat)  (sz : Nat) (f_refusal : Int32) (f_size : Int32) (f_acts : Int32) (f_length : Int32) (f_spot : Int32) (f_out : Int32)  (K : Int32 → Prop) (hk : xp_X5_thrown f_refusal K) : XMi l yX5_thrown wsX5_thrown ({ frames := 0, cells := 0, slots := 0, locals := 0 } : Room) D (xTY cI cC cZ cL) [.ref h] [(h, .inr (5, [.int f_refusal, .ref h_text, .int f_size, .ref h_now, .ref h_trial, .ref h_diary, .int f_acts, .ref h_kept, .ref h_isKept, .ref h_line, .int f_length, .int f_spot, .int f_out]))] sz (fun (r : Int32) (_ : Unit) => K r) (fun (_ : Unit) => [(h, .inr (5, [.int f_refusal, .ref h_text, .int f_size, .ref h_now, .ref h_trial, .ref h_diary, .int f_acts, .ref h_kept, .ref h_isKept, .ref h_line, .int f_length, .int f_spot, .int f_out]))]) :=
  x_enter (cc := cX5_thrown) (maxL := 1) (ret := (some .int)) (own := RX5) (by decide) rfl rfl (Nat.le_of_ble_eq_true rfl) (fun p e s m below meth c ls C0 hA hP hD hS hl => xb_X5_thrown_0 C0 hA  hk s.heap [] ls hP hD hS hl)
set_option maxRecDepth 20000 in
theorem xin_X5_refused_X5 : ∀ w ∈ u_ws RX5 TX5 13, w ∈ wsX5_refused := by decide +kernel
set_option maxHeartbeats 4000000 in
set_option maxRecDepth 100000 in
theorem xb_X5_refused_0 {p : Program} {l : Launch} {e : Env} {s : State} {m : MethodId} {args : Array Value} {below : List Frame} {meth : Method} {c : Code} {A : Nat → Prop} {D : va_G} {cI cC cZ cL : ClassId} {h h_text h_now h_trial h_diary h_kept h_isKept h_line : Nat}  {f_size : Int32} {f_acts : Int32} {f_length : Int32} {f_spot : Int32} {f_out : Int32} {K : Int32 → Int32 → Prop}  (C0 : xC p s m args meth c cX5_refused 2 (some .boolean) wsX5_refused RX5 D (xTY cI cC cZ cL)) (hA : ∀ q : Nat, s.heap.size ≤ q → A q)  : ∀ (f_refusal : Int32) (x1 : Int32) , xp_X5_refused f_refusal x1 K → ∀ (H : Heap) (locs : List Loc) (ls : Array Slot), va_P D vwCl [(h, .inr (5, [.int f_refusal, .ref h_text, .int f_size, .ref h_now, .ref h_trial, .ref h_diary, .int f_acts, .ref h_kept, .ref h_isKept, .ref h_line, .int f_length, .int f_spot, .int f_out]))] H → va_D A [(h, .inr (5, [.int f_refusal, .ref h_text, .int f_size, .ref h_now, .ref h_trial, .ref h_diary, .int f_acts, .ref h_kept, .ref h_isKept, .ref h_line, .int f_length, .int f_spot, .int f_out]))] → va_S A s.heap H locs → lv_has ls 2 [(0, .ref h), (1, .int x1)] → W p l e ({ frames := 0, cells := 0, slots := 0, locals := 0 } : Room) s m args below meth c H locs 0 0 (MQ below (va_Qi (fun (r : Int32) (u : Int32) => K r u) (fun u t => xE D A ((fun (u : Int32) => [(h, .inr (5, [.int u, .ref h_text, .int f_size, .ref h_now, .ref h_trial, .ref h_diary, .int f_acts, .ref h_kept, .ref h_isKept, .ref h_line, .int f_length, .int f_spot, .int f_out]))]) u) t) A) args s 0 0 A) (F0 m 0 ls []) := by
  obtain ⟨hx, hb, hr, hml, hown, hts, hlocks, hK, hN⟩ := id C0
  intro f_refusal x1 hk H locs ls hP hD hS hl
  rw [xp_X5_refused] at hk
  refine lv_aload_n hx hb dX5_refused_0 rfl (lv_at hl 0 rfl) ?_
  refine lv_iload_n hx hb dX5_refused_1 rfl (lv_at hl 1 rfl) ?_
  refine va_put (D := D) (ci := 5) (v := .int x1) (ty := .int) (C := RX5) (T := TX5) (N := 13) hx hb hts xin_X5_refused_X5 tyX5 tyX5_ok nmX5 hown hK hP hD hS 0 rfl rfl 0 (by decide) (hts (.fieldLink RX5 36 "TakeLogModel" "refusal" "I") (by decide +kernel)) (fun _ h9 => h9) rfl (by decide +kernel) rfl rfl (Nat.le_of_ble_eq_true rfl) dX5_refused_2 (fun H locs hP hD hS => ?_)
  have hP : va_P D vwCl [(h, .inr (5, [.int x1, .ref h_text, .int f_size, .ref h_now, .ref h_trial, .ref h_diary, .int f_acts, .ref h_kept, .ref h_isKept, .ref h_line, .int f_length, .int f_spot, .int f_out]))] H := hP
  have hD : va_D A [(h, .inr (5, [.int x1, .ref h_text, .int f_size, .ref h_now, .ref h_trial, .ref h_diary, .int f_acts, .ref h_kept, .ref h_isKept, .ref h_line, .int f_length, .int f_spot, .int f_out]))] := hD
  refine lv_iload_n hx hb dX5_refused_5 rfl (lv_at hl 1 rfl) ?_
  refine lv_if_le (tgt := 13) hx hb dX5_refused_6 (by decide) (fun c1 => ?_) (fun c1 => ?_)
  · have hk := hk.1 c1
    refine lv_iconst (v := 0) hx hb dX5_refused_13 (by decide) ?_
    exact x_retz rfl C0 (x1) hk hP hD hS dX5_refused_14
  · have hk := hk.2 c1
    refine lv_iconst (v := 1) hx hb dX5_refused_9 (by decide) ?_
    refine lv_goto (tgt := 14) hx hb dX5_refused_10 (by decide) ?_
    exact x_retz rfl C0 (x1) hk hP hD hS dX5_refused_14
theorem xc_X5_refused (l : Launch) (D : va_G) (cI cC cZ cL : ClassId) (h h_text h_now h_trial h_diary h_kept h_isKept h_line : Nat)  (sz : Nat) (f_refusal : Int32) (f_size : Int32) (f_acts : Int32) (f_length : Int32) (f_spot : Int32) (f_out : Int32) (x1 : Int32) (K : Int32 → Int32 → Prop) (hk : xp_X5_refused f_refusal x1 K) : XMi l yX5_refused wsX5_refused ({ frames := 0, cells := 0, slots := 0, locals := 0 } : Room) D (xTY cI cC cZ cL) [.ref h, .int x1] [(h, .inr (5, [.int f_refusal, .ref h_text, .int f_size, .ref h_now, .ref h_trial, .ref h_diary, .int f_acts, .ref h_kept, .ref h_isKept, .ref h_line, .int f_length, .int f_spot, .int f_out]))] sz (fun (r : Int32) (u : Int32) => K r u) (fun (u : Int32) => [(h, .inr (5, [.int u, .ref h_text, .int f_size, .ref h_now, .ref h_trial, .ref h_diary, .int f_acts, .ref h_kept, .ref h_isKept, .ref h_line, .int f_length, .int f_spot, .int f_out]))]) :=
  x_enter (cc := cX5_refused) (maxL := 2) (ret := (some .boolean)) (own := RX5) (by decide) rfl rfl (Nat.le_of_ble_eq_true rfl) (fun p e s m below meth c ls C0 hA hP hD hS hl => xb_X5_refused_0 C0 hA _ _ hk s.heap [] ls hP hD hS hl)
set_option maxHeartbeats 4000000 in
set_option maxRecDepth 100000 in
theorem xb_X5_in_0 {p : Program} {l : Launch} {e : Env} {s : State} {m : MethodId} {args : Array Value} {below : List Frame} {meth : Method} {c : Code} {A : Nat → Prop} {D : va_G} {cI cC cZ cL : ClassId}    {K : Int32 → Prop}  (C0 : xC p s m args meth c cX5_in 6 (some .boolean) wsX5_in RX5 D (xTY cI cC cZ cL)) (hA : ∀ q : Nat, s.heap.size ≤ q → A q)  : ∀ (x1 : Int64) (x2 : Int64) (x3 : Int64) , xp_X5_in x1 x2 x3 K → ∀ (H : Heap) (locs : List Loc) (ls : Array Slot), va_P D vwCl [] H → va_D A [] → va_S A s.heap H locs → lv_has ls 6 [(0, .long x1), (2, .long x2), (4, .long x3)] → W p l e ({ frames := 0, cells := 0, slots := 0, locals := 0 } : Room) s m args below meth c H locs 0 0 (MQ below (va_Qi (fun (r : Int32) (_ : Unit) => K r) (fun u t => xE D A ((fun (_ : Unit) => []) u) t) A) args s 0 0 A) (F0 m 0 ls []) := by
  obtain ⟨hx, hb, hr, hml, hown, hts, hlocks, hK, hN⟩ := id C0
  intro x1 x2 x3 hk H locs ls hP hD hS hl
  rw [xp_X5_in] at hk
  refine lv_lload_n hx hb dX5_in_0 rfl (lv_at hl 0 rfl) ?_
  refine lv_lload_n hx hb dX5_in_1 rfl (lv_at hl 1 rfl) ?_
  refine W.lcmp hx hb dX5_in_2 ?_
  refine lv_if_lt (tgt := 17) hx hb dX5_in_3 (by decide) (fun c1 => ?_) (fun c1 => ?_)
  · have hk := hk.1 c1
    refine lv_iconst (v := 0) hx hb dX5_in_17 (by decide) ?_
    exact x_retz rfl C0 () hk hP hD hS dX5_in_18
  · have hk := hk.2 c1
    refine lv_lload_n hx hb dX5_in_6 rfl (lv_at hl 0 rfl) ?_
    refine lv_lload hx hb dX5_in_7 (lv_at hl 2 rfl) ?_
    refine W.lcmp hx hb dX5_in_9 ?_
    refine lv_if_gt (tgt := 17) hx hb dX5_in_10 (by decide) (fun c2 => ?_) (fun c2 => ?_)
    · have hk := hk.1 c2
      refine lv_iconst (v := 0) hx hb dX5_in_17 (by decide) ?_
      exact x_retz rfl C0 () hk hP hD hS dX5_in_18
    · have hk := hk.2 c2
      refine lv_iconst (v := 1) hx hb dX5_in_13 (by decide) ?_
      refine lv_goto (tgt := 18) hx hb dX5_in_14 (by decide) ?_
      exact x_retz rfl C0 () hk hP hD hS dX5_in_18
theorem xc_X5_in (l : Launch) (D : va_G) (cI cC cZ cL : ClassId)   (sz : Nat)  (x1 : Int64) (x2 : Int64) (x3 : Int64) (K : Int32 → Prop) (hk : xp_X5_in x1 x2 x3 K) : XMi l yX5_in wsX5_in ({ frames := 0, cells := 0, slots := 0, locals := 0 } : Room) D (xTY cI cC cZ cL) [.long x1, .long x2, .long x3] [] sz (fun (r : Int32) (_ : Unit) => K r) (fun (_ : Unit) => []) :=
  x_enter (cc := cX5_in) (maxL := 6) (ret := (some .boolean)) (own := RX5) (by decide) rfl rfl (Nat.le_of_ble_eq_true rfl) (fun p e s m below meth c ls C0 hA hP hD hS hl => xb_X5_in_0 C0 hA _ _ _ hk s.heap [] ls hP hD hS hl)
set_option maxHeartbeats 4000000 in
set_option maxRecDepth 100000 in
theorem xb_X5_copyState_3 {p : Program} {l : Launch} {e : Env} {s : State} {m : MethodId} {args : Array Value} {below : List Frame} {meth : Method} {c : Code} {A : Nat → Prop} {D : va_G} {cI cC cZ cL : ClassId} {g1 g3 : Nat} {n1 : Nat} {n3 : Nat} {f_p1 : Nat → Int32} {K : ((Nat → Int32)) → Prop}  (C0 : xC p s m args meth c cX5_copyState 5 none wsX5_copyState RX5 D (xTY cI cC cZ cL)) (hA : ∀ q : Nat, s.heap.size ≤ q → A q)  : ∀ (n : Nat) (f_p3 : Nat → Int32) (v1 : Int32) (v3 : Int32) (v4 : Int32) , xp_X5_copyState_3 n1 n3 f_p1 K n f_p3 v1 v3 v4 → ∀ (H : Heap) (locs : List Loc) (ls : Array Slot), va_P D vwCl [(g1, .inl (cI, n1, .inl f_p1)), (g3, .inl (cI, n3, .inl f_p3))] H → va_D A [(g1, .inl (cI, n1, .inl f_p1)), (g3, .inl (cI, n3, .inl f_p3))] → va_S A s.heap H locs → lv_has ls 5 [(0, .ref g1), (1, .int v1), (2, .ref g3), (3, .int v3), (4, .int v4)] → W p l e ({ frames := 0, cells := 0, slots := 0, locals := 0 } : Room) s m args below meth c H locs 0 0 (MQ below (va_Qv (fun (u : (Nat → Int32)) => K u) (fun u t => xE D A ((fun (u : (Nat → Int32)) => [(g1, .inl (cI, n1, .inl f_p1)), (g3, .inl (cI, n3, .inl u))]) u) t) A) args s 0 0 A) (F0 m 3 ls []) := by
  obtain ⟨hx, hb, hr, hml, hown, hts, hlocks, hK, hN⟩ := id C0
  intro n
  induction n with
  | zero => intro f_p3 v1 v3 v4 hk; exact hk.elim
  | succ n ih =>
    intro f_p3 v1 v3 v4 hk H locs ls hP hD hS hl
    rw [xp_X5_copyState_3] at hk
    refine lv_iload hx hb dX5_copyState_3 (lv_at hl 4 rfl) ?_
    refine lv_sipush (v := 377) hx hb dX5_copyState_5 (by decide) ?_
    refine lv_icmp_ge (tgt := 29) hx hb dX5_copyState_8 (by decide) (fun c1 => ?_) (fun c1 => ?_)
    · have hk := hk.1 c1
      exact x_retv C0 (f_p3) hk hP hD hS dX5_copyState_29
    · have hk := hk.2 c1
      refine lv_aload_n hx hb dX5_copyState_11 rfl (lv_at hl 2 rfl) ?_
      refine lv_iload_n hx hb dX5_copyState_12 rfl (lv_at hl 3 rfl) ?_
      refine lv_iload hx hb dX5_copyState_13 (lv_at hl 4 rfl) ?_
      refine lv_iadd hx hb dX5_copyState_15 ?_
      refine lv_aload_n hx hb dX5_copyState_16 rfl (lv_at hl 0 rfl) ?_
      refine lv_iload_n hx hb dX5_copyState_17 rfl (lv_at hl 1 rfl) ?_
      refine lv_iload hx hb dX5_copyState_18 (lv_at hl 4 rfl) ?_
      refine lv_iadd hx hb dX5_copyState_20 ?_
      refine x_iald hx hb hK hP 0 0 rfl rfl hk.1 rfl rfl dX5_copyState_21 ?_
      have hk := hk.2
      refine x_iast hx hb hK hP hD hS 1 0 rfl rfl hk.1 rfl dX5_copyState_22 (fun H locs hP hD hS => ?_)
      have hk := hk.2
      have hP : va_P D vwCl [(g1, .inl (cI, n1, .inl f_p1)), (g3, .inl (cI, n3, .inl (upd f_p3 ((v3 + v4).toNatClampNeg) (f_p1 (v1 + v4).toNatClampNeg))))] H := hP
      have hD : va_D A [(g1, .inl (cI, n1, .inl f_p1)), (g3, .inl (cI, n3, .inl (upd f_p3 ((v3 + v4).toNatClampNeg) (f_p1 (v1 + v4).toNatClampNeg))))] := hD
      refine lv_iinc (v := (v4 + 1)) (lv' := [(4, .int (v4 + 1)), (0, .ref g1), (1, .int v1), (2, .ref g3), (3, .int v3)]) hx hb dX5_copyState_23 hl (k := 4) rfl rfl (by decide) rfl (fun ls hl => ?_)
      refine lv_goto (tgt := 3) hx hb dX5_copyState_26 (by decide) ?_
      exact ih _ _ _ _ hk H locs ls hP hD hS (lv_sub hl [1, 2, 3, 4, 0] rfl)
set_option maxHeartbeats 4000000 in
set_option maxRecDepth 100000 in
theorem xb_X5_copyState_0 {p : Program} {l : Launch} {e : Env} {s : State} {m : MethodId} {args : Array Value} {below : List Frame} {meth : Method} {c : Code} {A : Nat → Prop} {D : va_G} {cI cC cZ cL : ClassId} {g1 g3 : Nat} {n1 : Nat} {n3 : Nat} {f_p1 : Nat → Int32} {K : ((Nat → Int32)) → Prop}  (C0 : xC p s m args meth c cX5_copyState 5 none wsX5_copyState RX5 D (xTY cI cC cZ cL)) (hA : ∀ q : Nat, s.heap.size ≤ q → A q)  : ∀ (f_p3 : Nat → Int32) (x2 : Int32) (x4 : Int32) , xp_X5_copyState n1 n3 f_p1 f_p3 x2 x4 K → ∀ (H : Heap) (locs : List Loc) (ls : Array Slot), va_P D vwCl [(g1, .inl (cI, n1, .inl f_p1)), (g3, .inl (cI, n3, .inl f_p3))] H → va_D A [(g1, .inl (cI, n1, .inl f_p1)), (g3, .inl (cI, n3, .inl f_p3))] → va_S A s.heap H locs → lv_has ls 5 [(0, .ref g1), (1, .int x2), (2, .ref g3), (3, .int x4)] → W p l e ({ frames := 0, cells := 0, slots := 0, locals := 0 } : Room) s m args below meth c H locs 0 0 (MQ below (va_Qv (fun (u : (Nat → Int32)) => K u) (fun u t => xE D A ((fun (u : (Nat → Int32)) => [(g1, .inl (cI, n1, .inl f_p1)), (g3, .inl (cI, n3, .inl u))]) u) t) A) args s 0 0 A) (F0 m 0 ls []) := by
  obtain ⟨hx, hb, hr, hml, hown, hts, hlocks, hK, hN⟩ := id C0
  intro f_p3 x2 x4 hk H locs ls hP hD hS hl
  rw [xp_X5_copyState] at hk
  refine lv_iconst (v := 0) hx hb dX5_copyState_0 (by decide) ?_
  refine lv_istore (lv' := [(4, .int 0), (0, .ref g1), (1, .int x2), (2, .ref g3), (3, .int x4)]) hx hb dX5_copyState_1 hl (by decide) rfl (fun ls hl => ?_)
  obtain ⟨n9, hk⟩ := hk
  exact xb_X5_copyState_3 C0 hA  n9 _ _ _ _ hk H locs ls hP hD hS (lv_sub hl [1, 2, 3, 4, 0] rfl)
theorem xc_X5_copyState (l : Launch) (D : va_G) (cI cC cZ cL : ClassId) (g1 g3 : Nat) (n1 : Nat) (n3 : Nat) (sz : Nat) (f_p1 : Nat → Int32) (f_p3 : Nat → Int32) (x2 : Int32) (x4 : Int32) (K : ((Nat → Int32)) → Prop) (hk : xp_X5_copyState n1 n3 f_p1 f_p3 x2 x4 K) : XMv l yX5_copyState wsX5_copyState ({ frames := 0, cells := 0, slots := 0, locals := 0 } : Room) D (xTY cI cC cZ cL) [.ref g1, .int x2, .ref g3, .int x4] [(g1, .inl (cI, n1, .inl f_p1)), (g3, .inl (cI, n3, .inl f_p3))] sz (fun (u : (Nat → Int32)) => K u) (fun (u : (Nat → Int32)) => [(g1, .inl (cI, n1, .inl f_p1)), (g3, .inl (cI, n3, .inl u))]) :=
  x_enter (cc := cX5_copyState) (maxL := 5) (ret := none) (own := RX5) (by decide) rfl rfl (Nat.le_of_ble_eq_true rfl) (fun p e s m below meth c ls C0 hA hP hD hS hl => xb_X5_copyState_0 C0 hA _ _ _ hk s.heap [] ls hP hD hS hl)
set_option maxHeartbeats 4000000 in
set_option maxRecDepth 100000 in
theorem xb_X5_begin_2 {p : Program} {l : Launch} {e : Env} {s : State} {m : MethodId} {args : Array Value} {below : List Frame} {meth : Method} {c : Code} {A : Nat → Prop} {D : va_G} {cI cC cZ cL : ClassId} {g1 : Nat}   {K : ((Nat → Int32)) → Prop}  (C0 : xC p s m args meth c cX5_begin 2 none wsX5_begin RX5 D (xTY cI cC cZ cL)) (hA : ∀ q : Nat, s.heap.size ≤ q → A q)  : ∀ (n : Nat) (f_p1 : Nat → Int32) (v1 : Int32) , xp_X5_begin_2 K n f_p1 v1 → ∀ (H : Heap) (locs : List Loc) (ls : Array Slot), va_P D vwCl [(g1, .inl (cI, 377, .inl f_p1))] H → va_D A [(g1, .inl (cI, 377, .inl f_p1))] → va_S A s.heap H locs → lv_has ls 2 [(0, .ref g1), (1, .int v1)] → W p l e ({ frames := 0, cells := 0, slots := 0, locals := 0 } : Room) s m args below meth c H locs 0 0 (MQ below (va_Qv (fun (u : (Nat → Int32)) => K u) (fun u t => xE D A ((fun (u : (Nat → Int32)) => [(g1, .inl (cI, 377, .inl u))]) u) t) A) args s 0 0 A) (F0 m 2 ls []) := by
  obtain ⟨hx, hb, hr, hml, hown, hts, hlocks, hK, hN⟩ := id C0
  intro n
  induction n with
  | zero => intro f_p1 v1 hk; exact hk.elim
  | succ n ih =>
    intro f_p1 v1 hk H locs ls hP hD hS hl
    rw [xp_X5_begin_2] at hk
    refine lv_iload_n hx hb dX5_begin_2 rfl (lv_at hl 1 rfl) ?_
    refine lv_sipush (v := 377) hx hb dX5_begin_3 (by decide) ?_
    refine lv_icmp_ge (tgt := 19) hx hb dX5_begin_6 (by decide) (fun c1 => ?_) (fun c1 => ?_)
    · have hk := hk.1 c1
      refine lv_aload_n hx hb dX5_begin_19 rfl (lv_at hl 0 rfl) ?_
      refine lv_iconst (v := 1) hx hb dX5_begin_20 (by decide) ?_
      refine lv_iconst (v := 1) hx hb dX5_begin_21 (by decide) ?_
      refine x_iast (k := 1) hx hb hK hP hD hS 0 0 rfl rfl (x_lit rfl (by decide) (by decide)) rfl dX5_begin_22 (fun H locs hP hD hS => ?_)
      have hP : va_P D vwCl [(g1, .inl (cI, 377, .inl (upd f_p1 1 1)))] H := hP
      have hD : va_D A [(g1, .inl (cI, 377, .inl (upd f_p1 1 1)))] := hD
      refine lv_aload_n hx hb dX5_begin_23 rfl (lv_at hl 0 rfl) ?_
      refine lv_iconst (v := 3) hx hb dX5_begin_24 (by decide) ?_
      refine lv_iconst (v := 1) hx hb dX5_begin_25 (by decide) ?_
      refine x_iast (k := 3) hx hb hK hP hD hS 0 0 rfl rfl (x_lit rfl (by decide) (by decide)) rfl dX5_begin_26 (fun H locs hP hD hS => ?_)
      have hP : va_P D vwCl [(g1, .inl (cI, 377, .inl (upd (upd f_p1 1 1) 3 1)))] H := hP
      have hD : va_D A [(g1, .inl (cI, 377, .inl (upd (upd f_p1 1 1) 3 1)))] := hD
      refine lv_aload_n hx hb dX5_begin_27 rfl (lv_at hl 0 rfl) ?_
      refine lv_iconst (v := 5) hx hb dX5_begin_28 (by decide) ?_
      refine lv_iconst (v := 1) hx hb dX5_begin_29 (by decide) ?_
      refine x_iast (k := 5) hx hb hK hP hD hS 0 0 rfl rfl (x_lit rfl (by decide) (by decide)) rfl dX5_begin_30 (fun H locs hP hD hS => ?_)
      have hP : va_P D vwCl [(g1, .inl (cI, 377, .inl (upd (upd (upd f_p1 1 1) 3 1) 5 1)))] H := hP
      have hD : va_D A [(g1, .inl (cI, 377, .inl (upd (upd (upd f_p1 1 1) 3 1) 5 1)))] := hD
      refine lv_aload_n hx hb dX5_begin_31 rfl (lv_at hl 0 rfl) ?_
      refine lv_bipush (v := 6) hx hb dX5_begin_32 (by decide) ?_
      refine lv_iconst (v := 1) hx hb dX5_begin_34 (by decide) ?_
      refine x_iast (k := 6) hx hb hK hP hD hS 0 0 rfl rfl (x_lit rfl (by decide) (by decide)) rfl dX5_begin_35 (fun H locs hP hD hS => ?_)
      have hP : va_P D vwCl [(g1, .inl (cI, 377, .inl (upd (upd (upd (upd f_p1 1 1) 3 1) 5 1) 6 1)))] H := hP
      have hD : va_D A [(g1, .inl (cI, 377, .inl (upd (upd (upd (upd f_p1 1 1) 3 1) 5 1) 6 1)))] := hD
      refine lv_aload_n hx hb dX5_begin_36 rfl (lv_at hl 0 rfl) ?_
      refine lv_bipush (v := 8) hx hb dX5_begin_37 (by decide) ?_
      refine lv_iconst (v := 1) hx hb dX5_begin_39 (by decide) ?_
      refine x_iast (k := 8) hx hb hK hP hD hS 0 0 rfl rfl (x_lit rfl (by decide) (by decide)) rfl dX5_begin_40 (fun H locs hP hD hS => ?_)
      have hP : va_P D vwCl [(g1, .inl (cI, 377, .inl (upd (upd (upd (upd (upd f_p1 1 1) 3 1) 5 1) 6 1) 8 1)))] H := hP
      have hD : va_D A [(g1, .inl (cI, 377, .inl (upd (upd (upd (upd (upd f_p1 1 1) 3 1) 5 1) 6 1) 8 1)))] := hD
      refine lv_aload_n hx hb dX5_begin_41 rfl (lv_at hl 0 rfl) ?_
      refine lv_bipush (v := 13) hx hb dX5_begin_42 (by decide) ?_
      refine lv_sipush (v := 300) hx hb dX5_begin_44 (by decide) ?_
      refine x_iast (k := 13) hx hb hK hP hD hS 0 0 rfl rfl (x_lit rfl (by decide) (by decide)) rfl dX5_begin_47 (fun H locs hP hD hS => ?_)
      have hP : va_P D vwCl [(g1, .inl (cI, 377, .inl (upd (upd (upd (upd (upd (upd f_p1 1 1) 3 1) 5 1) 6 1) 8 1) 13 300)))] H := hP
      have hD : va_D A [(g1, .inl (cI, 377, .inl (upd (upd (upd (upd (upd (upd f_p1 1 1) 3 1) 5 1) 6 1) 8 1) 13 300)))] := hD
      refine lv_aload_n hx hb dX5_begin_48 rfl (lv_at hl 0 rfl) ?_
      refine lv_bipush (v := 14) hx hb dX5_begin_49 (by decide) ?_
      refine lv_sipush (v := 900) hx hb dX5_begin_51 (by decide) ?_
      refine x_iast (k := 14) hx hb hK hP hD hS 0 0 rfl rfl (x_lit rfl (by decide) (by decide)) rfl dX5_begin_54 (fun H locs hP hD hS => ?_)
      have hP : va_P D vwCl [(g1, .inl (cI, 377, .inl (upd (upd (upd (upd (upd (upd (upd f_p1 1 1) 3 1) 5 1) 6 1) 8 1) 13 300) 14 900)))] H := hP
      have hD : va_D A [(g1, .inl (cI, 377, .inl (upd (upd (upd (upd (upd (upd (upd f_p1 1 1) 3 1) 5 1) 6 1) 8 1) 13 300) 14 900)))] := hD
      refine lv_aload_n hx hb dX5_begin_55 rfl (lv_at hl 0 rfl) ?_
      refine lv_bipush (v := 15) hx hb dX5_begin_56 (by decide) ?_
      refine lv_bipush (v := 10) hx hb dX5_begin_58 (by decide) ?_
      refine x_iast (k := 15) hx hb hK hP hD hS 0 0 rfl rfl (x_lit rfl (by decide) (by decide)) rfl dX5_begin_60 (fun H locs hP hD hS => ?_)
      have hP : va_P D vwCl [(g1, .inl (cI, 377, .inl (upd (upd (upd (upd (upd (upd (upd (upd f_p1 1 1) 3 1) 5 1) 6 1) 8 1) 13 300) 14 900) 15 10)))] H := hP
      have hD : va_D A [(g1, .inl (cI, 377, .inl (upd (upd (upd (upd (upd (upd (upd (upd f_p1 1 1) 3 1) 5 1) 6 1) 8 1) 13 300) 14 900) 15 10)))] := hD
      refine lv_aload_n hx hb dX5_begin_61 rfl (lv_at hl 0 rfl) ?_
      refine lv_bipush (v := 16) hx hb dX5_begin_62 (by decide) ?_
      refine lv_iconst (v := 1) hx hb dX5_begin_64 (by decide) ?_
      refine x_iast (k := 16) hx hb hK hP hD hS 0 0 rfl rfl (x_lit rfl (by decide) (by decide)) rfl dX5_begin_65 (fun H locs hP hD hS => ?_)
      have hP : va_P D vwCl [(g1, .inl (cI, 377, .inl (upd (upd (upd (upd (upd (upd (upd (upd (upd f_p1 1 1) 3 1) 5 1) 6 1) 8 1) 13 300) 14 900) 15 10) 16 1)))] H := hP
      have hD : va_D A [(g1, .inl (cI, 377, .inl (upd (upd (upd (upd (upd (upd (upd (upd (upd f_p1 1 1) 3 1) 5 1) 6 1) 8 1) 13 300) 14 900) 15 10) 16 1)))] := hD
      exact x_retv C0 (upd (upd (upd (upd (upd (upd (upd (upd (upd f_p1 1 1) 3 1) 5 1) 6 1) 8 1) 13 300) 14 900) 15 10) 16 1) hk hP hD hS dX5_begin_66
    · have hk := hk.2 c1
      refine lv_aload_n hx hb dX5_begin_9 rfl (lv_at hl 0 rfl) ?_
      refine lv_iload_n hx hb dX5_begin_10 rfl (lv_at hl 1 rfl) ?_
      refine lv_iconst (v := 0) hx hb dX5_begin_11 (by decide) ?_
      refine x_iast hx hb hK hP hD hS 0 0 rfl rfl hk.1 rfl dX5_begin_12 (fun H locs hP hD hS => ?_)
      have hk := hk.2
      have hP : va_P D vwCl [(g1, .inl (cI, 377, .inl (upd f_p1 v1.toNatClampNeg 0)))] H := hP
      have hD : va_D A [(g1, .inl (cI, 377, .inl (upd f_p1 v1.toNatClampNeg 0)))] := hD
      refine lv_iinc (v := (v1 + 1)) (lv' := [(1, .int (v1 + 1)), (0, .ref g1)]) hx hb dX5_begin_13 hl (k := 1) rfl rfl (by decide) rfl (fun ls hl => ?_)
      refine lv_goto (tgt := 2) hx hb dX5_begin_16 (by decide) ?_
      exact ih _ _ hk H locs ls hP hD hS (lv_sub hl [1, 0] rfl)
set_option maxHeartbeats 4000000 in
set_option maxRecDepth 100000 in
theorem xb_X5_begin_0 {p : Program} {l : Launch} {e : Env} {s : State} {m : MethodId} {args : Array Value} {below : List Frame} {meth : Method} {c : Code} {A : Nat → Prop} {D : va_G} {cI cC cZ cL : ClassId} {g1 : Nat}   {K : ((Nat → Int32)) → Prop}  (C0 : xC p s m args meth c cX5_begin 2 none wsX5_begin RX5 D (xTY cI cC cZ cL)) (hA : ∀ q : Nat, s.heap.size ≤ q → A q)  : ∀ (f_p1 : Nat → Int32) , xp_X5_begin f_p1 K → ∀ (H : Heap) (locs : List Loc) (ls : Array Slot), va_P D vwCl [(g1, .inl (cI, 377, .inl f_p1))] H → va_D A [(g1, .inl (cI, 377, .inl f_p1))] → va_S A s.heap H locs → lv_has ls 2 [(0, .ref g1)] → W p l e ({ frames := 0, cells := 0, slots := 0, locals := 0 } : Room) s m args below meth c H locs 0 0 (MQ below (va_Qv (fun (u : (Nat → Int32)) => K u) (fun u t => xE D A ((fun (u : (Nat → Int32)) => [(g1, .inl (cI, 377, .inl u))]) u) t) A) args s 0 0 A) (F0 m 0 ls []) := by
  obtain ⟨hx, hb, hr, hml, hown, hts, hlocks, hK, hN⟩ := id C0
  intro f_p1 hk H locs ls hP hD hS hl
  rw [xp_X5_begin] at hk
  refine lv_iconst (v := 0) hx hb dX5_begin_0 (by decide) ?_
  refine lv_istore_n (lv' := [(1, .int 0), (0, .ref g1)]) hx hb dX5_begin_1 rfl hl (by decide) rfl (fun ls hl => ?_)
  obtain ⟨n9, hk⟩ := hk
  exact xb_X5_begin_2 C0 hA  n9 _ _ hk H locs ls hP hD hS (lv_sub hl [1, 0] rfl)
theorem xc_X5_begin (l : Launch) (D : va_G) (cI cC cZ cL : ClassId) (g1 : Nat)  (sz : Nat) (f_p1 : Nat → Int32)  (K : ((Nat → Int32)) → Prop) (hk : xp_X5_begin f_p1 K) : XMv l yX5_begin wsX5_begin ({ frames := 0, cells := 0, slots := 0, locals := 0 } : Room) D (xTY cI cC cZ cL) [.ref g1] [(g1, .inl (cI, 377, .inl f_p1))] sz (fun (u : (Nat → Int32)) => K u) (fun (u : (Nat → Int32)) => [(g1, .inl (cI, 377, .inl u))]) :=
  x_enter (cc := cX5_begin) (maxL := 2) (ret := none) (own := RX5) (by decide) rfl rfl (Nat.le_of_ble_eq_true rfl) (fun p e s m below meth c ls C0 hA hP hD hS hl => xb_X5_begin_0 C0 hA _ hk s.heap [] ls hP hD hS hl)
set_option maxHeartbeats 4000000 in
set_option maxRecDepth 100000 in
theorem xb_X5_isTake_0 {p : Program} {l : Launch} {e : Env} {s : State} {m : MethodId} {args : Array Value} {below : List Frame} {meth : Method} {c : Code} {A : Nat → Prop} {D : va_G} {cI cC cZ cL : ClassId} {g1 : Nat}  {f_p1 : Nat → Int32} {K : Int32 → Prop}  (C0 : xC p s m args meth c cX5_isTake 2 (some .boolean) wsX5_isTake RX5 D (xTY cI cC cZ cL)) (hA : ∀ q : Nat, s.heap.size ≤ q → A q)  : ∀ (x2 : Int32) , xp_X5_isTake f_p1 x2 K → ∀ (H : Heap) (locs : List Loc) (ls : Array Slot), va_P D vwCl [(g1, .inl (cI, 377, .inl f_p1))] H → va_D A [(g1, .inl (cI, 377, .inl f_p1))] → va_S A s.heap H locs → lv_has ls 2 [(0, .ref g1), (1, .int x2)] → W p l e ({ frames := 1, cells := 0, slots := 0, locals := 25 } : Room) s m args below meth c H locs 0 0 (MQ below (va_Qi (fun (r : Int32) (_ : Unit) => K r) (fun u t => xE D A ((fun (_ : Unit) => [(g1, .inl (cI, 377, .inl f_p1))]) u) t) A) args s 0 0 A) (F0 m 0 ls []) := by
  obtain ⟨hx, hb, hr, hml, hown, hts, hlocks, hK, hN⟩ := id C0
  intro x2 hk H locs ls hP hD hS hl
  rw [xp_X5_isTake] at hk
  refine lv_iload_n hx hb dX5_isTake_0 rfl (lv_at hl 1 rfl) ?_
  refine lv_i2l hx hb dX5_isTake_1 rfl ?_
  refine lv_lconst (v := 0) hx hb dX5_isTake_2 (by decide) ?_
  refine lv_aload_n hx hb dX5_isTake_3 rfl (lv_at hl 0 rfl) ?_
  refine lv_iconst (v := 0) hx hb dX5_isTake_4 (by decide) ?_
  refine x_iald (k := 0) hx hb hK hP 0 0 rfl rfl (x_lit rfl (by decide) (by decide)) rfl (v := (f_p1 0)) rfl dX5_isTake_5 ?_
  refine lv_iconst (v := 1) hx hb dX5_isTake_6 (by decide) ?_
  refine lv_isub hx hb dX5_isTake_7 ?_
  refine lv_i2l hx hb dX5_isTake_8 rfl ?_
  refine x_joini (ws1 := fun (_ : Unit) => [(g1, .inl (cI, 377, .inl f_p1))]) (x_runO (n0 := 3) (As := [.long x2.toInt64, .long 0, .long (((f_p1 0) - 1).toInt64)]) (rest := []) C0 (xc_X5_in l D cI cC cZ cL  H.size x2.toInt64 0 (((f_p1 0) - 1).toInt64) _ hk) gX5_isTake_X5_in rfl ⟨rfl, rfl⟩ (by decide +kernel) rfl ⟨by decide, by decide⟩ ⟨Nat.zero_le _, Nat.zero_le _⟩ hP hD [] rfl rfl hl.1 rfl (Nat.le_of_ble_eq_true rfl) dX5_isTake_9) hP hD hS hA [] [0] [0] rfl rfl rfl (by decide) (fun _ => rfl) rfl (fun r1 u1 H locs hk hP hD hS => ?_)
  exact x_retz hk.1 C0 () hk.2 hP hD hS dX5_isTake_12
theorem xc_X5_isTake (l : Launch) (D : va_G) (cI cC cZ cL : ClassId) (g1 : Nat)  (sz : Nat) (f_p1 : Nat → Int32) (x2 : Int32) (K : Int32 → Prop) (hk : xp_X5_isTake f_p1 x2 K) : XMi l yX5_isTake wsX5_isTake ({ frames := 1, cells := 0, slots := 0, locals := 25 } : Room) D (xTY cI cC cZ cL) [.ref g1, .int x2] [(g1, .inl (cI, 377, .inl f_p1))] sz (fun (r : Int32) (_ : Unit) => K r) (fun (_ : Unit) => [(g1, .inl (cI, 377, .inl f_p1))]) :=
  x_enter (cc := cX5_isTake) (maxL := 2) (ret := (some .boolean)) (own := RX5) (by decide) rfl rfl (Nat.le_of_ble_eq_true rfl) (fun p e s m below meth c ls C0 hA hP hD hS hl => xb_X5_isTake_0 C0 hA _ hk s.heap [] ls hP hD hS hl)
set_option maxHeartbeats 4000000 in
set_option maxRecDepth 100000 in
theorem xb_X5_isSetup_0 {p : Program} {l : Launch} {e : Env} {s : State} {m : MethodId} {args : Array Value} {below : List Frame} {meth : Method} {c : Code} {A : Nat → Prop} {D : va_G} {cI cC cZ cL : ClassId}    {K : Int32 → Prop}  (C0 : xC p s m args meth c cX5_isSetup 2 (some .boolean) wsX5_isSetup RX5 D (xTY cI cC cZ cL)) (hA : ∀ q : Nat, s.heap.size ≤ q → A q)  : ∀ (x1 : Int32) (x2 : Int32) , xp_X5_isSetup x1 x2 K → ∀ (H : Heap) (locs : List Loc) (ls : Array Slot), va_P D vwCl [] H → va_D A [] → va_S A s.heap H locs → lv_has ls 2 [(0, .int x1), (1, .int x2)] → W p l e ({ frames := 1, cells := 0, slots := 0, locals := 25 } : Room) s m args below meth c H locs 0 0 (MQ below (va_Qi (fun (r : Int32) (_ : Unit) => K r) (fun u t => xE D A ((fun (_ : Unit) => []) u) t) A) args s 0 0 A) (F0 m 0 ls []) := by
  obtain ⟨hx, hb, hr, hml, hown, hts, hlocks, hK, hN⟩ := id C0
  intro x1 x2 hk H locs ls hP hD hS hl
  rw [xp_X5_isSetup] at hk
  refine lv_iload_n hx hb dX5_isSetup_0 rfl (lv_at hl 0 rfl) ?_
  refine lv_i2l hx hb dX5_isSetup_1 rfl ?_
  refine lv_lconst (v := 1) hx hb dX5_isSetup_2 (by decide) ?_
  refine lv_ldc2 (own := RX5) hx hb hown (hts (.constantLong RX5 44 (99)) (by decide +kernel)) dX5_isSetup_3 ?_
  refine x_joini (ws1 := fun (_ : Unit) => []) (x_runO (n0 := 3) (As := [.long x1.toInt64, .long 1, .long 99]) (rest := []) C0 (xc_X5_in l D cI cC cZ cL  H.size x1.toInt64 1 99 _ hk) gX5_isSetup_X5_in rfl ⟨rfl, rfl⟩ (by decide +kernel) rfl ⟨by decide, by decide⟩ ⟨Nat.zero_le _, Nat.zero_le _⟩ hP hD [] rfl rfl hl.1 rfl (Nat.le_of_ble_eq_true rfl) dX5_isSetup_6) hP hD hS hA [] [] [] rfl rfl rfl (by decide) (fun _ => rfl) rfl (fun r1 u1 H locs hk hP hD hS => ?_)
  refine lv_if_eq (tgt := 28) hx hb dX5_isSetup_9 (by decide) (fun c2 => ?_) (fun c2 => ?_)
  · have hk := hk.1 c2
    refine lv_iconst (v := 0) hx hb dX5_isSetup_28 (by decide) ?_
    exact x_retz rfl C0 () hk hP hD hS dX5_isSetup_29
  · have hk := hk.2 c2
    refine lv_iload_n hx hb dX5_isSetup_12 rfl (lv_at hl 1 rfl) ?_
    refine lv_i2l hx hb dX5_isSetup_13 rfl ?_
    refine lv_lconst (v := 0) hx hb dX5_isSetup_14 (by decide) ?_
    refine lv_ldc2 (own := RX5) hx hb hown (hts (.constantLong RX5 46 (25)) (by decide +kernel)) dX5_isSetup_15 ?_
    refine x_joini (ws1 := fun (_ : Unit) => []) (x_runO (n0 := 3) (As := [.long x2.toInt64, .long 0, .long 25]) (rest := []) C0 (xc_X5_in l D cI cC cZ cL  H.size x2.toInt64 0 25 _ hk) gX5_isSetup_X5_in rfl ⟨rfl, rfl⟩ (by decide +kernel) rfl ⟨by decide, by decide⟩ ⟨Nat.zero_le _, Nat.zero_le _⟩ hP hD [] rfl rfl hl.1 rfl (Nat.le_of_ble_eq_true rfl) dX5_isSetup_18) hP hD hS hA [] [] [] rfl rfl rfl (by decide) (fun _ => rfl) rfl (fun r3 u3 H locs hk hP hD hS => ?_)
    refine lv_if_eq (tgt := 28) hx hb dX5_isSetup_21 (by decide) (fun c4 => ?_) (fun c4 => ?_)
    · have hk := hk.1 c4
      refine lv_iconst (v := 0) hx hb dX5_isSetup_28 (by decide) ?_
      exact x_retz rfl C0 () hk hP hD hS dX5_isSetup_29
    · have hk := hk.2 c4
      refine lv_iconst (v := 1) hx hb dX5_isSetup_24 (by decide) ?_
      refine lv_goto (tgt := 29) hx hb dX5_isSetup_25 (by decide) ?_
      exact x_retz rfl C0 () hk hP hD hS dX5_isSetup_29
theorem xc_X5_isSetup (l : Launch) (D : va_G) (cI cC cZ cL : ClassId)   (sz : Nat)  (x1 : Int32) (x2 : Int32) (K : Int32 → Prop) (hk : xp_X5_isSetup x1 x2 K) : XMi l yX5_isSetup wsX5_isSetup ({ frames := 1, cells := 0, slots := 0, locals := 25 } : Room) D (xTY cI cC cZ cL) [.int x1, .int x2] [] sz (fun (r : Int32) (_ : Unit) => K r) (fun (_ : Unit) => []) :=
  x_enter (cc := cX5_isSetup) (maxL := 2) (ret := (some .boolean)) (own := RX5) (by decide) rfl rfl (Nat.le_of_ble_eq_true rfl) (fun p e s m below meth c ls C0 hA hP hD hS hl => xb_X5_isSetup_0 C0 hA _ _ hk s.heap [] ls hP hD hS hl)
set_option maxHeartbeats 4000000 in
set_option maxRecDepth 100000 in
theorem xb_X5_of_0 {p : Program} {l : Launch} {e : Env} {s : State} {m : MethodId} {args : Array Value} {below : List Frame} {meth : Method} {c : Code} {A : Nat → Prop} {D : va_G} {cI cC cZ cL : ClassId} {g1 : Nat}  {f_p1 : Nat → Int32} {K : Int32 → Prop}  (C0 : xC p s m args meth c cX5_of 3 (some .int) wsX5_of RX5 D (xTY cI cC cZ cL)) (hA : ∀ q : Nat, s.heap.size ≤ q → A q)  : ∀ (x2 : Int32) (x3 : Int32) , xp_X5_of f_p1 x2 x3 K → ∀ (H : Heap) (locs : List Loc) (ls : Array Slot), va_P D vwCl [(g1, .inl (cI, 377, .inl f_p1))] H → va_D A [(g1, .inl (cI, 377, .inl f_p1))] → va_S A s.heap H locs → lv_has ls 3 [(0, .ref g1), (1, .int x2), (2, .int x3)] → W p l e ({ frames := 0, cells := 0, slots := 0, locals := 0 } : Room) s m args below meth c H locs 0 0 (MQ below (va_Qi (fun (r : Int32) (_ : Unit) => K r) (fun u t => xE D A ((fun (_ : Unit) => [(g1, .inl (cI, 377, .inl f_p1))]) u) t) A) args s 0 0 A) (F0 m 0 ls []) := by
  obtain ⟨hx, hb, hr, hml, hown, hts, hlocks, hK, hN⟩ := id C0
  intro x2 x3 hk H locs ls hP hD hS hl
  rw [xp_X5_of] at hk
  refine lv_aload_n hx hb dX5_of_0 rfl (lv_at hl 0 rfl) ?_
  refine lv_bipush (v := 17) hx hb dX5_of_1 (by decide) ?_
  refine lv_bipush (v := 15) hx hb dX5_of_3 (by decide) ?_
  refine lv_iload_n hx hb dX5_of_5 rfl (lv_at hl 1 rfl) ?_
  refine lv_imul hx hb dX5_of_6 ?_
  refine lv_iadd hx hb dX5_of_7 ?_
  refine lv_iload_n hx hb dX5_of_8 rfl (lv_at hl 2 rfl) ?_
  refine lv_iadd hx hb dX5_of_9 ?_
  refine x_iald hx hb hK hP 0 0 rfl rfl hk.1 rfl rfl dX5_of_10 ?_
  have hk := hk.2
  exact x_reti C0 () hk hP hD hS dX5_of_11
theorem xc_X5_of (l : Launch) (D : va_G) (cI cC cZ cL : ClassId) (g1 : Nat)  (sz : Nat) (f_p1 : Nat → Int32) (x2 : Int32) (x3 : Int32) (K : Int32 → Prop) (hk : xp_X5_of f_p1 x2 x3 K) : XMi l yX5_of wsX5_of ({ frames := 0, cells := 0, slots := 0, locals := 0 } : Room) D (xTY cI cC cZ cL) [.ref g1, .int x2, .int x3] [(g1, .inl (cI, 377, .inl f_p1))] sz (fun (r : Int32) (_ : Unit) => K r) (fun (_ : Unit) => [(g1, .inl (cI, 377, .inl f_p1))]) :=
  x_enter (cc := cX5_of) (maxL := 3) (ret := (some .int)) (own := RX5) (by decide) rfl rfl (Nat.le_of_ble_eq_true rfl) (fun p e s m below meth c ls C0 hA hP hD hS hl => xb_X5_of_0 C0 hA _ _ hk s.heap [] ls hP hD hS hl)
set_option maxHeartbeats 4000000 in
set_option maxRecDepth 100000 in
theorem xb_X5_lay_0 {p : Program} {l : Launch} {e : Env} {s : State} {m : MethodId} {args : Array Value} {below : List Frame} {meth : Method} {c : Code} {A : Nat → Prop} {D : va_G} {cI cC cZ cL : ClassId} {g1 : Nat}   {K : ((Nat → Int32)) → Prop}  (C0 : xC p s m args meth c cX5_lay 4 none wsX5_lay RX5 D (xTY cI cC cZ cL)) (hA : ∀ q : Nat, s.heap.size ≤ q → A q)  : ∀ (f_p1 : Nat → Int32) (x2 : Int32) (x3 : Int32) (x4 : Int32) , xp_X5_lay f_p1 x2 x3 x4 K → ∀ (H : Heap) (locs : List Loc) (ls : Array Slot), va_P D vwCl [(g1, .inl (cI, 377, .inl f_p1))] H → va_D A [(g1, .inl (cI, 377, .inl f_p1))] → va_S A s.heap H locs → lv_has ls 4 [(0, .ref g1), (1, .int x2), (2, .int x3), (3, .int x4)] → W p l e ({ frames := 0, cells := 0, slots := 0, locals := 0 } : Room) s m args below meth c H locs 0 0 (MQ below (va_Qv (fun (u : (Nat → Int32)) => K u) (fun u t => xE D A ((fun (u : (Nat → Int32)) => [(g1, .inl (cI, 377, .inl u))]) u) t) A) args s 0 0 A) (F0 m 0 ls []) := by
  obtain ⟨hx, hb, hr, hml, hown, hts, hlocks, hK, hN⟩ := id C0
  intro f_p1 x2 x3 x4 hk H locs ls hP hD hS hl
  rw [xp_X5_lay] at hk
  refine lv_aload_n hx hb dX5_lay_0 rfl (lv_at hl 0 rfl) ?_
  refine lv_bipush (v := 17) hx hb dX5_lay_1 (by decide) ?_
  refine lv_bipush (v := 15) hx hb dX5_lay_3 (by decide) ?_
  refine lv_iload_n hx hb dX5_lay_5 rfl (lv_at hl 1 rfl) ?_
  refine lv_imul hx hb dX5_lay_6 ?_
  refine lv_iadd hx hb dX5_lay_7 ?_
  refine lv_iload_n hx hb dX5_lay_8 rfl (lv_at hl 2 rfl) ?_
  refine lv_iadd hx hb dX5_lay_9 ?_
  refine lv_iload_n hx hb dX5_lay_10 rfl (lv_at hl 3 rfl) ?_
  refine x_iast hx hb hK hP hD hS 0 0 rfl rfl hk.1 rfl dX5_lay_11 (fun H locs hP hD hS => ?_)
  have hk := hk.2
  have hP : va_P D vwCl [(g1, .inl (cI, 377, .inl (upd f_p1 (((17 + (15 * x2)) + x3).toNatClampNeg) x4)))] H := hP
  have hD : va_D A [(g1, .inl (cI, 377, .inl (upd f_p1 (((17 + (15 * x2)) + x3).toNatClampNeg) x4)))] := hD
  exact x_retv C0 (upd f_p1 (((17 + (15 * x2)) + x3).toNatClampNeg) x4) hk hP hD hS dX5_lay_12
theorem xc_X5_lay (l : Launch) (D : va_G) (cI cC cZ cL : ClassId) (g1 : Nat)  (sz : Nat) (f_p1 : Nat → Int32) (x2 : Int32) (x3 : Int32) (x4 : Int32) (K : ((Nat → Int32)) → Prop) (hk : xp_X5_lay f_p1 x2 x3 x4 K) : XMv l yX5_lay wsX5_lay ({ frames := 0, cells := 0, slots := 0, locals := 0 } : Room) D (xTY cI cC cZ cL) [.ref g1, .int x2, .int x3, .int x4] [(g1, .inl (cI, 377, .inl f_p1))] sz (fun (u : (Nat → Int32)) => K u) (fun (u : (Nat → Int32)) => [(g1, .inl (cI, 377, .inl u))]) :=
  x_enter (cc := cX5_lay) (maxL := 4) (ret := none) (own := RX5) (by decide) rfl rfl (Nat.le_of_ble_eq_true rfl) (fun p e s m below meth c ls C0 hA hP hD hS hl => xb_X5_lay_0 C0 hA _ _ _ _ hk s.heap [] ls hP hD hS hl)
set_option maxHeartbeats 4000000 in
set_option maxRecDepth 100000 in
theorem xb_X5_number_6 {p : Program} {l : Launch} {e : Env} {s : State} {m : MethodId} {args : Array Value} {below : List Frame} {meth : Method} {c : Code} {A : Nat → Prop} {D : va_G} {cI cC cZ cL : ClassId} {g1 : Nat}  {f_p1 : Nat → Int32} {K : Int32 → Prop}  (C0 : xC p s m args meth c cX5_number 6 (some .int) wsX5_number RX5 D (xTY cI cC cZ cL)) (hA : ∀ q : Nat, s.heap.size ≤ q → A q)  : ∀ (n : Nat) (v1 : Int32) (v2 : Int32) (v3 : Int32) (v4 : Int32) (v5 : Int32) , xp_X5_number_6 f_p1 K n v1 v2 v3 v4 v5 → ∀ (H : Heap) (locs : List Loc) (ls : Array Slot), va_P D vwCl [(g1, .inl (cI, 377, .inl f_p1))] H → va_D A [(g1, .inl (cI, 377, .inl f_p1))] → va_S A s.heap H locs → lv_has ls 6 [(0, .ref g1), (1, .int v1), (2, .int v2), (3, .int v3), (4, .int v4), (5, .int v5)] → W p l e ({ frames := 1, cells := 0, slots := 0, locals := 22 } : Room) s m args below meth c H locs 0 0 (MQ below (va_Qi (fun (r : Int32) (_ : Unit) => K r) (fun u t => xE D A ((fun (_ : Unit) => [(g1, .inl (cI, 377, .inl f_p1))]) u) t) A) args s 0 0 A) (F0 m 6 ls []) := by
  obtain ⟨hx, hb, hr, hml, hown, hts, hlocks, hK, hN⟩ := id C0
  intro n
  induction n with
  | zero => intro v1 v2 v3 v4 v5 hk; exact hk.elim
  | succ n ih =>
    intro v1 v2 v3 v4 v5 hk H locs ls hP hD hS hl
    rw [xp_X5_number_6] at hk
    refine lv_iload hx hb dX5_number_6 (lv_at hl 5 rfl) ?_
    refine lv_iload_n hx hb dX5_number_8 rfl (lv_at hl 1 rfl) ?_
    refine lv_icmp_ge (tgt := 61) hx hb dX5_number_9 (by decide) (fun c1 => ?_) (fun c1 => ?_)
    · have hk := hk.1 c1
      refine lv_iload hx hb dX5_number_61 (lv_at hl 4 rfl) ?_
      exact x_reti C0 () hk hP hD hS dX5_number_63
    · have hk := hk.2 c1
      refine lv_iload hx hb dX5_number_12 (lv_at hl 4 rfl) ?_
      refine lv_aload_n hx hb dX5_number_14 rfl (lv_at hl 0 rfl) ?_
      refine lv_iload hx hb dX5_number_15 (lv_at hl 5 rfl) ?_
      refine lv_iconst (v := 0) hx hb dX5_number_17 (by decide) ?_
      refine x_joini (ws1 := fun (_ : Unit) => [(g1, .inl (cI, 377, .inl f_p1))]) (x_runO (n0 := 3) (As := [.ref g1, .int v5, .int 0]) (rest := [.int v4]) C0 (xc_X5_of l D cI cC cZ cL g1 H.size f_p1 v5 0 _ hk) gX5_number_X5_of rfl ⟨rfl, rfl⟩ (by decide +kernel) rfl ⟨by decide, by decide⟩ ⟨Nat.zero_le _, Nat.zero_le _⟩ hP hD [0] rfl rfl hl.1 rfl (Nat.le_of_ble_eq_true rfl) dX5_number_18) hP hD hS hA [0] [] [0] rfl rfl rfl (by decide) (fun _ => rfl) rfl (fun r2 u2 H locs hk hP hD hS => ?_)
      refine lv_iload_n hx hb dX5_number_21 rfl (lv_at hl 2 rfl) ?_
      refine lv_icmp_ne (tgt := 51) hx hb dX5_number_22 (by decide) (fun c3 => ?_) (fun c3 => ?_)
      · have hk := hk.1 c3
        refine lv_iconst (v := 0) hx hb dX5_number_51 (by decide) ?_
        refine lv_iadd hx hb dX5_number_52 ?_
        refine lv_istore (lv' := [(4, .int (v4 + 0)), (0, .ref g1), (1, .int v1), (2, .int v2), (3, .int v3), (5, .int v5)]) hx hb dX5_number_53 hl (by decide) rfl (fun ls hl => ?_)
        refine lv_iinc (v := (v5 + 1)) (lv' := [(5, .int (v5 + 1)), (4, .int (v4 + 0)), (0, .ref g1), (1, .int v1), (2, .int v2), (3, .int v3)]) hx hb dX5_number_55 hl (k := 5) rfl rfl (by decide) rfl (fun ls hl => ?_)
        refine lv_goto (tgt := 6) hx hb dX5_number_58 (by decide) ?_
        exact ih _ _ _ _ _ hk H locs ls hP hD hS (lv_sub hl [2, 3, 4, 5, 1, 0] rfl)
      · have hk := hk.2 c3
        refine lv_aload_n hx hb dX5_number_25 rfl (lv_at hl 0 rfl) ?_
        refine lv_iload hx hb dX5_number_26 (lv_at hl 5 rfl) ?_
        refine lv_iconst (v := 1) hx hb dX5_number_28 (by decide) ?_
        refine x_joini (ws1 := fun (_ : Unit) => [(g1, .inl (cI, 377, .inl f_p1))]) (x_runO (n0 := 3) (As := [.ref g1, .int v5, .int 1]) (rest := [.int v4]) C0 (xc_X5_of l D cI cC cZ cL g1 H.size f_p1 v5 1 _ hk) gX5_number_X5_of rfl ⟨rfl, rfl⟩ (by decide +kernel) rfl ⟨by decide, by decide⟩ ⟨Nat.zero_le _, Nat.zero_le _⟩ hP hD [0] rfl rfl hl.1 rfl (Nat.le_of_ble_eq_true rfl) dX5_number_29) hP hD hS hA [0] [] [0] rfl rfl rfl (by decide) (fun _ => rfl) rfl (fun r4 u4 H locs hk hP hD hS => ?_)
        refine lv_iload_n hx hb dX5_number_32 rfl (lv_at hl 3 rfl) ?_
        refine lv_icmp_ne (tgt := 51) hx hb dX5_number_33 (by decide) (fun c5 => ?_) (fun c5 => ?_)
        · have hk := hk.1 c5
          refine lv_iconst (v := 0) hx hb dX5_number_51 (by decide) ?_
          refine lv_iadd hx hb dX5_number_52 ?_
          refine lv_istore (lv' := [(4, .int (v4 + 0)), (0, .ref g1), (1, .int v1), (2, .int v2), (3, .int v3), (5, .int v5)]) hx hb dX5_number_53 hl (by decide) rfl (fun ls hl => ?_)
          refine lv_iinc (v := (v5 + 1)) (lv' := [(5, .int (v5 + 1)), (4, .int (v4 + 0)), (0, .ref g1), (1, .int v1), (2, .int v2), (3, .int v3)]) hx hb dX5_number_55 hl (k := 5) rfl rfl (by decide) rfl (fun ls hl => ?_)
          refine lv_goto (tgt := 6) hx hb dX5_number_58 (by decide) ?_
          exact ih _ _ _ _ _ hk H locs ls hP hD hS (lv_sub hl [2, 3, 4, 5, 1, 0] rfl)
        · have hk := hk.2 c5
          refine lv_aload_n hx hb dX5_number_36 rfl (lv_at hl 0 rfl) ?_
          refine lv_iload hx hb dX5_number_37 (lv_at hl 5 rfl) ?_
          refine lv_bipush (v := 14) hx hb dX5_number_39 (by decide) ?_
          refine x_joini (ws1 := fun (_ : Unit) => [(g1, .inl (cI, 377, .inl f_p1))]) (x_runO (n0 := 3) (As := [.ref g1, .int v5, .int 14]) (rest := [.int v4]) C0 (xc_X5_of l D cI cC cZ cL g1 H.size f_p1 v5 14 _ hk) gX5_number_X5_of rfl ⟨rfl, rfl⟩ (by decide +kernel) rfl ⟨by decide, by decide⟩ ⟨Nat.zero_le _, Nat.zero_le _⟩ hP hD [0] rfl rfl hl.1 rfl (Nat.le_of_ble_eq_true rfl) dX5_number_41) hP hD hS hA [0] [] [0] rfl rfl rfl (by decide) (fun _ => rfl) rfl (fun r6 u6 H locs hk hP hD hS => ?_)
          refine lv_if_ne (tgt := 51) hx hb dX5_number_44 (by decide) (fun c7 => ?_) (fun c7 => ?_)
          · have hk := hk.1 c7
            refine lv_iconst (v := 0) hx hb dX5_number_51 (by decide) ?_
            refine lv_iadd hx hb dX5_number_52 ?_
            refine lv_istore (lv' := [(4, .int (v4 + 0)), (0, .ref g1), (1, .int v1), (2, .int v2), (3, .int v3), (5, .int v5)]) hx hb dX5_number_53 hl (by decide) rfl (fun ls hl => ?_)
            refine lv_iinc (v := (v5 + 1)) (lv' := [(5, .int (v5 + 1)), (4, .int (v4 + 0)), (0, .ref g1), (1, .int v1), (2, .int v2), (3, .int v3)]) hx hb dX5_number_55 hl (k := 5) rfl rfl (by decide) rfl (fun ls hl => ?_)
            refine lv_goto (tgt := 6) hx hb dX5_number_58 (by decide) ?_
            exact ih _ _ _ _ _ hk H locs ls hP hD hS (lv_sub hl [2, 3, 4, 5, 1, 0] rfl)
          · have hk := hk.2 c7
            refine lv_iconst (v := 1) hx hb dX5_number_47 (by decide) ?_
            refine lv_goto (tgt := 52) hx hb dX5_number_48 (by decide) ?_
            refine lv_iadd hx hb dX5_number_52 ?_
            refine lv_istore (lv' := [(4, .int (v4 + 1)), (0, .ref g1), (1, .int v1), (2, .int v2), (3, .int v3), (5, .int v5)]) hx hb dX5_number_53 hl (by decide) rfl (fun ls hl => ?_)
            refine lv_iinc (v := (v5 + 1)) (lv' := [(5, .int (v5 + 1)), (4, .int (v4 + 1)), (0, .ref g1), (1, .int v1), (2, .int v2), (3, .int v3)]) hx hb dX5_number_55 hl (k := 5) rfl rfl (by decide) rfl (fun ls hl => ?_)
            refine lv_goto (tgt := 6) hx hb dX5_number_58 (by decide) ?_
            exact ih _ _ _ _ _ hk H locs ls hP hD hS (lv_sub hl [2, 3, 4, 5, 1, 0] rfl)
set_option maxHeartbeats 4000000 in
set_option maxRecDepth 100000 in
theorem xb_X5_number_0 {p : Program} {l : Launch} {e : Env} {s : State} {m : MethodId} {args : Array Value} {below : List Frame} {meth : Method} {c : Code} {A : Nat → Prop} {D : va_G} {cI cC cZ cL : ClassId} {g1 : Nat}  {f_p1 : Nat → Int32} {K : Int32 → Prop}  (C0 : xC p s m args meth c cX5_number 6 (some .int) wsX5_number RX5 D (xTY cI cC cZ cL)) (hA : ∀ q : Nat, s.heap.size ≤ q → A q)  : ∀ (x2 : Int32) (x3 : Int32) (x4 : Int32) , xp_X5_number f_p1 x2 x3 x4 K → ∀ (H : Heap) (locs : List Loc) (ls : Array Slot), va_P D vwCl [(g1, .inl (cI, 377, .inl f_p1))] H → va_D A [(g1, .inl (cI, 377, .inl f_p1))] → va_S A s.heap H locs → lv_has ls 6 [(0, .ref g1), (1, .int x2), (2, .int x3), (3, .int x4)] → W p l e ({ frames := 1, cells := 0, slots := 0, locals := 22 } : Room) s m args below meth c H locs 0 0 (MQ below (va_Qi (fun (r : Int32) (_ : Unit) => K r) (fun u t => xE D A ((fun (_ : Unit) => [(g1, .inl (cI, 377, .inl f_p1))]) u) t) A) args s 0 0 A) (F0 m 0 ls []) := by
  obtain ⟨hx, hb, hr, hml, hown, hts, hlocks, hK, hN⟩ := id C0
  intro x2 x3 x4 hk H locs ls hP hD hS hl
  rw [xp_X5_number] at hk
  refine lv_iconst (v := 1) hx hb dX5_number_0 (by decide) ?_
  refine lv_istore (lv' := [(4, .int 1), (0, .ref g1), (1, .int x2), (2, .int x3), (3, .int x4)]) hx hb dX5_number_1 hl (by decide) rfl (fun ls hl => ?_)
  refine lv_iconst (v := 0) hx hb dX5_number_3 (by decide) ?_
  refine lv_istore (lv' := [(5, .int 0), (4, .int 1), (0, .ref g1), (1, .int x2), (2, .int x3), (3, .int x4)]) hx hb dX5_number_4 hl (by decide) rfl (fun ls hl => ?_)
  obtain ⟨n9, hk⟩ := hk
  exact xb_X5_number_6 C0 hA  n9 _ _ _ _ _ hk H locs ls hP hD hS (lv_sub hl [2, 3, 4, 5, 1, 0] rfl)
theorem xc_X5_number (l : Launch) (D : va_G) (cI cC cZ cL : ClassId) (g1 : Nat)  (sz : Nat) (f_p1 : Nat → Int32) (x2 : Int32) (x3 : Int32) (x4 : Int32) (K : Int32 → Prop) (hk : xp_X5_number f_p1 x2 x3 x4 K) : XMi l yX5_number wsX5_number ({ frames := 1, cells := 0, slots := 0, locals := 22 } : Room) D (xTY cI cC cZ cL) [.ref g1, .int x2, .int x3, .int x4] [(g1, .inl (cI, 377, .inl f_p1))] sz (fun (r : Int32) (_ : Unit) => K r) (fun (_ : Unit) => [(g1, .inl (cI, 377, .inl f_p1))]) :=
  x_enter (cc := cX5_number) (maxL := 6) (ret := (some .int)) (own := RX5) (by decide) rfl rfl (Nat.le_of_ble_eq_true rfl) (fun p e s m below meth c ls C0 hA hP hD hS hl => xb_X5_number_0 C0 hA _ _ _ hk s.heap [] ls hP hD hS hl)
set_option maxHeartbeats 4000000 in
set_option maxRecDepth 100000 in
theorem xb_X5_numberOf_0 {p : Program} {l : Launch} {e : Env} {s : State} {m : MethodId} {args : Array Value} {below : List Frame} {meth : Method} {c : Code} {A : Nat → Prop} {D : va_G} {cI cC cZ cL : ClassId} {g1 : Nat}  {f_p1 : Nat → Int32} {K : Int32 → Prop}  (C0 : xC p s m args meth c cX5_numberOf 2 (some .int) wsX5_numberOf RX5 D (xTY cI cC cZ cL)) (hA : ∀ q : Nat, s.heap.size ≤ q → A q)  : ∀ (x2 : Int32) , xp_X5_numberOf f_p1 x2 K → ∀ (H : Heap) (locs : List Loc) (ls : Array Slot), va_P D vwCl [(g1, .inl (cI, 377, .inl f_p1))] H → va_D A [(g1, .inl (cI, 377, .inl f_p1))] → va_S A s.heap H locs → lv_has ls 2 [(0, .ref g1), (1, .int x2)] → W p l e ({ frames := 2, cells := 0, slots := 0, locals := 47 } : Room) s m args below meth c H locs 0 0 (MQ below (va_Qi (fun (r : Int32) (_ : Unit) => K r) (fun u t => xE D A ((fun (_ : Unit) => [(g1, .inl (cI, 377, .inl f_p1))]) u) t) A) args s 0 0 A) (F0 m 0 ls []) := by
  obtain ⟨hx, hb, hr, hml, hown, hts, hlocks, hK, hN⟩ := id C0
  intro x2 hk H locs ls hP hD hS hl
  rw [xp_X5_numberOf] at hk
  refine lv_aload_n hx hb dX5_numberOf_0 rfl (lv_at hl 0 rfl) ?_
  refine lv_iload_n hx hb dX5_numberOf_1 rfl (lv_at hl 1 rfl) ?_
  refine lv_aload_n hx hb dX5_numberOf_2 rfl (lv_at hl 0 rfl) ?_
  refine lv_iload_n hx hb dX5_numberOf_3 rfl (lv_at hl 1 rfl) ?_
  refine lv_iconst (v := 0) hx hb dX5_numberOf_4 (by decide) ?_
  refine x_joini (ws1 := fun (_ : Unit) => [(g1, .inl (cI, 377, .inl f_p1))]) (x_runO (n0 := 3) (As := [.ref g1, .int x2, .int 0]) (rest := [.int x2, .ref g1]) C0 (xc_X5_of l D cI cC cZ cL g1 H.size f_p1 x2 0 _ hk) gX5_numberOf_X5_of rfl ⟨rfl, rfl⟩ (by decide +kernel) rfl ⟨by decide, by decide⟩ ⟨Nat.zero_le _, Nat.zero_le _⟩ hP hD [0] rfl rfl hl.1 rfl (Nat.le_of_ble_eq_true rfl) dX5_numberOf_5) hP hD hS hA [0] [] [0] rfl rfl rfl (by decide) (fun _ => rfl) rfl (fun r1 u1 H locs hk hP hD hS => ?_)
  refine lv_aload_n hx hb dX5_numberOf_8 rfl (lv_at hl 0 rfl) ?_
  refine lv_iload_n hx hb dX5_numberOf_9 rfl (lv_at hl 1 rfl) ?_
  refine lv_iconst (v := 1) hx hb dX5_numberOf_10 (by decide) ?_
  refine x_joini (ws1 := fun (_ : Unit) => [(g1, .inl (cI, 377, .inl f_p1))]) (x_runO (n0 := 3) (As := [.ref g1, .int x2, .int 1]) (rest := [.int r1, .int x2, .ref g1]) C0 (xc_X5_of l D cI cC cZ cL g1 H.size f_p1 x2 1 _ hk) gX5_numberOf_X5_of rfl ⟨rfl, rfl⟩ (by decide +kernel) rfl ⟨by decide, by decide⟩ ⟨Nat.zero_le _, Nat.zero_le _⟩ hP hD [0] rfl rfl hl.1 rfl (Nat.le_of_ble_eq_true rfl) dX5_numberOf_11) hP hD hS hA [0] [] [0] rfl rfl rfl (by decide) (fun _ => rfl) rfl (fun r2 u2 H locs hk hP hD hS => ?_)
  refine x_joini (ws1 := fun (_ : Unit) => [(g1, .inl (cI, 377, .inl f_p1))]) (x_runO (n0 := 4) (As := [.ref g1, .int x2, .int r1, .int r2]) (rest := []) C0 (xc_X5_number l D cI cC cZ cL g1 H.size f_p1 x2 r1 r2 _ hk) gX5_numberOf_X5_number rfl ⟨rfl, rfl⟩ (by decide +kernel) rfl ⟨by decide, by decide⟩ ⟨Nat.zero_le _, Nat.zero_le _⟩ hP hD [0] rfl rfl hl.1 rfl (Nat.le_of_ble_eq_true rfl) dX5_numberOf_14) hP hD hS hA [0] [] [0] rfl rfl rfl (by decide) (fun _ => rfl) rfl (fun r3 u3 H locs hk hP hD hS => ?_)
  exact x_reti C0 () hk hP hD hS dX5_numberOf_17
theorem xc_X5_numberOf (l : Launch) (D : va_G) (cI cC cZ cL : ClassId) (g1 : Nat)  (sz : Nat) (f_p1 : Nat → Int32) (x2 : Int32) (K : Int32 → Prop) (hk : xp_X5_numberOf f_p1 x2 K) : XMi l yX5_numberOf wsX5_numberOf ({ frames := 2, cells := 0, slots := 0, locals := 47 } : Room) D (xTY cI cC cZ cL) [.ref g1, .int x2] [(g1, .inl (cI, 377, .inl f_p1))] sz (fun (r : Int32) (_ : Unit) => K r) (fun (_ : Unit) => [(g1, .inl (cI, 377, .inl f_p1))]) :=
  x_enter (cc := cX5_numberOf) (maxL := 2) (ret := (some .int)) (own := RX5) (by decide) rfl rfl (Nat.le_of_ble_eq_true rfl) (fun p e s m below meth c ls C0 hA hP hD hS hl => xb_X5_numberOf_0 C0 hA _ hk s.heap [] ls hP hD hS hl)
set_option maxHeartbeats 4000000 in
set_option maxRecDepth 100000 in
theorem xb_X5_next_0 {p : Program} {l : Launch} {e : Env} {s : State} {m : MethodId} {args : Array Value} {below : List Frame} {meth : Method} {c : Code} {A : Nat → Prop} {D : va_G} {cI cC cZ cL : ClassId} {g1 : Nat}  {f_p1 : Nat → Int32} {K : Int32 → Prop}  (C0 : xC p s m args meth c cX5_next 1 (some .int) wsX5_next RX5 D (xTY cI cC cZ cL)) (hA : ∀ q : Nat, s.heap.size ≤ q → A q)  : xp_X5_next f_p1 K → ∀ (H : Heap) (locs : List Loc) (ls : Array Slot), va_P D vwCl [(g1, .inl (cI, 377, .inl f_p1))] H → va_D A [(g1, .inl (cI, 377, .inl f_p1))] → va_S A s.heap H locs → lv_has ls 1 [(0, .ref g1)] → W p l e ({ frames := 2, cells := 0, slots := 0, locals := 47 } : Room) s m args below meth c H locs 0 0 (MQ below (va_Qi (fun (r : Int32) (_ : Unit) => K r) (fun u t => xE D A ((fun (_ : Unit) => [(g1, .inl (cI, 377, .inl f_p1))]) u) t) A) args s 0 0 A) (F0 m 0 ls []) := by
  obtain ⟨hx, hb, hr, hml, hown, hts, hlocks, hK, hN⟩ := id C0
  intro  hk H locs ls hP hD hS hl
  rw [xp_X5_next] at hk
  refine lv_aload_n hx hb dX5_next_0 rfl (lv_at hl 0 rfl) ?_
  refine lv_aload_n hx hb dX5_next_1 rfl (lv_at hl 0 rfl) ?_
  refine lv_iconst (v := 0) hx hb dX5_next_2 (by decide) ?_
  refine x_iald (k := 0) hx hb hK hP 0 0 rfl rfl (x_lit rfl (by decide) (by decide)) rfl (v := (f_p1 0)) rfl dX5_next_3 ?_
  refine lv_aload_n hx hb dX5_next_4 rfl (lv_at hl 0 rfl) ?_
  refine lv_iconst (v := 1) hx hb dX5_next_5 (by decide) ?_
  refine x_iald (k := 1) hx hb hK hP 0 0 rfl rfl (x_lit rfl (by decide) (by decide)) rfl (v := (f_p1 1)) rfl dX5_next_6 ?_
  refine lv_aload_n hx hb dX5_next_7 rfl (lv_at hl 0 rfl) ?_
  refine lv_iconst (v := 2) hx hb dX5_next_8 (by decide) ?_
  refine x_iald (k := 2) hx hb hK hP 0 0 rfl rfl (x_lit rfl (by decide) (by decide)) rfl (v := (f_p1 2)) rfl dX5_next_9 ?_
  refine x_joini (ws1 := fun (_ : Unit) => [(g1, .inl (cI, 377, .inl f_p1))]) (x_runO (n0 := 4) (As := [.ref g1, .int (f_p1 0), .int (f_p1 1), .int (f_p1 2)]) (rest := []) C0 (xc_X5_number l D cI cC cZ cL g1 H.size f_p1 (f_p1 0) (f_p1 1) (f_p1 2) _ hk) gX5_next_X5_number rfl ⟨rfl, rfl⟩ (by decide +kernel) rfl ⟨by decide, by decide⟩ ⟨Nat.zero_le _, Nat.zero_le _⟩ hP hD [0] rfl rfl hl.1 rfl (Nat.le_of_ble_eq_true rfl) dX5_next_10) hP hD hS hA [0] [] [0] rfl rfl rfl (by decide) (fun _ => rfl) rfl (fun r1 u1 H locs hk hP hD hS => ?_)
  exact x_reti C0 () hk hP hD hS dX5_next_13
theorem xc_X5_next (l : Launch) (D : va_G) (cI cC cZ cL : ClassId) (g1 : Nat)  (sz : Nat) (f_p1 : Nat → Int32)  (K : Int32 → Prop) (hk : xp_X5_next f_p1 K) : XMi l yX5_next wsX5_next ({ frames := 2, cells := 0, slots := 0, locals := 47 } : Room) D (xTY cI cC cZ cL) [.ref g1] [(g1, .inl (cI, 377, .inl f_p1))] sz (fun (r : Int32) (_ : Unit) => K r) (fun (_ : Unit) => [(g1, .inl (cI, 377, .inl f_p1))]) :=
  x_enter (cc := cX5_next) (maxL := 1) (ret := (some .int)) (own := RX5) (by decide) rfl rfl (Nat.le_of_ble_eq_true rfl) (fun p e s m below meth c ls C0 hA hP hD hS hl => xb_X5_next_0 C0 hA  hk s.heap [] ls hP hD hS hl)
set_option maxHeartbeats 4000000 in
set_option maxRecDepth 100000 in
theorem xb_X5_isRight_0 {p : Program} {l : Launch} {e : Env} {s : State} {m : MethodId} {args : Array Value} {below : List Frame} {meth : Method} {c : Code} {A : Nat → Prop} {D : va_G} {cI cC cZ cL : ClassId} {g1 : Nat}  {f_p1 : Nat → Int32} {K : Int32 → Prop}  (C0 : xC p s m args meth c cX5_isRight 2 (some .boolean) wsX5_isRight RX5 D (xTY cI cC cZ cL)) (hA : ∀ q : Nat, s.heap.size ≤ q → A q)  : ∀ (x2 : Int32) , xp_X5_isRight f_p1 x2 K → ∀ (H : Heap) (locs : List Loc) (ls : Array Slot), va_P D vwCl [(g1, .inl (cI, 377, .inl f_p1))] H → va_D A [(g1, .inl (cI, 377, .inl f_p1))] → va_S A s.heap H locs → lv_has ls 2 [(0, .ref g1), (1, .int x2)] → W p l e ({ frames := 3, cells := 0, slots := 0, locals := 68 } : Room) s m args below meth c H locs 0 0 (MQ below (va_Qi (fun (r : Int32) (_ : Unit) => K r) (fun u t => xE D A ((fun (_ : Unit) => [(g1, .inl (cI, 377, .inl f_p1))]) u) t) A) args s 0 0 A) (F0 m 0 ls []) := by
  obtain ⟨hx, hb, hr, hml, hown, hts, hlocks, hK, hN⟩ := id C0
  intro x2 hk H locs ls hP hD hS hl
  rw [xp_X5_isRight] at hk
  refine lv_aload_n hx hb dX5_isRight_0 rfl (lv_at hl 0 rfl) ?_
  refine lv_iload_n hx hb dX5_isRight_1 rfl (lv_at hl 1 rfl) ?_
  refine lv_iconst (v := 2) hx hb dX5_isRight_2 (by decide) ?_
  refine x_joini (ws1 := fun (_ : Unit) => [(g1, .inl (cI, 377, .inl f_p1))]) (x_runO (n0 := 3) (As := [.ref g1, .int x2, .int 2]) (rest := []) C0 (xc_X5_of l D cI cC cZ cL g1 H.size f_p1 x2 2 _ hk) gX5_isRight_X5_of rfl ⟨rfl, rfl⟩ (by decide +kernel) rfl ⟨by decide, by decide⟩ ⟨Nat.zero_le _, Nat.zero_le _⟩ hP hD [0] rfl rfl hl.1 rfl (Nat.le_of_ble_eq_true rfl) dX5_isRight_3) hP hD hS hA [0] [] [0] rfl rfl rfl (by decide) (fun _ => rfl) rfl (fun r1 u1 H locs hk hP hD hS => ?_)
  refine lv_aload_n hx hb dX5_isRight_6 rfl (lv_at hl 0 rfl) ?_
  refine lv_iload_n hx hb dX5_isRight_7 rfl (lv_at hl 1 rfl) ?_
  refine lv_iconst (v := 0) hx hb dX5_isRight_8 (by decide) ?_
  refine x_joini (ws1 := fun (_ : Unit) => [(g1, .inl (cI, 377, .inl f_p1))]) (x_runO (n0 := 3) (As := [.ref g1, .int x2, .int 0]) (rest := [.int r1]) C0 (xc_X5_of l D cI cC cZ cL g1 H.size f_p1 x2 0 _ hk) gX5_isRight_X5_of rfl ⟨rfl, rfl⟩ (by decide +kernel) rfl ⟨by decide, by decide⟩ ⟨Nat.zero_le _, Nat.zero_le _⟩ hP hD [0] rfl rfl hl.1 rfl (Nat.le_of_ble_eq_true rfl) dX5_isRight_9) hP hD hS hA [0] [] [0] rfl rfl rfl (by decide) (fun _ => rfl) rfl (fun r2 u2 H locs hk hP hD hS => ?_)
  refine lv_icmp_ne (tgt := 48) hx hb dX5_isRight_12 (by decide) (fun c3 => ?_) (fun c3 => ?_)
  · have hk := hk.1 c3
    refine lv_iconst (v := 0) hx hb dX5_isRight_48 (by decide) ?_
    exact x_retz rfl C0 () hk hP hD hS dX5_isRight_49
  · have hk := hk.2 c3
    refine lv_aload_n hx hb dX5_isRight_15 rfl (lv_at hl 0 rfl) ?_
    refine lv_iload_n hx hb dX5_isRight_16 rfl (lv_at hl 1 rfl) ?_
    refine lv_iconst (v := 3) hx hb dX5_isRight_17 (by decide) ?_
    refine x_joini (ws1 := fun (_ : Unit) => [(g1, .inl (cI, 377, .inl f_p1))]) (x_runO (n0 := 3) (As := [.ref g1, .int x2, .int 3]) (rest := []) C0 (xc_X5_of l D cI cC cZ cL g1 H.size f_p1 x2 3 _ hk) gX5_isRight_X5_of rfl ⟨rfl, rfl⟩ (by decide +kernel) rfl ⟨by decide, by decide⟩ ⟨Nat.zero_le _, Nat.zero_le _⟩ hP hD [0] rfl rfl hl.1 rfl (Nat.le_of_ble_eq_true rfl) dX5_isRight_18) hP hD hS hA [0] [] [0] rfl rfl rfl (by decide) (fun _ => rfl) rfl (fun r4 u4 H locs hk hP hD hS => ?_)
    refine lv_aload_n hx hb dX5_isRight_21 rfl (lv_at hl 0 rfl) ?_
    refine lv_iload_n hx hb dX5_isRight_22 rfl (lv_at hl 1 rfl) ?_
    refine lv_iconst (v := 1) hx hb dX5_isRight_23 (by decide) ?_
    refine x_joini (ws1 := fun (_ : Unit) => [(g1, .inl (cI, 377, .inl f_p1))]) (x_runO (n0 := 3) (As := [.ref g1, .int x2, .int 1]) (rest := [.int r4]) C0 (xc_X5_of l D cI cC cZ cL g1 H.size f_p1 x2 1 _ hk) gX5_isRight_X5_of rfl ⟨rfl, rfl⟩ (by decide +kernel) rfl ⟨by decide, by decide⟩ ⟨Nat.zero_le _, Nat.zero_le _⟩ hP hD [0] rfl rfl hl.1 rfl (Nat.le_of_ble_eq_true rfl) dX5_isRight_24) hP hD hS hA [0] [] [0] rfl rfl rfl (by decide) (fun _ => rfl) rfl (fun r5 u5 H locs hk hP hD hS => ?_)
    refine lv_icmp_ne (tgt := 48) hx hb dX5_isRight_27 (by decide) (fun c6 => ?_) (fun c6 => ?_)
    · have hk := hk.1 c6
      refine lv_iconst (v := 0) hx hb dX5_isRight_48 (by decide) ?_
      exact x_retz rfl C0 () hk hP hD hS dX5_isRight_49
    · have hk := hk.2 c6
      refine lv_aload_n hx hb dX5_isRight_30 rfl (lv_at hl 0 rfl) ?_
      refine lv_iload_n hx hb dX5_isRight_31 rfl (lv_at hl 1 rfl) ?_
      refine lv_iconst (v := 4) hx hb dX5_isRight_32 (by decide) ?_
      refine x_joini (ws1 := fun (_ : Unit) => [(g1, .inl (cI, 377, .inl f_p1))]) (x_runO (n0 := 3) (As := [.ref g1, .int x2, .int 4]) (rest := []) C0 (xc_X5_of l D cI cC cZ cL g1 H.size f_p1 x2 4 _ hk) gX5_isRight_X5_of rfl ⟨rfl, rfl⟩ (by decide +kernel) rfl ⟨by decide, by decide⟩ ⟨Nat.zero_le _, Nat.zero_le _⟩ hP hD [0] rfl rfl hl.1 rfl (Nat.le_of_ble_eq_true rfl) dX5_isRight_33) hP hD hS hA [0] [] [0] rfl rfl rfl (by decide) (fun _ => rfl) rfl (fun r7 u7 H locs hk hP hD hS => ?_)
      refine lv_aload_n hx hb dX5_isRight_36 rfl (lv_at hl 0 rfl) ?_
      refine lv_iload_n hx hb dX5_isRight_37 rfl (lv_at hl 1 rfl) ?_
      refine x_joini (ws1 := fun (_ : Unit) => [(g1, .inl (cI, 377, .inl f_p1))]) (x_runO (n0 := 2) (As := [.ref g1, .int x2]) (rest := [.int r7]) C0 (xc_X5_numberOf l D cI cC cZ cL g1 H.size f_p1 x2 _ hk) gX5_isRight_X5_numberOf rfl ⟨rfl, rfl⟩ (by decide +kernel) rfl ⟨by decide, by decide⟩ ⟨Nat.zero_le _, Nat.zero_le _⟩ hP hD [0] rfl rfl hl.1 rfl (Nat.le_of_ble_eq_true rfl) dX5_isRight_38) hP hD hS hA [0] [] [0] rfl rfl rfl (by decide) (fun _ => rfl) rfl (fun r8 u8 H locs hk hP hD hS => ?_)
      refine lv_icmp_ne (tgt := 48) hx hb dX5_isRight_41 (by decide) (fun c9 => ?_) (fun c9 => ?_)
      · have hk := hk.1 c9
        refine lv_iconst (v := 0) hx hb dX5_isRight_48 (by decide) ?_
        exact x_retz rfl C0 () hk hP hD hS dX5_isRight_49
      · have hk := hk.2 c9
        refine lv_iconst (v := 1) hx hb dX5_isRight_44 (by decide) ?_
        refine lv_goto (tgt := 49) hx hb dX5_isRight_45 (by decide) ?_
        exact x_retz rfl C0 () hk hP hD hS dX5_isRight_49
theorem xc_X5_isRight (l : Launch) (D : va_G) (cI cC cZ cL : ClassId) (g1 : Nat)  (sz : Nat) (f_p1 : Nat → Int32) (x2 : Int32) (K : Int32 → Prop) (hk : xp_X5_isRight f_p1 x2 K) : XMi l yX5_isRight wsX5_isRight ({ frames := 3, cells := 0, slots := 0, locals := 68 } : Room) D (xTY cI cC cZ cL) [.ref g1, .int x2] [(g1, .inl (cI, 377, .inl f_p1))] sz (fun (r : Int32) (_ : Unit) => K r) (fun (_ : Unit) => [(g1, .inl (cI, 377, .inl f_p1))]) :=
  x_enter (cc := cX5_isRight) (maxL := 2) (ret := (some .boolean)) (own := RX5) (by decide) rfl rfl (Nat.le_of_ble_eq_true rfl) (fun p e s m below meth c ls C0 hA hP hD hS hl => xb_X5_isRight_0 C0 hA _ hk s.heap [] ls hP hD hS hl)
set_option maxHeartbeats 4000000 in
set_option maxRecDepth 100000 in
theorem xb_X5_wrong_4 {p : Program} {l : Launch} {e : Env} {s : State} {m : MethodId} {args : Array Value} {below : List Frame} {meth : Method} {c : Code} {A : Nat → Prop} {D : va_G} {cI cC cZ cL : ClassId} {g1 : Nat}  {f_p1 : Nat → Int32} {K : Int32 → Prop}  (C0 : xC p s m args meth c cX5_wrong 3 (some .int) wsX5_wrong RX5 D (xTY cI cC cZ cL)) (hA : ∀ q : Nat, s.heap.size ≤ q → A q)  : ∀ (n : Nat) (v1 : Int32) (v2 : Int32) , xp_X5_wrong_4 f_p1 K n v1 v2 → ∀ (H : Heap) (locs : List Loc) (ls : Array Slot), va_P D vwCl [(g1, .inl (cI, 377, .inl f_p1))] H → va_D A [(g1, .inl (cI, 377, .inl f_p1))] → va_S A s.heap H locs → lv_has ls 3 [(0, .ref g1), (1, .int v1), (2, .int v2)] → W p l e ({ frames := 4, cells := 0, slots := 0, locals := 89 } : Room) s m args below meth c H locs 0 0 (MQ below (va_Qi (fun (r : Int32) (_ : Unit) => K r) (fun u t => xE D A ((fun (_ : Unit) => [(g1, .inl (cI, 377, .inl f_p1))]) u) t) A) args s 0 0 A) (F0 m 4 ls []) := by
  obtain ⟨hx, hb, hr, hml, hown, hts, hlocks, hK, hN⟩ := id C0
  intro n
  induction n with
  | zero => intro v1 v2 hk; exact hk.elim
  | succ n ih =>
    intro v1 v2 hk H locs ls hP hD hS hl
    rw [xp_X5_wrong_4] at hk
    refine lv_iload_n hx hb dX5_wrong_4 rfl (lv_at hl 2 rfl) ?_
    refine lv_aload_n hx hb dX5_wrong_5 rfl (lv_at hl 0 rfl) ?_
    refine lv_iconst (v := 0) hx hb dX5_wrong_6 (by decide) ?_
    refine x_iald (k := 0) hx hb hK hP 0 0 rfl rfl (x_lit rfl (by decide) (by decide)) rfl (v := (f_p1 0)) rfl dX5_wrong_7 ?_
    refine lv_icmp_ge (tgt := 33) hx hb dX5_wrong_8 (by decide) (fun c1 => ?_) (fun c1 => ?_)
    · have hk := hk.1 c1
      refine lv_iload_n hx hb dX5_wrong_33 rfl (lv_at hl 1 rfl) ?_
      exact x_reti C0 () hk hP hD hS dX5_wrong_34
    · have hk := hk.2 c1
      refine lv_iload_n hx hb dX5_wrong_11 rfl (lv_at hl 1 rfl) ?_
      refine lv_aload_n hx hb dX5_wrong_12 rfl (lv_at hl 0 rfl) ?_
      refine lv_iload_n hx hb dX5_wrong_13 rfl (lv_at hl 2 rfl) ?_
      refine x_joini (ws1 := fun (_ : Unit) => [(g1, .inl (cI, 377, .inl f_p1))]) (x_runO (n0 := 2) (As := [.ref g1, .int v2]) (rest := [.int v1]) C0 (xc_X5_isRight l D cI cC cZ cL g1 H.size f_p1 v2 _ hk) gX5_wrong_X5_isRight rfl ⟨rfl, rfl⟩ (by decide +kernel) rfl ⟨by decide, by decide⟩ ⟨Nat.zero_le _, Nat.zero_le _⟩ hP hD [0] rfl rfl hl.1 rfl (Nat.le_of_ble_eq_true rfl) dX5_wrong_14) hP hD hS hA [0] [] [0] rfl rfl rfl (by decide) (fun _ => rfl) rfl (fun r2 u2 H locs hk hP hD hS => ?_)
      refine lv_if_eq (tgt := 24) hx hb dX5_wrong_17 (by decide) (fun c3 => ?_) (fun c3 => ?_)
      · have hk := hk.1 c3
        refine lv_iconst (v := 1) hx hb dX5_wrong_24 (by decide) ?_
        refine lv_iadd hx hb dX5_wrong_25 ?_
        refine lv_istore_n (lv' := [(1, .int (v1 + 1)), (0, .ref g1), (2, .int v2)]) hx hb dX5_wrong_26 rfl hl (by decide) rfl (fun ls hl => ?_)
        refine lv_iinc (v := (v2 + 1)) (lv' := [(2, .int (v2 + 1)), (1, .int (v1 + 1)), (0, .ref g1)]) hx hb dX5_wrong_27 hl (k := 2) rfl rfl (by decide) rfl (fun ls hl => ?_)
        refine lv_goto (tgt := 4) hx hb dX5_wrong_30 (by decide) ?_
        exact ih _ _ hk H locs ls hP hD hS (lv_sub hl [2, 1, 0] rfl)
      · have hk := hk.2 c3
        refine lv_iconst (v := 0) hx hb dX5_wrong_20 (by decide) ?_
        refine lv_goto (tgt := 25) hx hb dX5_wrong_21 (by decide) ?_
        refine lv_iadd hx hb dX5_wrong_25 ?_
        refine lv_istore_n (lv' := [(1, .int (v1 + 0)), (0, .ref g1), (2, .int v2)]) hx hb dX5_wrong_26 rfl hl (by decide) rfl (fun ls hl => ?_)
        refine lv_iinc (v := (v2 + 1)) (lv' := [(2, .int (v2 + 1)), (1, .int (v1 + 0)), (0, .ref g1)]) hx hb dX5_wrong_27 hl (k := 2) rfl rfl (by decide) rfl (fun ls hl => ?_)
        refine lv_goto (tgt := 4) hx hb dX5_wrong_30 (by decide) ?_
        exact ih _ _ hk H locs ls hP hD hS (lv_sub hl [2, 1, 0] rfl)
set_option maxHeartbeats 4000000 in
set_option maxRecDepth 100000 in
theorem xb_X5_wrong_0 {p : Program} {l : Launch} {e : Env} {s : State} {m : MethodId} {args : Array Value} {below : List Frame} {meth : Method} {c : Code} {A : Nat → Prop} {D : va_G} {cI cC cZ cL : ClassId} {g1 : Nat}  {f_p1 : Nat → Int32} {K : Int32 → Prop}  (C0 : xC p s m args meth c cX5_wrong 3 (some .int) wsX5_wrong RX5 D (xTY cI cC cZ cL)) (hA : ∀ q : Nat, s.heap.size ≤ q → A q)  : xp_X5_wrong f_p1 K → ∀ (H : Heap) (locs : List Loc) (ls : Array Slot), va_P D vwCl [(g1, .inl (cI, 377, .inl f_p1))] H → va_D A [(g1, .inl (cI, 377, .inl f_p1))] → va_S A s.heap H locs → lv_has ls 3 [(0, .ref g1)] → W p l e ({ frames := 4, cells := 0, slots := 0, locals := 89 } : Room) s m args below meth c H locs 0 0 (MQ below (va_Qi (fun (r : Int32) (_ : Unit) => K r) (fun u t => xE D A ((fun (_ : Unit) => [(g1, .inl (cI, 377, .inl f_p1))]) u) t) A) args s 0 0 A) (F0 m 0 ls []) := by
  obtain ⟨hx, hb, hr, hml, hown, hts, hlocks, hK, hN⟩ := id C0
  intro  hk H locs ls hP hD hS hl
  rw [xp_X5_wrong] at hk
  refine lv_iconst (v := 0) hx hb dX5_wrong_0 (by decide) ?_
  refine lv_istore_n (lv' := [(1, .int 0), (0, .ref g1)]) hx hb dX5_wrong_1 rfl hl (by decide) rfl (fun ls hl => ?_)
  refine lv_iconst (v := 0) hx hb dX5_wrong_2 (by decide) ?_
  refine lv_istore_n (lv' := [(2, .int 0), (1, .int 0), (0, .ref g1)]) hx hb dX5_wrong_3 rfl hl (by decide) rfl (fun ls hl => ?_)
  obtain ⟨n9, hk⟩ := hk
  exact xb_X5_wrong_4 C0 hA  n9 _ _ hk H locs ls hP hD hS (lv_sub hl [2, 1, 0] rfl)
theorem xc_X5_wrong (l : Launch) (D : va_G) (cI cC cZ cL : ClassId) (g1 : Nat)  (sz : Nat) (f_p1 : Nat → Int32)  (K : Int32 → Prop) (hk : xp_X5_wrong f_p1 K) : XMi l yX5_wrong wsX5_wrong ({ frames := 4, cells := 0, slots := 0, locals := 89 } : Room) D (xTY cI cC cZ cL) [.ref g1] [(g1, .inl (cI, 377, .inl f_p1))] sz (fun (r : Int32) (_ : Unit) => K r) (fun (_ : Unit) => [(g1, .inl (cI, 377, .inl f_p1))]) :=
  x_enter (cc := cX5_wrong) (maxL := 3) (ret := (some .int)) (own := RX5) (by decide) rfl rfl (Nat.le_of_ble_eq_true rfl) (fun p e s m below meth c ls C0 hA hP hD hS hl => xb_X5_wrong_0 C0 hA  hk s.heap [] ls hP hD hS hl)
set_option maxHeartbeats 4000000 in
set_option maxRecDepth 100000 in
theorem xb_X5_sum_4 {p : Program} {l : Launch} {e : Env} {s : State} {m : MethodId} {args : Array Value} {below : List Frame} {meth : Method} {c : Code} {A : Nat → Prop} {D : va_G} {cI cC cZ cL : ClassId} {g1 : Nat}  {f_p1 : Nat → Int32} {K : Int32 → Prop}  (C0 : xC p s m args meth c cX5_sum 4 (some .int) wsX5_sum RX5 D (xTY cI cC cZ cL)) (hA : ∀ q : Nat, s.heap.size ≤ q → A q)  : ∀ (n : Nat) (v1 : Int32) (v2 : Int32) (v3 : Int32) , xp_X5_sum_4 f_p1 K n v1 v2 v3 → ∀ (H : Heap) (locs : List Loc) (ls : Array Slot), va_P D vwCl [(g1, .inl (cI, 377, .inl f_p1))] H → va_D A [(g1, .inl (cI, 377, .inl f_p1))] → va_S A s.heap H locs → lv_has ls 4 [(0, .ref g1), (1, .int v1), (2, .int v2), (3, .int v3)] → W p l e ({ frames := 1, cells := 0, slots := 0, locals := 22 } : Room) s m args below meth c H locs 0 0 (MQ below (va_Qi (fun (r : Int32) (_ : Unit) => K r) (fun u t => xE D A ((fun (_ : Unit) => [(g1, .inl (cI, 377, .inl f_p1))]) u) t) A) args s 0 0 A) (F0 m 4 ls []) := by
  obtain ⟨hx, hb, hr, hml, hown, hts, hlocks, hK, hN⟩ := id C0
  intro n
  induction n with
  | zero => intro v1 v2 v3 hk; exact hk.elim
  | succ n ih =>
    intro v1 v2 v3 hk H locs ls hP hD hS hl
    rw [xp_X5_sum_4] at hk
    refine lv_iload_n hx hb dX5_sum_4 rfl (lv_at hl 3 rfl) ?_
    refine lv_aload_n hx hb dX5_sum_5 rfl (lv_at hl 0 rfl) ?_
    refine lv_iconst (v := 0) hx hb dX5_sum_6 (by decide) ?_
    refine x_iald (k := 0) hx hb hK hP 0 0 rfl rfl (x_lit rfl (by decide) (by decide)) rfl (v := (f_p1 0)) rfl dX5_sum_7 ?_
    refine lv_icmp_ge (tgt := 26) hx hb dX5_sum_8 (by decide) (fun c1 => ?_) (fun c1 => ?_)
    · have hk := hk.1 c1
      refine lv_iload_n hx hb dX5_sum_26 rfl (lv_at hl 2 rfl) ?_
      exact x_reti C0 () hk hP hD hS dX5_sum_27
    · have hk := hk.2 c1
      refine lv_iload_n hx hb dX5_sum_11 rfl (lv_at hl 2 rfl) ?_
      refine lv_aload_n hx hb dX5_sum_12 rfl (lv_at hl 0 rfl) ?_
      refine lv_iload_n hx hb dX5_sum_13 rfl (lv_at hl 3 rfl) ?_
      refine lv_iload_n hx hb dX5_sum_14 rfl (lv_at hl 1 rfl) ?_
      refine x_joini (ws1 := fun (_ : Unit) => [(g1, .inl (cI, 377, .inl f_p1))]) (x_runO (n0 := 3) (As := [.ref g1, .int v3, .int v1]) (rest := [.int v2]) C0 (xc_X5_of l D cI cC cZ cL g1 H.size f_p1 v3 v1 _ hk) gX5_sum_X5_of rfl ⟨rfl, rfl⟩ (by decide +kernel) rfl ⟨by decide, by decide⟩ ⟨Nat.zero_le _, Nat.zero_le _⟩ hP hD [0] rfl rfl hl.1 rfl (Nat.le_of_ble_eq_true rfl) dX5_sum_15) hP hD hS hA [0] [] [0] rfl rfl rfl (by decide) (fun _ => rfl) rfl (fun r2 u2 H locs hk hP hD hS => ?_)
      refine lv_iadd hx hb dX5_sum_18 ?_
      refine lv_istore_n (lv' := [(2, .int (v2 + r2)), (0, .ref g1), (1, .int v1), (3, .int v3)]) hx hb dX5_sum_19 rfl hl (by decide) rfl (fun ls hl => ?_)
      refine lv_iinc (v := (v3 + 1)) (lv' := [(3, .int (v3 + 1)), (2, .int (v2 + r2)), (0, .ref g1), (1, .int v1)]) hx hb dX5_sum_20 hl (k := 3) rfl rfl (by decide) rfl (fun ls hl => ?_)
      refine lv_goto (tgt := 4) hx hb dX5_sum_23 (by decide) ?_
      exact ih _ _ _ hk H locs ls hP hD hS (lv_sub hl [2, 3, 1, 0] rfl)
set_option maxHeartbeats 4000000 in
set_option maxRecDepth 100000 in
theorem xb_X5_sum_0 {p : Program} {l : Launch} {e : Env} {s : State} {m : MethodId} {args : Array Value} {below : List Frame} {meth : Method} {c : Code} {A : Nat → Prop} {D : va_G} {cI cC cZ cL : ClassId} {g1 : Nat}  {f_p1 : Nat → Int32} {K : Int32 → Prop}  (C0 : xC p s m args meth c cX5_sum 4 (some .int) wsX5_sum RX5 D (xTY cI cC cZ cL)) (hA : ∀ q : Nat, s.heap.size ≤ q → A q)  : ∀ (x2 : Int32) , xp_X5_sum f_p1 x2 K → ∀ (H : Heap) (locs : List Loc) (ls : Array Slot), va_P D vwCl [(g1, .inl (cI, 377, .inl f_p1))] H → va_D A [(g1, .inl (cI, 377, .inl f_p1))] → va_S A s.heap H locs → lv_has ls 4 [(0, .ref g1), (1, .int x2)] → W p l e ({ frames := 1, cells := 0, slots := 0, locals := 22 } : Room) s m args below meth c H locs 0 0 (MQ below (va_Qi (fun (r : Int32) (_ : Unit) => K r) (fun u t => xE D A ((fun (_ : Unit) => [(g1, .inl (cI, 377, .inl f_p1))]) u) t) A) args s 0 0 A) (F0 m 0 ls []) := by
  obtain ⟨hx, hb, hr, hml, hown, hts, hlocks, hK, hN⟩ := id C0
  intro x2 hk H locs ls hP hD hS hl
  rw [xp_X5_sum] at hk
  refine lv_iconst (v := 0) hx hb dX5_sum_0 (by decide) ?_
  refine lv_istore_n (lv' := [(2, .int 0), (0, .ref g1), (1, .int x2)]) hx hb dX5_sum_1 rfl hl (by decide) rfl (fun ls hl => ?_)
  refine lv_iconst (v := 0) hx hb dX5_sum_2 (by decide) ?_
  refine lv_istore_n (lv' := [(3, .int 0), (2, .int 0), (0, .ref g1), (1, .int x2)]) hx hb dX5_sum_3 rfl hl (by decide) rfl (fun ls hl => ?_)
  obtain ⟨n9, hk⟩ := hk
  exact xb_X5_sum_4 C0 hA  n9 _ _ _ hk H locs ls hP hD hS (lv_sub hl [2, 3, 1, 0] rfl)
theorem xc_X5_sum (l : Launch) (D : va_G) (cI cC cZ cL : ClassId) (g1 : Nat)  (sz : Nat) (f_p1 : Nat → Int32) (x2 : Int32) (K : Int32 → Prop) (hk : xp_X5_sum f_p1 x2 K) : XMi l yX5_sum wsX5_sum ({ frames := 1, cells := 0, slots := 0, locals := 22 } : Room) D (xTY cI cC cZ cL) [.ref g1, .int x2] [(g1, .inl (cI, 377, .inl f_p1))] sz (fun (r : Int32) (_ : Unit) => K r) (fun (_ : Unit) => [(g1, .inl (cI, 377, .inl f_p1))]) :=
  x_enter (cc := cX5_sum) (maxL := 4) (ret := (some .int)) (own := RX5) (by decide) rfl rfl (Nat.le_of_ble_eq_true rfl) (fun p e s m below meth c ls C0 hA hP hD hS hl => xb_X5_sum_0 C0 hA _ hk s.heap [] ls hP hD hS hl)
set_option maxHeartbeats 4000000 in
set_option maxRecDepth 100000 in
theorem xb_X5_left_0 {p : Program} {l : Launch} {e : Env} {s : State} {m : MethodId} {args : Array Value} {below : List Frame} {meth : Method} {c : Code} {A : Nat → Prop} {D : va_G} {cI cC cZ cL : ClassId} {g1 : Nat}  {f_p1 : Nat → Int32} {K : Int32 → Prop}  (C0 : xC p s m args meth c cX5_left 2 (some .int) wsX5_left RX5 D (xTY cI cC cZ cL)) (hA : ∀ q : Nat, s.heap.size ≤ q → A q)  : xp_X5_left f_p1 K → ∀ (H : Heap) (locs : List Loc) (ls : Array Slot), va_P D vwCl [(g1, .inl (cI, 377, .inl f_p1))] H → va_D A [(g1, .inl (cI, 377, .inl f_p1))] → va_S A s.heap H locs → lv_has ls 2 [(0, .ref g1)] → W p l e ({ frames := 0, cells := 0, slots := 0, locals := 0 } : Room) s m args below meth c H locs 0 0 (MQ below (va_Qi (fun (r : Int32) (_ : Unit) => K r) (fun u t => xE D A ((fun (_ : Unit) => [(g1, .inl (cI, 377, .inl f_p1))]) u) t) A) args s 0 0 A) (F0 m 0 ls []) := by
  obtain ⟨hx, hb, hr, hml, hown, hts, hlocks, hK, hN⟩ := id C0
  intro  hk H locs ls hP hD hS hl
  rw [xp_X5_left] at hk
  refine lv_aload_n hx hb dX5_left_0 rfl (lv_at hl 0 rfl) ?_
  refine lv_bipush (v := 13) hx hb dX5_left_1 (by decide) ?_
  refine x_iald (k := 13) hx hb hK hP 0 0 rfl rfl (x_lit rfl (by decide) (by decide)) rfl (v := (f_p1 13)) rfl dX5_left_3 ?_
  refine lv_aload_n hx hb dX5_left_4 rfl (lv_at hl 0 rfl) ?_
  refine lv_bipush (v := 7) hx hb dX5_left_5 (by decide) ?_
  refine x_iald (k := 7) hx hb hK hP 0 0 rfl rfl (x_lit rfl (by decide) (by decide)) rfl (v := (f_p1 7)) rfl dX5_left_7 ?_
  refine lv_isub hx hb dX5_left_8 ?_
  refine lv_istore_n (lv' := [(1, .int ((f_p1 13) - (f_p1 7))), (0, .ref g1)]) hx hb dX5_left_9 rfl hl (by decide) rfl (fun ls hl => ?_)
  refine lv_iload_n hx hb dX5_left_10 rfl (lv_at hl 0 rfl) ?_
  refine lv_if_ge (tgt := 18) hx hb dX5_left_11 (by decide) (fun c1 => ?_) (fun c1 => ?_)
  · have hk := hk.1 c1
    refine lv_iload_n hx hb dX5_left_18 rfl (lv_at hl 0 rfl) ?_
    exact x_reti C0 () hk hP hD hS dX5_left_19
  · have hk := hk.2 c1
    refine lv_iconst (v := 0) hx hb dX5_left_14 (by decide) ?_
    refine lv_goto (tgt := 19) hx hb dX5_left_15 (by decide) ?_
    exact x_reti C0 () hk hP hD hS dX5_left_19
theorem xc_X5_left (l : Launch) (D : va_G) (cI cC cZ cL : ClassId) (g1 : Nat)  (sz : Nat) (f_p1 : Nat → Int32)  (K : Int32 → Prop) (hk : xp_X5_left f_p1 K) : XMi l yX5_left wsX5_left ({ frames := 0, cells := 0, slots := 0, locals := 0 } : Room) D (xTY cI cC cZ cL) [.ref g1] [(g1, .inl (cI, 377, .inl f_p1))] sz (fun (r : Int32) (_ : Unit) => K r) (fun (_ : Unit) => [(g1, .inl (cI, 377, .inl f_p1))]) :=
  x_enter (cc := cX5_left) (maxL := 2) (ret := (some .int)) (own := RX5) (by decide) rfl rfl (Nat.le_of_ble_eq_true rfl) (fun p e s m below meth c ls C0 hA hP hD hS hl => xb_X5_left_0 C0 hA  hk s.heap [] ls hP hD hS hl)
set_option maxHeartbeats 4000000 in
set_option maxRecDepth 100000 in
theorem xb_X5_canShoot_0 {p : Program} {l : Launch} {e : Env} {s : State} {m : MethodId} {args : Array Value} {below : List Frame} {meth : Method} {c : Code} {A : Nat → Prop} {D : va_G} {cI cC cZ cL : ClassId} {g1 : Nat}  {f_p1 : Nat → Int32} {K : Int32 → Prop}  (C0 : xC p s m args meth c cX5_canShoot 1 (some .boolean) wsX5_canShoot RX5 D (xTY cI cC cZ cL)) (hA : ∀ q : Nat, s.heap.size ≤ q → A q)  : xp_X5_canShoot f_p1 K → ∀ (H : Heap) (locs : List Loc) (ls : Array Slot), va_P D vwCl [(g1, .inl (cI, 377, .inl f_p1))] H → va_D A [(g1, .inl (cI, 377, .inl f_p1))] → va_S A s.heap H locs → lv_has ls 1 [(0, .ref g1)] → W p l e ({ frames := 1, cells := 0, slots := 0, locals := 21 } : Room) s m args below meth c H locs 0 0 (MQ below (va_Qi (fun (r : Int32) (_ : Unit) => K r) (fun u t => xE D A ((fun (_ : Unit) => [(g1, .inl (cI, 377, .inl f_p1))]) u) t) A) args s 0 0 A) (F0 m 0 ls []) := by
  obtain ⟨hx, hb, hr, hml, hown, hts, hlocks, hK, hN⟩ := id C0
  intro  hk H locs ls hP hD hS hl
  rw [xp_X5_canShoot] at hk
  refine lv_aload_n hx hb dX5_canShoot_0 rfl (lv_at hl 0 rfl) ?_
  refine lv_iconst (v := 0) hx hb dX5_canShoot_1 (by decide) ?_
  refine x_iald (k := 0) hx hb hK hP 0 0 rfl rfl (x_lit rfl (by decide) (by decide)) rfl (v := (f_p1 0)) rfl dX5_canShoot_2 ?_
  refine lv_bipush (v := 24) hx hb dX5_canShoot_3 (by decide) ?_
  refine lv_icmp_ge (tgt := 19) hx hb dX5_canShoot_5 (by decide) (fun c1 => ?_) (fun c1 => ?_)
  · have hk := hk.1 c1
    refine lv_iconst (v := 0) hx hb dX5_canShoot_19 (by decide) ?_
    exact x_retz rfl C0 () hk hP hD hS dX5_canShoot_20
  · have hk := hk.2 c1
    refine lv_aload_n hx hb dX5_canShoot_8 rfl (lv_at hl 0 rfl) ?_
    refine x_joini (ws1 := fun (_ : Unit) => [(g1, .inl (cI, 377, .inl f_p1))]) (x_runO (n0 := 1) (As := [.ref g1]) (rest := []) C0 (xc_X5_left l D cI cC cZ cL g1 H.size f_p1 _ hk) gX5_canShoot_X5_left rfl ⟨rfl, rfl⟩ (by decide +kernel) rfl ⟨by decide, by decide⟩ ⟨Nat.zero_le _, Nat.zero_le _⟩ hP hD [0] rfl rfl hl.1 rfl (Nat.le_of_ble_eq_true rfl) dX5_canShoot_9) hP hD hS hA [0] [] [0] rfl rfl rfl (by decide) (fun _ => rfl) rfl (fun r2 u2 H locs hk hP hD hS => ?_)
    refine lv_if_le (tgt := 19) hx hb dX5_canShoot_12 (by decide) (fun c3 => ?_) (fun c3 => ?_)
    · have hk := hk.1 c3
      refine lv_iconst (v := 0) hx hb dX5_canShoot_19 (by decide) ?_
      exact x_retz rfl C0 () hk hP hD hS dX5_canShoot_20
    · have hk := hk.2 c3
      refine lv_iconst (v := 1) hx hb dX5_canShoot_15 (by decide) ?_
      refine lv_goto (tgt := 20) hx hb dX5_canShoot_16 (by decide) ?_
      exact x_retz rfl C0 () hk hP hD hS dX5_canShoot_20
theorem xc_X5_canShoot (l : Launch) (D : va_G) (cI cC cZ cL : ClassId) (g1 : Nat)  (sz : Nat) (f_p1 : Nat → Int32)  (K : Int32 → Prop) (hk : xp_X5_canShoot f_p1 K) : XMi l yX5_canShoot wsX5_canShoot ({ frames := 1, cells := 0, slots := 0, locals := 21 } : Room) D (xTY cI cC cZ cL) [.ref g1] [(g1, .inl (cI, 377, .inl f_p1))] sz (fun (r : Int32) (_ : Unit) => K r) (fun (_ : Unit) => [(g1, .inl (cI, 377, .inl f_p1))]) :=
  x_enter (cc := cX5_canShoot) (maxL := 1) (ret := (some .boolean)) (own := RX5) (by decide) rfl rfl (Nat.le_of_ble_eq_true rfl) (fun p e s m below meth c ls C0 hA hP hD hS hl => xb_X5_canShoot_0 C0 hA  hk s.heap [] ls hP hD hS hl)
set_option maxHeartbeats 4000000 in
set_option maxRecDepth 100000 in
theorem xb_X5_shootOn_313 {p : Program} {l : Launch} {e : Env} {s : State} {m : MethodId} {args : Array Value} {below : List Frame} {meth : Method} {c : Code} {A : Nat → Prop} {D : va_G} {cI cC cZ cL : ClassId} {g1 : Nat}   {K : Int32 → ((Nat → Int32)) → Prop}  (C0 : xC p s m args meth c cX5_shootOn 7 (some .int) wsX5_shootOn RX5 D (xTY cI cC cZ cL)) (hA : ∀ q : Nat, s.heap.size ≤ q → A q)  : ∀ (f_p1 : Nat → Int32) (v4 : Int32) (t0 : Int32) (t1 : Int32) , xp_X5_shootOn_313 K f_p1 v4 t0 t1 → ∀ (H : Heap) (locs : List Loc) (ls : Array Slot), va_P D vwCl [(g1, .inl (cI, 377, .inl f_p1))] H → va_D A [(g1, .inl (cI, 377, .inl f_p1))] → va_S A s.heap H locs → lv_has ls 7 [(0, .ref g1), (4, .int v4)] → W p l e ({ frames := 1, cells := 0, slots := 0, locals := 23 } : Room) s m args below meth c H locs 0 0 (MQ below (va_Qi (fun (r : Int32) (u : (Nat → Int32)) => K r u) (fun u t => xE D A ((fun (u : (Nat → Int32)) => [(g1, .inl (cI, 377, .inl u))]) u) t) A) args s 0 0 A) (F0 m 313 ls [.int t0, .int t1, .int 5, .ref g1]) := by
  obtain ⟨hx, hb, hr, hml, hown, hts, hlocks, hK, hN⟩ := id C0
  intro f_p1 v4 t0 t1 hk H locs ls hP hD hS hl
  rw [xp_X5_shootOn_313] at hk
  refine lv_iadd hx hb dX5_shootOn_313 ?_
  refine x_iast (k := 5) hx hb hK hP hD hS 0 0 rfl rfl (x_lit rfl (by decide) (by decide)) rfl dX5_shootOn_314 (fun H locs hP hD hS => ?_)
  have hP : va_P D vwCl [(g1, .inl (cI, 377, .inl (upd f_p1 5 (t1 + t0))))] H := hP
  have hD : va_D A [(g1, .inl (cI, 377, .inl (upd f_p1 5 (t1 + t0))))] := hD
  refine lv_aload_n hx hb dX5_shootOn_315 rfl (lv_at hl 0 rfl) ?_
  refine lv_iconst (v := 0) hx hb dX5_shootOn_316 (by decide) ?_
  refine lv_dup2_11 hx hb dX5_shootOn_317 rfl rfl ?_
  refine x_iald (k := 0) hx hb hK hP 0 0 rfl rfl (x_lit rfl (by decide) (by decide)) rfl (v := (f_p1 0)) rfl dX5_shootOn_318 ?_
  refine lv_iconst (v := 1) hx hb dX5_shootOn_319 (by decide) ?_
  refine lv_iadd hx hb dX5_shootOn_320 ?_
  refine x_iast (k := 0) hx hb hK hP hD hS 0 0 rfl rfl (x_lit rfl (by decide) (by decide)) rfl dX5_shootOn_321 (fun H locs hP hD hS => ?_)
  have hP : va_P D vwCl [(g1, .inl (cI, 377, .inl (upd (upd f_p1 5 (t1 + t0)) 0 ((f_p1 0) + 1))))] H := hP
  have hD : va_D A [(g1, .inl (cI, 377, .inl (upd (upd f_p1 5 (t1 + t0)) 0 ((f_p1 0) + 1))))] := hD
  refine lv_iload hx hb dX5_shootOn_322 (lv_at hl 1 rfl) ?_
  exact x_reti C0 (upd (upd f_p1 5 (t1 + t0)) 0 ((f_p1 0) + 1)) hk hP hD hS dX5_shootOn_324
set_option maxHeartbeats 4000000 in
set_option maxRecDepth 100000 in
theorem xb_X5_shootOn_272 {p : Program} {l : Launch} {e : Env} {s : State} {m : MethodId} {args : Array Value} {below : List Frame} {meth : Method} {c : Code} {A : Nat → Prop} {D : va_G} {cI cC cZ cL : ClassId} {g1 : Nat}   {K : Int32 → ((Nat → Int32)) → Prop}  (C0 : xC p s m args meth c cX5_shootOn 7 (some .int) wsX5_shootOn RX5 D (xTY cI cC cZ cL)) (hA : ∀ q : Nat, s.heap.size ≤ q → A q)  : ∀ (f_p1 : Nat → Int32) (v4 : Int32) (t0 : Int32) (t1 : Int32) , xp_X5_shootOn_272 K f_p1 v4 t0 t1 → ∀ (H : Heap) (locs : List Loc) (ls : Array Slot), va_P D vwCl [(g1, .inl (cI, 377, .inl f_p1))] H → va_D A [(g1, .inl (cI, 377, .inl f_p1))] → va_S A s.heap H locs → lv_has ls 7 [(0, .ref g1), (4, .int v4)] → W p l e ({ frames := 1, cells := 0, slots := 0, locals := 23 } : Room) s m args below meth c H locs 0 0 (MQ below (va_Qi (fun (r : Int32) (u : (Nat → Int32)) => K r u) (fun u t => xE D A ((fun (u : (Nat → Int32)) => [(g1, .inl (cI, 377, .inl u))]) u) t) A) args s 0 0 A) (F0 m 272 ls [.int t0, .int t1, .int 12, .ref g1]) := by
  obtain ⟨hx, hb, hr, hml, hown, hts, hlocks, hK, hN⟩ := id C0
  intro f_p1 v4 t0 t1 hk H locs ls hP hD hS hl
  rw [xp_X5_shootOn_272] at hk
  refine lv_iadd hx hb dX5_shootOn_272 ?_
  refine x_iast (k := 12) hx hb hK hP hD hS 0 0 rfl rfl (x_lit rfl (by decide) (by decide)) rfl dX5_shootOn_273 (fun H locs hP hD hS => ?_)
  have hP : va_P D vwCl [(g1, .inl (cI, 377, .inl (upd f_p1 12 (t1 + t0))))] H := hP
  have hD : va_D A [(g1, .inl (cI, 377, .inl (upd f_p1 12 (t1 + t0))))] := hD
  refine lv_aload_n hx hb dX5_shootOn_274 rfl (lv_at hl 0 rfl) ?_
  refine lv_bipush (v := 10) hx hb dX5_shootOn_275 (by decide) ?_
  refine lv_dup2_11 hx hb dX5_shootOn_277 rfl rfl ?_
  refine x_iald (k := 10) hx hb hK hP 0 0 rfl rfl (x_lit rfl (by decide) (by decide)) rfl (v := (f_p1 10)) rfl dX5_shootOn_278 ?_
  refine lv_iload hx hb dX5_shootOn_279 (lv_at hl 1 rfl) ?_
  refine lv_aload_n hx hb dX5_shootOn_281 rfl (lv_at hl 0 rfl) ?_
  refine lv_bipush (v := 15) hx hb dX5_shootOn_282 (by decide) ?_
  refine x_iald (k := 15) hx hb hK hP 0 0 rfl rfl (x_lit rfl (by decide) (by decide)) rfl (v := (f_p1 15)) rfl dX5_shootOn_284 ?_
  refine lv_iadd hx hb dX5_shootOn_285 ?_
  refine lv_iadd hx hb dX5_shootOn_286 ?_
  refine x_iast (k := 10) hx hb hK hP hD hS 0 0 rfl rfl (x_lit rfl (by decide) (by decide)) rfl dX5_shootOn_287 (fun H locs hP hD hS => ?_)
  have hP : va_P D vwCl [(g1, .inl (cI, 377, .inl (upd (upd f_p1 12 (t1 + t0)) 10 ((f_p1 10) + (v4 + (f_p1 15))))))] H := hP
  have hD : va_D A [(g1, .inl (cI, 377, .inl (upd (upd f_p1 12 (t1 + t0)) 10 ((f_p1 10) + (v4 + (f_p1 15))))))] := hD
  refine lv_aload_n hx hb dX5_shootOn_288 rfl (lv_at hl 0 rfl) ?_
  refine lv_iconst (v := 5) hx hb dX5_shootOn_289 (by decide) ?_
  refine lv_dup2_11 hx hb dX5_shootOn_290 rfl rfl ?_
  refine x_iald (k := 5) hx hb hK hP 0 0 rfl rfl (x_lit rfl (by decide) (by decide)) rfl (v := (f_p1 5)) rfl dX5_shootOn_291 ?_
  refine lv_aload_n hx hb dX5_shootOn_292 rfl (lv_at hl 0 rfl) ?_
  refine lv_bipush (v := 16) hx hb dX5_shootOn_293 (by decide) ?_
  refine x_iald (k := 16) hx hb hK hP 0 0 rfl rfl (x_lit rfl (by decide) (by decide)) rfl (v := (f_p1 16)) rfl dX5_shootOn_295 ?_
  refine lv_iconst (v := 1) hx hb dX5_shootOn_296 (by decide) ?_
  refine lv_icmp_ne (tgt := 312) hx hb dX5_shootOn_297 (by decide) (fun c1 => ?_) (fun c1 => ?_)
  · have hk := hk.1 c1
    refine lv_iconst (v := 0) hx hb dX5_shootOn_312 (by decide) ?_
    exact xb_X5_shootOn_313 C0 hA  _ _ _ _ hk H locs ls hP hD hS (lv_sub hl [0, 1] rfl)
  · have hk := hk.2 c1
    refine lv_aload_n hx hb dX5_shootOn_300 rfl (lv_at hl 0 rfl) ?_
    refine lv_iconst (v := 5) hx hb dX5_shootOn_301 (by decide) ?_
    refine x_iald (k := 5) hx hb hK hP 0 0 rfl rfl (x_lit rfl (by decide) (by decide)) rfl (v := (f_p1 5)) rfl dX5_shootOn_302 ?_
    refine lv_bipush (v := 99) hx hb dX5_shootOn_303 (by decide) ?_
    refine lv_icmp_ge (tgt := 312) hx hb dX5_shootOn_305 (by decide) (fun c2 => ?_) (fun c2 => ?_)
    · have hk := hk.1 c2
      refine lv_iconst (v := 0) hx hb dX5_shootOn_312 (by decide) ?_
      exact xb_X5_shootOn_313 C0 hA  _ _ _ _ hk H locs ls hP hD hS (lv_sub hl [0, 1] rfl)
    · have hk := hk.2 c2
      refine lv_iconst (v := 1) hx hb dX5_shootOn_308 (by decide) ?_
      refine lv_goto (tgt := 313) hx hb dX5_shootOn_309 (by decide) ?_
      exact xb_X5_shootOn_313 C0 hA  _ _ _ _ hk H locs ls hP hD hS (lv_sub hl [0, 1] rfl)
set_option maxHeartbeats 4000000 in
set_option maxRecDepth 100000 in
theorem xb_X5_shootOn_255 {p : Program} {l : Launch} {e : Env} {s : State} {m : MethodId} {args : Array Value} {below : List Frame} {meth : Method} {c : Code} {A : Nat → Prop} {D : va_G} {cI cC cZ cL : ClassId} {g1 : Nat}   {K : Int32 → ((Nat → Int32)) → Prop}  (C0 : xC p s m args meth c cX5_shootOn 7 (some .int) wsX5_shootOn RX5 D (xTY cI cC cZ cL)) (hA : ∀ q : Nat, s.heap.size ≤ q → A q)  : ∀ (f_p1 : Nat → Int32) (v4 : Int32) (v5 : Int32) (t0 : Int32) (t1 : Int32) , xp_X5_shootOn_255 K f_p1 v4 v5 t0 t1 → ∀ (H : Heap) (locs : List Loc) (ls : Array Slot), va_P D vwCl [(g1, .inl (cI, 377, .inl f_p1))] H → va_D A [(g1, .inl (cI, 377, .inl f_p1))] → va_S A s.heap H locs → lv_has ls 7 [(0, .ref g1), (4, .int v4), (5, .int v5)] → W p l e ({ frames := 1, cells := 0, slots := 0, locals := 23 } : Room) s m args below meth c H locs 0 0 (MQ below (va_Qi (fun (r : Int32) (u : (Nat → Int32)) => K r u) (fun u t => xE D A ((fun (u : (Nat → Int32)) => [(g1, .inl (cI, 377, .inl u))]) u) t) A) args s 0 0 A) (F0 m 255 ls [.int t0, .int t1, .int 9, .ref g1]) := by
  obtain ⟨hx, hb, hr, hml, hown, hts, hlocks, hK, hN⟩ := id C0
  intro f_p1 v4 v5 t0 t1 hk H locs ls hP hD hS hl
  rw [xp_X5_shootOn_255] at hk
  refine lv_iadd hx hb dX5_shootOn_255 ?_
  refine x_iast (k := 9) hx hb hK hP hD hS 0 0 rfl rfl (x_lit rfl (by decide) (by decide)) rfl dX5_shootOn_256 (fun H locs hP hD hS => ?_)
  have hP : va_P D vwCl [(g1, .inl (cI, 377, .inl (upd f_p1 9 (t1 + t0))))] H := hP
  have hD : va_D A [(g1, .inl (cI, 377, .inl (upd f_p1 9 (t1 + t0))))] := hD
  refine lv_aload_n hx hb dX5_shootOn_257 rfl (lv_at hl 0 rfl) ?_
  refine lv_bipush (v := 12) hx hb dX5_shootOn_258 (by decide) ?_
  refine lv_dup2_11 hx hb dX5_shootOn_260 rfl rfl ?_
  refine x_iald (k := 12) hx hb hK hP 0 0 rfl rfl (x_lit rfl (by decide) (by decide)) rfl (v := (f_p1 12)) rfl dX5_shootOn_261 ?_
  refine lv_iload hx hb dX5_shootOn_262 (lv_at hl 2 rfl) ?_
  refine lv_if_eq (tgt := 271) hx hb dX5_shootOn_264 (by decide) (fun c1 => ?_) (fun c1 => ?_)
  · have hk := hk.1 c1
    refine lv_iconst (v := 0) hx hb dX5_shootOn_271 (by decide) ?_
    exact xb_X5_shootOn_272 C0 hA  _ _ _ _ hk H locs ls hP hD hS (lv_sub hl [0, 1] rfl)
  · have hk := hk.2 c1
    refine lv_iconst (v := 1) hx hb dX5_shootOn_267 (by decide) ?_
    refine lv_goto (tgt := 272) hx hb dX5_shootOn_268 (by decide) ?_
    exact xb_X5_shootOn_272 C0 hA  _ _ _ _ hk H locs ls hP hD hS (lv_sub hl [0, 1] rfl)
set_option maxHeartbeats 4000000 in
set_option maxRecDepth 100000 in
theorem xb_X5_shootOn_184 {p : Program} {l : Launch} {e : Env} {s : State} {m : MethodId} {args : Array Value} {below : List Frame} {meth : Method} {c : Code} {A : Nat → Prop} {D : va_G} {cI cC cZ cL : ClassId} {g1 : Nat}   {K : Int32 → ((Nat → Int32)) → Prop}  (C0 : xC p s m args meth c cX5_shootOn 7 (some .int) wsX5_shootOn RX5 D (xTY cI cC cZ cL)) (hA : ∀ q : Nat, s.heap.size ≤ q → A q)  : ∀ (f_p1 : Nat → Int32) (v3 : Int32) (v4 : Int32) (v5 : Int32) (t0 : Int32) (t2 : Int32) , xp_X5_shootOn_184 K f_p1 v3 v4 v5 t0 t2 → ∀ (H : Heap) (locs : List Loc) (ls : Array Slot), va_P D vwCl [(g1, .inl (cI, 377, .inl f_p1))] H → va_D A [(g1, .inl (cI, 377, .inl f_p1))] → va_S A s.heap H locs → lv_has ls 7 [(0, .ref g1), (3, .int v3), (4, .int v4), (5, .int v5)] → W p l e ({ frames := 1, cells := 0, slots := 0, locals := 23 } : Room) s m args below meth c H locs 0 0 (MQ below (va_Qi (fun (r : Int32) (u : (Nat → Int32)) => K r u) (fun u t => xE D A ((fun (u : (Nat → Int32)) => [(g1, .inl (cI, 377, .inl u))]) u) t) A) args s 0 0 A) (F0 m 184 ls [.int t0, .int 10, .int t2, .ref g1]) := by
  obtain ⟨hx, hb, hr, hml, hown, hts, hlocks, hK, hN⟩ := id C0
  intro f_p1 v3 v4 v5 t0 t2 hk H locs ls hP hD hS hl
  rw [xp_X5_shootOn_184] at hk
  refine x_joinv (ws1 := fun (u1 : (Nat → Int32)) => [(g1, .inl (cI, 377, .inl u1))]) (x_runO (n0 := 4) (As := [.ref g1, .int t2, .int 10, .int t0]) (rest := []) C0 (xc_X5_lay l D cI cC cZ cL g1 H.size f_p1 t2 10 t0 _ hk) gX5_shootOn_X5_lay rfl ⟨rfl, rfl⟩ (by decide +kernel) rfl ⟨by decide, by decide⟩ ⟨Nat.zero_le _, Nat.zero_le _⟩ hP hD [0] rfl rfl hl.1 rfl (Nat.le_of_ble_eq_true rfl) dX5_shootOn_184) hP hD hS hA [0] [] [0] rfl rfl rfl (by decide) (fun _ => rfl) rfl (fun u1 H locs hk hP hD hS => ?_)
  refine lv_aload_n hx hb dX5_shootOn_187 rfl (lv_at hl 0 rfl) ?_
  refine lv_iload_n hx hb dX5_shootOn_188 rfl (lv_at hl 1 rfl) ?_
  refine lv_bipush (v := 11) hx hb dX5_shootOn_189 (by decide) ?_
  refine lv_aload_n hx hb dX5_shootOn_191 rfl (lv_at hl 0 rfl) ?_
  refine lv_bipush (v := 10) hx hb dX5_shootOn_192 (by decide) ?_
  refine x_iald (k := 10) hx hb hK hP 0 0 rfl rfl (x_lit rfl (by decide) (by decide)) rfl (v := (u1 10)) rfl dX5_shootOn_194 ?_
  refine x_joinv (ws1 := fun (u2 : (Nat → Int32)) => [(g1, .inl (cI, 377, .inl u2))]) (x_runO (n0 := 4) (As := [.ref g1, .int v3, .int 11, .int (u1 10)]) (rest := []) C0 (xc_X5_lay l D cI cC cZ cL g1 H.size u1 v3 11 (u1 10) _ hk) gX5_shootOn_X5_lay rfl ⟨rfl, rfl⟩ (by decide +kernel) rfl ⟨by decide, by decide⟩ ⟨Nat.zero_le _, Nat.zero_le _⟩ hP hD [0] rfl rfl hl.1 rfl (Nat.le_of_ble_eq_true rfl) dX5_shootOn_195) hP hD hS hA [0] [] [0] rfl rfl rfl (by decide) (fun _ => rfl) rfl (fun u2 H locs hk hP hD hS => ?_)
  refine lv_aload_n hx hb dX5_shootOn_198 rfl (lv_at hl 0 rfl) ?_
  refine lv_iload_n hx hb dX5_shootOn_199 rfl (lv_at hl 1 rfl) ?_
  refine lv_bipush (v := 12) hx hb dX5_shootOn_200 (by decide) ?_
  refine lv_aload_n hx hb dX5_shootOn_202 rfl (lv_at hl 0 rfl) ?_
  refine lv_bipush (v := 10) hx hb dX5_shootOn_203 (by decide) ?_
  refine x_iald (k := 10) hx hb hK hP 0 0 rfl rfl (x_lit rfl (by decide) (by decide)) rfl (v := (u2 10)) rfl dX5_shootOn_205 ?_
  refine lv_aload_n hx hb dX5_shootOn_206 rfl (lv_at hl 0 rfl) ?_
  refine lv_bipush (v := 11) hx hb dX5_shootOn_207 (by decide) ?_
  refine x_iald (k := 11) hx hb hK hP 0 0 rfl rfl (x_lit rfl (by decide) (by decide)) rfl (v := (u2 11)) rfl dX5_shootOn_209 ?_
  refine lv_iadd hx hb dX5_shootOn_210 ?_
  refine x_joinv (ws1 := fun (u3 : (Nat → Int32)) => [(g1, .inl (cI, 377, .inl u3))]) (x_runO (n0 := 4) (As := [.ref g1, .int v3, .int 12, .int ((u2 10) + (u2 11))]) (rest := []) C0 (xc_X5_lay l D cI cC cZ cL g1 H.size u2 v3 12 ((u2 10) + (u2 11)) _ hk) gX5_shootOn_X5_lay rfl ⟨rfl, rfl⟩ (by decide +kernel) rfl ⟨by decide, by decide⟩ ⟨Nat.zero_le _, Nat.zero_le _⟩ hP hD [0] rfl rfl hl.1 rfl (Nat.le_of_ble_eq_true rfl) dX5_shootOn_211) hP hD hS hA [0] [] [0] rfl rfl rfl (by decide) (fun _ => rfl) rfl (fun u3 H locs hk hP hD hS => ?_)
  refine lv_aload_n hx hb dX5_shootOn_214 rfl (lv_at hl 0 rfl) ?_
  refine lv_iload_n hx hb dX5_shootOn_215 rfl (lv_at hl 1 rfl) ?_
  refine lv_bipush (v := 13) hx hb dX5_shootOn_216 (by decide) ?_
  refine lv_iconst (v := 0) hx hb dX5_shootOn_218 (by decide) ?_
  refine x_joinv (ws1 := fun (u4 : (Nat → Int32)) => [(g1, .inl (cI, 377, .inl u4))]) (x_runO (n0 := 4) (As := [.ref g1, .int v3, .int 13, .int 0]) (rest := []) C0 (xc_X5_lay l D cI cC cZ cL g1 H.size u3 v3 13 0 _ hk) gX5_shootOn_X5_lay rfl ⟨rfl, rfl⟩ (by decide +kernel) rfl ⟨by decide, by decide⟩ ⟨Nat.zero_le _, Nat.zero_le _⟩ hP hD [0] rfl rfl hl.1 rfl (Nat.le_of_ble_eq_true rfl) dX5_shootOn_219) hP hD hS hA [0] [] [0] rfl rfl rfl (by decide) (fun _ => rfl) rfl (fun u4 H locs hk hP hD hS => ?_)
  refine lv_aload_n hx hb dX5_shootOn_222 rfl (lv_at hl 0 rfl) ?_
  refine lv_iload_n hx hb dX5_shootOn_223 rfl (lv_at hl 1 rfl) ?_
  refine lv_bipush (v := 14) hx hb dX5_shootOn_224 (by decide) ?_
  refine lv_iconst (v := 0) hx hb dX5_shootOn_226 (by decide) ?_
  refine x_joinv (ws1 := fun (u5 : (Nat → Int32)) => [(g1, .inl (cI, 377, .inl u5))]) (x_runO (n0 := 4) (As := [.ref g1, .int v3, .int 14, .int 0]) (rest := []) C0 (xc_X5_lay l D cI cC cZ cL g1 H.size u4 v3 14 0 _ hk) gX5_shootOn_X5_lay rfl ⟨rfl, rfl⟩ (by decide +kernel) rfl ⟨by decide, by decide⟩ ⟨Nat.zero_le _, Nat.zero_le _⟩ hP hD [0] rfl rfl hl.1 rfl (Nat.le_of_ble_eq_true rfl) dX5_shootOn_227) hP hD hS hA [0] [] [0] rfl rfl rfl (by decide) (fun _ => rfl) rfl (fun u5 H locs hk hP hD hS => ?_)
  refine lv_aload_n hx hb dX5_shootOn_230 rfl (lv_at hl 0 rfl) ?_
  refine lv_bipush (v := 7) hx hb dX5_shootOn_231 (by decide) ?_
  refine lv_dup2_11 hx hb dX5_shootOn_233 rfl rfl ?_
  refine x_iald (k := 7) hx hb hK hP 0 0 rfl rfl (x_lit rfl (by decide) (by decide)) rfl (v := (u5 7)) rfl dX5_shootOn_234 ?_
  refine lv_iload hx hb dX5_shootOn_235 (lv_at hl 2 rfl) ?_
  refine lv_iadd hx hb dX5_shootOn_237 ?_
  refine x_iast (k := 7) hx hb hK hP hD hS 0 0 rfl rfl (x_lit rfl (by decide) (by decide)) rfl dX5_shootOn_238 (fun H locs hP hD hS => ?_)
  have hP : va_P D vwCl [(g1, .inl (cI, 377, .inl (upd u5 7 ((u5 7) + v4))))] H := hP
  have hD : va_D A [(g1, .inl (cI, 377, .inl (upd u5 7 ((u5 7) + v4))))] := hD
  refine lv_aload_n hx hb dX5_shootOn_239 rfl (lv_at hl 0 rfl) ?_
  refine lv_bipush (v := 9) hx hb dX5_shootOn_240 (by decide) ?_
  refine lv_dup2_11 hx hb dX5_shootOn_242 rfl rfl ?_
  refine x_iald (k := 9) hx hb hK hP 0 0 rfl rfl (x_lit rfl (by decide) (by decide)) rfl (v := (u5 9)) rfl dX5_shootOn_243 ?_
  refine lv_iload hx hb dX5_shootOn_244 (lv_at hl 3 rfl) ?_
  refine lv_if_eq (tgt := 254) hx hb dX5_shootOn_246 (by decide) (fun c6 => ?_) (fun c6 => ?_)
  · have hk := hk.1 c6
    refine lv_iconst (v := 0) hx hb dX5_shootOn_254 (by decide) ?_
    exact xb_X5_shootOn_255 C0 hA  _ _ _ _ _ hk H locs ls hP hD hS (lv_sub hl [0, 2, 3] rfl)
  · have hk := hk.2 c6
    refine lv_iload hx hb dX5_shootOn_249 (lv_at hl 2 rfl) ?_
    refine lv_goto (tgt := 255) hx hb dX5_shootOn_251 (by decide) ?_
    exact xb_X5_shootOn_255 C0 hA  _ _ _ _ _ hk H locs ls hP hD hS (lv_sub hl [0, 2, 3] rfl)
set_option maxHeartbeats 4000000 in
set_option maxRecDepth 100000 in
theorem xb_X5_shootOn_162 {p : Program} {l : Launch} {e : Env} {s : State} {m : MethodId} {args : Array Value} {below : List Frame} {meth : Method} {c : Code} {A : Nat → Prop} {D : va_G} {cI cC cZ cL : ClassId} {g1 : Nat}   {K : Int32 → ((Nat → Int32)) → Prop}  (C0 : xC p s m args meth c cX5_shootOn 7 (some .int) wsX5_shootOn RX5 D (xTY cI cC cZ cL)) (hA : ∀ q : Nat, s.heap.size ≤ q → A q)  : ∀ (f_p1 : Nat → Int32) (v3 : Int32) (v4 : Int32) (v5 : Int32) (t0 : Int32) (t2 : Int32) , xp_X5_shootOn_162 K f_p1 v3 v4 v5 t0 t2 → ∀ (H : Heap) (locs : List Loc) (ls : Array Slot), va_P D vwCl [(g1, .inl (cI, 377, .inl f_p1))] H → va_D A [(g1, .inl (cI, 377, .inl f_p1))] → va_S A s.heap H locs → lv_has ls 7 [(0, .ref g1), (3, .int v3), (4, .int v4), (5, .int v5)] → W p l e ({ frames := 1, cells := 0, slots := 0, locals := 23 } : Room) s m args below meth c H locs 0 0 (MQ below (va_Qi (fun (r : Int32) (u : (Nat → Int32)) => K r u) (fun u t => xE D A ((fun (u : (Nat → Int32)) => [(g1, .inl (cI, 377, .inl u))]) u) t) A) args s 0 0 A) (F0 m 162 ls [.int t0, .int 9, .int t2, .ref g1]) := by
  obtain ⟨hx, hb, hr, hml, hown, hts, hlocks, hK, hN⟩ := id C0
  intro f_p1 v3 v4 v5 t0 t2 hk H locs ls hP hD hS hl
  rw [xp_X5_shootOn_162] at hk
  refine x_joinv (ws1 := fun (u1 : (Nat → Int32)) => [(g1, .inl (cI, 377, .inl u1))]) (x_runO (n0 := 4) (As := [.ref g1, .int t2, .int 9, .int t0]) (rest := []) C0 (xc_X5_lay l D cI cC cZ cL g1 H.size f_p1 t2 9 t0 _ hk) gX5_shootOn_X5_lay rfl ⟨rfl, rfl⟩ (by decide +kernel) rfl ⟨by decide, by decide⟩ ⟨Nat.zero_le _, Nat.zero_le _⟩ hP hD [0] rfl rfl hl.1 rfl (Nat.le_of_ble_eq_true rfl) dX5_shootOn_162) hP hD hS hA [0] [] [0] rfl rfl rfl (by decide) (fun _ => rfl) rfl (fun u1 H locs hk hP hD hS => ?_)
  refine lv_aload_n hx hb dX5_shootOn_165 rfl (lv_at hl 0 rfl) ?_
  refine lv_iload_n hx hb dX5_shootOn_166 rfl (lv_at hl 1 rfl) ?_
  refine lv_bipush (v := 10) hx hb dX5_shootOn_167 (by decide) ?_
  refine lv_iload hx hb dX5_shootOn_169 (lv_at hl 3 rfl) ?_
  refine lv_if_eq (tgt := 183) hx hb dX5_shootOn_171 (by decide) (fun c2 => ?_) (fun c2 => ?_)
  · have hk := hk.1 c2
    refine lv_iconst (v := (-1 : Int32)) hx hb dX5_shootOn_183 (by decide) ?_
    exact xb_X5_shootOn_184 C0 hA  _ _ _ _ _ _ hk H locs ls hP hD hS (lv_sub hl [0, 1, 2, 3] rfl)
  · have hk := hk.2 c2
    refine lv_aload_n hx hb dX5_shootOn_174 rfl (lv_at hl 0 rfl) ?_
    refine lv_bipush (v := 12) hx hb dX5_shootOn_175 (by decide) ?_
    refine x_iald (k := 12) hx hb hK hP 0 0 rfl rfl (x_lit rfl (by decide) (by decide)) rfl (v := (u1 12)) rfl dX5_shootOn_177 ?_
    refine lv_iconst (v := 1) hx hb dX5_shootOn_178 (by decide) ?_
    refine lv_iadd hx hb dX5_shootOn_179 ?_
    refine lv_goto (tgt := 184) hx hb dX5_shootOn_180 (by decide) ?_
    exact xb_X5_shootOn_184 C0 hA  _ _ _ _ _ _ hk H locs ls hP hD hS (lv_sub hl [0, 1, 2, 3] rfl)
set_option maxHeartbeats 4000000 in
set_option maxRecDepth 100000 in
theorem xb_X5_shootOn_142 {p : Program} {l : Launch} {e : Env} {s : State} {m : MethodId} {args : Array Value} {below : List Frame} {meth : Method} {c : Code} {A : Nat → Prop} {D : va_G} {cI cC cZ cL : ClassId} {g1 : Nat}   {K : Int32 → ((Nat → Int32)) → Prop}  (C0 : xC p s m args meth c cX5_shootOn 7 (some .int) wsX5_shootOn RX5 D (xTY cI cC cZ cL)) (hA : ∀ q : Nat, s.heap.size ≤ q → A q)  : ∀ (f_p1 : Nat → Int32) (v3 : Int32) (v4 : Int32) (v5 : Int32) (t0 : Int32) (t2 : Int32) , xp_X5_shootOn_142 K f_p1 v3 v4 v5 t0 t2 → ∀ (H : Heap) (locs : List Loc) (ls : Array Slot), va_P D vwCl [(g1, .inl (cI, 377, .inl f_p1))] H → va_D A [(g1, .inl (cI, 377, .inl f_p1))] → va_S A s.heap H locs → lv_has ls 7 [(0, .ref g1), (3, .int v3), (4, .int v4), (5, .int v5)] → W p l e ({ frames := 1, cells := 0, slots := 0, locals := 23 } : Room) s m args below meth c H locs 0 0 (MQ below (va_Qi (fun (r : Int32) (u : (Nat → Int32)) => K r u) (fun u t => xE D A ((fun (u : (Nat → Int32)) => [(g1, .inl (cI, 377, .inl u))]) u) t) A) args s 0 0 A) (F0 m 142 ls [.int t0, .int 8, .int t2, .ref g1]) := by
  obtain ⟨hx, hb, hr, hml, hown, hts, hlocks, hK, hN⟩ := id C0
  intro f_p1 v3 v4 v5 t0 t2 hk H locs ls hP hD hS hl
  rw [xp_X5_shootOn_142] at hk
  refine x_joinv (ws1 := fun (u1 : (Nat → Int32)) => [(g1, .inl (cI, 377, .inl u1))]) (x_runO (n0 := 4) (As := [.ref g1, .int t2, .int 8, .int t0]) (rest := []) C0 (xc_X5_lay l D cI cC cZ cL g1 H.size f_p1 t2 8 t0 _ hk) gX5_shootOn_X5_lay rfl ⟨rfl, rfl⟩ (by decide +kernel) rfl ⟨by decide, by decide⟩ ⟨Nat.zero_le _, Nat.zero_le _⟩ hP hD [0] rfl rfl hl.1 rfl (Nat.le_of_ble_eq_true rfl) dX5_shootOn_142) hP hD hS hA [0] [] [0] rfl rfl rfl (by decide) (fun _ => rfl) rfl (fun u1 H locs hk hP hD hS => ?_)
  refine lv_aload_n hx hb dX5_shootOn_145 rfl (lv_at hl 0 rfl) ?_
  refine lv_iload_n hx hb dX5_shootOn_146 rfl (lv_at hl 1 rfl) ?_
  refine lv_bipush (v := 9) hx hb dX5_shootOn_147 (by decide) ?_
  refine lv_iload hx hb dX5_shootOn_149 (lv_at hl 3 rfl) ?_
  refine lv_if_eq (tgt := 161) hx hb dX5_shootOn_151 (by decide) (fun c2 => ?_) (fun c2 => ?_)
  · have hk := hk.1 c2
    refine lv_iconst (v := (-1 : Int32)) hx hb dX5_shootOn_161 (by decide) ?_
    exact xb_X5_shootOn_162 C0 hA  _ _ _ _ _ _ hk H locs ls hP hD hS (lv_sub hl [0, 1, 2, 3] rfl)
  · have hk := hk.2 c2
    refine lv_aload_n hx hb dX5_shootOn_154 rfl (lv_at hl 0 rfl) ?_
    refine lv_bipush (v := 9) hx hb dX5_shootOn_155 (by decide) ?_
    refine x_iald (k := 9) hx hb hK hP 0 0 rfl rfl (x_lit rfl (by decide) (by decide)) rfl (v := (u1 9)) rfl dX5_shootOn_157 ?_
    refine lv_goto (tgt := 162) hx hb dX5_shootOn_158 (by decide) ?_
    exact xb_X5_shootOn_162 C0 hA  _ _ _ _ _ _ hk H locs ls hP hD hS (lv_sub hl [0, 1, 2, 3] rfl)
set_option maxHeartbeats 4000000 in
set_option maxRecDepth 100000 in
theorem xb_X5_shootOn_68 {p : Program} {l : Launch} {e : Env} {s : State} {m : MethodId} {args : Array Value} {below : List Frame} {meth : Method} {c : Code} {A : Nat → Prop} {D : va_G} {cI cC cZ cL : ClassId} {g1 : Nat}   {K : Int32 → ((Nat → Int32)) → Prop}  (C0 : xC p s m args meth c cX5_shootOn 7 (some .int) wsX5_shootOn RX5 D (xTY cI cC cZ cL)) (hA : ∀ q : Nat, s.heap.size ≤ q → A q)  : ∀ (n : Nat) (f_p1 : Nat → Int32) (v3 : Int32) (v4 : Int32) (v5 : Int32) (v6 : Int32) , xp_X5_shootOn_68 K n f_p1 v3 v4 v5 v6 → ∀ (H : Heap) (locs : List Loc) (ls : Array Slot), va_P D vwCl [(g1, .inl (cI, 377, .inl f_p1))] H → va_D A [(g1, .inl (cI, 377, .inl f_p1))] → va_S A s.heap H locs → lv_has ls 7 [(0, .ref g1), (3, .int v3), (4, .int v4), (5, .int v5), (6, .int v6)] → W p l e ({ frames := 1, cells := 0, slots := 0, locals := 23 } : Room) s m args below meth c H locs 0 0 (MQ below (va_Qi (fun (r : Int32) (u : (Nat → Int32)) => K r u) (fun u t => xE D A ((fun (u : (Nat → Int32)) => [(g1, .inl (cI, 377, .inl u))]) u) t) A) args s 0 0 A) (F0 m 68 ls []) := by
  obtain ⟨hx, hb, hr, hml, hown, hts, hlocks, hK, hN⟩ := id C0
  intro n
  induction n with
  | zero => intro f_p1 v3 v4 v5 v6 hk; exact hk.elim
  | succ n ih =>
    intro f_p1 v3 v4 v5 v6 hk H locs ls hP hD hS hl
    rw [xp_X5_shootOn_68] at hk
    refine lv_iload hx hb dX5_shootOn_68 (lv_at hl 4 rfl) ?_
    refine lv_iconst (v := 3) hx hb dX5_shootOn_70 (by decide) ?_
    refine lv_icmp_ge (tgt := 95) hx hb dX5_shootOn_71 (by decide) (fun c1 => ?_) (fun c1 => ?_)
    · have hk := hk.1 c1
      refine lv_aload_n hx hb dX5_shootOn_95 rfl (lv_at hl 0 rfl) ?_
      refine lv_iload_n hx hb dX5_shootOn_96 rfl (lv_at hl 1 rfl) ?_
      refine lv_iconst (v := 5) hx hb dX5_shootOn_97 (by decide) ?_
      refine lv_aload_n hx hb dX5_shootOn_98 rfl (lv_at hl 0 rfl) ?_
      refine lv_bipush (v := 6) hx hb dX5_shootOn_99 (by decide) ?_
      refine x_iald (k := 6) hx hb hK hP 0 0 rfl rfl (x_lit rfl (by decide) (by decide)) rfl (v := (f_p1 6)) rfl dX5_shootOn_101 ?_
      refine x_joinv (ws1 := fun (u2 : (Nat → Int32)) => [(g1, .inl (cI, 377, .inl u2))]) (x_runO (n0 := 4) (As := [.ref g1, .int v3, .int 5, .int (f_p1 6)]) (rest := []) C0 (xc_X5_lay l D cI cC cZ cL g1 H.size f_p1 v3 5 (f_p1 6) _ hk) gX5_shootOn_X5_lay rfl ⟨rfl, rfl⟩ (by decide +kernel) rfl ⟨by decide, by decide⟩ ⟨Nat.zero_le _, Nat.zero_le _⟩ hP hD [0] rfl rfl hl.1 rfl (Nat.le_of_ble_eq_true rfl) dX5_shootOn_102) hP hD hS hA [0] [] [0] rfl rfl rfl (by decide) (fun _ => rfl) rfl (fun u2 H locs hk hP hD hS => ?_)
      refine lv_aload_n hx hb dX5_shootOn_105 rfl (lv_at hl 0 rfl) ?_
      refine lv_iload_n hx hb dX5_shootOn_106 rfl (lv_at hl 1 rfl) ?_
      refine lv_bipush (v := 6) hx hb dX5_shootOn_107 (by decide) ?_
      refine lv_aload_n hx hb dX5_shootOn_109 rfl (lv_at hl 0 rfl) ?_
      refine lv_bipush (v := 7) hx hb dX5_shootOn_110 (by decide) ?_
      refine x_iald (k := 7) hx hb hK hP 0 0 rfl rfl (x_lit rfl (by decide) (by decide)) rfl (v := (u2 7)) rfl dX5_shootOn_112 ?_
      refine x_joinv (ws1 := fun (u3 : (Nat → Int32)) => [(g1, .inl (cI, 377, .inl u3))]) (x_runO (n0 := 4) (As := [.ref g1, .int v3, .int 6, .int (u2 7)]) (rest := []) C0 (xc_X5_lay l D cI cC cZ cL g1 H.size u2 v3 6 (u2 7) _ hk) gX5_shootOn_X5_lay rfl ⟨rfl, rfl⟩ (by decide +kernel) rfl ⟨by decide, by decide⟩ ⟨Nat.zero_le _, Nat.zero_le _⟩ hP hD [0] rfl rfl hl.1 rfl (Nat.le_of_ble_eq_true rfl) dX5_shootOn_113) hP hD hS hA [0] [] [0] rfl rfl rfl (by decide) (fun _ => rfl) rfl (fun u3 H locs hk hP hD hS => ?_)
      refine lv_aload_n hx hb dX5_shootOn_116 rfl (lv_at hl 0 rfl) ?_
      refine lv_iload_n hx hb dX5_shootOn_117 rfl (lv_at hl 1 rfl) ?_
      refine lv_bipush (v := 7) hx hb dX5_shootOn_118 (by decide) ?_
      refine lv_iload hx hb dX5_shootOn_120 (lv_at hl 2 rfl) ?_
      refine x_joinv (ws1 := fun (u4 : (Nat → Int32)) => [(g1, .inl (cI, 377, .inl u4))]) (x_runO (n0 := 4) (As := [.ref g1, .int v3, .int 7, .int v4]) (rest := []) C0 (xc_X5_lay l D cI cC cZ cL g1 H.size u3 v3 7 v4 _ hk) gX5_shootOn_X5_lay rfl ⟨rfl, rfl⟩ (by decide +kernel) rfl ⟨by decide, by decide⟩ ⟨Nat.zero_le _, Nat.zero_le _⟩ hP hD [0] rfl rfl hl.1 rfl (Nat.le_of_ble_eq_true rfl) dX5_shootOn_122) hP hD hS hA [0] [] [0] rfl rfl rfl (by decide) (fun _ => rfl) rfl (fun u4 H locs hk hP hD hS => ?_)
      refine lv_aload_n hx hb dX5_shootOn_125 rfl (lv_at hl 0 rfl) ?_
      refine lv_iload_n hx hb dX5_shootOn_126 rfl (lv_at hl 1 rfl) ?_
      refine lv_bipush (v := 8) hx hb dX5_shootOn_127 (by decide) ?_
      refine lv_iload hx hb dX5_shootOn_129 (lv_at hl 3 rfl) ?_
      refine lv_if_eq (tgt := 141) hx hb dX5_shootOn_131 (by decide) (fun c5 => ?_) (fun c5 => ?_)
      · have hk := hk.1 c5
        refine lv_iconst (v := (-1 : Int32)) hx hb dX5_shootOn_141 (by decide) ?_
        exact xb_X5_shootOn_142 C0 hA  _ _ _ _ _ _ hk H locs ls hP hD hS (lv_sub hl [0, 1, 2, 3] rfl)
      · have hk := hk.2 c5
        refine lv_aload_n hx hb dX5_shootOn_134 rfl (lv_at hl 0 rfl) ?_
        refine lv_bipush (v := 8) hx hb dX5_shootOn_135 (by decide) ?_
        refine x_iald (k := 8) hx hb hK hP 0 0 rfl rfl (x_lit rfl (by decide) (by decide)) rfl (v := (u4 8)) rfl dX5_shootOn_137 ?_
        refine lv_goto (tgt := 142) hx hb dX5_shootOn_138 (by decide) ?_
        exact xb_X5_shootOn_142 C0 hA  _ _ _ _ _ _ hk H locs ls hP hD hS (lv_sub hl [0, 1, 2, 3] rfl)
    · have hk := hk.2 c1
      refine lv_aload_n hx hb dX5_shootOn_74 rfl (lv_at hl 0 rfl) ?_
      refine lv_iload_n hx hb dX5_shootOn_75 rfl (lv_at hl 1 rfl) ?_
      refine lv_iconst (v := 2) hx hb dX5_shootOn_76 (by decide) ?_
      refine lv_iload hx hb dX5_shootOn_77 (lv_at hl 4 rfl) ?_
      refine lv_iadd hx hb dX5_shootOn_79 ?_
      refine lv_aload_n hx hb dX5_shootOn_80 rfl (lv_at hl 0 rfl) ?_
      refine lv_iconst (v := 3) hx hb dX5_shootOn_81 (by decide) ?_
      refine lv_iload hx hb dX5_shootOn_82 (lv_at hl 4 rfl) ?_
      refine lv_iadd hx hb dX5_shootOn_84 ?_
      refine x_iald hx hb hK hP 0 0 rfl rfl hk.1 rfl rfl dX5_shootOn_85 ?_
      have hk := hk.2
      refine x_joinv (ws1 := fun (u6 : (Nat → Int32)) => [(g1, .inl (cI, 377, .inl u6))]) (x_runO (n0 := 4) (As := [.ref g1, .int v3, .int (2 + v6), .int (f_p1 (3 + v6).toNatClampNeg)]) (rest := []) C0 (xc_X5_lay l D cI cC cZ cL g1 H.size f_p1 v3 (2 + v6) (f_p1 (3 + v6).toNatClampNeg) _ hk) gX5_shootOn_X5_lay rfl ⟨rfl, rfl⟩ (by decide +kernel) rfl ⟨by decide, by decide⟩ ⟨Nat.zero_le _, Nat.zero_le _⟩ hP hD [0] rfl rfl hl.1 rfl (Nat.le_of_ble_eq_true rfl) dX5_shootOn_86) hP hD hS hA [0] [] [0] rfl rfl rfl (by decide) (fun _ => rfl) rfl (fun u6 H locs hk hP hD hS => ?_)
      refine lv_iinc (v := (v6 + 1)) (lv' := [(6, .int (v6 + 1)), (0, .ref g1), (3, .int v3), (4, .int v4), (5, .int v5)]) hx hb dX5_shootOn_89 hl (k := 4) rfl rfl (by decide) rfl (fun ls hl => ?_)
      refine lv_goto (tgt := 68) hx hb dX5_shootOn_92 (by decide) ?_
      exact ih _ _ _ _ _ hk H locs ls hP hD hS (lv_sub hl [1, 2, 3, 4, 0] rfl)
set_option maxHeartbeats 4000000 in
set_option maxRecDepth 100000 in
theorem xb_X5_shootOn_45 {p : Program} {l : Launch} {e : Env} {s : State} {m : MethodId} {args : Array Value} {below : List Frame} {meth : Method} {c : Code} {A : Nat → Prop} {D : va_G} {cI cC cZ cL : ClassId} {g1 : Nat}   {K : Int32 → ((Nat → Int32)) → Prop}  (C0 : xC p s m args meth c cX5_shootOn 7 (some .int) wsX5_shootOn RX5 D (xTY cI cC cZ cL)) (hA : ∀ q : Nat, s.heap.size ≤ q → A q)  : ∀ (f_p1 : Nat → Int32) (v3 : Int32) (v4 : Int32) (t0 : Int32) , xp_X5_shootOn_45 K f_p1 v3 v4 t0 → ∀ (H : Heap) (locs : List Loc) (ls : Array Slot), va_P D vwCl [(g1, .inl (cI, 377, .inl f_p1))] H → va_D A [(g1, .inl (cI, 377, .inl f_p1))] → va_S A s.heap H locs → lv_has ls 7 [(0, .ref g1), (3, .int v3), (4, .int v4)] → W p l e ({ frames := 1, cells := 0, slots := 0, locals := 23 } : Room) s m args below meth c H locs 0 0 (MQ below (va_Qi (fun (r : Int32) (u : (Nat → Int32)) => K r u) (fun u t => xE D A ((fun (u : (Nat → Int32)) => [(g1, .inl (cI, 377, .inl u))]) u) t) A) args s 0 0 A) (F0 m 45 ls [.int t0]) := by
  obtain ⟨hx, hb, hr, hml, hown, hts, hlocks, hK, hN⟩ := id C0
  intro f_p1 v3 v4 t0 hk H locs ls hP hD hS hl
  rw [xp_X5_shootOn_45] at hk
  refine lv_istore (lv' := [(5, .int t0), (0, .ref g1), (3, .int v3), (4, .int v4)]) hx hb dX5_shootOn_45 hl (by decide) rfl (fun ls hl => ?_)
  refine lv_aload_n hx hb dX5_shootOn_47 rfl (lv_at hl 1 rfl) ?_
  refine lv_iload_n hx hb dX5_shootOn_48 rfl (lv_at hl 2 rfl) ?_
  refine lv_iconst (v := 0) hx hb dX5_shootOn_49 (by decide) ?_
  refine lv_aload_n hx hb dX5_shootOn_50 rfl (lv_at hl 1 rfl) ?_
  refine lv_iconst (v := 1) hx hb dX5_shootOn_51 (by decide) ?_
  refine x_iald (k := 1) hx hb hK hP 0 0 rfl rfl (x_lit rfl (by decide) (by decide)) rfl (v := (f_p1 1)) rfl dX5_shootOn_52 ?_
  refine x_joinv (ws1 := fun (u1 : (Nat → Int32)) => [(g1, .inl (cI, 377, .inl u1))]) (x_runO (n0 := 4) (As := [.ref g1, .int v3, .int 0, .int (f_p1 1)]) (rest := []) C0 (xc_X5_lay l D cI cC cZ cL g1 H.size f_p1 v3 0 (f_p1 1) _ hk) gX5_shootOn_X5_lay rfl ⟨rfl, rfl⟩ (by decide +kernel) rfl ⟨by decide, by decide⟩ ⟨Nat.zero_le _, Nat.zero_le _⟩ hP hD [0] rfl rfl hl.1 rfl (Nat.le_of_ble_eq_true rfl) dX5_shootOn_53) hP hD hS hA [0] [] [0] rfl rfl rfl (by decide) (fun _ => rfl) rfl (fun u1 H locs hk hP hD hS => ?_)
  refine lv_aload_n hx hb dX5_shootOn_56 rfl (lv_at hl 1 rfl) ?_
  refine lv_iload_n hx hb dX5_shootOn_57 rfl (lv_at hl 2 rfl) ?_
  refine lv_iconst (v := 1) hx hb dX5_shootOn_58 (by decide) ?_
  refine lv_aload_n hx hb dX5_shootOn_59 rfl (lv_at hl 1 rfl) ?_
  refine lv_iconst (v := 2) hx hb dX5_shootOn_60 (by decide) ?_
  refine x_iald (k := 2) hx hb hK hP 0 0 rfl rfl (x_lit rfl (by decide) (by decide)) rfl (v := (u1 2)) rfl dX5_shootOn_61 ?_
  refine x_joinv (ws1 := fun (u2 : (Nat → Int32)) => [(g1, .inl (cI, 377, .inl u2))]) (x_runO (n0 := 4) (As := [.ref g1, .int v3, .int 1, .int (u1 2)]) (rest := []) C0 (xc_X5_lay l D cI cC cZ cL g1 H.size u1 v3 1 (u1 2) _ hk) gX5_shootOn_X5_lay rfl ⟨rfl, rfl⟩ (by decide +kernel) rfl ⟨by decide, by decide⟩ ⟨Nat.zero_le _, Nat.zero_le _⟩ hP hD [0] rfl rfl hl.1 rfl (Nat.le_of_ble_eq_true rfl) dX5_shootOn_62) hP hD hS hA [0] [] [0] rfl rfl rfl (by decide) (fun _ => rfl) rfl (fun u2 H locs hk hP hD hS => ?_)
  refine lv_iconst (v := 0) hx hb dX5_shootOn_65 (by decide) ?_
  refine lv_istore (lv' := [(6, .int 0), (5, .int t0), (0, .ref g1), (3, .int v3), (4, .int v4)]) hx hb dX5_shootOn_66 hl (by decide) rfl (fun ls hl => ?_)
  obtain ⟨n9, hk⟩ := hk
  exact xb_X5_shootOn_68 C0 hA  n9 _ _ _ _ _ hk H locs ls hP hD hS (lv_sub hl [2, 3, 4, 1, 0] rfl)
set_option maxHeartbeats 4000000 in
set_option maxRecDepth 100000 in
theorem xb_X5_shootOn_20 {p : Program} {l : Launch} {e : Env} {s : State} {m : MethodId} {args : Array Value} {below : List Frame} {meth : Method} {c : Code} {A : Nat → Prop} {D : va_G} {cI cC cZ cL : ClassId} {g1 : Nat}   {K : Int32 → ((Nat → Int32)) → Prop}  (C0 : xC p s m args meth c cX5_shootOn 7 (some .int) wsX5_shootOn RX5 D (xTY cI cC cZ cL)) (hA : ∀ q : Nat, s.heap.size ≤ q → A q)  : ∀ (f_p1 : Nat → Int32) (v2 : Int32) (v3 : Int32) (t0 : Int32) , xp_X5_shootOn_20 K f_p1 v2 v3 t0 → ∀ (H : Heap) (locs : List Loc) (ls : Array Slot), va_P D vwCl [(g1, .inl (cI, 377, .inl f_p1))] H → va_D A [(g1, .inl (cI, 377, .inl f_p1))] → va_S A s.heap H locs → lv_has ls 7 [(0, .ref g1), (2, .int v2), (3, .int v3)] → W p l e ({ frames := 1, cells := 0, slots := 0, locals := 23 } : Room) s m args below meth c H locs 0 0 (MQ below (va_Qi (fun (r : Int32) (u : (Nat → Int32)) => K r u) (fun u t => xE D A ((fun (u : (Nat → Int32)) => [(g1, .inl (cI, 377, .inl u))]) u) t) A) args s 0 0 A) (F0 m 20 ls [.int t0]) := by
  obtain ⟨hx, hb, hr, hml, hown, hts, hlocks, hK, hN⟩ := id C0
  intro f_p1 v2 v3 t0 hk H locs ls hP hD hS hl
  rw [xp_X5_shootOn_20] at hk
  refine lv_istore (lv' := [(4, .int t0), (0, .ref g1), (2, .int v2), (3, .int v3)]) hx hb dX5_shootOn_20 hl (by decide) rfl (fun ls hl => ?_)
  refine lv_iload_n hx hb dX5_shootOn_22 rfl (lv_at hl 2 rfl) ?_
  refine lv_if_eq (tgt := 44) hx hb dX5_shootOn_23 (by decide) (fun c1 => ?_) (fun c1 => ?_)
  · have hk := hk.1 c1
    refine lv_iconst (v := 0) hx hb dX5_shootOn_44 (by decide) ?_
    exact xb_X5_shootOn_45 C0 hA  _ _ _ _ hk H locs ls hP hD hS (lv_sub hl [1, 3, 0] rfl)
  · have hk := hk.2 c1
    refine lv_aload_n hx hb dX5_shootOn_26 rfl (lv_at hl 1 rfl) ?_
    refine lv_bipush (v := 14) hx hb dX5_shootOn_27 (by decide) ?_
    refine x_iald (k := 14) hx hb hK hP 0 0 rfl rfl (x_lit rfl (by decide) (by decide)) rfl (v := (f_p1 14)) rfl dX5_shootOn_29 ?_
    refine lv_aload_n hx hb dX5_shootOn_30 rfl (lv_at hl 1 rfl) ?_
    refine lv_bipush (v := 9) hx hb dX5_shootOn_31 (by decide) ?_
    refine x_iald (k := 9) hx hb hK hP 0 0 rfl rfl (x_lit rfl (by decide) (by decide)) rfl (v := (f_p1 9)) rfl dX5_shootOn_33 ?_
    refine lv_isub hx hb dX5_shootOn_34 ?_
    refine lv_iload hx hb dX5_shootOn_35 (lv_at hl 0 rfl) ?_
    refine lv_icmp_lt (tgt := 44) hx hb dX5_shootOn_37 (by decide) (fun c2 => ?_) (fun c2 => ?_)
    · have hk := hk.1 c2
      refine lv_iconst (v := 0) hx hb dX5_shootOn_44 (by decide) ?_
      exact xb_X5_shootOn_45 C0 hA  _ _ _ _ hk H locs ls hP hD hS (lv_sub hl [1, 3, 0] rfl)
    · have hk := hk.2 c2
      refine lv_iconst (v := 1) hx hb dX5_shootOn_40 (by decide) ?_
      refine lv_goto (tgt := 45) hx hb dX5_shootOn_41 (by decide) ?_
      exact xb_X5_shootOn_45 C0 hA  _ _ _ _ hk H locs ls hP hD hS (lv_sub hl [1, 3, 0] rfl)
set_option maxHeartbeats 4000000 in
set_option maxRecDepth 100000 in
theorem xb_X5_shootOn_0 {p : Program} {l : Launch} {e : Env} {s : State} {m : MethodId} {args : Array Value} {below : List Frame} {meth : Method} {c : Code} {A : Nat → Prop} {D : va_G} {cI cC cZ cL : ClassId} {g1 : Nat}   {K : Int32 → ((Nat → Int32)) → Prop}  (C0 : xC p s m args meth c cX5_shootOn 7 (some .int) wsX5_shootOn RX5 D (xTY cI cC cZ cL)) (hA : ∀ q : Nat, s.heap.size ≤ q → A q)  : ∀ (f_p1 : Nat → Int32) (x2 : Int32) (x3 : Int32) , xp_X5_shootOn f_p1 x2 x3 K → ∀ (H : Heap) (locs : List Loc) (ls : Array Slot), va_P D vwCl [(g1, .inl (cI, 377, .inl f_p1))] H → va_D A [(g1, .inl (cI, 377, .inl f_p1))] → va_S A s.heap H locs → lv_has ls 7 [(0, .ref g1), (1, .int x2), (2, .int x3)] → W p l e ({ frames := 1, cells := 0, slots := 0, locals := 23 } : Room) s m args below meth c H locs 0 0 (MQ below (va_Qi (fun (r : Int32) (u : (Nat → Int32)) => K r u) (fun u t => xE D A ((fun (u : (Nat → Int32)) => [(g1, .inl (cI, 377, .inl u))]) u) t) A) args s 0 0 A) (F0 m 0 ls []) := by
  obtain ⟨hx, hb, hr, hml, hown, hts, hlocks, hK, hN⟩ := id C0
  intro f_p1 x2 x3 hk H locs ls hP hD hS hl
  rw [xp_X5_shootOn] at hk
  refine lv_aload_n hx hb dX5_shootOn_0 rfl (lv_at hl 0 rfl) ?_
  refine lv_iconst (v := 0) hx hb dX5_shootOn_1 (by decide) ?_
  refine x_iald (k := 0) hx hb hK hP 0 0 rfl rfl (x_lit rfl (by decide) (by decide)) rfl (v := (f_p1 0)) rfl dX5_shootOn_2 ?_
  refine lv_istore_n (lv' := [(3, .int (f_p1 0)), (0, .ref g1), (1, .int x2), (2, .int x3)]) hx hb dX5_shootOn_3 rfl hl (by decide) rfl (fun ls hl => ?_)
  refine lv_iload_n hx hb dX5_shootOn_4 rfl (lv_at hl 2 rfl) ?_
  refine lv_aload_n hx hb dX5_shootOn_5 rfl (lv_at hl 1 rfl) ?_
  refine x_joini (ws1 := fun (_ : Unit) => [(g1, .inl (cI, 377, .inl f_p1))]) (x_runO (n0 := 1) (As := [.ref g1]) (rest := [.int x2]) C0 (xc_X5_left l D cI cC cZ cL g1 H.size f_p1 _ hk) gX5_shootOn_X5_left rfl ⟨rfl, rfl⟩ (by decide +kernel) rfl ⟨by decide, by decide⟩ ⟨Nat.zero_le _, Nat.zero_le _⟩ hP hD [0] rfl rfl hl.1 rfl (Nat.le_of_ble_eq_true rfl) dX5_shootOn_6) hP hD hS hA [0] [] [0] rfl rfl rfl (by decide) (fun _ => rfl) rfl (fun r1 u1 H locs hk hP hD hS => ?_)
  refine lv_icmp_ge (tgt := 16) hx hb dX5_shootOn_9 (by decide) (fun c2 => ?_) (fun c2 => ?_)
  · have hk := hk.1 c2
    refine lv_aload_n hx hb dX5_shootOn_16 rfl (lv_at hl 1 rfl) ?_
    refine x_joini (ws1 := fun (_ : Unit) => [(g1, .inl (cI, 377, .inl f_p1))]) (x_runO (n0 := 1) (As := [.ref g1]) (rest := []) C0 (xc_X5_left l D cI cC cZ cL g1 H.size f_p1 _ hk) gX5_shootOn_X5_left rfl ⟨rfl, rfl⟩ (by decide +kernel) rfl ⟨by decide, by decide⟩ ⟨Nat.zero_le _, Nat.zero_le _⟩ hP hD [0] rfl rfl hl.1 rfl (Nat.le_of_ble_eq_true rfl) dX5_shootOn_17) hP hD hS hA [0] [] [0] rfl rfl rfl (by decide) (fun _ => rfl) rfl (fun r3 u3 H locs hk hP hD hS => ?_)
    exact xb_X5_shootOn_20 C0 hA  _ _ _ _ hk H locs ls hP hD hS (lv_sub hl [1, 3, 0] rfl)
  · have hk := hk.2 c2
    refine lv_iload_n hx hb dX5_shootOn_12 rfl (lv_at hl 2 rfl) ?_
    refine lv_goto (tgt := 20) hx hb dX5_shootOn_13 (by decide) ?_
    exact xb_X5_shootOn_20 C0 hA  _ _ _ _ hk H locs ls hP hD hS (lv_sub hl [1, 3, 0] rfl)
theorem xc_X5_shootOn (l : Launch) (D : va_G) (cI cC cZ cL : ClassId) (g1 : Nat)  (sz : Nat) (f_p1 : Nat → Int32) (x2 : Int32) (x3 : Int32) (K : Int32 → ((Nat → Int32)) → Prop) (hk : xp_X5_shootOn f_p1 x2 x3 K) : XMi l yX5_shootOn wsX5_shootOn ({ frames := 1, cells := 0, slots := 0, locals := 23 } : Room) D (xTY cI cC cZ cL) [.ref g1, .int x2, .int x3] [(g1, .inl (cI, 377, .inl f_p1))] sz (fun (r : Int32) (u : (Nat → Int32)) => K r u) (fun (u : (Nat → Int32)) => [(g1, .inl (cI, 377, .inl u))]) :=
  x_enter (cc := cX5_shootOn) (maxL := 7) (ret := (some .int)) (own := RX5) (by decide) rfl rfl (Nat.le_of_ble_eq_true rfl) (fun p e s m below meth c ls C0 hA hP hD hS hl => xb_X5_shootOn_0 C0 hA _ _ _ hk s.heap [] ls hP hD hS hl)
set_option maxHeartbeats 4000000 in
set_option maxRecDepth 100000 in
theorem xb_X5_newCameraOn_0 {p : Program} {l : Launch} {e : Env} {s : State} {m : MethodId} {args : Array Value} {below : List Frame} {meth : Method} {c : Code} {A : Nat → Prop} {D : va_G} {cI cC cZ cL : ClassId} {g1 : Nat}   {K : Int32 → ((Nat → Int32)) → Prop}  (C0 : xC p s m args meth c cX5_newCameraOn 1 (some .int) wsX5_newCameraOn RX5 D (xTY cI cC cZ cL)) (hA : ∀ q : Nat, s.heap.size ≤ q → A q)  : ∀ (f_p1 : Nat → Int32) , xp_X5_newCameraOn f_p1 K → ∀ (H : Heap) (locs : List Loc) (ls : Array Slot), va_P D vwCl [(g1, .inl (cI, 377, .inl f_p1))] H → va_D A [(g1, .inl (cI, 377, .inl f_p1))] → va_S A s.heap H locs → lv_has ls 1 [(0, .ref g1)] → W p l e ({ frames := 0, cells := 0, slots := 0, locals := 0 } : Room) s m args below meth c H locs 0 0 (MQ below (va_Qi (fun (r : Int32) (u : (Nat → Int32)) => K r u) (fun u t => xE D A ((fun (u : (Nat → Int32)) => [(g1, .inl (cI, 377, .inl u))]) u) t) A) args s 0 0 A) (F0 m 0 ls []) := by
  obtain ⟨hx, hb, hr, hml, hown, hts, hlocks, hK, hN⟩ := id C0
  intro f_p1 hk H locs ls hP hD hS hl
  rw [xp_X5_newCameraOn] at hk
  refine lv_aload_n hx hb dX5_newCameraOn_0 rfl (lv_at hl 0 rfl) ?_
  refine lv_bipush (v := 6) hx hb dX5_newCameraOn_1 (by decide) ?_
  refine lv_dup2_11 hx hb dX5_newCameraOn_3 rfl rfl ?_
  refine x_iald (k := 6) hx hb hK hP 0 0 rfl rfl (x_lit rfl (by decide) (by decide)) rfl (v := (f_p1 6)) rfl dX5_newCameraOn_4 ?_
  refine lv_iconst (v := 1) hx hb dX5_newCameraOn_5 (by decide) ?_
  refine lv_iadd hx hb dX5_newCameraOn_6 ?_
  refine x_iast (k := 6) hx hb hK hP hD hS 0 0 rfl rfl (x_lit rfl (by decide) (by decide)) rfl dX5_newCameraOn_7 (fun H locs hP hD hS => ?_)
  have hP : va_P D vwCl [(g1, .inl (cI, 377, .inl (upd f_p1 6 ((f_p1 6) + 1))))] H := hP
  have hD : va_D A [(g1, .inl (cI, 377, .inl (upd f_p1 6 ((f_p1 6) + 1))))] := hD
  refine lv_aload_n hx hb dX5_newCameraOn_8 rfl (lv_at hl 0 rfl) ?_
  refine lv_bipush (v := 7) hx hb dX5_newCameraOn_9 (by decide) ?_
  refine lv_iconst (v := 0) hx hb dX5_newCameraOn_11 (by decide) ?_
  refine x_iast (k := 7) hx hb hK hP hD hS 0 0 rfl rfl (x_lit rfl (by decide) (by decide)) rfl dX5_newCameraOn_12 (fun H locs hP hD hS => ?_)
  have hP : va_P D vwCl [(g1, .inl (cI, 377, .inl (upd (upd f_p1 6 ((f_p1 6) + 1)) 7 0)))] H := hP
  have hD : va_D A [(g1, .inl (cI, 377, .inl (upd (upd f_p1 6 ((f_p1 6) + 1)) 7 0)))] := hD
  refine lv_aload_n hx hb dX5_newCameraOn_13 rfl (lv_at hl 0 rfl) ?_
  refine lv_bipush (v := 6) hx hb dX5_newCameraOn_14 (by decide) ?_
  refine x_iald (k := 6) hx hb hK hP 0 0 rfl rfl (x_lit rfl (by decide) (by decide)) rfl (v := ((f_p1 6) + 1)) rfl dX5_newCameraOn_16 ?_
  exact x_reti C0 (upd (upd f_p1 6 ((f_p1 6) + 1)) 7 0) hk hP hD hS dX5_newCameraOn_17
theorem xc_X5_newCameraOn (l : Launch) (D : va_G) (cI cC cZ cL : ClassId) (g1 : Nat)  (sz : Nat) (f_p1 : Nat → Int32)  (K : Int32 → ((Nat → Int32)) → Prop) (hk : xp_X5_newCameraOn f_p1 K) : XMi l yX5_newCameraOn wsX5_newCameraOn ({ frames := 0, cells := 0, slots := 0, locals := 0 } : Room) D (xTY cI cC cZ cL) [.ref g1] [(g1, .inl (cI, 377, .inl f_p1))] sz (fun (r : Int32) (u : (Nat → Int32)) => K r u) (fun (u : (Nat → Int32)) => [(g1, .inl (cI, 377, .inl u))]) :=
  x_enter (cc := cX5_newCameraOn) (maxL := 1) (ret := (some .int)) (own := RX5) (by decide) rfl rfl (Nat.le_of_ble_eq_true rfl) (fun p e s m below meth c ls C0 hA hP hD hS hl => xb_X5_newCameraOn_0 C0 hA _ hk s.heap [] ls hP hD hS hl)
set_option maxHeartbeats 4000000 in
set_option maxRecDepth 100000 in
theorem xb_X5_newSoundOn_0 {p : Program} {l : Launch} {e : Env} {s : State} {m : MethodId} {args : Array Value} {below : List Frame} {meth : Method} {c : Code} {A : Nat → Prop} {D : va_G} {cI cC cZ cL : ClassId} {g1 : Nat}   {K : Int32 → ((Nat → Int32)) → Prop}  (C0 : xC p s m args meth c cX5_newSoundOn 1 (some .int) wsX5_newSoundOn RX5 D (xTY cI cC cZ cL)) (hA : ∀ q : Nat, s.heap.size ≤ q → A q)  : ∀ (f_p1 : Nat → Int32) , xp_X5_newSoundOn f_p1 K → ∀ (H : Heap) (locs : List Loc) (ls : Array Slot), va_P D vwCl [(g1, .inl (cI, 377, .inl f_p1))] H → va_D A [(g1, .inl (cI, 377, .inl f_p1))] → va_S A s.heap H locs → lv_has ls 1 [(0, .ref g1)] → W p l e ({ frames := 0, cells := 0, slots := 0, locals := 0 } : Room) s m args below meth c H locs 0 0 (MQ below (va_Qi (fun (r : Int32) (u : (Nat → Int32)) => K r u) (fun u t => xE D A ((fun (u : (Nat → Int32)) => [(g1, .inl (cI, 377, .inl u))]) u) t) A) args s 0 0 A) (F0 m 0 ls []) := by
  obtain ⟨hx, hb, hr, hml, hown, hts, hlocks, hK, hN⟩ := id C0
  intro f_p1 hk H locs ls hP hD hS hl
  rw [xp_X5_newSoundOn] at hk
  refine lv_aload_n hx hb dX5_newSoundOn_0 rfl (lv_at hl 0 rfl) ?_
  refine lv_bipush (v := 8) hx hb dX5_newSoundOn_1 (by decide) ?_
  refine lv_dup2_11 hx hb dX5_newSoundOn_3 rfl rfl ?_
  refine x_iald (k := 8) hx hb hK hP 0 0 rfl rfl (x_lit rfl (by decide) (by decide)) rfl (v := (f_p1 8)) rfl dX5_newSoundOn_4 ?_
  refine lv_iconst (v := 1) hx hb dX5_newSoundOn_5 (by decide) ?_
  refine lv_iadd hx hb dX5_newSoundOn_6 ?_
  refine x_iast (k := 8) hx hb hK hP hD hS 0 0 rfl rfl (x_lit rfl (by decide) (by decide)) rfl dX5_newSoundOn_7 (fun H locs hP hD hS => ?_)
  have hP : va_P D vwCl [(g1, .inl (cI, 377, .inl (upd f_p1 8 ((f_p1 8) + 1))))] H := hP
  have hD : va_D A [(g1, .inl (cI, 377, .inl (upd f_p1 8 ((f_p1 8) + 1))))] := hD
  refine lv_aload_n hx hb dX5_newSoundOn_8 rfl (lv_at hl 0 rfl) ?_
  refine lv_bipush (v := 9) hx hb dX5_newSoundOn_9 (by decide) ?_
  refine lv_iconst (v := 0) hx hb dX5_newSoundOn_11 (by decide) ?_
  refine x_iast (k := 9) hx hb hK hP hD hS 0 0 rfl rfl (x_lit rfl (by decide) (by decide)) rfl dX5_newSoundOn_12 (fun H locs hP hD hS => ?_)
  have hP : va_P D vwCl [(g1, .inl (cI, 377, .inl (upd (upd f_p1 8 ((f_p1 8) + 1)) 9 0)))] H := hP
  have hD : va_D A [(g1, .inl (cI, 377, .inl (upd (upd f_p1 8 ((f_p1 8) + 1)) 9 0)))] := hD
  refine lv_aload_n hx hb dX5_newSoundOn_13 rfl (lv_at hl 0 rfl) ?_
  refine lv_bipush (v := 12) hx hb dX5_newSoundOn_14 (by decide) ?_
  refine lv_iconst (v := 0) hx hb dX5_newSoundOn_16 (by decide) ?_
  refine x_iast (k := 12) hx hb hK hP hD hS 0 0 rfl rfl (x_lit rfl (by decide) (by decide)) rfl dX5_newSoundOn_17 (fun H locs hP hD hS => ?_)
  have hP : va_P D vwCl [(g1, .inl (cI, 377, .inl (upd (upd (upd f_p1 8 ((f_p1 8) + 1)) 9 0) 12 0)))] H := hP
  have hD : va_D A [(g1, .inl (cI, 377, .inl (upd (upd (upd f_p1 8 ((f_p1 8) + 1)) 9 0) 12 0)))] := hD
  refine lv_aload_n hx hb dX5_newSoundOn_18 rfl (lv_at hl 0 rfl) ?_
  refine lv_bipush (v := 8) hx hb dX5_newSoundOn_19 (by decide) ?_
  refine x_iald (k := 8) hx hb hK hP 0 0 rfl rfl (x_lit rfl (by decide) (by decide)) rfl (v := ((f_p1 8) + 1)) rfl dX5_newSoundOn_21 ?_
  exact x_reti C0 (upd (upd (upd f_p1 8 ((f_p1 8) + 1)) 9 0) 12 0) hk hP hD hS dX5_newSoundOn_22
theorem xc_X5_newSoundOn (l : Launch) (D : va_G) (cI cC cZ cL : ClassId) (g1 : Nat)  (sz : Nat) (f_p1 : Nat → Int32)  (K : Int32 → ((Nat → Int32)) → Prop) (hk : xp_X5_newSoundOn f_p1 K) : XMi l yX5_newSoundOn wsX5_newSoundOn ({ frames := 0, cells := 0, slots := 0, locals := 0 } : Room) D (xTY cI cC cZ cL) [.ref g1] [(g1, .inl (cI, 377, .inl f_p1))] sz (fun (r : Int32) (u : (Nat → Int32)) => K r u) (fun (u : (Nat → Int32)) => [(g1, .inl (cI, 377, .inl u))]) :=
  x_enter (cc := cX5_newSoundOn) (maxL := 1) (ret := (some .int)) (own := RX5) (by decide) rfl rfl (Nat.le_of_ble_eq_true rfl) (fun p e s m below meth c ls C0 hA hP hD hS hl => xb_X5_newSoundOn_0 C0 hA _ hk s.heap [] ls hP hD hS hl)
set_option maxHeartbeats 4000000 in
set_option maxRecDepth 100000 in
theorem xb_X5_callOn_0 {p : Program} {l : Launch} {e : Env} {s : State} {m : MethodId} {args : Array Value} {below : List Frame} {meth : Method} {c : Code} {A : Nat → Prop} {D : va_G} {cI cC cZ cL : ClassId} {g1 : Nat}   {K : Int32 → ((Nat → Int32)) → Prop}  (C0 : xC p s m args meth c cX5_callOn 3 (some .int) wsX5_callOn RX5 D (xTY cI cC cZ cL)) (hA : ∀ q : Nat, s.heap.size ≤ q → A q)  : ∀ (f_p1 : Nat → Int32) (x2 : Int32) (x3 : Int32) , xp_X5_callOn f_p1 x2 x3 K → ∀ (H : Heap) (locs : List Loc) (ls : Array Slot), va_P D vwCl [(g1, .inl (cI, 377, .inl f_p1))] H → va_D A [(g1, .inl (cI, 377, .inl f_p1))] → va_S A s.heap H locs → lv_has ls 3 [(0, .ref g1), (1, .int x2), (2, .int x3)] → W p l e ({ frames := 3, cells := 0, slots := 0, locals := 67 } : Room) s m args below meth c H locs 0 0 (MQ below (va_Qi (fun (r : Int32) (u : (Nat → Int32)) => K r u) (fun u t => xE D A ((fun (u : (Nat → Int32)) => [(g1, .inl (cI, 377, .inl u))]) u) t) A) args s 0 0 A) (F0 m 0 ls []) := by
  obtain ⟨hx, hb, hr, hml, hown, hts, hlocks, hK, hN⟩ := id C0
  intro f_p1 x2 x3 hk H locs ls hP hD hS hl
  rw [xp_X5_callOn] at hk
  refine lv_aload_n hx hb dX5_callOn_0 rfl (lv_at hl 0 rfl) ?_
  refine lv_iconst (v := 1) hx hb dX5_callOn_1 (by decide) ?_
  refine lv_iload_n hx hb dX5_callOn_2 rfl (lv_at hl 1 rfl) ?_
  refine x_iast (k := 1) hx hb hK hP hD hS 0 0 rfl rfl (x_lit rfl (by decide) (by decide)) rfl dX5_callOn_3 (fun H locs hP hD hS => ?_)
  have hP : va_P D vwCl [(g1, .inl (cI, 377, .inl (upd f_p1 1 x2)))] H := hP
  have hD : va_D A [(g1, .inl (cI, 377, .inl (upd f_p1 1 x2)))] := hD
  refine lv_aload_n hx hb dX5_callOn_4 rfl (lv_at hl 0 rfl) ?_
  refine lv_iconst (v := 2) hx hb dX5_callOn_5 (by decide) ?_
  refine lv_iload_n hx hb dX5_callOn_6 rfl (lv_at hl 2 rfl) ?_
  refine x_iast (k := 2) hx hb hK hP hD hS 0 0 rfl rfl (x_lit rfl (by decide) (by decide)) rfl dX5_callOn_7 (fun H locs hP hD hS => ?_)
  have hP : va_P D vwCl [(g1, .inl (cI, 377, .inl (upd (upd f_p1 1 x2) 2 x3)))] H := hP
  have hD : va_D A [(g1, .inl (cI, 377, .inl (upd (upd f_p1 1 x2) 2 x3)))] := hD
  refine lv_aload_n hx hb dX5_callOn_8 rfl (lv_at hl 0 rfl) ?_
  refine x_joini (ws1 := fun (_ : Unit) => [(g1, .inl (cI, 377, .inl (upd (upd f_p1 1 x2) 2 x3)))]) (x_runO (n0 := 1) (As := [.ref g1]) (rest := []) C0 (xc_X5_next l D cI cC cZ cL g1 H.size (upd (upd f_p1 1 x2) 2 x3) _ hk) gX5_callOn_X5_next rfl ⟨rfl, rfl⟩ (by decide +kernel) rfl ⟨by decide, by decide⟩ ⟨Nat.zero_le _, Nat.zero_le _⟩ hP hD [0] rfl rfl hl.1 rfl (Nat.le_of_ble_eq_true rfl) dX5_callOn_9) hP hD hS hA [0] [] [0] rfl rfl rfl (by decide) (fun _ => rfl) rfl (fun r1 u1 H locs hk hP hD hS => ?_)
  exact x_reti C0 (upd (upd f_p1 1 x2) 2 x3) hk hP hD hS dX5_callOn_12
theorem xc_X5_callOn (l : Launch) (D : va_G) (cI cC cZ cL : ClassId) (g1 : Nat)  (sz : Nat) (f_p1 : Nat → Int32) (x2 : Int32) (x3 : Int32) (K : Int32 → ((Nat → Int32)) → Prop) (hk : xp_X5_callOn f_p1 x2 x3 K) : XMi l yX5_callOn wsX5_callOn ({ frames := 3, cells := 0, slots := 0, locals := 67 } : Room) D (xTY cI cC cZ cL) [.ref g1, .int x2, .int x3] [(g1, .inl (cI, 377, .inl f_p1))] sz (fun (r : Int32) (u : (Nat → Int32)) => K r u) (fun (u : (Nat → Int32)) => [(g1, .inl (cI, 377, .inl u))]) :=
  x_enter (cc := cX5_callOn) (maxL := 3) (ret := (some .int)) (own := RX5) (by decide) rfl rfl (Nat.le_of_ble_eq_true rfl) (fun p e s m below meth c ls C0 hA hP hD hS hl => xb_X5_callOn_0 C0 hA _ _ _ hk s.heap [] ls hP hD hS hl)
set_option maxHeartbeats 4000000 in
set_option maxRecDepth 100000 in
theorem xb_X5_boardOn_0 {p : Program} {l : Launch} {e : Env} {s : State} {m : MethodId} {args : Array Value} {below : List Frame} {meth : Method} {c : Code} {A : Nat → Prop} {D : va_G} {cI cC cZ cL : ClassId} {g1 : Nat}   {K : Int32 → ((Nat → Int32)) → Prop}  (C0 : xC p s m args meth c cX5_boardOn 4 (some .int) wsX5_boardOn RX5 D (xTY cI cC cZ cL)) (hA : ∀ q : Nat, s.heap.size ≤ q → A q)  : ∀ (f_p1 : Nat → Int32) (x2 : Int32) (x3 : Int32) (x4 : Int32) , xp_X5_boardOn f_p1 x2 x3 x4 K → ∀ (H : Heap) (locs : List Loc) (ls : Array Slot), va_P D vwCl [(g1, .inl (cI, 377, .inl f_p1))] H → va_D A [(g1, .inl (cI, 377, .inl f_p1))] → va_S A s.heap H locs → lv_has ls 4 [(0, .ref g1), (1, .int x2), (2, .int x3), (3, .int x4)] → W p l e ({ frames := 3, cells := 0, slots := 0, locals := 67 } : Room) s m args below meth c H locs 0 0 (MQ below (va_Qi (fun (r : Int32) (u : (Nat → Int32)) => K r u) (fun u t => xE D A ((fun (u : (Nat → Int32)) => [(g1, .inl (cI, 377, .inl u))]) u) t) A) args s 0 0 A) (F0 m 0 ls []) := by
  obtain ⟨hx, hb, hr, hml, hown, hts, hlocks, hK, hN⟩ := id C0
  intro f_p1 x2 x3 x4 hk H locs ls hP hD hS hl
  rw [xp_X5_boardOn] at hk
  refine lv_aload_n hx hb dX5_boardOn_0 rfl (lv_at hl 0 rfl) ?_
  refine lv_iconst (v := 3) hx hb dX5_boardOn_1 (by decide) ?_
  refine lv_iload_n hx hb dX5_boardOn_2 rfl (lv_at hl 1 rfl) ?_
  refine x_iast (k := 3) hx hb hK hP hD hS 0 0 rfl rfl (x_lit rfl (by decide) (by decide)) rfl dX5_boardOn_3 (fun H locs hP hD hS => ?_)
  have hP : va_P D vwCl [(g1, .inl (cI, 377, .inl (upd f_p1 3 x2)))] H := hP
  have hD : va_D A [(g1, .inl (cI, 377, .inl (upd f_p1 3 x2)))] := hD
  refine lv_aload_n hx hb dX5_boardOn_4 rfl (lv_at hl 0 rfl) ?_
  refine lv_iconst (v := 4) hx hb dX5_boardOn_5 (by decide) ?_
  refine lv_iload_n hx hb dX5_boardOn_6 rfl (lv_at hl 2 rfl) ?_
  refine x_iast (k := 4) hx hb hK hP hD hS 0 0 rfl rfl (x_lit rfl (by decide) (by decide)) rfl dX5_boardOn_7 (fun H locs hP hD hS => ?_)
  have hP : va_P D vwCl [(g1, .inl (cI, 377, .inl (upd (upd f_p1 3 x2) 4 x3)))] H := hP
  have hD : va_D A [(g1, .inl (cI, 377, .inl (upd (upd f_p1 3 x2) 4 x3)))] := hD
  refine lv_aload_n hx hb dX5_boardOn_8 rfl (lv_at hl 0 rfl) ?_
  refine lv_iconst (v := 5) hx hb dX5_boardOn_9 (by decide) ?_
  refine lv_iload_n hx hb dX5_boardOn_10 rfl (lv_at hl 3 rfl) ?_
  refine x_iast (k := 5) hx hb hK hP hD hS 0 0 rfl rfl (x_lit rfl (by decide) (by decide)) rfl dX5_boardOn_11 (fun H locs hP hD hS => ?_)
  have hP : va_P D vwCl [(g1, .inl (cI, 377, .inl (upd (upd (upd f_p1 3 x2) 4 x3) 5 x4)))] H := hP
  have hD : va_D A [(g1, .inl (cI, 377, .inl (upd (upd (upd f_p1 3 x2) 4 x3) 5 x4)))] := hD
  refine lv_iload_n hx hb dX5_boardOn_12 rfl (lv_at hl 1 rfl) ?_
  refine lv_aload_n hx hb dX5_boardOn_13 rfl (lv_at hl 0 rfl) ?_
  refine lv_iconst (v := 1) hx hb dX5_boardOn_14 (by decide) ?_
  refine x_iald (k := 1) hx hb hK hP 0 0 rfl rfl (x_lit rfl (by decide) (by decide)) rfl (v := (f_p1 1)) rfl dX5_boardOn_15 ?_
  refine lv_icmp_ne (tgt := 38) hx hb dX5_boardOn_16 (by decide) (fun c1 => ?_) (fun c1 => ?_)
  · have hk := hk.1 c1
    refine lv_iconst (v := 0) hx hb dX5_boardOn_38 (by decide) ?_
    exact x_reti C0 (upd (upd (upd f_p1 3 x2) 4 x3) 5 x4) hk hP hD hS dX5_boardOn_39
  · have hk := hk.2 c1
    refine lv_iload_n hx hb dX5_boardOn_19 rfl (lv_at hl 2 rfl) ?_
    refine lv_aload_n hx hb dX5_boardOn_20 rfl (lv_at hl 0 rfl) ?_
    refine lv_iconst (v := 2) hx hb dX5_boardOn_21 (by decide) ?_
    refine x_iald (k := 2) hx hb hK hP 0 0 rfl rfl (x_lit rfl (by decide) (by decide)) rfl (v := (f_p1 2)) rfl dX5_boardOn_22 ?_
    refine lv_icmp_ne (tgt := 38) hx hb dX5_boardOn_23 (by decide) (fun c2 => ?_) (fun c2 => ?_)
    · have hk := hk.1 c2
      refine lv_iconst (v := 0) hx hb dX5_boardOn_38 (by decide) ?_
      exact x_reti C0 (upd (upd (upd f_p1 3 x2) 4 x3) 5 x4) hk hP hD hS dX5_boardOn_39
    · have hk := hk.2 c2
      refine lv_iload_n hx hb dX5_boardOn_26 rfl (lv_at hl 3 rfl) ?_
      refine lv_aload_n hx hb dX5_boardOn_27 rfl (lv_at hl 0 rfl) ?_
      refine x_joini (ws1 := fun (_ : Unit) => [(g1, .inl (cI, 377, .inl (upd (upd (upd f_p1 3 x2) 4 x3) 5 x4)))]) (x_runO (n0 := 1) (As := [.ref g1]) (rest := [.int x4]) C0 (xc_X5_next l D cI cC cZ cL g1 H.size (upd (upd (upd f_p1 3 x2) 4 x3) 5 x4) _ hk) gX5_boardOn_X5_next rfl ⟨rfl, rfl⟩ (by decide +kernel) rfl ⟨by decide, by decide⟩ ⟨Nat.zero_le _, Nat.zero_le _⟩ hP hD [0] rfl rfl hl.1 rfl (Nat.le_of_ble_eq_true rfl) dX5_boardOn_28) hP hD hS hA [0] [] [0] rfl rfl rfl (by decide) (fun _ => rfl) rfl (fun r3 u3 H locs hk hP hD hS => ?_)
      refine lv_icmp_ne (tgt := 38) hx hb dX5_boardOn_31 (by decide) (fun c4 => ?_) (fun c4 => ?_)
      · have hk := hk.1 c4
        refine lv_iconst (v := 0) hx hb dX5_boardOn_38 (by decide) ?_
        exact x_reti C0 (upd (upd (upd f_p1 3 x2) 4 x3) 5 x4) hk hP hD hS dX5_boardOn_39
      · have hk := hk.2 c4
        refine lv_iconst (v := 1) hx hb dX5_boardOn_34 (by decide) ?_
        refine lv_goto (tgt := 39) hx hb dX5_boardOn_35 (by decide) ?_
        exact x_reti C0 (upd (upd (upd f_p1 3 x2) 4 x3) 5 x4) hk hP hD hS dX5_boardOn_39
theorem xc_X5_boardOn (l : Launch) (D : va_G) (cI cC cZ cL : ClassId) (g1 : Nat)  (sz : Nat) (f_p1 : Nat → Int32) (x2 : Int32) (x3 : Int32) (x4 : Int32) (K : Int32 → ((Nat → Int32)) → Prop) (hk : xp_X5_boardOn f_p1 x2 x3 x4 K) : XMi l yX5_boardOn wsX5_boardOn ({ frames := 3, cells := 0, slots := 0, locals := 67 } : Room) D (xTY cI cC cZ cL) [.ref g1, .int x2, .int x3, .int x4] [(g1, .inl (cI, 377, .inl f_p1))] sz (fun (r : Int32) (u : (Nat → Int32)) => K r u) (fun (u : (Nat → Int32)) => [(g1, .inl (cI, 377, .inl u))]) :=
  x_enter (cc := cX5_boardOn) (maxL := 4) (ret := (some .int)) (own := RX5) (by decide) rfl rfl (Nat.le_of_ble_eq_true rfl) (fun p e s m below meth c ls C0 hA hP hD hS hl => xb_X5_boardOn_0 C0 hA _ _ _ _ hk s.heap [] ls hP hD hS hl)
set_option maxHeartbeats 4000000 in
set_option maxRecDepth 100000 in
theorem xb_X5_rightOn_0 {p : Program} {l : Launch} {e : Env} {s : State} {m : MethodId} {args : Array Value} {below : List Frame} {meth : Method} {c : Code} {A : Nat → Prop} {D : va_G} {cI cC cZ cL : ClassId} {g1 : Nat}   {K : Int32 → ((Nat → Int32)) → Prop}  (C0 : xC p s m args meth c cX5_rightOn 1 (some .int) wsX5_rightOn RX5 D (xTY cI cC cZ cL)) (hA : ∀ q : Nat, s.heap.size ≤ q → A q)  : ∀ (f_p1 : Nat → Int32) , xp_X5_rightOn f_p1 K → ∀ (H : Heap) (locs : List Loc) (ls : Array Slot), va_P D vwCl [(g1, .inl (cI, 377, .inl f_p1))] H → va_D A [(g1, .inl (cI, 377, .inl f_p1))] → va_S A s.heap H locs → lv_has ls 1 [(0, .ref g1)] → W p l e ({ frames := 4, cells := 0, slots := 0, locals := 90 } : Room) s m args below meth c H locs 0 0 (MQ below (va_Qi (fun (r : Int32) (u : (Nat → Int32)) => K r u) (fun u t => xE D A ((fun (u : (Nat → Int32)) => [(g1, .inl (cI, 377, .inl u))]) u) t) A) args s 0 0 A) (F0 m 0 ls []) := by
  obtain ⟨hx, hb, hr, hml, hown, hts, hlocks, hK, hN⟩ := id C0
  intro f_p1 hk H locs ls hP hD hS hl
  rw [xp_X5_rightOn] at hk
  refine lv_aload_n hx hb dX5_rightOn_0 rfl (lv_at hl 0 rfl) ?_
  refine lv_aload_n hx hb dX5_rightOn_1 rfl (lv_at hl 0 rfl) ?_
  refine lv_iconst (v := 1) hx hb dX5_rightOn_2 (by decide) ?_
  refine x_iald (k := 1) hx hb hK hP 0 0 rfl rfl (x_lit rfl (by decide) (by decide)) rfl (v := (f_p1 1)) rfl dX5_rightOn_3 ?_
  refine lv_aload_n hx hb dX5_rightOn_4 rfl (lv_at hl 0 rfl) ?_
  refine lv_iconst (v := 2) hx hb dX5_rightOn_5 (by decide) ?_
  refine x_iald (k := 2) hx hb hK hP 0 0 rfl rfl (x_lit rfl (by decide) (by decide)) rfl (v := (f_p1 2)) rfl dX5_rightOn_6 ?_
  refine lv_aload_n hx hb dX5_rightOn_7 rfl (lv_at hl 0 rfl) ?_
  refine x_joini (ws1 := fun (_ : Unit) => [(g1, .inl (cI, 377, .inl f_p1))]) (x_runO (n0 := 1) (As := [.ref g1]) (rest := [.int (f_p1 2), .int (f_p1 1), .ref g1]) C0 (xc_X5_next l D cI cC cZ cL g1 H.size f_p1 _ hk) gX5_rightOn_X5_next rfl ⟨rfl, rfl⟩ (by decide +kernel) rfl ⟨by decide, by decide⟩ ⟨Nat.zero_le _, Nat.zero_le _⟩ hP hD [0] rfl rfl hl.1 rfl (Nat.le_of_ble_eq_true rfl) dX5_rightOn_8) hP hD hS hA [0] [] [0] rfl rfl rfl (by decide) (fun _ => rfl) rfl (fun r1 u1 H locs hk hP hD hS => ?_)
  refine x_joini (ws1 := fun (u2 : (Nat → Int32)) => [(g1, .inl (cI, 377, .inl u2))]) (x_runO (n0 := 4) (As := [.ref g1, .int (f_p1 1), .int (f_p1 2), .int r1]) (rest := []) C0 (xc_X5_boardOn l D cI cC cZ cL g1 H.size f_p1 (f_p1 1) (f_p1 2) r1 _ hk) gX5_rightOn_X5_boardOn rfl ⟨rfl, rfl⟩ (by decide +kernel) rfl ⟨by decide, by decide⟩ ⟨Nat.zero_le _, Nat.zero_le _⟩ hP hD [0] rfl rfl hl.1 rfl (Nat.le_of_ble_eq_true rfl) dX5_rightOn_11) hP hD hS hA [0] [] [0] rfl rfl rfl (by decide) (fun _ => rfl) rfl (fun r2 u2 H locs hk hP hD hS => ?_)
  refine lv_pop hx hb dX5_rightOn_14 rfl ?_
  refine lv_aload_n hx hb dX5_rightOn_15 rfl (lv_at hl 0 rfl) ?_
  refine lv_iconst (v := 5) hx hb dX5_rightOn_16 (by decide) ?_
  refine x_iald (k := 5) hx hb hK hP 0 0 rfl rfl (x_lit rfl (by decide) (by decide)) rfl (v := (u2 5)) rfl dX5_rightOn_17 ?_
  exact x_reti C0 (u2) hk hP hD hS dX5_rightOn_18
theorem xc_X5_rightOn (l : Launch) (D : va_G) (cI cC cZ cL : ClassId) (g1 : Nat)  (sz : Nat) (f_p1 : Nat → Int32)  (K : Int32 → ((Nat → Int32)) → Prop) (hk : xp_X5_rightOn f_p1 K) : XMi l yX5_rightOn wsX5_rightOn ({ frames := 4, cells := 0, slots := 0, locals := 90 } : Room) D (xTY cI cC cZ cL) [.ref g1] [(g1, .inl (cI, 377, .inl f_p1))] sz (fun (r : Int32) (u : (Nat → Int32)) => K r u) (fun (u : (Nat → Int32)) => [(g1, .inl (cI, 377, .inl u))]) :=
  x_enter (cc := cX5_rightOn) (maxL := 1) (ret := (some .int)) (own := RX5) (by decide) rfl rfl (Nat.le_of_ble_eq_true rfl) (fun p e s m below meth c ls C0 hA hP hD hS hl => xb_X5_rightOn_0 C0 hA _ hk s.heap [] ls hP hD hS hl)
set_option maxHeartbeats 4000000 in
set_option maxRecDepth 100000 in
theorem xb_X5_markOn_12 {p : Program} {l : Launch} {e : Env} {s : State} {m : MethodId} {args : Array Value} {below : List Frame} {meth : Method} {c : Code} {A : Nat → Prop} {D : va_G} {cI cC cZ cL : ClassId} {g1 : Nat}   {K : Int32 → ((Nat → Int32)) → Prop}  (C0 : xC p s m args meth c cX5_markOn 4 (some .int) wsX5_markOn RX5 D (xTY cI cC cZ cL)) (hA : ∀ q : Nat, s.heap.size ≤ q → A q)  : ∀ (f_p1 : Nat → Int32) (v2 : Int32) (t0 : Int32) (t1 : Int32) (t2 : Int32) , xp_X5_markOn_12 K f_p1 v2 t0 t1 t2 → ∀ (H : Heap) (locs : List Loc) (ls : Array Slot), va_P D vwCl [(g1, .inl (cI, 377, .inl f_p1))] H → va_D A [(g1, .inl (cI, 377, .inl f_p1))] → va_S A s.heap H locs → lv_has ls 4 [(0, .ref g1), (2, .int v2)] → W p l e ({ frames := 5, cells := 0, slots := 0, locals := 111 } : Room) s m args below meth c H locs 0 0 (MQ below (va_Qi (fun (r : Int32) (u : (Nat → Int32)) => K r u) (fun u t => xE D A ((fun (u : (Nat → Int32)) => [(g1, .inl (cI, 377, .inl u))]) u) t) A) args s 0 0 A) (F0 m 12 ls [.int t0, .int t1, .int t2, .ref g1]) := by
  obtain ⟨hx, hb, hr, hml, hown, hts, hlocks, hK, hN⟩ := id C0
  intro f_p1 v2 t0 t1 t2 hk H locs ls hP hD hS hl
  rw [xp_X5_markOn_12] at hk
  refine x_joinv (ws1 := fun (u1 : (Nat → Int32)) => [(g1, .inl (cI, 377, .inl u1))]) (x_runO (n0 := 4) (As := [.ref g1, .int t2, .int t1, .int t0]) (rest := []) C0 (xc_X5_lay l D cI cC cZ cL g1 H.size f_p1 t2 t1 t0 _ hk) gX5_markOn_X5_lay rfl ⟨rfl, rfl⟩ (by decide +kernel) rfl ⟨by decide, by decide⟩ ⟨Nat.zero_le _, Nat.zero_le _⟩ hP hD [0] rfl rfl hl.1 rfl (Nat.le_of_ble_eq_true rfl) dX5_markOn_12) hP hD hS hA [0] [] [0] rfl rfl rfl (by decide) (fun _ => rfl) rfl (fun u1 H locs hk hP hD hS => ?_)
  refine lv_iload_n hx hb dX5_markOn_15 rfl (lv_at hl 1 rfl) ?_
  refine lv_bipush (v := 13) hx hb dX5_markOn_16 (by decide) ?_
  refine lv_icmp_ne (tgt := 30) hx hb dX5_markOn_18 (by decide) (fun c2 => ?_) (fun c2 => ?_)
  · have hk := hk.1 c2
    refine lv_aload_n hx hb dX5_markOn_30 rfl (lv_at hl 0 rfl) ?_
    refine x_joini (ws1 := fun (_ : Unit) => [(g1, .inl (cI, 377, .inl u1))]) (x_runO (n0 := 1) (As := [.ref g1]) (rest := []) C0 (xc_X5_wrong l D cI cC cZ cL g1 H.size u1 _ hk) gX5_markOn_X5_wrong rfl ⟨rfl, rfl⟩ (by decide +kernel) rfl ⟨by decide, by decide⟩ ⟨Nat.zero_le _, Nat.zero_le _⟩ hP hD [0] rfl rfl hl.1 rfl (Nat.le_of_ble_eq_true rfl) dX5_markOn_31) hP hD hS hA [0] [] [0] rfl rfl rfl (by decide) (fun _ => rfl) rfl (fun r3 u3 H locs hk hP hD hS => ?_)
    exact x_reti C0 (u1) hk hP hD hS dX5_markOn_34
  · have hk := hk.2 c2
    refine lv_aload_n hx hb dX5_markOn_21 rfl (lv_at hl 0 rfl) ?_
    refine lv_bipush (v := 13) hx hb dX5_markOn_22 (by decide) ?_
    refine x_joini (ws1 := fun (_ : Unit) => [(g1, .inl (cI, 377, .inl u1))]) (x_runO (n0 := 2) (As := [.ref g1, .int 13]) (rest := []) C0 (xc_X5_sum l D cI cC cZ cL g1 H.size u1 13 _ hk) gX5_markOn_X5_sum rfl ⟨rfl, rfl⟩ (by decide +kernel) rfl ⟨by decide, by decide⟩ ⟨Nat.zero_le _, Nat.zero_le _⟩ hP hD [0] rfl rfl hl.1 rfl (Nat.le_of_ble_eq_true rfl) dX5_markOn_24) hP hD hS hA [0] [] [0] rfl rfl rfl (by decide) (fun _ => rfl) rfl (fun r4 u4 H locs hk hP hD hS => ?_)
    refine lv_goto (tgt := 34) hx hb dX5_markOn_27 (by decide) ?_
    exact x_reti C0 (u1) hk hP hD hS dX5_markOn_34
set_option maxHeartbeats 4000000 in
set_option maxRecDepth 100000 in
theorem xb_X5_markOn_0 {p : Program} {l : Launch} {e : Env} {s : State} {m : MethodId} {args : Array Value} {below : List Frame} {meth : Method} {c : Code} {A : Nat → Prop} {D : va_G} {cI cC cZ cL : ClassId} {g1 : Nat}   {K : Int32 → ((Nat → Int32)) → Prop}  (C0 : xC p s m args meth c cX5_markOn 4 (some .int) wsX5_markOn RX5 D (xTY cI cC cZ cL)) (hA : ∀ q : Nat, s.heap.size ≤ q → A q)  : ∀ (f_p1 : Nat → Int32) (x2 : Int32) (x3 : Int32) (x4 : Int32) , xp_X5_markOn f_p1 x2 x3 x4 K → ∀ (H : Heap) (locs : List Loc) (ls : Array Slot), va_P D vwCl [(g1, .inl (cI, 377, .inl f_p1))] H → va_D A [(g1, .inl (cI, 377, .inl f_p1))] → va_S A s.heap H locs → lv_has ls 4 [(0, .ref g1), (1, .int x2), (2, .int x3), (3, .int x4)] → W p l e ({ frames := 5, cells := 0, slots := 0, locals := 111 } : Room) s m args below meth c H locs 0 0 (MQ below (va_Qi (fun (r : Int32) (u : (Nat → Int32)) => K r u) (fun u t => xE D A ((fun (u : (Nat → Int32)) => [(g1, .inl (cI, 377, .inl u))]) u) t) A) args s 0 0 A) (F0 m 0 ls []) := by
  obtain ⟨hx, hb, hr, hml, hown, hts, hlocks, hK, hN⟩ := id C0
  intro f_p1 x2 x3 x4 hk H locs ls hP hD hS hl
  rw [xp_X5_markOn] at hk
  refine lv_aload_n hx hb dX5_markOn_0 rfl (lv_at hl 0 rfl) ?_
  refine lv_iload_n hx hb dX5_markOn_1 rfl (lv_at hl 1 rfl) ?_
  refine lv_iload_n hx hb dX5_markOn_2 rfl (lv_at hl 2 rfl) ?_
  refine lv_iload_n hx hb dX5_markOn_3 rfl (lv_at hl 3 rfl) ?_
  refine lv_if_eq (tgt := 11) hx hb dX5_markOn_4 (by decide) (fun c1 => ?_) (fun c1 => ?_)
  · have hk := hk.1 c1
    refine lv_iconst (v := 0) hx hb dX5_markOn_11 (by decide) ?_
    exact xb_X5_markOn_12 C0 hA  _ _ _ _ _ hk H locs ls hP hD hS (lv_sub hl [0, 2] rfl)
  · have hk := hk.2 c1
    refine lv_iconst (v := 1) hx hb dX5_markOn_7 (by decide) ?_
    refine lv_goto (tgt := 12) hx hb dX5_markOn_8 (by decide) ?_
    exact xb_X5_markOn_12 C0 hA  _ _ _ _ _ hk H locs ls hP hD hS (lv_sub hl [0, 2] rfl)
theorem xc_X5_markOn (l : Launch) (D : va_G) (cI cC cZ cL : ClassId) (g1 : Nat)  (sz : Nat) (f_p1 : Nat → Int32) (x2 : Int32) (x3 : Int32) (x4 : Int32) (K : Int32 → ((Nat → Int32)) → Prop) (hk : xp_X5_markOn f_p1 x2 x3 x4 K) : XMi l yX5_markOn wsX5_markOn ({ frames := 5, cells := 0, slots := 0, locals := 111 } : Room) D (xTY cI cC cZ cL) [.ref g1, .int x2, .int x3, .int x4] [(g1, .inl (cI, 377, .inl f_p1))] sz (fun (r : Int32) (u : (Nat → Int32)) => K r u) (fun (u : (Nat → Int32)) => [(g1, .inl (cI, 377, .inl u))]) :=
  x_enter (cc := cX5_markOn) (maxL := 4) (ret := (some .int)) (own := RX5) (by decide) rfl rfl (Nat.le_of_ble_eq_true rfl) (fun p e s m below meth c ls C0 hA hP hD hS hl => xb_X5_markOn_0 C0 hA _ _ _ _ hk s.heap [] ls hP hD hS hl)
set_option maxHeartbeats 4000000 in
set_option maxRecDepth 100000 in
theorem xb_X5_fixOn_13 {p : Program} {l : Launch} {e : Env} {s : State} {m : MethodId} {args : Array Value} {below : List Frame} {meth : Method} {c : Code} {A : Nat → Prop} {D : va_G} {cI cC cZ cL : ClassId} {g1 : Nat}   {K : Int32 → ((Nat → Int32)) → Prop}  (C0 : xC p s m args meth c cX5_fixOn 3 (some .int) wsX5_fixOn RX5 D (xTY cI cC cZ cL)) (hA : ∀ q : Nat, s.heap.size ≤ q → A q)  : ∀ (f_p1 : Nat → Int32) (v1 : Int32) (t0 : Int32) , xp_X5_fixOn_13 K f_p1 v1 t0 → ∀ (H : Heap) (locs : List Loc) (ls : Array Slot), va_P D vwCl [(g1, .inl (cI, 377, .inl f_p1))] H → va_D A [(g1, .inl (cI, 377, .inl f_p1))] → va_S A s.heap H locs → lv_has ls 3 [(0, .ref g1), (1, .int v1)] → W p l e ({ frames := 4, cells := 0, slots := 0, locals := 89 } : Room) s m args below meth c H locs 0 0 (MQ below (va_Qi (fun (r : Int32) (u : (Nat → Int32)) => K r u) (fun u t => xE D A ((fun (u : (Nat → Int32)) => [(g1, .inl (cI, 377, .inl u))]) u) t) A) args s 0 0 A) (F0 m 13 ls [.int t0]) := by
  obtain ⟨hx, hb, hr, hml, hown, hts, hlocks, hK, hN⟩ := id C0
  intro f_p1 v1 t0 hk H locs ls hP hD hS hl
  rw [xp_X5_fixOn_13] at hk
  refine lv_istore_n (lv' := [(2, .int t0), (0, .ref g1), (1, .int v1)]) hx hb dX5_fixOn_13 rfl hl (by decide) rfl (fun ls hl => ?_)
  refine lv_aload_n hx hb dX5_fixOn_14 rfl (lv_at hl 1 rfl) ?_
  refine lv_iload_n hx hb dX5_fixOn_15 rfl (lv_at hl 2 rfl) ?_
  refine lv_iconst (v := 2) hx hb dX5_fixOn_16 (by decide) ?_
  refine lv_aload_n hx hb dX5_fixOn_17 rfl (lv_at hl 1 rfl) ?_
  refine lv_iload_n hx hb dX5_fixOn_18 rfl (lv_at hl 2 rfl) ?_
  refine lv_iconst (v := 0) hx hb dX5_fixOn_19 (by decide) ?_
  refine x_joini (ws1 := fun (_ : Unit) => [(g1, .inl (cI, 377, .inl f_p1))]) (x_runO (n0 := 3) (As := [.ref g1, .int v1, .int 0]) (rest := [.int 2, .int v1, .ref g1]) C0 (xc_X5_of l D cI cC cZ cL g1 H.size f_p1 v1 0 _ hk) gX5_fixOn_X5_of rfl ⟨rfl, rfl⟩ (by decide +kernel) rfl ⟨by decide, by decide⟩ ⟨Nat.zero_le _, Nat.zero_le _⟩ hP hD [0] rfl rfl hl.1 rfl (Nat.le_of_ble_eq_true rfl) dX5_fixOn_20) hP hD hS hA [0] [] [0] rfl rfl rfl (by decide) (fun _ => rfl) rfl (fun r1 u1 H locs hk hP hD hS => ?_)
  refine x_joinv (ws1 := fun (u2 : (Nat → Int32)) => [(g1, .inl (cI, 377, .inl u2))]) (x_runO (n0 := 4) (As := [.ref g1, .int v1, .int 2, .int r1]) (rest := []) C0 (xc_X5_lay l D cI cC cZ cL g1 H.size f_p1 v1 2 r1 _ hk) gX5_fixOn_X5_lay rfl ⟨rfl, rfl⟩ (by decide +kernel) rfl ⟨by decide, by decide⟩ ⟨Nat.zero_le _, Nat.zero_le _⟩ hP hD [0] rfl rfl hl.1 rfl (Nat.le_of_ble_eq_true rfl) dX5_fixOn_23) hP hD hS hA [0] [] [0] rfl rfl rfl (by decide) (fun _ => rfl) rfl (fun u2 H locs hk hP hD hS => ?_)
  refine lv_aload_n hx hb dX5_fixOn_26 rfl (lv_at hl 1 rfl) ?_
  refine lv_iload_n hx hb dX5_fixOn_27 rfl (lv_at hl 2 rfl) ?_
  refine lv_iconst (v := 3) hx hb dX5_fixOn_28 (by decide) ?_
  refine lv_aload_n hx hb dX5_fixOn_29 rfl (lv_at hl 1 rfl) ?_
  refine lv_iload_n hx hb dX5_fixOn_30 rfl (lv_at hl 2 rfl) ?_
  refine lv_iconst (v := 1) hx hb dX5_fixOn_31 (by decide) ?_
  refine x_joini (ws1 := fun (_ : Unit) => [(g1, .inl (cI, 377, .inl u2))]) (x_runO (n0 := 3) (As := [.ref g1, .int v1, .int 1]) (rest := [.int 3, .int v1, .ref g1]) C0 (xc_X5_of l D cI cC cZ cL g1 H.size u2 v1 1 _ hk) gX5_fixOn_X5_of rfl ⟨rfl, rfl⟩ (by decide +kernel) rfl ⟨by decide, by decide⟩ ⟨Nat.zero_le _, Nat.zero_le _⟩ hP hD [0] rfl rfl hl.1 rfl (Nat.le_of_ble_eq_true rfl) dX5_fixOn_32) hP hD hS hA [0] [] [0] rfl rfl rfl (by decide) (fun _ => rfl) rfl (fun r3 u3 H locs hk hP hD hS => ?_)
  refine x_joinv (ws1 := fun (u4 : (Nat → Int32)) => [(g1, .inl (cI, 377, .inl u4))]) (x_runO (n0 := 4) (As := [.ref g1, .int v1, .int 3, .int r3]) (rest := []) C0 (xc_X5_lay l D cI cC cZ cL g1 H.size u2 v1 3 r3 _ hk) gX5_fixOn_X5_lay rfl ⟨rfl, rfl⟩ (by decide +kernel) rfl ⟨by decide, by decide⟩ ⟨Nat.zero_le _, Nat.zero_le _⟩ hP hD [0] rfl rfl hl.1 rfl (Nat.le_of_ble_eq_true rfl) dX5_fixOn_35) hP hD hS hA [0] [] [0] rfl rfl rfl (by decide) (fun _ => rfl) rfl (fun u4 H locs hk hP hD hS => ?_)
  refine lv_aload_n hx hb dX5_fixOn_38 rfl (lv_at hl 1 rfl) ?_
  refine lv_iload_n hx hb dX5_fixOn_39 rfl (lv_at hl 2 rfl) ?_
  refine lv_iconst (v := 4) hx hb dX5_fixOn_40 (by decide) ?_
  refine lv_aload_n hx hb dX5_fixOn_41 rfl (lv_at hl 1 rfl) ?_
  refine lv_iload_n hx hb dX5_fixOn_42 rfl (lv_at hl 2 rfl) ?_
  refine x_joini (ws1 := fun (_ : Unit) => [(g1, .inl (cI, 377, .inl u4))]) (x_runO (n0 := 2) (As := [.ref g1, .int v1]) (rest := [.int 4, .int v1, .ref g1]) C0 (xc_X5_numberOf l D cI cC cZ cL g1 H.size u4 v1 _ hk) gX5_fixOn_X5_numberOf rfl ⟨rfl, rfl⟩ (by decide +kernel) rfl ⟨by decide, by decide⟩ ⟨Nat.zero_le _, Nat.zero_le _⟩ hP hD [0] rfl rfl hl.1 rfl (Nat.le_of_ble_eq_true rfl) dX5_fixOn_43) hP hD hS hA [0] [] [0] rfl rfl rfl (by decide) (fun _ => rfl) rfl (fun r5 u5 H locs hk hP hD hS => ?_)
  refine x_joinv (ws1 := fun (u6 : (Nat → Int32)) => [(g1, .inl (cI, 377, .inl u6))]) (x_runO (n0 := 4) (As := [.ref g1, .int v1, .int 4, .int r5]) (rest := []) C0 (xc_X5_lay l D cI cC cZ cL g1 H.size u4 v1 4 r5 _ hk) gX5_fixOn_X5_lay rfl ⟨rfl, rfl⟩ (by decide +kernel) rfl ⟨by decide, by decide⟩ ⟨Nat.zero_le _, Nat.zero_le _⟩ hP hD [0] rfl rfl hl.1 rfl (Nat.le_of_ble_eq_true rfl) dX5_fixOn_46) hP hD hS hA [0] [] [0] rfl rfl rfl (by decide) (fun _ => rfl) rfl (fun u6 H locs hk hP hD hS => ?_)
  refine lv_iload_n hx hb dX5_fixOn_49 rfl (lv_at hl 0 rfl) ?_
  exact x_reti C0 (u6) hk hP hD hS dX5_fixOn_50
set_option maxHeartbeats 4000000 in
set_option maxRecDepth 100000 in
theorem xb_X5_fixOn_0 {p : Program} {l : Launch} {e : Env} {s : State} {m : MethodId} {args : Array Value} {below : List Frame} {meth : Method} {c : Code} {A : Nat → Prop} {D : va_G} {cI cC cZ cL : ClassId} {g1 : Nat}   {K : Int32 → ((Nat → Int32)) → Prop}  (C0 : xC p s m args meth c cX5_fixOn 3 (some .int) wsX5_fixOn RX5 D (xTY cI cC cZ cL)) (hA : ∀ q : Nat, s.heap.size ≤ q → A q)  : ∀ (f_p1 : Nat → Int32) (x2 : Int32) , xp_X5_fixOn f_p1 x2 K → ∀ (H : Heap) (locs : List Loc) (ls : Array Slot), va_P D vwCl [(g1, .inl (cI, 377, .inl f_p1))] H → va_D A [(g1, .inl (cI, 377, .inl f_p1))] → va_S A s.heap H locs → lv_has ls 3 [(0, .ref g1), (1, .int x2)] → W p l e ({ frames := 4, cells := 0, slots := 0, locals := 89 } : Room) s m args below meth c H locs 0 0 (MQ below (va_Qi (fun (r : Int32) (u : (Nat → Int32)) => K r u) (fun u t => xE D A ((fun (u : (Nat → Int32)) => [(g1, .inl (cI, 377, .inl u))]) u) t) A) args s 0 0 A) (F0 m 0 ls []) := by
  obtain ⟨hx, hb, hr, hml, hown, hts, hlocks, hK, hN⟩ := id C0
  intro f_p1 x2 hk H locs ls hP hD hS hl
  rw [xp_X5_fixOn] at hk
  refine lv_aload_n hx hb dX5_fixOn_0 rfl (lv_at hl 0 rfl) ?_
  refine lv_iload_n hx hb dX5_fixOn_1 rfl (lv_at hl 1 rfl) ?_
  refine x_joini (ws1 := fun (_ : Unit) => [(g1, .inl (cI, 377, .inl f_p1))]) (x_runO (n0 := 2) (As := [.ref g1, .int x2]) (rest := []) C0 (xc_X5_isRight l D cI cC cZ cL g1 H.size f_p1 x2 _ hk) gX5_fixOn_X5_isRight rfl ⟨rfl, rfl⟩ (by decide +kernel) rfl ⟨by decide, by decide⟩ ⟨Nat.zero_le _, Nat.zero_le _⟩ hP hD [0] rfl rfl hl.1 rfl (Nat.le_of_ble_eq_true rfl) dX5_fixOn_2) hP hD hS hA [0] [] [0] rfl rfl rfl (by decide) (fun _ => rfl) rfl (fun r1 u1 H locs hk hP hD hS => ?_)
  refine lv_if_eq (tgt := 12) hx hb dX5_fixOn_5 (by decide) (fun c2 => ?_) (fun c2 => ?_)
  · have hk := hk.1 c2
    refine lv_iconst (v := 1) hx hb dX5_fixOn_12 (by decide) ?_
    exact xb_X5_fixOn_13 C0 hA  _ _ _ hk H locs ls hP hD hS (lv_sub hl [0, 1] rfl)
  · have hk := hk.2 c2
    refine lv_iconst (v := 0) hx hb dX5_fixOn_8 (by decide) ?_
    refine lv_goto (tgt := 13) hx hb dX5_fixOn_9 (by decide) ?_
    exact xb_X5_fixOn_13 C0 hA  _ _ _ hk H locs ls hP hD hS (lv_sub hl [0, 1] rfl)
theorem xc_X5_fixOn (l : Launch) (D : va_G) (cI cC cZ cL : ClassId) (g1 : Nat)  (sz : Nat) (f_p1 : Nat → Int32) (x2 : Int32) (K : Int32 → ((Nat → Int32)) → Prop) (hk : xp_X5_fixOn f_p1 x2 K) : XMi l yX5_fixOn wsX5_fixOn ({ frames := 4, cells := 0, slots := 0, locals := 89 } : Room) D (xTY cI cC cZ cL) [.ref g1, .int x2] [(g1, .inl (cI, 377, .inl f_p1))] sz (fun (r : Int32) (u : (Nat → Int32)) => K r u) (fun (u : (Nat → Int32)) => [(g1, .inl (cI, 377, .inl u))]) :=
  x_enter (cc := cX5_fixOn) (maxL := 3) (ret := (some .int)) (own := RX5) (by decide) rfl rfl (Nat.le_of_ble_eq_true rfl) (fun p e s m below meth c ls C0 hA hP hD hS hl => xb_X5_fixOn_0 C0 hA _ _ hk s.heap [] ls hP hD hS hl)
set_option maxHeartbeats 4000000 in
set_option maxRecDepth 100000 in
theorem xb_X5_isSetting_59 {p : Program} {l : Launch} {e : Env} {s : State} {m : MethodId} {args : Array Value} {below : List Frame} {meth : Method} {c : Code} {A : Nat → Prop} {D : va_G} {cI cC cZ cL : ClassId}    {K : Int32 → Prop}  (C0 : xC p s m args meth c cX5_isSetting 2 (some .boolean) wsX5_isSetting RX5 D (xTY cI cC cZ cL)) (hA : ∀ q : Nat, s.heap.size ≤ q → A q)  : ∀ (t0 : Int64) (t1 : Int64) (t2 : Int64) , xp_X5_isSetting_59 K t0 t1 t2 → ∀ (H : Heap) (locs : List Loc) (ls : Array Slot), va_P D vwCl [] H → va_D A [] → va_S A s.heap H locs → lv_has ls 2 [] → W p l e ({ frames := 1, cells := 0, slots := 0, locals := 25 } : Room) s m args below meth c H locs 0 0 (MQ below (va_Qi (fun (r : Int32) (_ : Unit) => K r) (fun u t => xE D A ((fun (_ : Unit) => []) u) t) A) args s 0 0 A) (F0 m 59 ls [.long t0, .long t1, .long t2]) := by
  obtain ⟨hx, hb, hr, hml, hown, hts, hlocks, hK, hN⟩ := id C0
  intro t0 t1 t2 hk H locs ls hP hD hS hl
  rw [xp_X5_isSetting_59] at hk
  refine x_joini (ws1 := fun (_ : Unit) => []) (x_runO (n0 := 3) (As := [.long t2, .long t1, .long t0]) (rest := []) C0 (xc_X5_in l D cI cC cZ cL  H.size t2 t1 t0 _ hk) gX5_isSetting_X5_in rfl ⟨rfl, rfl⟩ (by decide +kernel) rfl ⟨by decide, by decide⟩ ⟨Nat.zero_le _, Nat.zero_le _⟩ hP hD [] rfl rfl hl.1 rfl (Nat.le_of_ble_eq_true rfl) dX5_isSetting_59) hP hD hS hA [] [] [] rfl rfl rfl (by decide) (fun _ => rfl) rfl (fun r1 u1 H locs hk hP hD hS => ?_)
  refine lv_if_eq (tgt := 69) hx hb dX5_isSetting_62 (by decide) (fun c2 => ?_) (fun c2 => ?_)
  · have hk := hk.1 c2
    refine lv_iconst (v := 0) hx hb dX5_isSetting_69 (by decide) ?_
    exact x_retz rfl C0 () hk hP hD hS dX5_isSetting_70
  · have hk := hk.2 c2
    refine lv_iconst (v := 1) hx hb dX5_isSetting_65 (by decide) ?_
    refine lv_goto (tgt := 70) hx hb dX5_isSetting_66 (by decide) ?_
    exact x_retz rfl C0 () hk hP hD hS dX5_isSetting_70
set_option maxHeartbeats 4000000 in
set_option maxRecDepth 100000 in
theorem xb_X5_isSetting_26 {p : Program} {l : Launch} {e : Env} {s : State} {m : MethodId} {args : Array Value} {below : List Frame} {meth : Method} {c : Code} {A : Nat → Prop} {D : va_G} {cI cC cZ cL : ClassId}    {K : Int32 → Prop}  (C0 : xC p s m args meth c cX5_isSetting 2 (some .boolean) wsX5_isSetting RX5 D (xTY cI cC cZ cL)) (hA : ∀ q : Nat, s.heap.size ≤ q → A q)  : ∀ (v0 : Int32) (t0 : Int64) (t1 : Int64) , xp_X5_isSetting_26 K v0 t0 t1 → ∀ (H : Heap) (locs : List Loc) (ls : Array Slot), va_P D vwCl [] H → va_D A [] → va_S A s.heap H locs → lv_has ls 2 [(0, .int v0)] → W p l e ({ frames := 1, cells := 0, slots := 0, locals := 25 } : Room) s m args below meth c H locs 0 0 (MQ below (va_Qi (fun (r : Int32) (_ : Unit) => K r) (fun u t => xE D A ((fun (_ : Unit) => []) u) t) A) args s 0 0 A) (F0 m 26 ls [.long t0, .long t1]) := by
  obtain ⟨hx, hb, hr, hml, hown, hts, hlocks, hK, hN⟩ := id C0
  intro v0 t0 t1 hk H locs ls hP hD hS hl
  rw [xp_X5_isSetting_26] at hk
  refine lv_iload_n hx hb dX5_isSetting_26 rfl (lv_at hl 0 rfl) ?_
  refine lv_if_ne (tgt := 36) hx hb dX5_isSetting_27 (by decide) (fun c1 => ?_) (fun c1 => ?_)
  · have hk := hk.1 c1
    refine lv_iload_n hx hb dX5_isSetting_36 rfl (lv_at hl 0 rfl) ?_
    refine lv_iconst (v := 1) hx hb dX5_isSetting_37 (by decide) ?_
    refine lv_icmp_ne (tgt := 47) hx hb dX5_isSetting_38 (by decide) (fun c2 => ?_) (fun c2 => ?_)
    · have hk := hk.1 c2
      refine lv_iload_n hx hb dX5_isSetting_47 rfl (lv_at hl 0 rfl) ?_
      refine lv_iconst (v := 2) hx hb dX5_isSetting_48 (by decide) ?_
      refine lv_icmp_ne (tgt := 58) hx hb dX5_isSetting_49 (by decide) (fun c3 => ?_) (fun c3 => ?_)
      · have hk := hk.1 c3
        refine lv_lconst (v := 1) hx hb dX5_isSetting_58 (by decide) ?_
        exact xb_X5_isSetting_59 C0 hA  _ _ _ hk H locs ls hP hD hS (lv_sub hl [] rfl)
      · have hk := hk.2 c3
        refine lv_ldc2 (own := RX5) hx hb hown (hts (.constantLong RX5 86 (60)) (by decide +kernel)) dX5_isSetting_52 ?_
        refine lv_goto (tgt := 59) hx hb dX5_isSetting_55 (by decide) ?_
        exact xb_X5_isSetting_59 C0 hA  _ _ _ hk H locs ls hP hD hS (lv_sub hl [] rfl)
    · have hk := hk.2 c2
      refine lv_ldc2 (own := RX5) hx hb hown (hts (.constantLong RX5 90 (3600)) (by decide +kernel)) dX5_isSetting_41 ?_
      refine lv_goto (tgt := 59) hx hb dX5_isSetting_44 (by decide) ?_
      exact xb_X5_isSetting_59 C0 hA  _ _ _ hk H locs ls hP hD hS (lv_sub hl [] rfl)
  · have hk := hk.2 c1
    refine lv_ldc2 (own := RX5) hx hb hown (hts (.constantLong RX5 88 (999)) (by decide +kernel)) dX5_isSetting_30 ?_
    refine lv_goto (tgt := 59) hx hb dX5_isSetting_33 (by decide) ?_
    exact xb_X5_isSetting_59 C0 hA  _ _ _ hk H locs ls hP hD hS (lv_sub hl [] rfl)
set_option maxHeartbeats 4000000 in
set_option maxRecDepth 100000 in
theorem xb_X5_isSetting_0 {p : Program} {l : Launch} {e : Env} {s : State} {m : MethodId} {args : Array Value} {below : List Frame} {meth : Method} {c : Code} {A : Nat → Prop} {D : va_G} {cI cC cZ cL : ClassId}    {K : Int32 → Prop}  (C0 : xC p s m args meth c cX5_isSetting 2 (some .boolean) wsX5_isSetting RX5 D (xTY cI cC cZ cL)) (hA : ∀ q : Nat, s.heap.size ≤ q → A q)  : ∀ (x1 : Int32) (x2 : Int32) , xp_X5_isSetting x1 x2 K → ∀ (H : Heap) (locs : List Loc) (ls : Array Slot), va_P D vwCl [] H → va_D A [] → va_S A s.heap H locs → lv_has ls 2 [(0, .int x1), (1, .int x2)] → W p l e ({ frames := 1, cells := 0, slots := 0, locals := 25 } : Room) s m args below meth c H locs 0 0 (MQ below (va_Qi (fun (r : Int32) (_ : Unit) => K r) (fun u t => xE D A ((fun (_ : Unit) => []) u) t) A) args s 0 0 A) (F0 m 0 ls []) := by
  obtain ⟨hx, hb, hr, hml, hown, hts, hlocks, hK, hN⟩ := id C0
  intro x1 x2 hk H locs ls hP hD hS hl
  rw [xp_X5_isSetting] at hk
  refine lv_iload_n hx hb dX5_isSetting_0 rfl (lv_at hl 0 rfl) ?_
  refine lv_i2l hx hb dX5_isSetting_1 rfl ?_
  refine lv_lconst (v := 0) hx hb dX5_isSetting_2 (by decide) ?_
  refine lv_ldc2 (own := RX5) hx hb hown (hts (.constantLong RX5 84 (3)) (by decide +kernel)) dX5_isSetting_3 ?_
  refine x_joini (ws1 := fun (_ : Unit) => []) (x_runO (n0 := 3) (As := [.long x1.toInt64, .long 0, .long 3]) (rest := []) C0 (xc_X5_in l D cI cC cZ cL  H.size x1.toInt64 0 3 _ hk) gX5_isSetting_X5_in rfl ⟨rfl, rfl⟩ (by decide +kernel) rfl ⟨by decide, by decide⟩ ⟨Nat.zero_le _, Nat.zero_le _⟩ hP hD [] rfl rfl hl.1 rfl (Nat.le_of_ble_eq_true rfl) dX5_isSetting_6) hP hD hS hA [] [] [] rfl rfl rfl (by decide) (fun _ => rfl) rfl (fun r1 u1 H locs hk hP hD hS => ?_)
  refine lv_if_eq (tgt := 69) hx hb dX5_isSetting_9 (by decide) (fun c2 => ?_) (fun c2 => ?_)
  · have hk := hk.1 c2
    refine lv_iconst (v := 0) hx hb dX5_isSetting_69 (by decide) ?_
    exact x_retz rfl C0 () hk hP hD hS dX5_isSetting_70
  · have hk := hk.2 c2
    refine lv_iload_n hx hb dX5_isSetting_12 rfl (lv_at hl 1 rfl) ?_
    refine lv_i2l hx hb dX5_isSetting_13 rfl ?_
    refine lv_iload_n hx hb dX5_isSetting_14 rfl (lv_at hl 0 rfl) ?_
    refine lv_iconst (v := 2) hx hb dX5_isSetting_15 (by decide) ?_
    refine lv_icmp_ge (tgt := 25) hx hb dX5_isSetting_16 (by decide) (fun c3 => ?_) (fun c3 => ?_)
    · have hk := hk.1 c3
      refine lv_lconst (v := 0) hx hb dX5_isSetting_25 (by decide) ?_
      exact xb_X5_isSetting_26 C0 hA  _ _ _ hk H locs ls hP hD hS (lv_sub hl [0] rfl)
    · have hk := hk.2 c3
      refine lv_ldc2 (own := RX5) hx hb hown (hts (.constantLong RX5 86 (60)) (by decide +kernel)) dX5_isSetting_19 ?_
      refine lv_goto (tgt := 26) hx hb dX5_isSetting_22 (by decide) ?_
      exact xb_X5_isSetting_26 C0 hA  _ _ _ hk H locs ls hP hD hS (lv_sub hl [0] rfl)
theorem xc_X5_isSetting (l : Launch) (D : va_G) (cI cC cZ cL : ClassId)   (sz : Nat)  (x1 : Int32) (x2 : Int32) (K : Int32 → Prop) (hk : xp_X5_isSetting x1 x2 K) : XMi l yX5_isSetting wsX5_isSetting ({ frames := 1, cells := 0, slots := 0, locals := 25 } : Room) D (xTY cI cC cZ cL) [.int x1, .int x2] [] sz (fun (r : Int32) (_ : Unit) => K r) (fun (_ : Unit) => []) :=
  x_enter (cc := cX5_isSetting) (maxL := 2) (ret := (some .boolean)) (own := RX5) (by decide) rfl rfl (Nat.le_of_ble_eq_true rfl) (fun p e s m below meth c ls C0 hA hP hD hS hl => xb_X5_isSetting_0 C0 hA _ _ hk s.heap [] ls hP hD hS hl)
set_option maxHeartbeats 4000000 in
set_option maxRecDepth 100000 in
theorem xb_X5_overlap_74 {p : Program} {l : Launch} {e : Env} {s : State} {m : MethodId} {args : Array Value} {below : List Frame} {meth : Method} {c : Code} {A : Nat → Prop} {D : va_G} {cI cC cZ cL : ClassId} {g1 : Nat}  {f_p1 : Nat → Int32} {K : Int32 → Prop}  (C0 : xC p s m args meth c cX5_overlap 10 (some .int) wsX5_overlap RX5 D (xTY cI cC cZ cL)) (hA : ∀ q : Nat, s.heap.size ≤ q → A q)  : ∀ (v8 : Int32) (t0 : Int32) , xp_X5_overlap_74 f_p1 K v8 t0 → ∀ (H : Heap) (locs : List Loc) (ls : Array Slot), va_P D vwCl [(g1, .inl (cI, 377, .inl f_p1))] H → va_D A [(g1, .inl (cI, 377, .inl f_p1))] → va_S A s.heap H locs → lv_has ls 10 [(8, .int v8)] → W p l e ({ frames := 1, cells := 0, slots := 0, locals := 22 } : Room) s m args below meth c H locs 0 0 (MQ below (va_Qi (fun (r : Int32) (_ : Unit) => K r) (fun u t => xE D A ((fun (_ : Unit) => [(g1, .inl (cI, 377, .inl f_p1))]) u) t) A) args s 0 0 A) (F0 m 74 ls [.int t0]) := by
  obtain ⟨hx, hb, hr, hml, hown, hts, hlocks, hK, hN⟩ := id C0
  intro v8 t0 hk H locs ls hP hD hS hl
  rw [xp_X5_overlap_74] at hk
  refine lv_istore (lv' := [(9, .int t0), (8, .int v8)]) hx hb dX5_overlap_74 hl (by decide) rfl (fun ls hl => ?_)
  refine lv_iload hx hb dX5_overlap_76 (lv_at hl 0 rfl) ?_
  refine lv_iload hx hb dX5_overlap_78 (lv_at hl 1 rfl) ?_
  refine lv_icmp_le (tgt := 91) hx hb dX5_overlap_80 (by decide) (fun c1 => ?_) (fun c1 => ?_)
  · have hk := hk.1 c1
    refine lv_iconst (v := 0) hx hb dX5_overlap_91 (by decide) ?_
    exact x_reti C0 () hk hP hD hS dX5_overlap_92
  · have hk := hk.2 c1
    refine lv_iload hx hb dX5_overlap_83 (lv_at hl 0 rfl) ?_
    refine lv_iload hx hb dX5_overlap_85 (lv_at hl 1 rfl) ?_
    refine lv_isub hx hb dX5_overlap_87 ?_
    refine lv_goto (tgt := 92) hx hb dX5_overlap_88 (by decide) ?_
    exact x_reti C0 () hk hP hD hS dX5_overlap_92
set_option maxHeartbeats 4000000 in
set_option maxRecDepth 100000 in
theorem xb_X5_overlap_58 {p : Program} {l : Launch} {e : Env} {s : State} {m : MethodId} {args : Array Value} {below : List Frame} {meth : Method} {c : Code} {A : Nat → Prop} {D : va_G} {cI cC cZ cL : ClassId} {g1 : Nat}  {f_p1 : Nat → Int32} {K : Int32 → Prop}  (C0 : xC p s m args meth c cX5_overlap 10 (some .int) wsX5_overlap RX5 D (xTY cI cC cZ cL)) (hA : ∀ q : Nat, s.heap.size ≤ q → A q)  : ∀ (v5 : Int32) (v7 : Int32) (t0 : Int32) , xp_X5_overlap_58 f_p1 K v5 v7 t0 → ∀ (H : Heap) (locs : List Loc) (ls : Array Slot), va_P D vwCl [(g1, .inl (cI, 377, .inl f_p1))] H → va_D A [(g1, .inl (cI, 377, .inl f_p1))] → va_S A s.heap H locs → lv_has ls 10 [(5, .int v5), (7, .int v7)] → W p l e ({ frames := 1, cells := 0, slots := 0, locals := 22 } : Room) s m args below meth c H locs 0 0 (MQ below (va_Qi (fun (r : Int32) (_ : Unit) => K r) (fun u t => xE D A ((fun (_ : Unit) => [(g1, .inl (cI, 377, .inl f_p1))]) u) t) A) args s 0 0 A) (F0 m 58 ls [.int t0]) := by
  obtain ⟨hx, hb, hr, hml, hown, hts, hlocks, hK, hN⟩ := id C0
  intro v5 v7 t0 hk H locs ls hP hD hS hl
  rw [xp_X5_overlap_58] at hk
  refine lv_istore (lv' := [(8, .int t0), (5, .int v5), (7, .int v7)]) hx hb dX5_overlap_58 hl (by decide) rfl (fun ls hl => ?_)
  refine lv_iload hx hb dX5_overlap_60 (lv_at hl 1 rfl) ?_
  refine lv_iload hx hb dX5_overlap_62 (lv_at hl 2 rfl) ?_
  refine lv_icmp_ge (tgt := 72) hx hb dX5_overlap_64 (by decide) (fun c1 => ?_) (fun c1 => ?_)
  · have hk := hk.1 c1
    refine lv_iload hx hb dX5_overlap_72 (lv_at hl 2 rfl) ?_
    exact xb_X5_overlap_74 C0 hA  _ _ hk H locs ls hP hD hS (lv_sub hl [0] rfl)
  · have hk := hk.2 c1
    refine lv_iload hx hb dX5_overlap_67 (lv_at hl 1 rfl) ?_
    refine lv_goto (tgt := 74) hx hb dX5_overlap_69 (by decide) ?_
    exact xb_X5_overlap_74 C0 hA  _ _ hk H locs ls hP hD hS (lv_sub hl [0] rfl)
set_option maxHeartbeats 4000000 in
set_option maxRecDepth 100000 in
theorem xb_X5_overlap_0 {p : Program} {l : Launch} {e : Env} {s : State} {m : MethodId} {args : Array Value} {below : List Frame} {meth : Method} {c : Code} {A : Nat → Prop} {D : va_G} {cI cC cZ cL : ClassId} {g1 : Nat}  {f_p1 : Nat → Int32} {K : Int32 → Prop}  (C0 : xC p s m args meth c cX5_overlap 10 (some .int) wsX5_overlap RX5 D (xTY cI cC cZ cL)) (hA : ∀ q : Nat, s.heap.size ≤ q → A q)  : ∀ (x2 : Int32) (x3 : Int32) (x4 : Int32) , xp_X5_overlap f_p1 x2 x3 x4 K → ∀ (H : Heap) (locs : List Loc) (ls : Array Slot), va_P D vwCl [(g1, .inl (cI, 377, .inl f_p1))] H → va_D A [(g1, .inl (cI, 377, .inl f_p1))] → va_S A s.heap H locs → lv_has ls 10 [(0, .ref g1), (1, .int x2), (2, .int x3), (3, .int x4)] → W p l e ({ frames := 1, cells := 0, slots := 0, locals := 22 } : Room) s m args below meth c H locs 0 0 (MQ below (va_Qi (fun (r : Int32) (_ : Unit) => K r) (fun u t => xE D A ((fun (_ : Unit) => [(g1, .inl (cI, 377, .inl f_p1))]) u) t) A) args s 0 0 A) (F0 m 0 ls []) := by
  obtain ⟨hx, hb, hr, hml, hown, hts, hlocks, hK, hN⟩ := id C0
  intro x2 x3 x4 hk H locs ls hP hD hS hl
  rw [xp_X5_overlap] at hk
  refine lv_aload_n hx hb dX5_overlap_0 rfl (lv_at hl 0 rfl) ?_
  refine lv_iload_n hx hb dX5_overlap_1 rfl (lv_at hl 1 rfl) ?_
  refine lv_bipush (v := 11) hx hb dX5_overlap_2 (by decide) ?_
  refine x_joini (ws1 := fun (_ : Unit) => [(g1, .inl (cI, 377, .inl f_p1))]) (x_runO (n0 := 3) (As := [.ref g1, .int x2, .int 11]) (rest := []) C0 (xc_X5_of l D cI cC cZ cL g1 H.size f_p1 x2 11 _ hk) gX5_overlap_X5_of rfl ⟨rfl, rfl⟩ (by decide +kernel) rfl ⟨by decide, by decide⟩ ⟨Nat.zero_le _, Nat.zero_le _⟩ hP hD [0] rfl rfl hl.1 rfl (Nat.le_of_ble_eq_true rfl) dX5_overlap_4) hP hD hS hA [0] [] [0] rfl rfl rfl (by decide) (fun _ => rfl) rfl (fun r1 u1 H locs hk hP hD hS => ?_)
  refine lv_istore (lv' := [(4, .int r1), (0, .ref g1), (1, .int x2), (2, .int x3), (3, .int x4)]) hx hb dX5_overlap_7 hl (by decide) rfl (fun ls hl => ?_)
  refine lv_iload hx hb dX5_overlap_9 (lv_at hl 0 rfl) ?_
  refine lv_aload_n hx hb dX5_overlap_11 rfl (lv_at hl 1 rfl) ?_
  refine lv_iload_n hx hb dX5_overlap_12 rfl (lv_at hl 2 rfl) ?_
  refine lv_bipush (v := 7) hx hb dX5_overlap_13 (by decide) ?_
  refine x_joini (ws1 := fun (_ : Unit) => [(g1, .inl (cI, 377, .inl f_p1))]) (x_runO (n0 := 3) (As := [.ref g1, .int x2, .int 7]) (rest := [.int r1]) C0 (xc_X5_of l D cI cC cZ cL g1 H.size f_p1 x2 7 _ hk) gX5_overlap_X5_of rfl ⟨rfl, rfl⟩ (by decide +kernel) rfl ⟨by decide, by decide⟩ ⟨Nat.zero_le _, Nat.zero_le _⟩ hP hD [0] rfl rfl hl.1 rfl (Nat.le_of_ble_eq_true rfl) dX5_overlap_15) hP hD hS hA [0] [] [0] rfl rfl rfl (by decide) (fun _ => rfl) rfl (fun r2 u2 H locs hk hP hD hS => ?_)
  refine lv_iadd hx hb dX5_overlap_18 ?_
  refine lv_istore (lv' := [(5, .int (r1 + r2)), (4, .int r1), (0, .ref g1), (1, .int x2), (2, .int x3), (3, .int x4)]) hx hb dX5_overlap_19 hl (by decide) rfl (fun ls hl => ?_)
  refine lv_aload_n hx hb dX5_overlap_21 rfl (lv_at hl 2 rfl) ?_
  refine lv_iload_n hx hb dX5_overlap_22 rfl (lv_at hl 4 rfl) ?_
  refine lv_bipush (v := 12) hx hb dX5_overlap_23 (by decide) ?_
  refine x_joini (ws1 := fun (_ : Unit) => [(g1, .inl (cI, 377, .inl f_p1))]) (x_runO (n0 := 3) (As := [.ref g1, .int x3, .int 12]) (rest := []) C0 (xc_X5_of l D cI cC cZ cL g1 H.size f_p1 x3 12 _ hk) gX5_overlap_X5_of rfl ⟨rfl, rfl⟩ (by decide +kernel) rfl ⟨by decide, by decide⟩ ⟨Nat.zero_le _, Nat.zero_le _⟩ hP hD [0] rfl rfl hl.1 rfl (Nat.le_of_ble_eq_true rfl) dX5_overlap_25) hP hD hS hA [0] [] [0] rfl rfl rfl (by decide) (fun _ => rfl) rfl (fun r3 u3 H locs hk hP hD hS => ?_)
  refine lv_iload_n hx hb dX5_overlap_28 rfl (lv_at hl 5 rfl) ?_
  refine lv_iadd hx hb dX5_overlap_29 ?_
  refine lv_istore (lv' := [(6, .int (r3 + x4)), (5, .int (r1 + r2)), (4, .int r1), (0, .ref g1), (1, .int x2), (2, .int x3), (3, .int x4)]) hx hb dX5_overlap_30 hl (by decide) rfl (fun ls hl => ?_)
  refine lv_iload hx hb dX5_overlap_32 (lv_at hl 0 rfl) ?_
  refine lv_aload_n hx hb dX5_overlap_34 rfl (lv_at hl 3 rfl) ?_
  refine lv_iload_n hx hb dX5_overlap_35 rfl (lv_at hl 5 rfl) ?_
  refine lv_bipush (v := 7) hx hb dX5_overlap_36 (by decide) ?_
  refine x_joini (ws1 := fun (_ : Unit) => [(g1, .inl (cI, 377, .inl f_p1))]) (x_runO (n0 := 3) (As := [.ref g1, .int x3, .int 7]) (rest := [.int (r3 + x4)]) C0 (xc_X5_of l D cI cC cZ cL g1 H.size f_p1 x3 7 _ hk) gX5_overlap_X5_of rfl ⟨rfl, rfl⟩ (by decide +kernel) rfl ⟨by decide, by decide⟩ ⟨Nat.zero_le _, Nat.zero_le _⟩ hP hD [0] rfl rfl hl.1 rfl (Nat.le_of_ble_eq_true rfl) dX5_overlap_38) hP hD hS hA [0] [] [0] rfl rfl rfl (by decide) (fun _ => rfl) rfl (fun r4 u4 H locs hk hP hD hS => ?_)
  refine lv_iadd hx hb dX5_overlap_41 ?_
  refine lv_istore (lv' := [(7, .int ((r3 + x4) + r4)), (6, .int (r3 + x4)), (5, .int (r1 + r2)), (4, .int r1), (0, .ref g1), (1, .int x2), (2, .int x3), (3, .int x4)]) hx hb dX5_overlap_42 hl (by decide) rfl (fun ls hl => ?_)
  refine lv_iload hx hb dX5_overlap_44 (lv_at hl 3 rfl) ?_
  refine lv_iload hx hb dX5_overlap_46 (lv_at hl 1 rfl) ?_
  refine lv_icmp_le (tgt := 56) hx hb dX5_overlap_48 (by decide) (fun c5 => ?_) (fun c5 => ?_)
  · have hk := hk.1 c5
    refine lv_iload hx hb dX5_overlap_56 (lv_at hl 1 rfl) ?_
    exact xb_X5_overlap_58 C0 hA  _ _ _ hk H locs ls hP hD hS (lv_sub hl [2, 0] rfl)
  · have hk := hk.2 c5
    refine lv_iload hx hb dX5_overlap_51 (lv_at hl 3 rfl) ?_
    refine lv_goto (tgt := 58) hx hb dX5_overlap_53 (by decide) ?_
    exact xb_X5_overlap_58 C0 hA  _ _ _ hk H locs ls hP hD hS (lv_sub hl [2, 0] rfl)
theorem xc_X5_overlap (l : Launch) (D : va_G) (cI cC cZ cL : ClassId) (g1 : Nat)  (sz : Nat) (f_p1 : Nat → Int32) (x2 : Int32) (x3 : Int32) (x4 : Int32) (K : Int32 → Prop) (hk : xp_X5_overlap f_p1 x2 x3 x4 K) : XMi l yX5_overlap wsX5_overlap ({ frames := 1, cells := 0, slots := 0, locals := 22 } : Room) D (xTY cI cC cZ cL) [.ref g1, .int x2, .int x3, .int x4] [(g1, .inl (cI, 377, .inl f_p1))] sz (fun (r : Int32) (_ : Unit) => K r) (fun (_ : Unit) => [(g1, .inl (cI, 377, .inl f_p1))]) :=
  x_enter (cc := cX5_overlap) (maxL := 10) (ret := (some .int)) (own := RX5) (by decide) rfl rfl (Nat.le_of_ble_eq_true rfl) (fun p e s m below meth c ls C0 hA hP hD hS hl => xb_X5_overlap_0 C0 hA _ _ _ hk s.heap [] ls hP hD hS hl)
set_option maxHeartbeats 4000000 in
set_option maxRecDepth 100000 in
theorem xb_X5_syncedBy_55 {p : Program} {l : Launch} {e : Env} {s : State} {m : MethodId} {args : Array Value} {below : List Frame} {meth : Method} {c : Code} {A : Nat → Prop} {D : va_G} {cI cC cZ cL : ClassId} {g1 : Nat}  {f_p1 : Nat → Int32} {K : Int32 → Prop} {X8 : Int32 → Int32 → Int32 → Int32 → Int32 → Prop} (C0 : xC p s m args meth c cX5_syncedBy 7 (some .int) wsX5_syncedBy RX5 D (xTY cI cC cZ cL)) (hA : ∀ q : Nat, s.heap.size ≤ q → A q) (hX8 : ∀ (v1 : Int32) (v2 : Int32) (v3 : Int32) (v4 : Int32) (v5 : Int32), X8 v1 v2 v3 v4 v5 → ∀ (H : Heap) (locs : List Loc) (ls : Array Slot), va_P D vwCl [(g1, .inl (cI, 377, .inl f_p1))] H → va_D A [(g1, .inl (cI, 377, .inl f_p1))] → va_S A s.heap H locs → lv_has ls 7 [(0, .ref g1), (1, .int v1), (2, .int v2), (3, .int v3), (4, .int v4), (5, .int v5)] → W p l e ({ frames := 2, cells := 0, slots := 0, locals := 51 } : Room) s m args below meth c H locs 0 0 (MQ below (va_Qi (fun (r : Int32) (_ : Unit) => K r) (fun u t => xE D A ((fun (_ : Unit) => [(g1, .inl (cI, 377, .inl f_p1))]) u) t) A) args s 0 0 A) (F0 m 8 ls [])) : ∀ (v1 : Int32) (v2 : Int32) (v4 : Int32) (v5 : Int32) (v6 : Int32) (t0 : Int32) , xp_X5_syncedBy_55 f_p1 K X8 v1 v2 v4 v5 v6 t0 → ∀ (H : Heap) (locs : List Loc) (ls : Array Slot), va_P D vwCl [(g1, .inl (cI, 377, .inl f_p1))] H → va_D A [(g1, .inl (cI, 377, .inl f_p1))] → va_S A s.heap H locs → lv_has ls 7 [(0, .ref g1), (1, .int v1), (2, .int v2), (4, .int v4), (5, .int v5), (6, .int v6)] → W p l e ({ frames := 2, cells := 0, slots := 0, locals := 51 } : Room) s m args below meth c H locs 0 0 (MQ below (va_Qi (fun (r : Int32) (_ : Unit) => K r) (fun u t => xE D A ((fun (_ : Unit) => [(g1, .inl (cI, 377, .inl f_p1))]) u) t) A) args s 0 0 A) (F0 m 55 ls [.int t0]) := by
  obtain ⟨hx, hb, hr, hml, hown, hts, hlocks, hK, hN⟩ := id C0
  intro v1 v2 v4 v5 v6 t0 hk H locs ls hP hD hS hl
  rw [xp_X5_syncedBy_55] at hk
  refine lv_istore_n (lv' := [(3, .int t0), (0, .ref g1), (1, .int v1), (2, .int v2), (4, .int v4), (5, .int v5), (6, .int v6)]) hx hb dX5_syncedBy_55 rfl hl (by decide) rfl (fun ls hl => ?_)
  refine lv_iload hx hb dX5_syncedBy_56 (lv_at hl 6 rfl) ?_
  refine lv_iload hx hb dX5_syncedBy_58 (lv_at hl 4 rfl) ?_
  refine lv_icmp_le (tgt := 68) hx hb dX5_syncedBy_60 (by decide) (fun c1 => ?_) (fun c1 => ?_)
  · have hk := hk.1 c1
    refine lv_iload hx hb dX5_syncedBy_68 (lv_at hl 4 rfl) ?_
    refine lv_istore (lv' := [(4, .int v4), (3, .int t0), (0, .ref g1), (1, .int v1), (2, .int v2), (5, .int v5), (6, .int v6)]) hx hb dX5_syncedBy_70 hl (by decide) rfl (fun ls hl => ?_)
    refine lv_iinc (v := (v5 + 1)) (lv' := [(5, .int (v5 + 1)), (4, .int v4), (3, .int t0), (0, .ref g1), (1, .int v1), (2, .int v2), (6, .int v6)]) hx hb dX5_syncedBy_72 hl (k := 5) rfl rfl (by decide) rfl (fun ls hl => ?_)
    refine lv_goto (tgt := 8) hx hb dX5_syncedBy_75 (by decide) ?_
    exact hX8 _ _ _ _ _ hk H locs ls hP hD hS (lv_sub hl [3, 4, 5, 2, 1, 0] rfl)
  · have hk := hk.2 c1
    refine lv_iload hx hb dX5_syncedBy_63 (lv_at hl 6 rfl) ?_
    refine lv_goto (tgt := 70) hx hb dX5_syncedBy_65 (by decide) ?_
    refine lv_istore (lv' := [(4, .int v6), (3, .int t0), (0, .ref g1), (1, .int v1), (2, .int v2), (5, .int v5), (6, .int v6)]) hx hb dX5_syncedBy_70 hl (by decide) rfl (fun ls hl => ?_)
    refine lv_iinc (v := (v5 + 1)) (lv' := [(5, .int (v5 + 1)), (4, .int v6), (3, .int t0), (0, .ref g1), (1, .int v1), (2, .int v2), (6, .int v6)]) hx hb dX5_syncedBy_72 hl (k := 5) rfl rfl (by decide) rfl (fun ls hl => ?_)
    refine lv_goto (tgt := 8) hx hb dX5_syncedBy_75 (by decide) ?_
    exact hX8 _ _ _ _ _ hk H locs ls hP hD hS (lv_sub hl [3, 4, 5, 2, 1, 0] rfl)
set_option maxHeartbeats 4000000 in
set_option maxRecDepth 100000 in
theorem xb_X5_syncedBy_40 {p : Program} {l : Launch} {e : Env} {s : State} {m : MethodId} {args : Array Value} {below : List Frame} {meth : Method} {c : Code} {A : Nat → Prop} {D : va_G} {cI cC cZ cL : ClassId} {g1 : Nat}  {f_p1 : Nat → Int32} {K : Int32 → Prop} {X8 : Int32 → Int32 → Int32 → Int32 → Int32 → Prop} (C0 : xC p s m args meth c cX5_syncedBy 7 (some .int) wsX5_syncedBy RX5 D (xTY cI cC cZ cL)) (hA : ∀ q : Nat, s.heap.size ≤ q → A q) (hX8 : ∀ (v1 : Int32) (v2 : Int32) (v3 : Int32) (v4 : Int32) (v5 : Int32), X8 v1 v2 v3 v4 v5 → ∀ (H : Heap) (locs : List Loc) (ls : Array Slot), va_P D vwCl [(g1, .inl (cI, 377, .inl f_p1))] H → va_D A [(g1, .inl (cI, 377, .inl f_p1))] → va_S A s.heap H locs → lv_has ls 7 [(0, .ref g1), (1, .int v1), (2, .int v2), (3, .int v3), (4, .int v4), (5, .int v5)] → W p l e ({ frames := 2, cells := 0, slots := 0, locals := 51 } : Room) s m args below meth c H locs 0 0 (MQ below (va_Qi (fun (r : Int32) (_ : Unit) => K r) (fun u t => xE D A ((fun (_ : Unit) => [(g1, .inl (cI, 377, .inl f_p1))]) u) t) A) args s 0 0 A) (F0 m 8 ls [])) : ∀ (v1 : Int32) (v2 : Int32) (v3 : Int32) (v4 : Int32) (v5 : Int32) (t0 : Int32) , xp_X5_syncedBy_40 f_p1 K X8 v1 v2 v3 v4 v5 t0 → ∀ (H : Heap) (locs : List Loc) (ls : Array Slot), va_P D vwCl [(g1, .inl (cI, 377, .inl f_p1))] H → va_D A [(g1, .inl (cI, 377, .inl f_p1))] → va_S A s.heap H locs → lv_has ls 7 [(0, .ref g1), (1, .int v1), (2, .int v2), (3, .int v3), (4, .int v4), (5, .int v5)] → W p l e ({ frames := 2, cells := 0, slots := 0, locals := 51 } : Room) s m args below meth c H locs 0 0 (MQ below (va_Qi (fun (r : Int32) (_ : Unit) => K r) (fun u t => xE D A ((fun (_ : Unit) => [(g1, .inl (cI, 377, .inl f_p1))]) u) t) A) args s 0 0 A) (F0 m 40 ls [.int t0]) := by
  obtain ⟨hx, hb, hr, hml, hown, hts, hlocks, hK, hN⟩ := id C0
  intro v1 v2 v3 v4 v5 t0 hk H locs ls hP hD hS hl
  rw [xp_X5_syncedBy_40] at hk
  refine lv_istore (lv' := [(6, .int t0), (0, .ref g1), (1, .int v1), (2, .int v2), (3, .int v3), (4, .int v4), (5, .int v5)]) hx hb dX5_syncedBy_40 hl (by decide) rfl (fun ls hl => ?_)
  refine lv_iload hx hb dX5_syncedBy_42 (lv_at hl 0 rfl) ?_
  refine lv_iload hx hb dX5_syncedBy_44 (lv_at hl 5 rfl) ?_
  refine lv_icmp_le (tgt := 54) hx hb dX5_syncedBy_46 (by decide) (fun c1 => ?_) (fun c1 => ?_)
  · have hk := hk.1 c1
    refine lv_iload_n hx hb dX5_syncedBy_54 rfl (lv_at hl 4 rfl) ?_
    exact xb_X5_syncedBy_55 C0 hA hX8 _ _ _ _ _ _ hk H locs ls hP hD hS (lv_sub hl [1, 2, 3, 5, 6, 0] rfl)
  · have hk := hk.2 c1
    refine lv_iload hx hb dX5_syncedBy_49 (lv_at hl 6 rfl) ?_
    refine lv_goto (tgt := 55) hx hb dX5_syncedBy_51 (by decide) ?_
    exact xb_X5_syncedBy_55 C0 hA hX8 _ _ _ _ _ _ hk H locs ls hP hD hS (lv_sub hl [1, 2, 3, 5, 6, 0] rfl)
set_option maxHeartbeats 4000000 in
set_option maxRecDepth 100000 in
theorem xb_X5_syncedBy_8 {p : Program} {l : Launch} {e : Env} {s : State} {m : MethodId} {args : Array Value} {below : List Frame} {meth : Method} {c : Code} {A : Nat → Prop} {D : va_G} {cI cC cZ cL : ClassId} {g1 : Nat}  {f_p1 : Nat → Int32} {K : Int32 → Prop}  (C0 : xC p s m args meth c cX5_syncedBy 7 (some .int) wsX5_syncedBy RX5 D (xTY cI cC cZ cL)) (hA : ∀ q : Nat, s.heap.size ≤ q → A q)  : ∀ (n : Nat) (v1 : Int32) (v2 : Int32) (v3 : Int32) (v4 : Int32) (v5 : Int32) , xp_X5_syncedBy_8 f_p1 K n v1 v2 v3 v4 v5 → ∀ (H : Heap) (locs : List Loc) (ls : Array Slot), va_P D vwCl [(g1, .inl (cI, 377, .inl f_p1))] H → va_D A [(g1, .inl (cI, 377, .inl f_p1))] → va_S A s.heap H locs → lv_has ls 7 [(0, .ref g1), (1, .int v1), (2, .int v2), (3, .int v3), (4, .int v4), (5, .int v5)] → W p l e ({ frames := 2, cells := 0, slots := 0, locals := 51 } : Room) s m args below meth c H locs 0 0 (MQ below (va_Qi (fun (r : Int32) (_ : Unit) => K r) (fun u t => xE D A ((fun (_ : Unit) => [(g1, .inl (cI, 377, .inl f_p1))]) u) t) A) args s 0 0 A) (F0 m 8 ls []) := by
  obtain ⟨hx, hb, hr, hml, hown, hts, hlocks, hK, hN⟩ := id C0
  intro n
  induction n with
  | zero => intro v1 v2 v3 v4 v5 hk; exact hk.elim
  | succ n ih =>
    intro v1 v2 v3 v4 v5 hk H locs ls hP hD hS hl
    rw [xp_X5_syncedBy_8] at hk
    refine lv_iload hx hb dX5_syncedBy_8 (lv_at hl 5 rfl) ?_
    refine lv_aload_n hx hb dX5_syncedBy_10 rfl (lv_at hl 0 rfl) ?_
    refine lv_iconst (v := 0) hx hb dX5_syncedBy_11 (by decide) ?_
    refine x_iald (k := 0) hx hb hK hP 0 0 rfl rfl (x_lit rfl (by decide) (by decide)) rfl (v := (f_p1 0)) rfl dX5_syncedBy_12 ?_
    refine lv_icmp_ge (tgt := 78) hx hb dX5_syncedBy_13 (by decide) (fun c1 => ?_) (fun c1 => ?_)
    · have hk := hk.1 c1
      refine lv_iload_n hx hb dX5_syncedBy_78 rfl (lv_at hl 3 rfl) ?_
      exact x_reti C0 () hk hP hD hS dX5_syncedBy_79
    · have hk := hk.2 c1
      refine lv_aload_n hx hb dX5_syncedBy_16 rfl (lv_at hl 0 rfl) ?_
      refine lv_iload hx hb dX5_syncedBy_17 (lv_at hl 5 rfl) ?_
      refine lv_bipush (v := 8) hx hb dX5_syncedBy_19 (by decide) ?_
      refine x_joini (ws1 := fun (_ : Unit) => [(g1, .inl (cI, 377, .inl f_p1))]) (x_runO (n0 := 3) (As := [.ref g1, .int v5, .int 8]) (rest := []) C0 (xc_X5_of l D cI cC cZ cL g1 H.size f_p1 v5 8 _ hk) gX5_syncedBy_X5_of rfl ⟨rfl, rfl⟩ (by decide +kernel) rfl ⟨by decide, by decide⟩ ⟨Nat.zero_le _, Nat.zero_le _⟩ hP hD [0] rfl rfl hl.1 rfl (Nat.le_of_ble_eq_true rfl) dX5_syncedBy_21) hP hD hS hA [0] [] [0] rfl rfl rfl (by decide) (fun _ => rfl) rfl (fun r2 u2 H locs hk hP hD hS => ?_)
      refine lv_iconst (v := (-1 : Int32)) hx hb dX5_syncedBy_24 (by decide) ?_
      refine lv_icmp_ne (tgt := 32) hx hb dX5_syncedBy_25 (by decide) (fun c3 => ?_) (fun c3 => ?_)
      · have hk := hk.1 c3
        refine lv_aload_n hx hb dX5_syncedBy_32 rfl (lv_at hl 0 rfl) ?_
        refine lv_iload_n hx hb dX5_syncedBy_33 rfl (lv_at hl 1 rfl) ?_
        refine lv_iload hx hb dX5_syncedBy_34 (lv_at hl 5 rfl) ?_
        refine lv_iload_n hx hb dX5_syncedBy_36 rfl (lv_at hl 2 rfl) ?_
        refine x_joini (ws1 := fun (_ : Unit) => [(g1, .inl (cI, 377, .inl f_p1))]) (x_runO (n0 := 4) (As := [.ref g1, .int v1, .int v5, .int v2]) (rest := []) C0 (xc_X5_overlap l D cI cC cZ cL g1 H.size f_p1 v1 v5 v2 _ hk) gX5_syncedBy_X5_overlap rfl ⟨rfl, rfl⟩ (by decide +kernel) rfl ⟨by decide, by decide⟩ ⟨Nat.zero_le _, Nat.zero_le _⟩ hP hD [0] rfl rfl hl.1 rfl (Nat.le_of_ble_eq_true rfl) dX5_syncedBy_37) hP hD hS hA [0] [] [0] rfl rfl rfl (by decide) (fun _ => rfl) rfl (fun r4 u4 H locs hk hP hD hS => ?_)
        exact xb_X5_syncedBy_40 C0 hA ih _ _ _ _ _ _ hk H locs ls hP hD hS (lv_sub hl [0, 1, 2, 3, 4, 5] rfl)
      · have hk := hk.2 c3
        refine lv_iconst (v := 0) hx hb dX5_syncedBy_28 (by decide) ?_
        refine lv_goto (tgt := 40) hx hb dX5_syncedBy_29 (by decide) ?_
        exact xb_X5_syncedBy_40 C0 hA ih _ _ _ _ _ _ hk H locs ls hP hD hS (lv_sub hl [0, 1, 2, 3, 4, 5] rfl)
set_option maxHeartbeats 4000000 in
set_option maxRecDepth 100000 in
theorem xb_X5_syncedBy_0 {p : Program} {l : Launch} {e : Env} {s : State} {m : MethodId} {args : Array Value} {below : List Frame} {meth : Method} {c : Code} {A : Nat → Prop} {D : va_G} {cI cC cZ cL : ClassId} {g1 : Nat}  {f_p1 : Nat → Int32} {K : Int32 → Prop}  (C0 : xC p s m args meth c cX5_syncedBy 7 (some .int) wsX5_syncedBy RX5 D (xTY cI cC cZ cL)) (hA : ∀ q : Nat, s.heap.size ≤ q → A q)  : ∀ (x2 : Int32) (x3 : Int32) , xp_X5_syncedBy f_p1 x2 x3 K → ∀ (H : Heap) (locs : List Loc) (ls : Array Slot), va_P D vwCl [(g1, .inl (cI, 377, .inl f_p1))] H → va_D A [(g1, .inl (cI, 377, .inl f_p1))] → va_S A s.heap H locs → lv_has ls 7 [(0, .ref g1), (1, .int x2), (2, .int x3)] → W p l e ({ frames := 2, cells := 0, slots := 0, locals := 51 } : Room) s m args below meth c H locs 0 0 (MQ below (va_Qi (fun (r : Int32) (_ : Unit) => K r) (fun u t => xE D A ((fun (_ : Unit) => [(g1, .inl (cI, 377, .inl f_p1))]) u) t) A) args s 0 0 A) (F0 m 0 ls []) := by
  obtain ⟨hx, hb, hr, hml, hown, hts, hlocks, hK, hN⟩ := id C0
  intro x2 x3 hk H locs ls hP hD hS hl
  rw [xp_X5_syncedBy] at hk
  refine lv_iconst (v := (-1 : Int32)) hx hb dX5_syncedBy_0 (by decide) ?_
  refine lv_istore_n (lv' := [(3, .int (-1 : Int32)), (0, .ref g1), (1, .int x2), (2, .int x3)]) hx hb dX5_syncedBy_1 rfl hl (by decide) rfl (fun ls hl => ?_)
  refine lv_iconst (v := 0) hx hb dX5_syncedBy_2 (by decide) ?_
  refine lv_istore (lv' := [(4, .int 0), (3, .int (-1 : Int32)), (0, .ref g1), (1, .int x2), (2, .int x3)]) hx hb dX5_syncedBy_3 hl (by decide) rfl (fun ls hl => ?_)
  refine lv_iconst (v := 0) hx hb dX5_syncedBy_5 (by decide) ?_
  refine lv_istore (lv' := [(5, .int 0), (4, .int 0), (3, .int (-1 : Int32)), (0, .ref g1), (1, .int x2), (2, .int x3)]) hx hb dX5_syncedBy_6 hl (by decide) rfl (fun ls hl => ?_)
  obtain ⟨n9, hk⟩ := hk
  exact xb_X5_syncedBy_8 C0 hA  n9 _ _ _ _ _ hk H locs ls hP hD hS (lv_sub hl [3, 4, 5, 2, 1, 0] rfl)
theorem xc_X5_syncedBy (l : Launch) (D : va_G) (cI cC cZ cL : ClassId) (g1 : Nat)  (sz : Nat) (f_p1 : Nat → Int32) (x2 : Int32) (x3 : Int32) (K : Int32 → Prop) (hk : xp_X5_syncedBy f_p1 x2 x3 K) : XMi l yX5_syncedBy wsX5_syncedBy ({ frames := 2, cells := 0, slots := 0, locals := 51 } : Room) D (xTY cI cC cZ cL) [.ref g1, .int x2, .int x3] [(g1, .inl (cI, 377, .inl f_p1))] sz (fun (r : Int32) (_ : Unit) => K r) (fun (_ : Unit) => [(g1, .inl (cI, 377, .inl f_p1))]) :=
  x_enter (cc := cX5_syncedBy) (maxL := 7) (ret := (some .int)) (own := RX5) (by decide) rfl rfl (Nat.le_of_ble_eq_true rfl) (fun p e s m below meth c ls C0 hA hP hD hS hl => xb_X5_syncedBy_0 C0 hA _ _ hk s.heap [] ls hP hD hS hl)
set_option maxHeartbeats 4000000 in
set_option maxRecDepth 100000 in
theorem xb_X5_astray_34 {p : Program} {l : Launch} {e : Env} {s : State} {m : MethodId} {args : Array Value} {below : List Frame} {meth : Method} {c : Code} {A : Nat → Prop} {D : va_G} {cI cC cZ cL : ClassId} {g1 : Nat}  {f_p1 : Nat → Int32} {K : Int32 → Prop} {X4 : Int32 → Int32 → Prop} (C0 : xC p s m args meth c cX5_astray 3 (some .int) wsX5_astray RX5 D (xTY cI cC cZ cL)) (hA : ∀ q : Nat, s.heap.size ≤ q → A q) (hX4 : ∀ (v1 : Int32) (v2 : Int32), X4 v1 v2 → ∀ (H : Heap) (locs : List Loc) (ls : Array Slot), va_P D vwCl [(g1, .inl (cI, 377, .inl f_p1))] H → va_D A [(g1, .inl (cI, 377, .inl f_p1))] → va_S A s.heap H locs → lv_has ls 3 [(0, .ref g1), (1, .int v1), (2, .int v2)] → W p l e ({ frames := 3, cells := 0, slots := 0, locals := 77 } : Room) s m args below meth c H locs 0 0 (MQ below (va_Qi (fun (r : Int32) (_ : Unit) => K r) (fun u t => xE D A ((fun (_ : Unit) => [(g1, .inl (cI, 377, .inl f_p1))]) u) t) A) args s 0 0 A) (F0 m 4 ls [])) : ∀ (v2 : Int32) (t0 : Int32) (t1 : Int32) (t2 : Int32) , xp_X5_astray_34 f_p1 K X4 v2 t0 t1 t2 → ∀ (H : Heap) (locs : List Loc) (ls : Array Slot), va_P D vwCl [(g1, .inl (cI, 377, .inl f_p1))] H → va_D A [(g1, .inl (cI, 377, .inl f_p1))] → va_S A s.heap H locs → lv_has ls 3 [(0, .ref g1), (2, .int v2)] → W p l e ({ frames := 3, cells := 0, slots := 0, locals := 77 } : Room) s m args below meth c H locs 0 0 (MQ below (va_Qi (fun (r : Int32) (_ : Unit) => K r) (fun u t => xE D A ((fun (_ : Unit) => [(g1, .inl (cI, 377, .inl f_p1))]) u) t) A) args s 0 0 A) (F0 m 34 ls [.int t0, .int t1, .int t2]) := by
  obtain ⟨hx, hb, hr, hml, hown, hts, hlocks, hK, hN⟩ := id C0
  intro v2 t0 t1 t2 hk H locs ls hP hD hS hl
  rw [xp_X5_astray_34] at hk
  refine lv_icmp_ne (tgt := 41) hx hb dX5_astray_34 (by decide) (fun c1 => ?_) (fun c1 => ?_)
  · have hk := hk.1 c1
    refine lv_iconst (v := 1) hx hb dX5_astray_41 (by decide) ?_
    refine lv_iadd hx hb dX5_astray_42 ?_
    refine lv_istore_n (lv' := [(1, .int (t2 + 1)), (0, .ref g1), (2, .int v2)]) hx hb dX5_astray_43 rfl hl (by decide) rfl (fun ls hl => ?_)
    refine lv_iinc (v := (v2 + 1)) (lv' := [(2, .int (v2 + 1)), (1, .int (t2 + 1)), (0, .ref g1)]) hx hb dX5_astray_44 hl (k := 2) rfl rfl (by decide) rfl (fun ls hl => ?_)
    refine lv_goto (tgt := 4) hx hb dX5_astray_47 (by decide) ?_
    exact hX4 _ _ hk H locs ls hP hD hS (lv_sub hl [2, 1, 0] rfl)
  · have hk := hk.2 c1
    refine lv_iconst (v := 0) hx hb dX5_astray_37 (by decide) ?_
    refine lv_goto (tgt := 42) hx hb dX5_astray_38 (by decide) ?_
    refine lv_iadd hx hb dX5_astray_42 ?_
    refine lv_istore_n (lv' := [(1, .int (t2 + 0)), (0, .ref g1), (2, .int v2)]) hx hb dX5_astray_43 rfl hl (by decide) rfl (fun ls hl => ?_)
    refine lv_iinc (v := (v2 + 1)) (lv' := [(2, .int (v2 + 1)), (1, .int (t2 + 0)), (0, .ref g1)]) hx hb dX5_astray_44 hl (k := 2) rfl rfl (by decide) rfl (fun ls hl => ?_)
    refine lv_goto (tgt := 4) hx hb dX5_astray_47 (by decide) ?_
    exact hX4 _ _ hk H locs ls hP hD hS (lv_sub hl [2, 1, 0] rfl)
set_option maxHeartbeats 4000000 in
set_option maxRecDepth 100000 in
theorem xb_X5_astray_4 {p : Program} {l : Launch} {e : Env} {s : State} {m : MethodId} {args : Array Value} {below : List Frame} {meth : Method} {c : Code} {A : Nat → Prop} {D : va_G} {cI cC cZ cL : ClassId} {g1 : Nat}  {f_p1 : Nat → Int32} {K : Int32 → Prop}  (C0 : xC p s m args meth c cX5_astray 3 (some .int) wsX5_astray RX5 D (xTY cI cC cZ cL)) (hA : ∀ q : Nat, s.heap.size ≤ q → A q)  : ∀ (n : Nat) (v1 : Int32) (v2 : Int32) , xp_X5_astray_4 f_p1 K n v1 v2 → ∀ (H : Heap) (locs : List Loc) (ls : Array Slot), va_P D vwCl [(g1, .inl (cI, 377, .inl f_p1))] H → va_D A [(g1, .inl (cI, 377, .inl f_p1))] → va_S A s.heap H locs → lv_has ls 3 [(0, .ref g1), (1, .int v1), (2, .int v2)] → W p l e ({ frames := 3, cells := 0, slots := 0, locals := 77 } : Room) s m args below meth c H locs 0 0 (MQ below (va_Qi (fun (r : Int32) (_ : Unit) => K r) (fun u t => xE D A ((fun (_ : Unit) => [(g1, .inl (cI, 377, .inl f_p1))]) u) t) A) args s 0 0 A) (F0 m 4 ls []) := by
  obtain ⟨hx, hb, hr, hml, hown, hts, hlocks, hK, hN⟩ := id C0
  intro n
  induction n with
  | zero => intro v1 v2 hk; exact hk.elim
  | succ n ih =>
    intro v1 v2 hk H locs ls hP hD hS hl
    rw [xp_X5_astray_4] at hk
    refine lv_iload_n hx hb dX5_astray_4 rfl (lv_at hl 2 rfl) ?_
    refine lv_aload_n hx hb dX5_astray_5 rfl (lv_at hl 0 rfl) ?_
    refine lv_iconst (v := 0) hx hb dX5_astray_6 (by decide) ?_
    refine x_iald (k := 0) hx hb hK hP 0 0 rfl rfl (x_lit rfl (by decide) (by decide)) rfl (v := (f_p1 0)) rfl dX5_astray_7 ?_
    refine lv_icmp_ge (tgt := 50) hx hb dX5_astray_8 (by decide) (fun c1 => ?_) (fun c1 => ?_)
    · have hk := hk.1 c1
      refine lv_iload_n hx hb dX5_astray_50 rfl (lv_at hl 1 rfl) ?_
      exact x_reti C0 () hk hP hD hS dX5_astray_51
    · have hk := hk.2 c1
      refine lv_iload_n hx hb dX5_astray_11 rfl (lv_at hl 1 rfl) ?_
      refine lv_aload_n hx hb dX5_astray_12 rfl (lv_at hl 0 rfl) ?_
      refine lv_iload_n hx hb dX5_astray_13 rfl (lv_at hl 2 rfl) ?_
      refine lv_iconst (v := 0) hx hb dX5_astray_14 (by decide) ?_
      refine x_joini (ws1 := fun (_ : Unit) => [(g1, .inl (cI, 377, .inl f_p1))]) (x_runO (n0 := 3) (As := [.ref g1, .int v2, .int 0]) (rest := [.int v1]) C0 (xc_X5_syncedBy l D cI cC cZ cL g1 H.size f_p1 v2 0 _ hk) gX5_astray_X5_syncedBy rfl ⟨rfl, rfl⟩ (by decide +kernel) rfl ⟨by decide, by decide⟩ ⟨Nat.zero_le _, Nat.zero_le _⟩ hP hD [0] rfl rfl hl.1 rfl (Nat.le_of_ble_eq_true rfl) dX5_astray_15) hP hD hS hA [0] [] [0] rfl rfl rfl (by decide) (fun _ => rfl) rfl (fun r2 u2 H locs hk hP hD hS => ?_)
      refine lv_aload_n hx hb dX5_astray_18 rfl (lv_at hl 0 rfl) ?_
      refine lv_iload_n hx hb dX5_astray_19 rfl (lv_at hl 2 rfl) ?_
      refine lv_bipush (v := 8) hx hb dX5_astray_20 (by decide) ?_
      refine x_joini (ws1 := fun (_ : Unit) => [(g1, .inl (cI, 377, .inl f_p1))]) (x_runO (n0 := 3) (As := [.ref g1, .int v2, .int 8]) (rest := [.int r2, .int v1]) C0 (xc_X5_of l D cI cC cZ cL g1 H.size f_p1 v2 8 _ hk) gX5_astray_X5_of rfl ⟨rfl, rfl⟩ (by decide +kernel) rfl ⟨by decide, by decide⟩ ⟨Nat.zero_le _, Nat.zero_le _⟩ hP hD [0] rfl rfl hl.1 rfl (Nat.le_of_ble_eq_true rfl) dX5_astray_22) hP hD hS hA [0] [] [0] rfl rfl rfl (by decide) (fun _ => rfl) rfl (fun r3 u3 H locs hk hP hD hS => ?_)
      refine lv_iconst (v := (-1 : Int32)) hx hb dX5_astray_25 (by decide) ?_
      refine lv_icmp_ne (tgt := 33) hx hb dX5_astray_26 (by decide) (fun c4 => ?_) (fun c4 => ?_)
      · have hk := hk.1 c4
        refine lv_iload_n hx hb dX5_astray_33 rfl (lv_at hl 2 rfl) ?_
        exact xb_X5_astray_34 C0 hA ih _ _ _ _ hk H locs ls hP hD hS (lv_sub hl [0, 2] rfl)
      · have hk := hk.2 c4
        refine lv_iconst (v := (-1 : Int32)) hx hb dX5_astray_29 (by decide) ?_
        refine lv_goto (tgt := 34) hx hb dX5_astray_30 (by decide) ?_
        exact xb_X5_astray_34 C0 hA ih _ _ _ _ hk H locs ls hP hD hS (lv_sub hl [0, 2] rfl)
set_option maxHeartbeats 4000000 in
set_option maxRecDepth 100000 in
theorem xb_X5_astray_0 {p : Program} {l : Launch} {e : Env} {s : State} {m : MethodId} {args : Array Value} {below : List Frame} {meth : Method} {c : Code} {A : Nat → Prop} {D : va_G} {cI cC cZ cL : ClassId} {g1 : Nat}  {f_p1 : Nat → Int32} {K : Int32 → Prop}  (C0 : xC p s m args meth c cX5_astray 3 (some .int) wsX5_astray RX5 D (xTY cI cC cZ cL)) (hA : ∀ q : Nat, s.heap.size ≤ q → A q)  : xp_X5_astray f_p1 K → ∀ (H : Heap) (locs : List Loc) (ls : Array Slot), va_P D vwCl [(g1, .inl (cI, 377, .inl f_p1))] H → va_D A [(g1, .inl (cI, 377, .inl f_p1))] → va_S A s.heap H locs → lv_has ls 3 [(0, .ref g1)] → W p l e ({ frames := 3, cells := 0, slots := 0, locals := 77 } : Room) s m args below meth c H locs 0 0 (MQ below (va_Qi (fun (r : Int32) (_ : Unit) => K r) (fun u t => xE D A ((fun (_ : Unit) => [(g1, .inl (cI, 377, .inl f_p1))]) u) t) A) args s 0 0 A) (F0 m 0 ls []) := by
  obtain ⟨hx, hb, hr, hml, hown, hts, hlocks, hK, hN⟩ := id C0
  intro  hk H locs ls hP hD hS hl
  rw [xp_X5_astray] at hk
  refine lv_iconst (v := 0) hx hb dX5_astray_0 (by decide) ?_
  refine lv_istore_n (lv' := [(1, .int 0), (0, .ref g1)]) hx hb dX5_astray_1 rfl hl (by decide) rfl (fun ls hl => ?_)
  refine lv_iconst (v := 0) hx hb dX5_astray_2 (by decide) ?_
  refine lv_istore_n (lv' := [(2, .int 0), (1, .int 0), (0, .ref g1)]) hx hb dX5_astray_3 rfl hl (by decide) rfl (fun ls hl => ?_)
  obtain ⟨n9, hk⟩ := hk
  exact xb_X5_astray_4 C0 hA  n9 _ _ hk H locs ls hP hD hS (lv_sub hl [2, 1, 0] rfl)
theorem xc_X5_astray (l : Launch) (D : va_G) (cI cC cZ cL : ClassId) (g1 : Nat)  (sz : Nat) (f_p1 : Nat → Int32)  (K : Int32 → Prop) (hk : xp_X5_astray f_p1 K) : XMi l yX5_astray wsX5_astray ({ frames := 3, cells := 0, slots := 0, locals := 77 } : Room) D (xTY cI cC cZ cL) [.ref g1] [(g1, .inl (cI, 377, .inl f_p1))] sz (fun (r : Int32) (_ : Unit) => K r) (fun (_ : Unit) => [(g1, .inl (cI, 377, .inl f_p1))]) :=
  x_enter (cc := cX5_astray) (maxL := 3) (ret := (some .int)) (own := RX5) (by decide) rfl rfl (Nat.le_of_ble_eq_true rfl) (fun p e s m below meth c ls C0 hA hP hD hS hl => xb_X5_astray_0 C0 hA  hk s.heap [] ls hP hD hS hl)
set_option maxRecDepth 20000 in
theorem xin_X5_append_X5 : ∀ w ∈ u_ws RX5 TX5 13, w ∈ wsX5_append := by decide +kernel
set_option maxHeartbeats 4000000 in
set_option maxRecDepth 100000 in
theorem xb_X5_append_31 {p : Program} {l : Launch} {e : Env} {s : State} {m : MethodId} {args : Array Value} {below : List Frame} {meth : Method} {c : Code} {A : Nat → Prop} {D : va_G} {cI cC cZ cL : ClassId} {h h_text h_now h_trial h_diary h_kept h_isKept h_line : Nat}  {f_acts : Int32} {f_length : Int32} {f_spot : Int32} {f_out : Int32} {K : Int32 → (Int32 × (Nat → Int32) × Int32) → Prop}  (C0 : xC p s m args meth c cX5_append 2 (some .int) wsX5_append RX5 D (xTY cI cC cZ cL)) (hA : ∀ q : Nat, s.heap.size ≤ q → A q)  : ∀ (f_refusal : Int32) (f_text : Nat → Int32) (f_size : Int32) (v1 : Int32) (t0 : Int32) , xp_X5_append_31 K f_refusal f_text f_size v1 t0 → ∀ (H : Heap) (locs : List Loc) (ls : Array Slot), va_P D vwCl [(h, .inr (5, [.int f_refusal, .ref h_text, .int f_size, .ref h_now, .ref h_trial, .ref h_diary, .int f_acts, .ref h_kept, .ref h_isKept, .ref h_line, .int f_length, .int f_spot, .int f_out])), (h_text, .inl (cI, 120, .inl f_text))] H → va_D A [(h, .inr (5, [.int f_refusal, .ref h_text, .int f_size, .ref h_now, .ref h_trial, .ref h_diary, .int f_acts, .ref h_kept, .ref h_isKept, .ref h_line, .int f_length, .int f_spot, .int f_out])), (h_text, .inl (cI, 120, .inl f_text))] → va_S A s.heap H locs → lv_has ls 2 [(0, .ref h), (1, .int v1)] → W p l e ({ frames := 1, cells := 0, slots := 0, locals := 25 } : Room) s m args below meth c H locs 0 0 (MQ below (va_Qi (fun (r : Int32) (u : Int32 × (Nat → Int32) × Int32) => K r u) (fun u t => xE D A ((fun (u : Int32 × (Nat → Int32) × Int32) => [(h, .inr (5, [.int u.1, .ref h_text, .int u.2.2, .ref h_now, .ref h_trial, .ref h_diary, .int f_acts, .ref h_kept, .ref h_isKept, .ref h_line, .int f_length, .int f_spot, .int f_out])), (h_text, .inl (cI, 120, .inl u.2.1))]) u) t) A) args s 0 0 A) (F0 m 31 ls [.int t0, .ref h]) := by
  obtain ⟨hx, hb, hr, hml, hown, hts, hlocks, hK, hN⟩ := id C0
  intro f_refusal f_text f_size v1 t0 hk H locs ls hP hD hS hl
  rw [xp_X5_append_31] at hk
  refine x_joini (ws1 := fun (u1 : Int32) => [(h, .inr (5, [.int u1, .ref h_text, .int f_size, .ref h_now, .ref h_trial, .ref h_diary, .int f_acts, .ref h_kept, .ref h_isKept, .ref h_line, .int f_length, .int f_spot, .int f_out])), (h_text, .inl (cI, 120, .inl f_text))]) (x_runV (n0 := 1) (As := [.int t0]) (rest := []) C0 (xc_X5_refused l D cI cC cZ cL h h_text h_now h_trial h_diary h_kept h_isKept h_line H.size f_refusal f_size f_acts f_length f_spot f_out t0 _ hk) gX5_append_X5_refused rfl ⟨rfl, rfl⟩ (by decide +kernel) rfl ⟨by decide, by decide⟩ ⟨Nat.zero_le _, Nat.zero_le _⟩ hP hD [0] rfl rfl (k := 0) rfl rfl rfl hl.1 rfl (Nat.le_of_ble_eq_true rfl) dX5_append_31) hP hD hS hA [0] [1] [1, 0] rfl rfl rfl (by decide) (fun _ => rfl) rfl (fun r1 u1 H locs hk hP hD hS => ?_)
  refine lv_if_eq (tgt := 39) hx hb dX5_append_34 (by decide) (fun c2 => ?_) (fun c2 => ?_)
  · have hk := hk.1 c2
    refine lv_aload_n hx hb dX5_append_39 rfl (lv_at hl 0 rfl) ?_
    refine va_get (D := D) (ci := 5) (v := .ref h_text) (C := RX5) (T := TX5) (N := 13) hx hb hts xin_X5_append_X5 hown hK hP 0 rfl rfl 1 (by decide) (hts (.fieldLink RX5 7 "TakeLogModel" "text" "[I") (by decide +kernel)) (fun _ h9 => h9) rfl dX5_append_40 ?_
    refine lv_aload_n hx hb dX5_append_43 rfl (lv_at hl 0 rfl) ?_
    refine va_get (D := D) (ci := 5) (v := .int f_size) (C := RX5) (T := TX5) (N := 13) hx hb hts xin_X5_append_X5 hown hK hP 0 rfl rfl 2 (by decide) (hts (.fieldLink RX5 100 "TakeLogModel" "size" "I") (by decide +kernel)) (fun _ h9 => h9) rfl dX5_append_44 ?_
    refine lv_iload_n hx hb dX5_append_47 rfl (lv_at hl 1 rfl) ?_
    refine x_iast hx hb hK hP hD hS 1 0 rfl rfl hk.1 rfl dX5_append_48 (fun H locs hP hD hS => ?_)
    have hk := hk.2
    have hP : va_P D vwCl [(h, .inr (5, [.int u1, .ref h_text, .int f_size, .ref h_now, .ref h_trial, .ref h_diary, .int f_acts, .ref h_kept, .ref h_isKept, .ref h_line, .int f_length, .int f_spot, .int f_out])), (h_text, .inl (cI, 120, .inl (upd f_text f_size.toNatClampNeg v1)))] H := hP
    have hD : va_D A [(h, .inr (5, [.int u1, .ref h_text, .int f_size, .ref h_now, .ref h_trial, .ref h_diary, .int f_acts, .ref h_kept, .ref h_isKept, .ref h_line, .int f_length, .int f_spot, .int f_out])), (h_text, .inl (cI, 120, .inl (upd f_text f_size.toNatClampNeg v1)))] := hD
    refine lv_aload_n hx hb dX5_append_49 rfl (lv_at hl 0 rfl) ?_
    refine lv_dup hx hb dX5_append_50 rfl ?_
    refine va_get (D := D) (ci := 5) (v := .int f_size) (C := RX5) (T := TX5) (N := 13) hx hb hts xin_X5_append_X5 hown hK hP 0 rfl rfl 2 (by decide) (hts (.fieldLink RX5 100 "TakeLogModel" "size" "I") (by decide +kernel)) (fun _ h9 => h9) rfl dX5_append_51 ?_
    refine lv_iconst (v := 1) hx hb dX5_append_54 (by decide) ?_
    refine lv_iadd hx hb dX5_append_55 ?_
    refine va_put (D := D) (ci := 5) (v := .int (f_size + 1)) (ty := .int) (C := RX5) (T := TX5) (N := 13) hx hb hts xin_X5_append_X5 tyX5 tyX5_ok nmX5 hown hK hP hD hS 0 rfl rfl 2 (by decide) (hts (.fieldLink RX5 100 "TakeLogModel" "size" "I") (by decide +kernel)) (fun _ h9 => h9) rfl (by decide +kernel) rfl rfl (Nat.le_of_ble_eq_true rfl) dX5_append_56 (fun H locs hP hD hS => ?_)
    have hP : va_P D vwCl [(h, .inr (5, [.int u1, .ref h_text, .int (f_size + 1), .ref h_now, .ref h_trial, .ref h_diary, .int f_acts, .ref h_kept, .ref h_isKept, .ref h_line, .int f_length, .int f_spot, .int f_out])), (h_text, .inl (cI, 120, .inl (upd f_text f_size.toNatClampNeg v1)))] H := hP
    have hD : va_D A [(h, .inr (5, [.int u1, .ref h_text, .int (f_size + 1), .ref h_now, .ref h_trial, .ref h_diary, .int f_acts, .ref h_kept, .ref h_isKept, .ref h_line, .int f_length, .int f_spot, .int f_out])), (h_text, .inl (cI, 120, .inl (upd f_text f_size.toNatClampNeg v1)))] := hD
    refine lv_aload_n hx hb dX5_append_59 rfl (lv_at hl 0 rfl) ?_
    refine va_get (D := D) (ci := 5) (v := .int (f_size + 1)) (C := RX5) (T := TX5) (N := 13) hx hb hts xin_X5_append_X5 hown hK hP 0 rfl rfl 2 (by decide) (hts (.fieldLink RX5 100 "TakeLogModel" "size" "I") (by decide +kernel)) (fun _ h9 => h9) rfl dX5_append_60 ?_
    exact x_reti C0 (u1, upd f_text f_size.toNatClampNeg v1, f_size + 1) hk hP hD hS dX5_append_63
  · have hk := hk.2 c2
    refine lv_iconst (v := 0) hx hb dX5_append_37 (by decide) ?_
    exact x_reti C0 (u1, f_text, f_size) hk hP hD hS dX5_append_38
set_option maxHeartbeats 4000000 in
set_option maxRecDepth 100000 in
theorem xb_X5_append_0 {p : Program} {l : Launch} {e : Env} {s : State} {m : MethodId} {args : Array Value} {below : List Frame} {meth : Method} {c : Code} {A : Nat → Prop} {D : va_G} {cI cC cZ cL : ClassId} {h h_text h_now h_trial h_diary h_kept h_isKept h_line : Nat}  {f_acts : Int32} {f_length : Int32} {f_spot : Int32} {f_out : Int32} {K : Int32 → (Int32 × (Nat → Int32) × Int32) → Prop}  (C0 : xC p s m args meth c cX5_append 2 (some .int) wsX5_append RX5 D (xTY cI cC cZ cL)) (hA : ∀ q : Nat, s.heap.size ≤ q → A q)  : ∀ (f_refusal : Int32) (f_text : Nat → Int32) (f_size : Int32) (x1 : Int32) , xp_X5_append f_refusal f_text f_size x1 K → ∀ (H : Heap) (locs : List Loc) (ls : Array Slot), va_P D vwCl [(h, .inr (5, [.int f_refusal, .ref h_text, .int f_size, .ref h_now, .ref h_trial, .ref h_diary, .int f_acts, .ref h_kept, .ref h_isKept, .ref h_line, .int f_length, .int f_spot, .int f_out])), (h_text, .inl (cI, 120, .inl f_text))] H → va_D A [(h, .inr (5, [.int f_refusal, .ref h_text, .int f_size, .ref h_now, .ref h_trial, .ref h_diary, .int f_acts, .ref h_kept, .ref h_isKept, .ref h_line, .int f_length, .int f_spot, .int f_out])), (h_text, .inl (cI, 120, .inl f_text))] → va_S A s.heap H locs → lv_has ls 2 [(0, .ref h), (1, .int x1)] → W p l e ({ frames := 1, cells := 0, slots := 0, locals := 25 } : Room) s m args below meth c H locs 0 0 (MQ below (va_Qi (fun (r : Int32) (u : Int32 × (Nat → Int32) × Int32) => K r u) (fun u t => xE D A ((fun (u : Int32 × (Nat → Int32) × Int32) => [(h, .inr (5, [.int u.1, .ref h_text, .int u.2.2, .ref h_now, .ref h_trial, .ref h_diary, .int f_acts, .ref h_kept, .ref h_isKept, .ref h_line, .int f_length, .int f_spot, .int f_out])), (h_text, .inl (cI, 120, .inl u.2.1))]) u) t) A) args s 0 0 A) (F0 m 0 ls []) := by
  obtain ⟨hx, hb, hr, hml, hown, hts, hlocks, hK, hN⟩ := id C0
  intro f_refusal f_text f_size x1 hk H locs ls hP hD hS hl
  rw [xp_X5_append] at hk
  refine lv_aload_n hx hb dX5_append_0 rfl (lv_at hl 0 rfl) ?_
  refine lv_iload_n hx hb dX5_append_1 rfl (lv_at hl 1 rfl) ?_
  refine lv_i2l hx hb dX5_append_2 rfl ?_
  refine lv_lconst (v := 0) hx hb dX5_append_3 (by decide) ?_
  refine lv_ldc2 (own := RX5) hx hb hown (hts (.constantLong RX5 98 (255)) (by decide +kernel)) dX5_append_4 ?_
  refine x_joini (ws1 := fun (_ : Unit) => [(h, .inr (5, [.int f_refusal, .ref h_text, .int f_size, .ref h_now, .ref h_trial, .ref h_diary, .int f_acts, .ref h_kept, .ref h_isKept, .ref h_line, .int f_length, .int f_spot, .int f_out])), (h_text, .inl (cI, 120, .inl f_text))]) (x_runO (n0 := 3) (As := [.long x1.toInt64, .long 0, .long 255]) (rest := [.ref h]) C0 (xc_X5_in l D cI cC cZ cL  H.size x1.toInt64 0 255 _ hk) gX5_append_X5_in rfl ⟨rfl, rfl⟩ (by decide +kernel) rfl ⟨by decide, by decide⟩ ⟨Nat.zero_le _, Nat.zero_le _⟩ hP hD [] rfl rfl hl.1 rfl (Nat.le_of_ble_eq_true rfl) dX5_append_7) hP hD hS hA [] [0, 1] [0, 1] rfl rfl rfl (by decide) (fun _ => rfl) rfl (fun r1 u1 H locs hk hP hD hS => ?_)
  refine lv_if_ne (tgt := 17) hx hb dX5_append_10 (by decide) (fun c2 => ?_) (fun c2 => ?_)
  · have hk := hk.1 c2
    refine lv_aload_n hx hb dX5_append_17 rfl (lv_at hl 0 rfl) ?_
    refine va_get (D := D) (ci := 5) (v := .int f_size) (C := RX5) (T := TX5) (N := 13) hx hb hts xin_X5_append_X5 hown hK hP 0 rfl rfl 2 (by decide) (hts (.fieldLink RX5 100 "TakeLogModel" "size" "I") (by decide +kernel)) (fun _ h9 => h9) rfl dX5_append_18 ?_
    refine lv_bipush (v := 120) hx hb dX5_append_21 (by decide) ?_
    refine lv_icmp_ne (tgt := 30) hx hb dX5_append_23 (by decide) (fun c3 => ?_) (fun c3 => ?_)
    · have hk := hk.1 c3
      refine lv_iconst (v := 0) hx hb dX5_append_30 (by decide) ?_
      exact xb_X5_append_31 C0 hA  _ _ _ _ _ hk H locs ls hP hD hS (lv_sub hl [0, 1] rfl)
    · have hk := hk.2 c3
      refine lv_iconst (v := 2) hx hb dX5_append_26 (by decide) ?_
      refine lv_goto (tgt := 31) hx hb dX5_append_27 (by decide) ?_
      exact xb_X5_append_31 C0 hA  _ _ _ _ _ hk H locs ls hP hD hS (lv_sub hl [0, 1] rfl)
  · have hk := hk.2 c2
    refine lv_iconst (v := 1) hx hb dX5_append_13 (by decide) ?_
    refine lv_goto (tgt := 31) hx hb dX5_append_14 (by decide) ?_
    exact xb_X5_append_31 C0 hA  _ _ _ _ _ hk H locs ls hP hD hS (lv_sub hl [0, 1] rfl)
theorem xc_X5_append (l : Launch) (D : va_G) (cI cC cZ cL : ClassId) (h h_text h_now h_trial h_diary h_kept h_isKept h_line : Nat)  (sz : Nat) (f_refusal : Int32) (f_size : Int32) (f_acts : Int32) (f_length : Int32) (f_spot : Int32) (f_out : Int32) (f_text : Nat → Int32) (x1 : Int32) (K : Int32 → (Int32 × (Nat → Int32) × Int32) → Prop) (hk : xp_X5_append f_refusal f_text f_size x1 K) : XMi l yX5_append wsX5_append ({ frames := 1, cells := 0, slots := 0, locals := 25 } : Room) D (xTY cI cC cZ cL) [.ref h, .int x1] [(h, .inr (5, [.int f_refusal, .ref h_text, .int f_size, .ref h_now, .ref h_trial, .ref h_diary, .int f_acts, .ref h_kept, .ref h_isKept, .ref h_line, .int f_length, .int f_spot, .int f_out])), (h_text, .inl (cI, 120, .inl f_text))] sz (fun (r : Int32) (u : Int32 × (Nat → Int32) × Int32) => K r u) (fun (u : Int32 × (Nat → Int32) × Int32) => [(h, .inr (5, [.int u.1, .ref h_text, .int u.2.2, .ref h_now, .ref h_trial, .ref h_diary, .int f_acts, .ref h_kept, .ref h_isKept, .ref h_line, .int f_length, .int f_spot, .int f_out])), (h_text, .inl (cI, 120, .inl u.2.1))]) :=
  x_enter (cc := cX5_append) (maxL := 2) (ret := (some .int)) (own := RX5) (by decide) rfl rfl (Nat.le_of_ble_eq_true rfl) (fun p e s m below meth c ls C0 hA hP hD hS hl => xb_X5_append_0 C0 hA _ _ _ _ hk s.heap [] ls hP hD hS hl)
set_option maxRecDepth 20000 in
theorem xin_X5_clearText_X5 : ∀ w ∈ u_ws RX5 TX5 13, w ∈ wsX5_clearText := by decide +kernel
set_option maxHeartbeats 4000000 in
set_option maxRecDepth 100000 in
theorem xb_X5_clearText_0 {p : Program} {l : Launch} {e : Env} {s : State} {m : MethodId} {args : Array Value} {below : List Frame} {meth : Method} {c : Code} {A : Nat → Prop} {D : va_G} {cI cC cZ cL : ClassId} {h h_text h_now h_trial h_diary h_kept h_isKept h_line : Nat}  {f_acts : Int32} {f_length : Int32} {f_spot : Int32} {f_out : Int32} {K : Int32 → (Int32 × Int32) → Prop}  (C0 : xC p s m args meth c cX5_clearText 2 (some .int) wsX5_clearText RX5 D (xTY cI cC cZ cL)) (hA : ∀ q : Nat, s.heap.size ≤ q → A q)  : ∀ (f_refusal : Int32) (f_size : Int32) , xp_X5_clearText f_refusal f_size K → ∀ (H : Heap) (locs : List Loc) (ls : Array Slot), va_P D vwCl [(h, .inr (5, [.int f_refusal, .ref h_text, .int f_size, .ref h_now, .ref h_trial, .ref h_diary, .int f_acts, .ref h_kept, .ref h_isKept, .ref h_line, .int f_length, .int f_spot, .int f_out]))] H → va_D A [(h, .inr (5, [.int f_refusal, .ref h_text, .int f_size, .ref h_now, .ref h_trial, .ref h_diary, .int f_acts, .ref h_kept, .ref h_isKept, .ref h_line, .int f_length, .int f_spot, .int f_out]))] → va_S A s.heap H locs → lv_has ls 2 [(0, .ref h)] → W p l e ({ frames := 0, cells := 0, slots := 0, locals := 0 } : Room) s m args below meth c H locs 0 0 (MQ below (va_Qi (fun (r : Int32) (u : Int32 × Int32) => K r u) (fun u t => xE D A ((fun (u : Int32 × Int32) => [(h, .inr (5, [.int u.1, .ref h_text, .int u.2, .ref h_now, .ref h_trial, .ref h_diary, .int f_acts, .ref h_kept, .ref h_isKept, .ref h_line, .int f_length, .int f_spot, .int f_out]))]) u) t) A) args s 0 0 A) (F0 m 0 ls []) := by
  obtain ⟨hx, hb, hr, hml, hown, hts, hlocks, hK, hN⟩ := id C0
  intro f_refusal f_size hk H locs ls hP hD hS hl
  rw [xp_X5_clearText] at hk
  refine lv_aload_n hx hb dX5_clearText_0 rfl (lv_at hl 0 rfl) ?_
  refine lv_iconst (v := 0) hx hb dX5_clearText_1 (by decide) ?_
  refine va_put (D := D) (ci := 5) (v := .int 0) (ty := .int) (C := RX5) (T := TX5) (N := 13) hx hb hts xin_X5_clearText_X5 tyX5 tyX5_ok nmX5 hown hK hP hD hS 0 rfl rfl 0 (by decide) (hts (.fieldLink RX5 36 "TakeLogModel" "refusal" "I") (by decide +kernel)) (fun _ h9 => h9) rfl (by decide +kernel) rfl rfl (Nat.le_of_ble_eq_true rfl) dX5_clearText_2 (fun H locs hP hD hS => ?_)
  have hP : va_P D vwCl [(h, .inr (5, [.int 0, .ref h_text, .int f_size, .ref h_now, .ref h_trial, .ref h_diary, .int f_acts, .ref h_kept, .ref h_isKept, .ref h_line, .int f_length, .int f_spot, .int f_out]))] H := hP
  have hD : va_D A [(h, .inr (5, [.int 0, .ref h_text, .int f_size, .ref h_now, .ref h_trial, .ref h_diary, .int f_acts, .ref h_kept, .ref h_isKept, .ref h_line, .int f_length, .int f_spot, .int f_out]))] := hD
  refine lv_aload_n hx hb dX5_clearText_5 rfl (lv_at hl 0 rfl) ?_
  refine va_get (D := D) (ci := 5) (v := .int f_size) (C := RX5) (T := TX5) (N := 13) hx hb hts xin_X5_clearText_X5 hown hK hP 0 rfl rfl 2 (by decide) (hts (.fieldLink RX5 100 "TakeLogModel" "size" "I") (by decide +kernel)) (fun _ h9 => h9) rfl dX5_clearText_6 ?_
  refine lv_istore_n (lv' := [(1, .int f_size), (0, .ref h)]) hx hb dX5_clearText_9 rfl hl (by decide) rfl (fun ls hl => ?_)
  refine lv_aload_n hx hb dX5_clearText_10 rfl (lv_at hl 1 rfl) ?_
  refine lv_iconst (v := 0) hx hb dX5_clearText_11 (by decide) ?_
  refine va_put (D := D) (ci := 5) (v := .int 0) (ty := .int) (C := RX5) (T := TX5) (N := 13) hx hb hts xin_X5_clearText_X5 tyX5 tyX5_ok nmX5 hown hK hP hD hS 0 rfl rfl 2 (by decide) (hts (.fieldLink RX5 100 "TakeLogModel" "size" "I") (by decide +kernel)) (fun _ h9 => h9) rfl (by decide +kernel) rfl rfl (Nat.le_of_ble_eq_true rfl) dX5_clearText_12 (fun H locs hP hD hS => ?_)
  have hP : va_P D vwCl [(h, .inr (5, [.int 0, .ref h_text, .int 0, .ref h_now, .ref h_trial, .ref h_diary, .int f_acts, .ref h_kept, .ref h_isKept, .ref h_line, .int f_length, .int f_spot, .int f_out]))] H := hP
  have hD : va_D A [(h, .inr (5, [.int 0, .ref h_text, .int 0, .ref h_now, .ref h_trial, .ref h_diary, .int f_acts, .ref h_kept, .ref h_isKept, .ref h_line, .int f_length, .int f_spot, .int f_out]))] := hD
  refine lv_iload_n hx hb dX5_clearText_15 rfl (lv_at hl 0 rfl) ?_
  exact x_reti C0 (0, 0) hk hP hD hS dX5_clearText_16
theorem xc_X5_clearText (l : Launch) (D : va_G) (cI cC cZ cL : ClassId) (h h_text h_now h_trial h_diary h_kept h_isKept h_line : Nat)  (sz : Nat) (f_refusal : Int32) (f_size : Int32) (f_acts : Int32) (f_length : Int32) (f_spot : Int32) (f_out : Int32)  (K : Int32 → (Int32 × Int32) → Prop) (hk : xp_X5_clearText f_refusal f_size K) : XMi l yX5_clearText wsX5_clearText ({ frames := 0, cells := 0, slots := 0, locals := 0 } : Room) D (xTY cI cC cZ cL) [.ref h] [(h, .inr (5, [.int f_refusal, .ref h_text, .int f_size, .ref h_now, .ref h_trial, .ref h_diary, .int f_acts, .ref h_kept, .ref h_isKept, .ref h_line, .int f_length, .int f_spot, .int f_out]))] sz (fun (r : Int32) (u : Int32 × Int32) => K r u) (fun (u : Int32 × Int32) => [(h, .inr (5, [.int u.1, .ref h_text, .int u.2, .ref h_now, .ref h_trial, .ref h_diary, .int f_acts, .ref h_kept, .ref h_isKept, .ref h_line, .int f_length, .int f_spot, .int f_out]))]) :=
  x_enter (cc := cX5_clearText) (maxL := 2) (ret := (some .int)) (own := RX5) (by decide) rfl rfl (Nat.le_of_ble_eq_true rfl) (fun p e s m below meth c ls C0 hA hP hD hS hl => xb_X5_clearText_0 C0 hA _ _ hk s.heap [] ls hP hD hS hl)
set_option maxRecDepth 20000 in
theorem xin_X5_figures_X5 : ∀ w ∈ u_ws RX5 TX5 13, w ∈ wsX5_figures := by decide +kernel
set_option maxHeartbeats 4000000 in
set_option maxRecDepth 100000 in
theorem xb_X5_figures_54 {p : Program} {l : Launch} {e : Env} {s : State} {m : MethodId} {args : Array Value} {below : List Frame} {meth : Method} {c : Code} {A : Nat → Prop} {D : va_G} {cI cC cZ cL : ClassId} {h h_text h_now h_trial h_diary h_kept h_isKept h_line : Nat}  {f_refusal : Int32} {f_size : Int32} {f_acts : Int32} {f_length : Int32} {f_out : Int32} {f_text : Nat → Int32} {K : Int32 → Int32 → Prop} {X17 : Int32 → Int32 → Int32 → Int32 → Int32 → Int32 → Prop} (C0 : xC p s m args meth c cX5_figures 9 (some .int) wsX5_figures RX5 D (xTY cI cC cZ cL)) (hA : ∀ q : Nat, s.heap.size ≤ q → A q) (hX17 : ∀ (f_spot : Int32) (v1 : Int32) (v3 : Int32) (v4 : Int32) (v5 : Int32) (v6 : Int32), X17 f_spot v1 v3 v4 v5 v6 → ∀ (H : Heap) (locs : List Loc) (ls : Array Slot), va_P D vwCl [(h, .inr (5, [.int f_refusal, .ref h_text, .int f_size, .ref h_now, .ref h_trial, .ref h_diary, .int f_acts, .ref h_kept, .ref h_isKept, .ref h_line, .int f_length, .int f_spot, .int f_out])), (h_text, .inl (cI, 120, .inl f_text))] H → va_D A [(h, .inr (5, [.int f_refusal, .ref h_text, .int f_size, .ref h_now, .ref h_trial, .ref h_diary, .int f_acts, .ref h_kept, .ref h_isKept, .ref h_line, .int f_length, .int f_spot, .int f_out])), (h_text, .inl (cI, 120, .inl f_text))] → va_S A s.heap H locs → lv_has ls 9 [(0, .ref h), (1, .int v1), (3, .int v3), (4, .int v4), (5, .int v5), (6, .int v6)] → W p l e ({ frames := 1, cells := 0, slots := 0, locals := 25 } : Room) s m args below meth c H locs 0 0 (MQ below (va_Qi (fun (r : Int32) (u : Int32) => K r u) (fun u t => xE D A ((fun (u : Int32) => [(h, .inr (5, [.int f_refusal, .ref h_text, .int f_size, .ref h_now, .ref h_trial, .ref h_diary, .int f_acts, .ref h_kept, .ref h_isKept, .ref h_line, .int f_length, .int u, .int f_out])), (h_text, .inl (cI, 120, .inl f_text))]) u) t) A) args s 0 0 A) (F0 m 17 ls [])) : ∀ (f_spot : Int32) (v1 : Int32) (v3 : Int32) (v4 : Int32) (v5 : Int32) (v6 : Int32) (t0 : Int32) , xp_X5_figures_54 f_text f_size K X17 f_spot v1 v3 v4 v5 v6 t0 → ∀ (H : Heap) (locs : List Loc) (ls : Array Slot), va_P D vwCl [(h, .inr (5, [.int f_refusal, .ref h_text, .int f_size, .ref h_now, .ref h_trial, .ref h_diary, .int f_acts, .ref h_kept, .ref h_isKept, .ref h_line, .int f_length, .int f_spot, .int f_out])), (h_text, .inl (cI, 120, .inl f_text))] H → va_D A [(h, .inr (5, [.int f_refusal, .ref h_text, .int f_size, .ref h_now, .ref h_trial, .ref h_diary, .int f_acts, .ref h_kept, .ref h_isKept, .ref h_line, .int f_length, .int f_spot, .int f_out])), (h_text, .inl (cI, 120, .inl f_text))] → va_S A s.heap H locs → lv_has ls 9 [(0, .ref h), (1, .int v1), (3, .int v3), (4, .int v4), (5, .int v5), (6, .int v6)] → W p l e ({ frames := 1, cells := 0, slots := 0, locals := 25 } : Room) s m args below meth c H locs 0 0 (MQ below (va_Qi (fun (r : Int32) (u : Int32) => K r u) (fun u t => xE D A ((fun (u : Int32) => [(h, .inr (5, [.int f_refusal, .ref h_text, .int f_size, .ref h_now, .ref h_trial, .ref h_diary, .int f_acts, .ref h_kept, .ref h_isKept, .ref h_line, .int f_length, .int u, .int f_out])), (h_text, .inl (cI, 120, .inl f_text))]) u) t) A) args s 0 0 A) (F0 m 54 ls [.int t0]) := by
  obtain ⟨hx, hb, hr, hml, hown, hts, hlocks, hK, hN⟩ := id C0
  intro f_spot v1 v3 v4 v5 v6 t0 hk H locs ls hP hD hS hl
  rw [xp_X5_figures_54] at hk
  refine lv_istore (lv' := [(7, .int t0), (0, .ref h), (1, .int v1), (3, .int v3), (4, .int v4), (5, .int v5), (6, .int v6)]) hx hb dX5_figures_54 hl (by decide) rfl (fun ls hl => ?_)
  refine lv_iload hx hb dX5_figures_56 (lv_at hl 5 rfl) ?_
  refine lv_iload hx hb dX5_figures_58 (lv_at hl 0 rfl) ?_
  refine lv_iload hx hb dX5_figures_60 (lv_at hl 6 rfl) ?_
  refine lv_imul hx hb dX5_figures_62 ?_
  refine lv_iadd hx hb dX5_figures_63 ?_
  refine lv_istore (lv' := [(8, .int (v5 + (t0 * v6))), (7, .int t0), (0, .ref h), (1, .int v1), (3, .int v3), (4, .int v4), (5, .int v5), (6, .int v6)]) hx hb dX5_figures_64 hl (by decide) rfl (fun ls hl => ?_)
  refine lv_iload hx hb dX5_figures_66 (lv_at hl 1 rfl) ?_
  refine lv_i2l hx hb dX5_figures_68 rfl ?_
  refine lv_lconst (v := 0) hx hb dX5_figures_69 (by decide) ?_
  refine lv_ldc2 (own := RX5) hx hb hown (hts (.constantLong RX5 110 (9)) (by decide +kernel)) dX5_figures_70 ?_
  refine x_joini (ws1 := fun (_ : Unit) => [(h, .inr (5, [.int f_refusal, .ref h_text, .int f_size, .ref h_now, .ref h_trial, .ref h_diary, .int f_acts, .ref h_kept, .ref h_isKept, .ref h_line, .int f_length, .int f_spot, .int f_out])), (h_text, .inl (cI, 120, .inl f_text))]) (x_runO (n0 := 3) (As := [.long t0.toInt64, .long 0, .long 9]) (rest := []) C0 (xc_X5_in l D cI cC cZ cL  H.size t0.toInt64 0 9 _ hk) gX5_figures_X5_in rfl ⟨rfl, rfl⟩ (by decide +kernel) rfl ⟨by decide, by decide⟩ ⟨Nat.zero_le _, Nat.zero_le _⟩ hP hD [] rfl rfl hl.1 rfl (Nat.le_of_ble_eq_true rfl) dX5_figures_73) hP hD hS hA [] [0, 1] [0, 1] rfl rfl rfl (by decide) (fun _ => rfl) rfl (fun r1 u1 H locs hk hP hD hS => ?_)
  refine lv_if_eq (tgt := 97) hx hb dX5_figures_76 (by decide) (fun c2 => ?_) (fun c2 => ?_)
  · have hk := hk.1 c2
    refine lv_iconst (v := (-1 : Int32)) hx hb dX5_figures_97 (by decide) ?_
    exact x_reti C0 (f_spot) hk hP hD hS dX5_figures_98
  · have hk := hk.2 c2
    refine lv_iload hx hb dX5_figures_79 (lv_at hl 0 rfl) ?_
    refine lv_iload hx hb dX5_figures_81 (lv_at hl 5 rfl) ?_
    refine lv_icmp_gt (tgt := 97) hx hb dX5_figures_83 (by decide) (fun c3 => ?_) (fun c3 => ?_)
    · have hk := hk.1 c3
      refine lv_iconst (v := (-1 : Int32)) hx hb dX5_figures_97 (by decide) ?_
      exact x_reti C0 (f_spot) hk hP hD hS dX5_figures_98
    · have hk := hk.2 c3
      refine lv_iload hx hb dX5_figures_86 (lv_at hl 0 rfl) ?_
      refine lv_iload hx hb dX5_figures_88 (lv_at hl 7 rfl) ?_
      refine lv_iadd hx hb dX5_figures_90 ?_
      refine lv_iconst (v := 1) hx hb dX5_figures_91 (by decide) ?_
      refine lv_isub hx hb dX5_figures_92 ?_
      refine lv_iload_n hx hb dX5_figures_93 rfl (lv_at hl 4 rfl) ?_
      refine lv_icmp_ge (tgt := 99) hx hb dX5_figures_94 (by decide) (fun c4 => ?_) (fun c4 => ?_)
      · have hk := hk.1 c4
        refine lv_iload hx hb dX5_figures_99 (lv_at hl 0 rfl) ?_
        refine lv_istore (lv' := [(5, .int (v5 + (t0 * v6))), (8, .int (v5 + (t0 * v6))), (7, .int t0), (0, .ref h), (1, .int v1), (3, .int v3), (4, .int v4), (6, .int v6)]) hx hb dX5_figures_101 hl (by decide) rfl (fun ls hl => ?_)
        refine lv_aload_n hx hb dX5_figures_103 rfl (lv_at hl 3 rfl) ?_
        refine lv_dup hx hb dX5_figures_104 rfl ?_
        refine va_get (D := D) (ci := 5) (v := .int f_spot) (C := RX5) (T := TX5) (N := 13) hx hb hts xin_X5_figures_X5 hown hK hP 0 rfl rfl 11 (by decide) (hts (.fieldLink RX5 107 "TakeLogModel" "spot" "I") (by decide +kernel)) (fun _ h9 => h9) rfl dX5_figures_105 ?_
        refine lv_iconst (v := 1) hx hb dX5_figures_108 (by decide) ?_
        refine lv_iadd hx hb dX5_figures_109 ?_
        refine va_put (D := D) (ci := 5) (v := .int (f_spot + 1)) (ty := .int) (C := RX5) (T := TX5) (N := 13) hx hb hts xin_X5_figures_X5 tyX5 tyX5_ok nmX5 hown hK hP hD hS 0 rfl rfl 11 (by decide) (hts (.fieldLink RX5 107 "TakeLogModel" "spot" "I") (by decide +kernel)) (fun _ h9 => h9) rfl (by decide +kernel) rfl rfl (Nat.le_of_ble_eq_true rfl) dX5_figures_110 (fun H locs hP hD hS => ?_)
        have hP : va_P D vwCl [(h, .inr (5, [.int f_refusal, .ref h_text, .int f_size, .ref h_now, .ref h_trial, .ref h_diary, .int f_acts, .ref h_kept, .ref h_isKept, .ref h_line, .int f_length, .int (f_spot + 1), .int f_out])), (h_text, .inl (cI, 120, .inl f_text))] H := hP
        have hD : va_D A [(h, .inr (5, [.int f_refusal, .ref h_text, .int f_size, .ref h_now, .ref h_trial, .ref h_diary, .int f_acts, .ref h_kept, .ref h_isKept, .ref h_line, .int f_length, .int (f_spot + 1), .int f_out])), (h_text, .inl (cI, 120, .inl f_text))] := hD
        refine lv_iload hx hb dX5_figures_113 (lv_at hl 7 rfl) ?_
        refine lv_bipush (v := 10) hx hb dX5_figures_115 (by decide) ?_
        refine lv_idiv hx hb dX5_figures_117 (by decide) ?_
        refine lv_istore (lv' := [(6, .int (v6 / 10)), (5, .int (v5 + (t0 * v6))), (8, .int (v5 + (t0 * v6))), (7, .int t0), (0, .ref h), (1, .int v1), (3, .int v3), (4, .int v4)]) hx hb dX5_figures_118 hl (by decide) rfl (fun ls hl => ?_)
        refine lv_goto (tgt := 17) hx hb dX5_figures_120 (by decide) ?_
        exact hX17 _ _ _ _ _ _ hk H locs ls hP hD hS (lv_sub hl [4, 5, 6, 7, 1, 0] rfl)
      · have hk := hk.2 c4
        refine lv_iconst (v := (-1 : Int32)) hx hb dX5_figures_97 (by decide) ?_
        exact x_reti C0 (f_spot) hk hP hD hS dX5_figures_98
set_option maxHeartbeats 4000000 in
set_option maxRecDepth 100000 in
theorem xb_X5_figures_123 {p : Program} {l : Launch} {e : Env} {s : State} {m : MethodId} {args : Array Value} {below : List Frame} {meth : Method} {c : Code} {A : Nat → Prop} {D : va_G} {cI cC cZ cL : ClassId} {h h_text h_now h_trial h_diary h_kept h_isKept h_line : Nat}  {f_refusal : Int32} {f_size : Int32} {f_acts : Int32} {f_length : Int32} {f_out : Int32} {f_text : Nat → Int32} {K : Int32 → Int32 → Prop}  (C0 : xC p s m args meth c cX5_figures 9 (some .int) wsX5_figures RX5 D (xTY cI cC cZ cL)) (hA : ∀ q : Nat, s.heap.size ≤ q → A q)  : ∀ (f_spot : Int32) (v1 : Int32) (v5 : Int32) , xp_X5_figures_123 f_text f_size K f_spot v1 v5 → ∀ (H : Heap) (locs : List Loc) (ls : Array Slot), va_P D vwCl [(h, .inr (5, [.int f_refusal, .ref h_text, .int f_size, .ref h_now, .ref h_trial, .ref h_diary, .int f_acts, .ref h_kept, .ref h_isKept, .ref h_line, .int f_length, .int f_spot, .int f_out])), (h_text, .inl (cI, 120, .inl f_text))] H → va_D A [(h, .inr (5, [.int f_refusal, .ref h_text, .int f_size, .ref h_now, .ref h_trial, .ref h_diary, .int f_acts, .ref h_kept, .ref h_isKept, .ref h_line, .int f_length, .int f_spot, .int f_out])), (h_text, .inl (cI, 120, .inl f_text))] → va_S A s.heap H locs → lv_has ls 9 [(1, .int v1), (5, .int v5)] → W p l e ({ frames := 1, cells := 0, slots := 0, locals := 25 } : Room) s m args below meth c H locs 0 0 (MQ below (va_Qi (fun (r : Int32) (u : Int32) => K r u) (fun u t => xE D A ((fun (u : Int32) => [(h, .inr (5, [.int f_refusal, .ref h_text, .int f_size, .ref h_now, .ref h_trial, .ref h_diary, .int f_acts, .ref h_kept, .ref h_isKept, .ref h_line, .int f_length, .int u, .int f_out])), (h_text, .inl (cI, 120, .inl f_text))]) u) t) A) args s 0 0 A) (F0 m 123 ls []) := by
  obtain ⟨hx, hb, hr, hml, hown, hts, hlocks, hK, hN⟩ := id C0
  intro f_spot v1 v5 hk H locs ls hP hD hS hl
  rw [xp_X5_figures_123] at hk
  refine lv_iload_n hx hb dX5_figures_123 rfl (lv_at hl 0 rfl) ?_
  refine lv_iconst (v := (-1 : Int32)) hx hb dX5_figures_124 (by decide) ?_
  refine lv_icmp_ne (tgt := 132) hx hb dX5_figures_125 (by decide) (fun c1 => ?_) (fun c1 => ?_)
  · have hk := hk.1 c1
    refine lv_iload hx hb dX5_figures_132 (lv_at hl 1 rfl) ?_
    exact x_reti C0 (f_spot) hk hP hD hS dX5_figures_134
  · have hk := hk.2 c1
    refine lv_iconst (v := (-1 : Int32)) hx hb dX5_figures_128 (by decide) ?_
    refine lv_goto (tgt := 134) hx hb dX5_figures_129 (by decide) ?_
    exact x_reti C0 (f_spot) hk hP hD hS dX5_figures_134
set_option maxHeartbeats 4000000 in
set_option maxRecDepth 100000 in
theorem xb_X5_figures_17 {p : Program} {l : Launch} {e : Env} {s : State} {m : MethodId} {args : Array Value} {below : List Frame} {meth : Method} {c : Code} {A : Nat → Prop} {D : va_G} {cI cC cZ cL : ClassId} {h h_text h_now h_trial h_diary h_kept h_isKept h_line : Nat}  {f_refusal : Int32} {f_size : Int32} {f_acts : Int32} {f_length : Int32} {f_out : Int32} {f_text : Nat → Int32} {K : Int32 → Int32 → Prop}  (C0 : xC p s m args meth c cX5_figures 9 (some .int) wsX5_figures RX5 D (xTY cI cC cZ cL)) (hA : ∀ q : Nat, s.heap.size ≤ q → A q)  : ∀ (n : Nat) (f_spot : Int32) (v1 : Int32) (v3 : Int32) (v4 : Int32) (v5 : Int32) (v6 : Int32) , xp_X5_figures_17 f_text f_size K n f_spot v1 v3 v4 v5 v6 → ∀ (H : Heap) (locs : List Loc) (ls : Array Slot), va_P D vwCl [(h, .inr (5, [.int f_refusal, .ref h_text, .int f_size, .ref h_now, .ref h_trial, .ref h_diary, .int f_acts, .ref h_kept, .ref h_isKept, .ref h_line, .int f_length, .int f_spot, .int f_out])), (h_text, .inl (cI, 120, .inl f_text))] H → va_D A [(h, .inr (5, [.int f_refusal, .ref h_text, .int f_size, .ref h_now, .ref h_trial, .ref h_diary, .int f_acts, .ref h_kept, .ref h_isKept, .ref h_line, .int f_length, .int f_spot, .int f_out])), (h_text, .inl (cI, 120, .inl f_text))] → va_S A s.heap H locs → lv_has ls 9 [(0, .ref h), (1, .int v1), (3, .int v3), (4, .int v4), (5, .int v5), (6, .int v6)] → W p l e ({ frames := 1, cells := 0, slots := 0, locals := 25 } : Room) s m args below meth c H locs 0 0 (MQ below (va_Qi (fun (r : Int32) (u : Int32) => K r u) (fun u t => xE D A ((fun (u : Int32) => [(h, .inr (5, [.int f_refusal, .ref h_text, .int f_size, .ref h_now, .ref h_trial, .ref h_diary, .int f_acts, .ref h_kept, .ref h_isKept, .ref h_line, .int f_length, .int u, .int f_out])), (h_text, .inl (cI, 120, .inl f_text))]) u) t) A) args s 0 0 A) (F0 m 17 ls []) := by
  obtain ⟨hx, hb, hr, hml, hown, hts, hlocks, hK, hN⟩ := id C0
  intro n
  induction n with
  | zero => intro f_spot v1 v3 v4 v5 v6 hk; exact hk.elim
  | succ n ih =>
    intro f_spot v1 v3 v4 v5 v6 hk H locs ls hP hD hS hl
    rw [xp_X5_figures_17] at hk
    refine lv_iload hx hb dX5_figures_17 (lv_at hl 5 rfl) ?_
    refine lv_if_le (tgt := 123) hx hb dX5_figures_19 (by decide) (fun c1 => ?_) (fun c1 => ?_)
    · have hk := hk.1 c1
      exact xb_X5_figures_123 C0 hA  _ _ _ hk H locs ls hP hD hS (lv_sub hl [1, 4] rfl)
    · have hk := hk.2 c1
      refine lv_iload_n hx hb dX5_figures_22 rfl (lv_at hl 1 rfl) ?_
      refine lv_iconst (v := (-1 : Int32)) hx hb dX5_figures_23 (by decide) ?_
      refine lv_icmp_eq (tgt := 123) hx hb dX5_figures_24 (by decide) (fun c2 => ?_) (fun c2 => ?_)
      · have hk := hk.1 c2
        exact xb_X5_figures_123 C0 hA  _ _ _ hk H locs ls hP hD hS (lv_sub hl [1, 4] rfl)
      · have hk := hk.2 c2
        refine lv_aload_n hx hb dX5_figures_27 rfl (lv_at hl 0 rfl) ?_
        refine va_get (D := D) (ci := 5) (v := .int f_spot) (C := RX5) (T := TX5) (N := 13) hx hb hts xin_X5_figures_X5 hown hK hP 0 rfl rfl 11 (by decide) (hts (.fieldLink RX5 107 "TakeLogModel" "spot" "I") (by decide +kernel)) (fun _ h9 => h9) rfl dX5_figures_28 ?_
        refine lv_aload_n hx hb dX5_figures_31 rfl (lv_at hl 0 rfl) ?_
        refine va_get (D := D) (ci := 5) (v := .int f_size) (C := RX5) (T := TX5) (N := 13) hx hb hts xin_X5_figures_X5 hown hK hP 0 rfl rfl 2 (by decide) (hts (.fieldLink RX5 100 "TakeLogModel" "size" "I") (by decide +kernel)) (fun _ h9 => h9) rfl dX5_figures_32 ?_
        refine lv_icmp_ge (tgt := 53) hx hb dX5_figures_35 (by decide) (fun c3 => ?_) (fun c3 => ?_)
        · have hk := hk.1 c3
          refine lv_iconst (v := (-1 : Int32)) hx hb dX5_figures_53 (by decide) ?_
          exact xb_X5_figures_54 C0 hA ih _ _ _ _ _ _ _ hk H locs ls hP hD hS (lv_sub hl [0, 1, 2, 3, 4, 5] rfl)
        · have hk := hk.2 c3
          refine lv_aload_n hx hb dX5_figures_38 rfl (lv_at hl 0 rfl) ?_
          refine va_get (D := D) (ci := 5) (v := .ref h_text) (C := RX5) (T := TX5) (N := 13) hx hb hts xin_X5_figures_X5 hown hK hP 0 rfl rfl 1 (by decide) (hts (.fieldLink RX5 7 "TakeLogModel" "text" "[I") (by decide +kernel)) (fun _ h9 => h9) rfl dX5_figures_39 ?_
          refine lv_aload_n hx hb dX5_figures_42 rfl (lv_at hl 0 rfl) ?_
          refine va_get (D := D) (ci := 5) (v := .int f_spot) (C := RX5) (T := TX5) (N := 13) hx hb hts xin_X5_figures_X5 hown hK hP 0 rfl rfl 11 (by decide) (hts (.fieldLink RX5 107 "TakeLogModel" "spot" "I") (by decide +kernel)) (fun _ h9 => h9) rfl dX5_figures_43 ?_
          refine x_iald hx hb hK hP 1 0 rfl rfl hk.1 rfl rfl dX5_figures_46 ?_
          have hk := hk.2
          refine lv_bipush (v := 48) hx hb dX5_figures_47 (by decide) ?_
          refine lv_isub hx hb dX5_figures_49 ?_
          refine lv_goto (tgt := 54) hx hb dX5_figures_50 (by decide) ?_
          exact xb_X5_figures_54 C0 hA ih _ _ _ _ _ _ _ hk H locs ls hP hD hS (lv_sub hl [0, 1, 2, 3, 4, 5] rfl)
set_option maxHeartbeats 4000000 in
set_option maxRecDepth 100000 in
theorem xb_X5_figures_0 {p : Program} {l : Launch} {e : Env} {s : State} {m : MethodId} {args : Array Value} {below : List Frame} {meth : Method} {c : Code} {A : Nat → Prop} {D : va_G} {cI cC cZ cL : ClassId} {h h_text h_now h_trial h_diary h_kept h_isKept h_line : Nat}  {f_refusal : Int32} {f_size : Int32} {f_acts : Int32} {f_length : Int32} {f_out : Int32} {f_text : Nat → Int32} {K : Int32 → Int32 → Prop}  (C0 : xC p s m args meth c cX5_figures 9 (some .int) wsX5_figures RX5 D (xTY cI cC cZ cL)) (hA : ∀ q : Nat, s.heap.size ≤ q → A q)  : ∀ (f_spot : Int32) (x1 : Int32) (x2 : Int32) (x3 : Int32) (x4 : Int32) , xp_X5_figures f_text f_size f_spot x1 x2 x3 x4 K → ∀ (H : Heap) (locs : List Loc) (ls : Array Slot), va_P D vwCl [(h, .inr (5, [.int f_refusal, .ref h_text, .int f_size, .ref h_now, .ref h_trial, .ref h_diary, .int f_acts, .ref h_kept, .ref h_isKept, .ref h_line, .int f_length, .int f_spot, .int f_out])), (h_text, .inl (cI, 120, .inl f_text))] H → va_D A [(h, .inr (5, [.int f_refusal, .ref h_text, .int f_size, .ref h_now, .ref h_trial, .ref h_diary, .int f_acts, .ref h_kept, .ref h_isKept, .ref h_line, .int f_length, .int f_spot, .int f_out])), (h_text, .inl (cI, 120, .inl f_text))] → va_S A s.heap H locs → lv_has ls 9 [(0, .ref h), (1, .int x1), (2, .int x2), (3, .int x3), (4, .int x4)] → W p l e ({ frames := 1, cells := 0, slots := 0, locals := 25 } : Room) s m args below meth c H locs 0 0 (MQ below (va_Qi (fun (r : Int32) (u : Int32) => K r u) (fun u t => xE D A ((fun (u : Int32) => [(h, .inr (5, [.int f_refusal, .ref h_text, .int f_size, .ref h_now, .ref h_trial, .ref h_diary, .int f_acts, .ref h_kept, .ref h_isKept, .ref h_line, .int f_length, .int u, .int f_out])), (h_text, .inl (cI, 120, .inl f_text))]) u) t) A) args s 0 0 A) (F0 m 0 ls []) := by
  obtain ⟨hx, hb, hr, hml, hown, hts, hlocks, hK, hN⟩ := id C0
  intro f_spot x1 x2 x3 x4 hk H locs ls hP hD hS hl
  rw [xp_X5_figures] at hk
  refine lv_iconst (v := 0) hx hb dX5_figures_0 (by decide) ?_
  refine lv_istore (lv' := [(5, .int 0), (0, .ref h), (1, .int x1), (2, .int x2), (3, .int x3), (4, .int x4)]) hx hb dX5_figures_1 hl (by decide) rfl (fun ls hl => ?_)
  refine lv_iload_n hx hb dX5_figures_3 rfl (lv_at hl 3 rfl) ?_
  refine lv_iconst (v := 3) hx hb dX5_figures_4 (by decide) ?_
  refine lv_icmp_ne (tgt := 13) hx hb dX5_figures_5 (by decide) (fun c1 => ?_) (fun c1 => ?_)
  · have hk := hk.1 c1
    refine lv_bipush (v := 10) hx hb dX5_figures_13 (by decide) ?_
    refine lv_istore (lv' := [(6, .int 10), (5, .int 0), (0, .ref h), (1, .int x1), (2, .int x2), (3, .int x3), (4, .int x4)]) hx hb dX5_figures_15 hl (by decide) rfl (fun ls hl => ?_)
    obtain ⟨n9, hk⟩ := hk
    exact xb_X5_figures_17 C0 hA  n9 _ _ _ _ _ _ hk H locs ls hP hD hS (lv_sub hl [2, 3, 5, 6, 1, 0] rfl)
  · have hk := hk.2 c1
    refine lv_bipush (v := 100) hx hb dX5_figures_8 (by decide) ?_
    refine lv_goto (tgt := 15) hx hb dX5_figures_10 (by decide) ?_
    refine lv_istore (lv' := [(6, .int 100), (5, .int 0), (0, .ref h), (1, .int x1), (2, .int x2), (3, .int x3), (4, .int x4)]) hx hb dX5_figures_15 hl (by decide) rfl (fun ls hl => ?_)
    obtain ⟨n9, hk⟩ := hk
    exact xb_X5_figures_17 C0 hA  n9 _ _ _ _ _ _ hk H locs ls hP hD hS (lv_sub hl [2, 3, 5, 6, 1, 0] rfl)
theorem xc_X5_figures (l : Launch) (D : va_G) (cI cC cZ cL : ClassId) (h h_text h_now h_trial h_diary h_kept h_isKept h_line : Nat)  (sz : Nat) (f_refusal : Int32) (f_size : Int32) (f_acts : Int32) (f_length : Int32) (f_spot : Int32) (f_out : Int32) (f_text : Nat → Int32) (x1 : Int32) (x2 : Int32) (x3 : Int32) (x4 : Int32) (K : Int32 → Int32 → Prop) (hk : xp_X5_figures f_text f_size f_spot x1 x2 x3 x4 K) : XMi l yX5_figures wsX5_figures ({ frames := 1, cells := 0, slots := 0, locals := 25 } : Room) D (xTY cI cC cZ cL) [.ref h, .int x1, .int x2, .int x3, .int x4] [(h, .inr (5, [.int f_refusal, .ref h_text, .int f_size, .ref h_now, .ref h_trial, .ref h_diary, .int f_acts, .ref h_kept, .ref h_isKept, .ref h_line, .int f_length, .int f_spot, .int f_out])), (h_text, .inl (cI, 120, .inl f_text))] sz (fun (r : Int32) (u : Int32) => K r u) (fun (u : Int32) => [(h, .inr (5, [.int f_refusal, .ref h_text, .int f_size, .ref h_now, .ref h_trial, .ref h_diary, .int f_acts, .ref h_kept, .ref h_isKept, .ref h_line, .int f_length, .int u, .int f_out])), (h_text, .inl (cI, 120, .inl f_text))]) :=
  x_enter (cc := cX5_figures) (maxL := 9) (ret := (some .int)) (own := RX5) (by decide) rfl rfl (Nat.le_of_ble_eq_true rfl) (fun p e s m below meth c ls C0 hA hP hD hS hl => xb_X5_figures_0 C0 hA _ _ _ _ _ hk s.heap [] ls hP hD hS hl)
set_option maxRecDepth 20000 in
theorem xin_X5_letter_X5 : ∀ w ∈ u_ws RX5 TX5 13, w ∈ wsX5_letter := by decide +kernel
set_option maxHeartbeats 4000000 in
set_option maxRecDepth 100000 in
theorem xb_X5_letter_27 {p : Program} {l : Launch} {e : Env} {s : State} {m : MethodId} {args : Array Value} {below : List Frame} {meth : Method} {c : Code} {A : Nat → Prop} {D : va_G} {cI cC cZ cL : ClassId} {h h_text h_now h_trial h_diary h_kept h_isKept h_line : Nat}  {f_refusal : Int32} {f_size : Int32} {f_acts : Int32} {f_length : Int32} {f_out : Int32} {f_text : Nat → Int32} {K : Int32 → Int32 → Prop}  (C0 : xC p s m args meth c cX5_letter 3 (some .int) wsX5_letter RX5 D (xTY cI cC cZ cL)) (hA : ∀ q : Nat, s.heap.size ≤ q → A q)  : ∀ (f_spot : Int32) (v1 : Int32) (t0 : Int32) , xp_X5_letter_27 f_text f_size K f_spot v1 t0 → ∀ (H : Heap) (locs : List Loc) (ls : Array Slot), va_P D vwCl [(h, .inr (5, [.int f_refusal, .ref h_text, .int f_size, .ref h_now, .ref h_trial, .ref h_diary, .int f_acts, .ref h_kept, .ref h_isKept, .ref h_line, .int f_length, .int f_spot, .int f_out])), (h_text, .inl (cI, 120, .inl f_text))] H → va_D A [(h, .inr (5, [.int f_refusal, .ref h_text, .int f_size, .ref h_now, .ref h_trial, .ref h_diary, .int f_acts, .ref h_kept, .ref h_isKept, .ref h_line, .int f_length, .int f_spot, .int f_out])), (h_text, .inl (cI, 120, .inl f_text))] → va_S A s.heap H locs → lv_has ls 3 [(0, .ref h), (1, .int v1)] → W p l e ({ frames := 1, cells := 0, slots := 0, locals := 25 } : Room) s m args below meth c H locs 0 0 (MQ below (va_Qi (fun (r : Int32) (u : Int32) => K r u) (fun u t => xE D A ((fun (u : Int32) => [(h, .inr (5, [.int f_refusal, .ref h_text, .int f_size, .ref h_now, .ref h_trial, .ref h_diary, .int f_acts, .ref h_kept, .ref h_isKept, .ref h_line, .int f_length, .int u, .int f_out])), (h_text, .inl (cI, 120, .inl f_text))]) u) t) A) args s 0 0 A) (F0 m 27 ls [.int t0]) := by
  obtain ⟨hx, hb, hr, hml, hown, hts, hlocks, hK, hN⟩ := id C0
  intro f_spot v1 t0 hk H locs ls hP hD hS hl
  rw [xp_X5_letter_27] at hk
  refine lv_istore_n (lv' := [(2, .int t0), (0, .ref h), (1, .int v1)]) hx hb dX5_letter_27 rfl hl (by decide) rfl (fun ls hl => ?_)
  refine lv_iload_n hx hb dX5_letter_28 rfl (lv_at hl 2 rfl) ?_
  refine lv_iconst (v := (-1 : Int32)) hx hb dX5_letter_29 (by decide) ?_
  refine lv_icmp_eq (tgt := 45) hx hb dX5_letter_30 (by decide) (fun c1 => ?_) (fun c1 => ?_)
  · have hk := hk.1 c1
    refine lv_iconst (v := (-1 : Int32)) hx hb dX5_letter_45 (by decide) ?_
    exact x_reti C0 (f_spot) hk hP hD hS dX5_letter_46
  · have hk := hk.2 c1
    refine lv_iload_n hx hb dX5_letter_33 rfl (lv_at hl 0 rfl) ?_
    refine lv_i2l hx hb dX5_letter_34 rfl ?_
    refine lv_lconst (v := 0) hx hb dX5_letter_35 (by decide) ?_
    refine lv_ldc2 (own := RX5) hx hb hown (hts (.constantLong RX5 46 (25)) (by decide +kernel)) dX5_letter_36 ?_
    refine x_joini (ws1 := fun (_ : Unit) => [(h, .inr (5, [.int f_refusal, .ref h_text, .int f_size, .ref h_now, .ref h_trial, .ref h_diary, .int f_acts, .ref h_kept, .ref h_isKept, .ref h_line, .int f_length, .int f_spot, .int f_out])), (h_text, .inl (cI, 120, .inl f_text))]) (x_runO (n0 := 3) (As := [.long t0.toInt64, .long 0, .long 25]) (rest := []) C0 (xc_X5_in l D cI cC cZ cL  H.size t0.toInt64 0 25 _ hk) gX5_letter_X5_in rfl ⟨rfl, rfl⟩ (by decide +kernel) rfl ⟨by decide, by decide⟩ ⟨Nat.zero_le _, Nat.zero_le _⟩ hP hD [] rfl rfl hl.1 rfl (Nat.le_of_ble_eq_true rfl) dX5_letter_39) hP hD hS hA [] [0, 1] [0, 1] rfl rfl rfl (by decide) (fun _ => rfl) rfl (fun r2 u2 H locs hk hP hD hS => ?_)
    refine lv_if_ne (tgt := 47) hx hb dX5_letter_42 (by decide) (fun c3 => ?_) (fun c3 => ?_)
    · have hk := hk.1 c3
      refine lv_aload_n hx hb dX5_letter_47 rfl (lv_at hl 1 rfl) ?_
      refine lv_dup hx hb dX5_letter_48 rfl ?_
      refine va_get (D := D) (ci := 5) (v := .int f_spot) (C := RX5) (T := TX5) (N := 13) hx hb hts xin_X5_letter_X5 hown hK hP 0 rfl rfl 11 (by decide) (hts (.fieldLink RX5 107 "TakeLogModel" "spot" "I") (by decide +kernel)) (fun _ h9 => h9) rfl dX5_letter_49 ?_
      refine lv_iconst (v := 1) hx hb dX5_letter_52 (by decide) ?_
      refine lv_iadd hx hb dX5_letter_53 ?_
      refine va_put (D := D) (ci := 5) (v := .int (f_spot + 1)) (ty := .int) (C := RX5) (T := TX5) (N := 13) hx hb hts xin_X5_letter_X5 tyX5 tyX5_ok nmX5 hown hK hP hD hS 0 rfl rfl 11 (by decide) (hts (.fieldLink RX5 107 "TakeLogModel" "spot" "I") (by decide +kernel)) (fun _ h9 => h9) rfl (by decide +kernel) rfl rfl (Nat.le_of_ble_eq_true rfl) dX5_letter_54 (fun H locs hP hD hS => ?_)
      have hP : va_P D vwCl [(h, .inr (5, [.int f_refusal, .ref h_text, .int f_size, .ref h_now, .ref h_trial, .ref h_diary, .int f_acts, .ref h_kept, .ref h_isKept, .ref h_line, .int f_length, .int (f_spot + 1), .int f_out])), (h_text, .inl (cI, 120, .inl f_text))] H := hP
      have hD : va_D A [(h, .inr (5, [.int f_refusal, .ref h_text, .int f_size, .ref h_now, .ref h_trial, .ref h_diary, .int f_acts, .ref h_kept, .ref h_isKept, .ref h_line, .int f_length, .int (f_spot + 1), .int f_out])), (h_text, .inl (cI, 120, .inl f_text))] := hD
      refine lv_iload_n hx hb dX5_letter_57 rfl (lv_at hl 0 rfl) ?_
      exact x_reti C0 (f_spot + 1) hk hP hD hS dX5_letter_58
    · have hk := hk.2 c3
      refine lv_iconst (v := (-1 : Int32)) hx hb dX5_letter_45 (by decide) ?_
      exact x_reti C0 (f_spot) hk hP hD hS dX5_letter_46
set_option maxHeartbeats 4000000 in
set_option maxRecDepth 100000 in
theorem xb_X5_letter_0 {p : Program} {l : Launch} {e : Env} {s : State} {m : MethodId} {args : Array Value} {below : List Frame} {meth : Method} {c : Code} {A : Nat → Prop} {D : va_G} {cI cC cZ cL : ClassId} {h h_text h_now h_trial h_diary h_kept h_isKept h_line : Nat}  {f_refusal : Int32} {f_size : Int32} {f_acts : Int32} {f_length : Int32} {f_out : Int32} {f_text : Nat → Int32} {K : Int32 → Int32 → Prop}  (C0 : xC p s m args meth c cX5_letter 3 (some .int) wsX5_letter RX5 D (xTY cI cC cZ cL)) (hA : ∀ q : Nat, s.heap.size ≤ q → A q)  : ∀ (f_spot : Int32) (x1 : Int32) , xp_X5_letter f_text f_size f_spot x1 K → ∀ (H : Heap) (locs : List Loc) (ls : Array Slot), va_P D vwCl [(h, .inr (5, [.int f_refusal, .ref h_text, .int f_size, .ref h_now, .ref h_trial, .ref h_diary, .int f_acts, .ref h_kept, .ref h_isKept, .ref h_line, .int f_length, .int f_spot, .int f_out])), (h_text, .inl (cI, 120, .inl f_text))] H → va_D A [(h, .inr (5, [.int f_refusal, .ref h_text, .int f_size, .ref h_now, .ref h_trial, .ref h_diary, .int f_acts, .ref h_kept, .ref h_isKept, .ref h_line, .int f_length, .int f_spot, .int f_out])), (h_text, .inl (cI, 120, .inl f_text))] → va_S A s.heap H locs → lv_has ls 3 [(0, .ref h), (1, .int x1)] → W p l e ({ frames := 1, cells := 0, slots := 0, locals := 25 } : Room) s m args below meth c H locs 0 0 (MQ below (va_Qi (fun (r : Int32) (u : Int32) => K r u) (fun u t => xE D A ((fun (u : Int32) => [(h, .inr (5, [.int f_refusal, .ref h_text, .int f_size, .ref h_now, .ref h_trial, .ref h_diary, .int f_acts, .ref h_kept, .ref h_isKept, .ref h_line, .int f_length, .int u, .int f_out])), (h_text, .inl (cI, 120, .inl f_text))]) u) t) A) args s 0 0 A) (F0 m 0 ls []) := by
  obtain ⟨hx, hb, hr, hml, hown, hts, hlocks, hK, hN⟩ := id C0
  intro f_spot x1 hk H locs ls hP hD hS hl
  rw [xp_X5_letter] at hk
  refine lv_aload_n hx hb dX5_letter_0 rfl (lv_at hl 0 rfl) ?_
  refine va_get (D := D) (ci := 5) (v := .int f_spot) (C := RX5) (T := TX5) (N := 13) hx hb hts xin_X5_letter_X5 hown hK hP 0 rfl rfl 11 (by decide) (hts (.fieldLink RX5 107 "TakeLogModel" "spot" "I") (by decide +kernel)) (fun _ h9 => h9) rfl dX5_letter_1 ?_
  refine lv_aload_n hx hb dX5_letter_4 rfl (lv_at hl 0 rfl) ?_
  refine va_get (D := D) (ci := 5) (v := .int f_size) (C := RX5) (T := TX5) (N := 13) hx hb hts xin_X5_letter_X5 hown hK hP 0 rfl rfl 2 (by decide) (hts (.fieldLink RX5 100 "TakeLogModel" "size" "I") (by decide +kernel)) (fun _ h9 => h9) rfl dX5_letter_5 ?_
  refine lv_icmp_ge (tgt := 26) hx hb dX5_letter_8 (by decide) (fun c1 => ?_) (fun c1 => ?_)
  · have hk := hk.1 c1
    refine lv_iconst (v := (-1 : Int32)) hx hb dX5_letter_26 (by decide) ?_
    exact xb_X5_letter_27 C0 hA  _ _ _ hk H locs ls hP hD hS (lv_sub hl [0, 1] rfl)
  · have hk := hk.2 c1
    refine lv_aload_n hx hb dX5_letter_11 rfl (lv_at hl 0 rfl) ?_
    refine va_get (D := D) (ci := 5) (v := .ref h_text) (C := RX5) (T := TX5) (N := 13) hx hb hts xin_X5_letter_X5 hown hK hP 0 rfl rfl 1 (by decide) (hts (.fieldLink RX5 7 "TakeLogModel" "text" "[I") (by decide +kernel)) (fun _ h9 => h9) rfl dX5_letter_12 ?_
    refine lv_aload_n hx hb dX5_letter_15 rfl (lv_at hl 0 rfl) ?_
    refine va_get (D := D) (ci := 5) (v := .int f_spot) (C := RX5) (T := TX5) (N := 13) hx hb hts xin_X5_letter_X5 hown hK hP 0 rfl rfl 11 (by decide) (hts (.fieldLink RX5 107 "TakeLogModel" "spot" "I") (by decide +kernel)) (fun _ h9 => h9) rfl dX5_letter_16 ?_
    refine x_iald hx hb hK hP 1 0 rfl rfl hk.1 rfl rfl dX5_letter_19 ?_
    have hk := hk.2
    refine lv_bipush (v := 65) hx hb dX5_letter_20 (by decide) ?_
    refine lv_isub hx hb dX5_letter_22 ?_
    refine lv_goto (tgt := 27) hx hb dX5_letter_23 (by decide) ?_
    exact xb_X5_letter_27 C0 hA  _ _ _ hk H locs ls hP hD hS (lv_sub hl [0, 1] rfl)
theorem xc_X5_letter (l : Launch) (D : va_G) (cI cC cZ cL : ClassId) (h h_text h_now h_trial h_diary h_kept h_isKept h_line : Nat)  (sz : Nat) (f_refusal : Int32) (f_size : Int32) (f_acts : Int32) (f_length : Int32) (f_spot : Int32) (f_out : Int32) (f_text : Nat → Int32) (x1 : Int32) (K : Int32 → Int32 → Prop) (hk : xp_X5_letter f_text f_size f_spot x1 K) : XMi l yX5_letter wsX5_letter ({ frames := 1, cells := 0, slots := 0, locals := 25 } : Room) D (xTY cI cC cZ cL) [.ref h, .int x1] [(h, .inr (5, [.int f_refusal, .ref h_text, .int f_size, .ref h_now, .ref h_trial, .ref h_diary, .int f_acts, .ref h_kept, .ref h_isKept, .ref h_line, .int f_length, .int f_spot, .int f_out])), (h_text, .inl (cI, 120, .inl f_text))] sz (fun (r : Int32) (u : Int32) => K r u) (fun (u : Int32) => [(h, .inr (5, [.int f_refusal, .ref h_text, .int f_size, .ref h_now, .ref h_trial, .ref h_diary, .int f_acts, .ref h_kept, .ref h_isKept, .ref h_line, .int f_length, .int u, .int f_out])), (h_text, .inl (cI, 120, .inl f_text))]) :=
  x_enter (cc := cX5_letter) (maxL := 3) (ret := (some .int)) (own := RX5) (by decide) rfl rfl (Nat.le_of_ble_eq_true rfl) (fun p e s m below meth c ls C0 hA hP hD hS hl => xb_X5_letter_0 C0 hA _ _ hk s.heap [] ls hP hD hS hl)
set_option maxRecDepth 20000 in
theorem xin_X5_done_X5 : ∀ w ∈ u_ws RX5 TX5 13, w ∈ wsX5_done := by decide +kernel
set_option maxHeartbeats 4000000 in
set_option maxRecDepth 100000 in
theorem xb_X5_done_0 {p : Program} {l : Launch} {e : Env} {s : State} {m : MethodId} {args : Array Value} {below : List Frame} {meth : Method} {c : Code} {A : Nat → Prop} {D : va_G} {cI cC cZ cL : ClassId} {h h_text h_now h_trial h_diary h_kept h_isKept h_line : Nat}  {f_refusal : Int32} {f_size : Int32} {f_acts : Int32} {f_length : Int32} {f_spot : Int32} {K : Int32 → Int32 → Prop}  (C0 : xC p s m args meth c cX5_done 2 (some .boolean) wsX5_done RX5 D (xTY cI cC cZ cL)) (hA : ∀ q : Nat, s.heap.size ≤ q → A q)  : ∀ (f_out : Int32) (x1 : Int32) , xp_X5_done f_out x1 K → ∀ (H : Heap) (locs : List Loc) (ls : Array Slot), va_P D vwCl [(h, .inr (5, [.int f_refusal, .ref h_text, .int f_size, .ref h_now, .ref h_trial, .ref h_diary, .int f_acts, .ref h_kept, .ref h_isKept, .ref h_line, .int f_length, .int f_spot, .int f_out]))] H → va_D A [(h, .inr (5, [.int f_refusal, .ref h_text, .int f_size, .ref h_now, .ref h_trial, .ref h_diary, .int f_acts, .ref h_kept, .ref h_isKept, .ref h_line, .int f_length, .int f_spot, .int f_out]))] → va_S A s.heap H locs → lv_has ls 2 [(0, .ref h), (1, .int x1)] → W p l e ({ frames := 0, cells := 0, slots := 0, locals := 0 } : Room) s m args below meth c H locs 0 0 (MQ below (va_Qi (fun (r : Int32) (u : Int32) => K r u) (fun u t => xE D A ((fun (u : Int32) => [(h, .inr (5, [.int f_refusal, .ref h_text, .int f_size, .ref h_now, .ref h_trial, .ref h_diary, .int f_acts, .ref h_kept, .ref h_isKept, .ref h_line, .int f_length, .int f_spot, .int u]))]) u) t) A) args s 0 0 A) (F0 m 0 ls []) := by
  obtain ⟨hx, hb, hr, hml, hown, hts, hlocks, hK, hN⟩ := id C0
  intro f_out x1 hk H locs ls hP hD hS hl
  rw [xp_X5_done] at hk
  refine lv_aload_n hx hb dX5_done_0 rfl (lv_at hl 0 rfl) ?_
  refine lv_dup hx hb dX5_done_1 rfl ?_
  refine va_get (D := D) (ci := 5) (v := .int f_out) (C := RX5) (T := TX5) (N := 13) hx hb hts xin_X5_done_X5 hown hK hP 0 rfl rfl 12 (by decide) (hts (.fieldLink RX5 112 "TakeLogModel" "out" "I") (by decide +kernel)) (fun _ h9 => h9) rfl dX5_done_2 ?_
  refine lv_iload_n hx hb dX5_done_5 rfl (lv_at hl 1 rfl) ?_
  refine lv_if_eq (tgt := 13) hx hb dX5_done_6 (by decide) (fun c1 => ?_) (fun c1 => ?_)
  · have hk := hk.1 c1
    refine lv_iconst (v := 1) hx hb dX5_done_13 (by decide) ?_
    refine lv_iadd hx hb dX5_done_14 ?_
    refine va_put (D := D) (ci := 5) (v := .int (f_out + 1)) (ty := .int) (C := RX5) (T := TX5) (N := 13) hx hb hts xin_X5_done_X5 tyX5 tyX5_ok nmX5 hown hK hP hD hS 0 rfl rfl 12 (by decide) (hts (.fieldLink RX5 112 "TakeLogModel" "out" "I") (by decide +kernel)) (fun _ h9 => h9) rfl (by decide +kernel) rfl rfl (Nat.le_of_ble_eq_true rfl) dX5_done_15 (fun H locs hP hD hS => ?_)
    have hP : va_P D vwCl [(h, .inr (5, [.int f_refusal, .ref h_text, .int f_size, .ref h_now, .ref h_trial, .ref h_diary, .int f_acts, .ref h_kept, .ref h_isKept, .ref h_line, .int f_length, .int f_spot, .int (f_out + 1)]))] H := hP
    have hD : va_D A [(h, .inr (5, [.int f_refusal, .ref h_text, .int f_size, .ref h_now, .ref h_trial, .ref h_diary, .int f_acts, .ref h_kept, .ref h_isKept, .ref h_line, .int f_length, .int f_spot, .int (f_out + 1)]))] := hD
    refine lv_iconst (v := 1) hx hb dX5_done_18 (by decide) ?_
    exact x_retz rfl C0 (f_out + 1) hk hP hD hS dX5_done_19
  · have hk := hk.2 c1
    refine lv_iconst (v := 0) hx hb dX5_done_9 (by decide) ?_
    refine lv_goto (tgt := 14) hx hb dX5_done_10 (by decide) ?_
    refine lv_iadd hx hb dX5_done_14 ?_
    refine va_put (D := D) (ci := 5) (v := .int (f_out + 0)) (ty := .int) (C := RX5) (T := TX5) (N := 13) hx hb hts xin_X5_done_X5 tyX5 tyX5_ok nmX5 hown hK hP hD hS 0 rfl rfl 12 (by decide) (hts (.fieldLink RX5 112 "TakeLogModel" "out" "I") (by decide +kernel)) (fun _ h9 => h9) rfl (by decide +kernel) rfl rfl (Nat.le_of_ble_eq_true rfl) dX5_done_15 (fun H locs hP hD hS => ?_)
    have hP : va_P D vwCl [(h, .inr (5, [.int f_refusal, .ref h_text, .int f_size, .ref h_now, .ref h_trial, .ref h_diary, .int f_acts, .ref h_kept, .ref h_isKept, .ref h_line, .int f_length, .int f_spot, .int (f_out + 0)]))] H := hP
    have hD : va_D A [(h, .inr (5, [.int f_refusal, .ref h_text, .int f_size, .ref h_now, .ref h_trial, .ref h_diary, .int f_acts, .ref h_kept, .ref h_isKept, .ref h_line, .int f_length, .int f_spot, .int (f_out + 0)]))] := hD
    refine lv_iconst (v := 1) hx hb dX5_done_18 (by decide) ?_
    exact x_retz rfl C0 (f_out + 0) hk hP hD hS dX5_done_19
theorem xc_X5_done (l : Launch) (D : va_G) (cI cC cZ cL : ClassId) (h h_text h_now h_trial h_diary h_kept h_isKept h_line : Nat)  (sz : Nat) (f_refusal : Int32) (f_size : Int32) (f_acts : Int32) (f_length : Int32) (f_spot : Int32) (f_out : Int32) (x1 : Int32) (K : Int32 → Int32 → Prop) (hk : xp_X5_done f_out x1 K) : XMi l yX5_done wsX5_done ({ frames := 0, cells := 0, slots := 0, locals := 0 } : Room) D (xTY cI cC cZ cL) [.ref h, .int x1] [(h, .inr (5, [.int f_refusal, .ref h_text, .int f_size, .ref h_now, .ref h_trial, .ref h_diary, .int f_acts, .ref h_kept, .ref h_isKept, .ref h_line, .int f_length, .int f_spot, .int f_out]))] sz (fun (r : Int32) (u : Int32) => K r u) (fun (u : Int32) => [(h, .inr (5, [.int f_refusal, .ref h_text, .int f_size, .ref h_now, .ref h_trial, .ref h_diary, .int f_acts, .ref h_kept, .ref h_isKept, .ref h_line, .int f_length, .int f_spot, .int u]))]) :=
  x_enter (cc := cX5_done) (maxL := 2) (ret := (some .boolean)) (own := RX5) (by decide) rfl rfl (Nat.le_of_ble_eq_true rfl) (fun p e s m below meth c ls C0 hA hP hD hS hl => xb_X5_done_0 C0 hA _ _ hk s.heap [] ls hP hD hS hl)
set_option maxRecDepth 20000 in
theorem xin_X5_readCommand_X5 : ∀ w ∈ u_ws RX5 TX5 13, w ∈ wsX5_readCommand := by decide +kernel
set_option maxHeartbeats 4000000 in
set_option maxRecDepth 100000 in
theorem xb_X5_readCommand_159 {p : Program} {l : Launch} {e : Env} {s : State} {m : MethodId} {args : Array Value} {below : List Frame} {meth : Method} {c : Code} {A : Nat → Prop} {D : va_G} {cI cC cZ cL : ClassId} {h h_text h_now h_trial h_diary h_kept h_isKept h_line g1 : Nat}  {f_refusal : Int32} {f_size : Int32} {f_acts : Int32} {f_length : Int32} {f_text : Nat → Int32} {K : Int32 → (Int32 × Int32 × (Nat → Int32)) → Prop}  (C0 : xC p s m args meth c cX5_readCommand 6 (some .boolean) wsX5_readCommand RX5 D (xTY cI cC cZ cL)) (hA : ∀ q : Nat, s.heap.size ≤ q → A q)  : ∀ (f_spot : Int32) (f_out : Int32) (f_p1 : Nat → Int32) (t0 : Int32) , xp_X5_readCommand_159 f_text f_size K f_spot f_out f_p1 t0 → ∀ (H : Heap) (locs : List Loc) (ls : Array Slot), va_P D vwCl [(h, .inr (5, [.int f_refusal, .ref h_text, .int f_size, .ref h_now, .ref h_trial, .ref h_diary, .int f_acts, .ref h_kept, .ref h_isKept, .ref h_line, .int f_length, .int f_spot, .int f_out])), (h_text, .inl (cI, 120, .inl f_text)), (g1, .inl (cI, 377, .inl f_p1))] H → va_D A [(h, .inr (5, [.int f_refusal, .ref h_text, .int f_size, .ref h_now, .ref h_trial, .ref h_diary, .int f_acts, .ref h_kept, .ref h_isKept, .ref h_line, .int f_length, .int f_spot, .int f_out])), (h_text, .inl (cI, 120, .inl f_text)), (g1, .inl (cI, 377, .inl f_p1))] → va_S A s.heap H locs → lv_has ls 6 [] → W p l e ({ frames := 6, cells := 0, slots := 0, locals := 134 } : Room) s m args below meth c H locs 0 0 (MQ below (va_Qi (fun (r : Int32) (u : Int32 × Int32 × (Nat → Int32)) => K r u) (fun u t => xE D A ((fun (u : Int32 × Int32 × (Nat → Int32)) => [(h, .inr (5, [.int f_refusal, .ref h_text, .int f_size, .ref h_now, .ref h_trial, .ref h_diary, .int f_acts, .ref h_kept, .ref h_isKept, .ref h_line, .int f_length, .int u.1, .int u.2.1])), (h_text, .inl (cI, 120, .inl f_text)), (g1, .inl (cI, 377, .inl u.2.2))]) u) t) A) args s 0 0 A) (F0 m 159 ls [.int t0, .ref h]) := by
  obtain ⟨hx, hb, hr, hml, hown, hts, hlocks, hK, hN⟩ := id C0
  intro f_spot f_out f_p1 t0 hk H locs ls hP hD hS hl
  rw [xp_X5_readCommand_159] at hk
  refine x_joini (ws1 := fun (u1 : Int32) => [(h, .inr (5, [.int f_refusal, .ref h_text, .int f_size, .ref h_now, .ref h_trial, .ref h_diary, .int f_acts, .ref h_kept, .ref h_isKept, .ref h_line, .int f_length, .int f_spot, .int u1])), (h_text, .inl (cI, 120, .inl f_text)), (g1, .inl (cI, 377, .inl f_p1))]) (x_runV (n0 := 1) (As := [.int t0]) (rest := []) C0 (xc_X5_done l D cI cC cZ cL h h_text h_now h_trial h_diary h_kept h_isKept h_line H.size f_refusal f_size f_acts f_length f_spot f_out t0 _ hk) gX5_readCommand_X5_done rfl ⟨rfl, rfl⟩ (by decide +kernel) rfl ⟨by decide, by decide⟩ ⟨Nat.zero_le _, Nat.zero_le _⟩ hP hD [0] rfl rfl (k := 0) rfl rfl rfl hl.1 rfl (Nat.le_of_ble_eq_true rfl) dX5_readCommand_159) hP hD hS hA [0] [1, 2] [2, 0, 1] rfl rfl rfl (by decide) (fun _ => rfl) rfl (fun r1 u1 H locs hk hP hD hS => ?_)
  refine lv_if_eq (tgt := 169) hx hb dX5_readCommand_162 (by decide) (fun c2 => ?_) (fun c2 => ?_)
  · have hk := hk.1 c2
    refine lv_iconst (v := 0) hx hb dX5_readCommand_169 (by decide) ?_
    exact x_retz rfl C0 (f_spot, u1, f_p1) hk hP hD hS dX5_readCommand_170
  · have hk := hk.2 c2
    refine lv_iconst (v := 1) hx hb dX5_readCommand_165 (by decide) ?_
    refine lv_goto (tgt := 170) hx hb dX5_readCommand_166 (by decide) ?_
    exact x_retz rfl C0 (f_spot, u1, f_p1) hk hP hD hS dX5_readCommand_170
set_option maxHeartbeats 4000000 in
set_option maxRecDepth 100000 in
theorem xb_X5_readCommand_224 {p : Program} {l : Launch} {e : Env} {s : State} {m : MethodId} {args : Array Value} {below : List Frame} {meth : Method} {c : Code} {A : Nat → Prop} {D : va_G} {cI cC cZ cL : ClassId} {h h_text h_now h_trial h_diary h_kept h_isKept h_line g1 : Nat}  {f_refusal : Int32} {f_size : Int32} {f_acts : Int32} {f_length : Int32} {f_text : Nat → Int32} {K : Int32 → (Int32 × Int32 × (Nat → Int32)) → Prop}  (C0 : xC p s m args meth c cX5_readCommand 6 (some .boolean) wsX5_readCommand RX5 D (xTY cI cC cZ cL)) (hA : ∀ q : Nat, s.heap.size ≤ q → A q)  : ∀ (f_spot : Int32) (f_out : Int32) (f_p1 : Nat → Int32) (t0 : Int32) , xp_X5_readCommand_224 f_text f_size K f_spot f_out f_p1 t0 → ∀ (H : Heap) (locs : List Loc) (ls : Array Slot), va_P D vwCl [(h, .inr (5, [.int f_refusal, .ref h_text, .int f_size, .ref h_now, .ref h_trial, .ref h_diary, .int f_acts, .ref h_kept, .ref h_isKept, .ref h_line, .int f_length, .int f_spot, .int f_out])), (h_text, .inl (cI, 120, .inl f_text)), (g1, .inl (cI, 377, .inl f_p1))] H → va_D A [(h, .inr (5, [.int f_refusal, .ref h_text, .int f_size, .ref h_now, .ref h_trial, .ref h_diary, .int f_acts, .ref h_kept, .ref h_isKept, .ref h_line, .int f_length, .int f_spot, .int f_out])), (h_text, .inl (cI, 120, .inl f_text)), (g1, .inl (cI, 377, .inl f_p1))] → va_S A s.heap H locs → lv_has ls 6 [] → W p l e ({ frames := 6, cells := 0, slots := 0, locals := 134 } : Room) s m args below meth c H locs 0 0 (MQ below (va_Qi (fun (r : Int32) (u : Int32 × Int32 × (Nat → Int32)) => K r u) (fun u t => xE D A ((fun (u : Int32 × Int32 × (Nat → Int32)) => [(h, .inr (5, [.int f_refusal, .ref h_text, .int f_size, .ref h_now, .ref h_trial, .ref h_diary, .int f_acts, .ref h_kept, .ref h_isKept, .ref h_line, .int f_length, .int u.1, .int u.2.1])), (h_text, .inl (cI, 120, .inl f_text)), (g1, .inl (cI, 377, .inl u.2.2))]) u) t) A) args s 0 0 A) (F0 m 224 ls [.int t0, .ref h]) := by
  obtain ⟨hx, hb, hr, hml, hown, hts, hlocks, hK, hN⟩ := id C0
  intro f_spot f_out f_p1 t0 hk H locs ls hP hD hS hl
  rw [xp_X5_readCommand_224] at hk
  refine x_joini (ws1 := fun (u1 : Int32) => [(h, .inr (5, [.int f_refusal, .ref h_text, .int f_size, .ref h_now, .ref h_trial, .ref h_diary, .int f_acts, .ref h_kept, .ref h_isKept, .ref h_line, .int f_length, .int f_spot, .int u1])), (h_text, .inl (cI, 120, .inl f_text)), (g1, .inl (cI, 377, .inl f_p1))]) (x_runV (n0 := 1) (As := [.int t0]) (rest := []) C0 (xc_X5_done l D cI cC cZ cL h h_text h_now h_trial h_diary h_kept h_isKept h_line H.size f_refusal f_size f_acts f_length f_spot f_out t0 _ hk) gX5_readCommand_X5_done rfl ⟨rfl, rfl⟩ (by decide +kernel) rfl ⟨by decide, by decide⟩ ⟨Nat.zero_le _, Nat.zero_le _⟩ hP hD [0] rfl rfl (k := 0) rfl rfl rfl hl.1 rfl (Nat.le_of_ble_eq_true rfl) dX5_readCommand_224) hP hD hS hA [0] [1, 2] [2, 0, 1] rfl rfl rfl (by decide) (fun _ => rfl) rfl (fun r1 u1 H locs hk hP hD hS => ?_)
  refine lv_if_eq (tgt := 234) hx hb dX5_readCommand_227 (by decide) (fun c2 => ?_) (fun c2 => ?_)
  · have hk := hk.1 c2
    refine lv_iconst (v := 0) hx hb dX5_readCommand_234 (by decide) ?_
    exact x_retz rfl C0 (f_spot, u1, f_p1) hk hP hD hS dX5_readCommand_235
  · have hk := hk.2 c2
    refine lv_iconst (v := 1) hx hb dX5_readCommand_230 (by decide) ?_
    refine lv_goto (tgt := 235) hx hb dX5_readCommand_231 (by decide) ?_
    exact x_retz rfl C0 (f_spot, u1, f_p1) hk hP hD hS dX5_readCommand_235
set_option maxHeartbeats 4000000 in
set_option maxRecDepth 100000 in
theorem xb_X5_readCommand_300 {p : Program} {l : Launch} {e : Env} {s : State} {m : MethodId} {args : Array Value} {below : List Frame} {meth : Method} {c : Code} {A : Nat → Prop} {D : va_G} {cI cC cZ cL : ClassId} {h h_text h_now h_trial h_diary h_kept h_isKept h_line g1 : Nat}  {f_refusal : Int32} {f_size : Int32} {f_acts : Int32} {f_length : Int32} {f_text : Nat → Int32} {K : Int32 → (Int32 × Int32 × (Nat → Int32)) → Prop}  (C0 : xC p s m args meth c cX5_readCommand 6 (some .boolean) wsX5_readCommand RX5 D (xTY cI cC cZ cL)) (hA : ∀ q : Nat, s.heap.size ≤ q → A q)  : ∀ (f_spot : Int32) (f_out : Int32) (f_p1 : Nat → Int32) (t0 : Int32) , xp_X5_readCommand_300 f_text f_size K f_spot f_out f_p1 t0 → ∀ (H : Heap) (locs : List Loc) (ls : Array Slot), va_P D vwCl [(h, .inr (5, [.int f_refusal, .ref h_text, .int f_size, .ref h_now, .ref h_trial, .ref h_diary, .int f_acts, .ref h_kept, .ref h_isKept, .ref h_line, .int f_length, .int f_spot, .int f_out])), (h_text, .inl (cI, 120, .inl f_text)), (g1, .inl (cI, 377, .inl f_p1))] H → va_D A [(h, .inr (5, [.int f_refusal, .ref h_text, .int f_size, .ref h_now, .ref h_trial, .ref h_diary, .int f_acts, .ref h_kept, .ref h_isKept, .ref h_line, .int f_length, .int f_spot, .int f_out])), (h_text, .inl (cI, 120, .inl f_text)), (g1, .inl (cI, 377, .inl f_p1))] → va_S A s.heap H locs → lv_has ls 6 [] → W p l e ({ frames := 6, cells := 0, slots := 0, locals := 134 } : Room) s m args below meth c H locs 0 0 (MQ below (va_Qi (fun (r : Int32) (u : Int32 × Int32 × (Nat → Int32)) => K r u) (fun u t => xE D A ((fun (u : Int32 × Int32 × (Nat → Int32)) => [(h, .inr (5, [.int f_refusal, .ref h_text, .int f_size, .ref h_now, .ref h_trial, .ref h_diary, .int f_acts, .ref h_kept, .ref h_isKept, .ref h_line, .int f_length, .int u.1, .int u.2.1])), (h_text, .inl (cI, 120, .inl f_text)), (g1, .inl (cI, 377, .inl u.2.2))]) u) t) A) args s 0 0 A) (F0 m 300 ls [.int t0, .ref h]) := by
  obtain ⟨hx, hb, hr, hml, hown, hts, hlocks, hK, hN⟩ := id C0
  intro f_spot f_out f_p1 t0 hk H locs ls hP hD hS hl
  rw [xp_X5_readCommand_300] at hk
  refine x_joini (ws1 := fun (u1 : Int32) => [(h, .inr (5, [.int f_refusal, .ref h_text, .int f_size, .ref h_now, .ref h_trial, .ref h_diary, .int f_acts, .ref h_kept, .ref h_isKept, .ref h_line, .int f_length, .int f_spot, .int u1])), (h_text, .inl (cI, 120, .inl f_text)), (g1, .inl (cI, 377, .inl f_p1))]) (x_runV (n0 := 1) (As := [.int t0]) (rest := []) C0 (xc_X5_done l D cI cC cZ cL h h_text h_now h_trial h_diary h_kept h_isKept h_line H.size f_refusal f_size f_acts f_length f_spot f_out t0 _ hk) gX5_readCommand_X5_done rfl ⟨rfl, rfl⟩ (by decide +kernel) rfl ⟨by decide, by decide⟩ ⟨Nat.zero_le _, Nat.zero_le _⟩ hP hD [0] rfl rfl (k := 0) rfl rfl rfl hl.1 rfl (Nat.le_of_ble_eq_true rfl) dX5_readCommand_300) hP hD hS hA [0] [1, 2] [2, 0, 1] rfl rfl rfl (by decide) (fun _ => rfl) rfl (fun r1 u1 H locs hk hP hD hS => ?_)
  refine lv_if_eq (tgt := 310) hx hb dX5_readCommand_303 (by decide) (fun c2 => ?_) (fun c2 => ?_)
  · have hk := hk.1 c2
    refine lv_iconst (v := 0) hx hb dX5_readCommand_310 (by decide) ?_
    exact x_retz rfl C0 (f_spot, u1, f_p1) hk hP hD hS dX5_readCommand_311
  · have hk := hk.2 c2
    refine lv_iconst (v := 1) hx hb dX5_readCommand_306 (by decide) ?_
    refine lv_goto (tgt := 311) hx hb dX5_readCommand_307 (by decide) ?_
    exact x_retz rfl C0 (f_spot, u1, f_p1) hk hP hD hS dX5_readCommand_311
set_option maxHeartbeats 4000000 in
set_option maxRecDepth 100000 in
theorem xb_X5_readCommand_289 {p : Program} {l : Launch} {e : Env} {s : State} {m : MethodId} {args : Array Value} {below : List Frame} {meth : Method} {c : Code} {A : Nat → Prop} {D : va_G} {cI cC cZ cL : ClassId} {h h_text h_now h_trial h_diary h_kept h_isKept h_line g1 : Nat}  {f_refusal : Int32} {f_size : Int32} {f_acts : Int32} {f_length : Int32} {f_text : Nat → Int32} {K : Int32 → (Int32 × Int32 × (Nat → Int32)) → Prop}  (C0 : xC p s m args meth c cX5_readCommand 6 (some .boolean) wsX5_readCommand RX5 D (xTY cI cC cZ cL)) (hA : ∀ q : Nat, s.heap.size ≤ q → A q)  : ∀ (f_spot : Int32) (f_out : Int32) (f_p1 : Nat → Int32) (t0 : Int32) (t1 : Int32) , xp_X5_readCommand_289 f_text f_size K f_spot f_out f_p1 t0 t1 → ∀ (H : Heap) (locs : List Loc) (ls : Array Slot), va_P D vwCl [(h, .inr (5, [.int f_refusal, .ref h_text, .int f_size, .ref h_now, .ref h_trial, .ref h_diary, .int f_acts, .ref h_kept, .ref h_isKept, .ref h_line, .int f_length, .int f_spot, .int f_out])), (h_text, .inl (cI, 120, .inl f_text)), (g1, .inl (cI, 377, .inl f_p1))] H → va_D A [(h, .inr (5, [.int f_refusal, .ref h_text, .int f_size, .ref h_now, .ref h_trial, .ref h_diary, .int f_acts, .ref h_kept, .ref h_isKept, .ref h_line, .int f_length, .int f_spot, .int f_out])), (h_text, .inl (cI, 120, .inl f_text)), (g1, .inl (cI, 377, .inl f_p1))] → va_S A s.heap H locs → lv_has ls 6 [] → W p l e ({ frames := 6, cells := 0, slots := 0, locals := 134 } : Room) s m args below meth c H locs 0 0 (MQ below (va_Qi (fun (r : Int32) (u : Int32 × Int32 × (Nat → Int32)) => K r u) (fun u t => xE D A ((fun (u : Int32 × Int32 × (Nat → Int32)) => [(h, .inr (5, [.int f_refusal, .ref h_text, .int f_size, .ref h_now, .ref h_trial, .ref h_diary, .int f_acts, .ref h_kept, .ref h_isKept, .ref h_line, .int f_length, .int u.1, .int u.2.1])), (h_text, .inl (cI, 120, .inl f_text)), (g1, .inl (cI, 377, .inl u.2.2))]) u) t) A) args s 0 0 A) (F0 m 289 ls [.int t0, .int t1, .ref g1, .ref h]) := by
  obtain ⟨hx, hb, hr, hml, hown, hts, hlocks, hK, hN⟩ := id C0
  intro f_spot f_out f_p1 t0 t1 hk H locs ls hP hD hS hl
  rw [xp_X5_readCommand_289] at hk
  refine x_joini (ws1 := fun (u1 : (Nat → Int32)) => [(h, .inr (5, [.int f_refusal, .ref h_text, .int f_size, .ref h_now, .ref h_trial, .ref h_diary, .int f_acts, .ref h_kept, .ref h_isKept, .ref h_line, .int f_length, .int f_spot, .int f_out])), (h_text, .inl (cI, 120, .inl f_text)), (g1, .inl (cI, 377, .inl u1))]) (x_runO (n0 := 3) (As := [.ref g1, .int t1, .int t0]) (rest := [.ref h]) C0 (xc_X5_shootOn l D cI cC cZ cL g1 H.size f_p1 t1 t0 _ hk) gX5_readCommand_X5_shootOn rfl ⟨rfl, rfl⟩ (by decide +kernel) rfl ⟨by decide, by decide⟩ ⟨Nat.zero_le _, Nat.zero_le _⟩ hP hD [2] rfl rfl hl.1 rfl (Nat.le_of_ble_eq_true rfl) dX5_readCommand_289) hP hD hS hA [2] [0, 1] [0, 1, 2] rfl rfl rfl (by decide) (fun _ => rfl) rfl (fun r1 u1 H locs hk hP hD hS => ?_)
  refine lv_if_le (tgt := 299) hx hb dX5_readCommand_292 (by decide) (fun c2 => ?_) (fun c2 => ?_)
  · have hk := hk.1 c2
    refine lv_iconst (v := 0) hx hb dX5_readCommand_299 (by decide) ?_
    exact xb_X5_readCommand_300 C0 hA  _ _ _ _ hk H locs ls hP hD hS (lv_sub hl [] rfl)
  · have hk := hk.2 c2
    refine lv_iconst (v := 1) hx hb dX5_readCommand_295 (by decide) ?_
    refine lv_goto (tgt := 300) hx hb dX5_readCommand_296 (by decide) ?_
    exact xb_X5_readCommand_300 C0 hA  _ _ _ _ hk H locs ls hP hD hS (lv_sub hl [] rfl)
set_option maxHeartbeats 4000000 in
set_option maxRecDepth 100000 in
theorem xb_X5_readCommand_397 {p : Program} {l : Launch} {e : Env} {s : State} {m : MethodId} {args : Array Value} {below : List Frame} {meth : Method} {c : Code} {A : Nat → Prop} {D : va_G} {cI cC cZ cL : ClassId} {h h_text h_now h_trial h_diary h_kept h_isKept h_line g1 : Nat}  {f_refusal : Int32} {f_size : Int32} {f_acts : Int32} {f_length : Int32} {f_text : Nat → Int32} {K : Int32 → (Int32 × Int32 × (Nat → Int32)) → Prop}  (C0 : xC p s m args meth c cX5_readCommand 6 (some .boolean) wsX5_readCommand RX5 D (xTY cI cC cZ cL)) (hA : ∀ q : Nat, s.heap.size ≤ q → A q)  : ∀ (f_spot : Int32) (f_out : Int32) (f_p1 : Nat → Int32) (t0 : Int32) , xp_X5_readCommand_397 f_text f_size K f_spot f_out f_p1 t0 → ∀ (H : Heap) (locs : List Loc) (ls : Array Slot), va_P D vwCl [(h, .inr (5, [.int f_refusal, .ref h_text, .int f_size, .ref h_now, .ref h_trial, .ref h_diary, .int f_acts, .ref h_kept, .ref h_isKept, .ref h_line, .int f_length, .int f_spot, .int f_out])), (h_text, .inl (cI, 120, .inl f_text)), (g1, .inl (cI, 377, .inl f_p1))] H → va_D A [(h, .inr (5, [.int f_refusal, .ref h_text, .int f_size, .ref h_now, .ref h_trial, .ref h_diary, .int f_acts, .ref h_kept, .ref h_isKept, .ref h_line, .int f_length, .int f_spot, .int f_out])), (h_text, .inl (cI, 120, .inl f_text)), (g1, .inl (cI, 377, .inl f_p1))] → va_S A s.heap H locs → lv_has ls 6 [] → W p l e ({ frames := 6, cells := 0, slots := 0, locals := 134 } : Room) s m args below meth c H locs 0 0 (MQ below (va_Qi (fun (r : Int32) (u : Int32 × Int32 × (Nat → Int32)) => K r u) (fun u t => xE D A ((fun (u : Int32 × Int32 × (Nat → Int32)) => [(h, .inr (5, [.int f_refusal, .ref h_text, .int f_size, .ref h_now, .ref h_trial, .ref h_diary, .int f_acts, .ref h_kept, .ref h_isKept, .ref h_line, .int f_length, .int u.1, .int u.2.1])), (h_text, .inl (cI, 120, .inl f_text)), (g1, .inl (cI, 377, .inl u.2.2))]) u) t) A) args s 0 0 A) (F0 m 397 ls [.int t0, .ref h]) := by
  obtain ⟨hx, hb, hr, hml, hown, hts, hlocks, hK, hN⟩ := id C0
  intro f_spot f_out f_p1 t0 hk H locs ls hP hD hS hl
  rw [xp_X5_readCommand_397] at hk
  refine x_joini (ws1 := fun (u1 : Int32) => [(h, .inr (5, [.int f_refusal, .ref h_text, .int f_size, .ref h_now, .ref h_trial, .ref h_diary, .int f_acts, .ref h_kept, .ref h_isKept, .ref h_line, .int f_length, .int f_spot, .int u1])), (h_text, .inl (cI, 120, .inl f_text)), (g1, .inl (cI, 377, .inl f_p1))]) (x_runV (n0 := 1) (As := [.int t0]) (rest := []) C0 (xc_X5_done l D cI cC cZ cL h h_text h_now h_trial h_diary h_kept h_isKept h_line H.size f_refusal f_size f_acts f_length f_spot f_out t0 _ hk) gX5_readCommand_X5_done rfl ⟨rfl, rfl⟩ (by decide +kernel) rfl ⟨by decide, by decide⟩ ⟨Nat.zero_le _, Nat.zero_le _⟩ hP hD [0] rfl rfl (k := 0) rfl rfl rfl hl.1 rfl (Nat.le_of_ble_eq_true rfl) dX5_readCommand_397) hP hD hS hA [0] [1, 2] [2, 0, 1] rfl rfl rfl (by decide) (fun _ => rfl) rfl (fun r1 u1 H locs hk hP hD hS => ?_)
  refine lv_if_eq (tgt := 407) hx hb dX5_readCommand_400 (by decide) (fun c2 => ?_) (fun c2 => ?_)
  · have hk := hk.1 c2
    refine lv_iconst (v := 0) hx hb dX5_readCommand_407 (by decide) ?_
    exact x_retz rfl C0 (f_spot, u1, f_p1) hk hP hD hS dX5_readCommand_408
  · have hk := hk.2 c2
    refine lv_iconst (v := 1) hx hb dX5_readCommand_403 (by decide) ?_
    refine lv_goto (tgt := 408) hx hb dX5_readCommand_404 (by decide) ?_
    exact x_retz rfl C0 (f_spot, u1, f_p1) hk hP hD hS dX5_readCommand_408
set_option maxHeartbeats 4000000 in
set_option maxRecDepth 100000 in
theorem xb_X5_readCommand_385 {p : Program} {l : Launch} {e : Env} {s : State} {m : MethodId} {args : Array Value} {below : List Frame} {meth : Method} {c : Code} {A : Nat → Prop} {D : va_G} {cI cC cZ cL : ClassId} {h h_text h_now h_trial h_diary h_kept h_isKept h_line g1 : Nat}  {f_refusal : Int32} {f_size : Int32} {f_acts : Int32} {f_length : Int32} {f_text : Nat → Int32} {K : Int32 → (Int32 × Int32 × (Nat → Int32)) → Prop}  (C0 : xC p s m args meth c cX5_readCommand 6 (some .boolean) wsX5_readCommand RX5 D (xTY cI cC cZ cL)) (hA : ∀ q : Nat, s.heap.size ≤ q → A q)  : ∀ (f_spot : Int32) (f_out : Int32) (f_p1 : Nat → Int32) (t0 : Int32) (t1 : Int32) , xp_X5_readCommand_385 f_text f_size K f_spot f_out f_p1 t0 t1 → ∀ (H : Heap) (locs : List Loc) (ls : Array Slot), va_P D vwCl [(h, .inr (5, [.int f_refusal, .ref h_text, .int f_size, .ref h_now, .ref h_trial, .ref h_diary, .int f_acts, .ref h_kept, .ref h_isKept, .ref h_line, .int f_length, .int f_spot, .int f_out])), (h_text, .inl (cI, 120, .inl f_text)), (g1, .inl (cI, 377, .inl f_p1))] H → va_D A [(h, .inr (5, [.int f_refusal, .ref h_text, .int f_size, .ref h_now, .ref h_trial, .ref h_diary, .int f_acts, .ref h_kept, .ref h_isKept, .ref h_line, .int f_length, .int f_spot, .int f_out])), (h_text, .inl (cI, 120, .inl f_text)), (g1, .inl (cI, 377, .inl f_p1))] → va_S A s.heap H locs → lv_has ls 6 [] → W p l e ({ frames := 6, cells := 0, slots := 0, locals := 134 } : Room) s m args below meth c H locs 0 0 (MQ below (va_Qi (fun (r : Int32) (u : Int32 × Int32 × (Nat → Int32)) => K r u) (fun u t => xE D A ((fun (u : Int32 × Int32 × (Nat → Int32)) => [(h, .inr (5, [.int f_refusal, .ref h_text, .int f_size, .ref h_now, .ref h_trial, .ref h_diary, .int f_acts, .ref h_kept, .ref h_isKept, .ref h_line, .int f_length, .int u.1, .int u.2.1])), (h_text, .inl (cI, 120, .inl f_text)), (g1, .inl (cI, 377, .inl u.2.2))]) u) t) A) args s 0 0 A) (F0 m 385 ls [.int t0, .int t1, .ref g1, .ref h]) := by
  obtain ⟨hx, hb, hr, hml, hown, hts, hlocks, hK, hN⟩ := id C0
  intro f_spot f_out f_p1 t0 t1 hk H locs ls hP hD hS hl
  rw [xp_X5_readCommand_385] at hk
  refine lv_iconst (v := 1) hx hb dX5_readCommand_385 (by decide) ?_
  refine x_joini (ws1 := fun (u1 : (Nat → Int32)) => [(h, .inr (5, [.int f_refusal, .ref h_text, .int f_size, .ref h_now, .ref h_trial, .ref h_diary, .int f_acts, .ref h_kept, .ref h_isKept, .ref h_line, .int f_length, .int f_spot, .int f_out])), (h_text, .inl (cI, 120, .inl f_text)), (g1, .inl (cI, 377, .inl u1))]) (x_runO (n0 := 4) (As := [.ref g1, .int t1, .int t0, .int 1]) (rest := [.ref h]) C0 (xc_X5_markOn l D cI cC cZ cL g1 H.size f_p1 t1 t0 1 _ hk) gX5_readCommand_X5_markOn rfl ⟨rfl, rfl⟩ (by decide +kernel) rfl ⟨by decide, by decide⟩ ⟨Nat.zero_le _, Nat.zero_le _⟩ hP hD [2] rfl rfl hl.1 rfl (Nat.le_of_ble_eq_true rfl) dX5_readCommand_386) hP hD hS hA [2] [0, 1] [0, 1, 2] rfl rfl rfl (by decide) (fun _ => rfl) rfl (fun r1 u1 H locs hk hP hD hS => ?_)
  refine lv_if_lt (tgt := 396) hx hb dX5_readCommand_389 (by decide) (fun c2 => ?_) (fun c2 => ?_)
  · have hk := hk.1 c2
    refine lv_iconst (v := 0) hx hb dX5_readCommand_396 (by decide) ?_
    exact xb_X5_readCommand_397 C0 hA  _ _ _ _ hk H locs ls hP hD hS (lv_sub hl [] rfl)
  · have hk := hk.2 c2
    refine lv_iconst (v := 1) hx hb dX5_readCommand_392 (by decide) ?_
    refine lv_goto (tgt := 397) hx hb dX5_readCommand_393 (by decide) ?_
    exact xb_X5_readCommand_397 C0 hA  _ _ _ _ hk H locs ls hP hD hS (lv_sub hl [] rfl)
set_option maxHeartbeats 4000000 in
set_option maxRecDepth 100000 in
theorem xb_X5_readCommand_432 {p : Program} {l : Launch} {e : Env} {s : State} {m : MethodId} {args : Array Value} {below : List Frame} {meth : Method} {c : Code} {A : Nat → Prop} {D : va_G} {cI cC cZ cL : ClassId} {h h_text h_now h_trial h_diary h_kept h_isKept h_line g1 : Nat}  {f_refusal : Int32} {f_size : Int32} {f_acts : Int32} {f_length : Int32} {f_text : Nat → Int32} {K : Int32 → (Int32 × Int32 × (Nat → Int32)) → Prop}  (C0 : xC p s m args meth c cX5_readCommand 6 (some .boolean) wsX5_readCommand RX5 D (xTY cI cC cZ cL)) (hA : ∀ q : Nat, s.heap.size ≤ q → A q)  : ∀ (f_spot : Int32) (f_out : Int32) (f_p1 : Nat → Int32) (v3 : Int32) , xp_X5_readCommand_432 f_text f_size K f_spot f_out f_p1 v3 → ∀ (H : Heap) (locs : List Loc) (ls : Array Slot), va_P D vwCl [(h, .inr (5, [.int f_refusal, .ref h_text, .int f_size, .ref h_now, .ref h_trial, .ref h_diary, .int f_acts, .ref h_kept, .ref h_isKept, .ref h_line, .int f_length, .int f_spot, .int f_out])), (h_text, .inl (cI, 120, .inl f_text)), (g1, .inl (cI, 377, .inl f_p1))] H → va_D A [(h, .inr (5, [.int f_refusal, .ref h_text, .int f_size, .ref h_now, .ref h_trial, .ref h_diary, .int f_acts, .ref h_kept, .ref h_isKept, .ref h_line, .int f_length, .int f_spot, .int f_out])), (h_text, .inl (cI, 120, .inl f_text)), (g1, .inl (cI, 377, .inl f_p1))] → va_S A s.heap H locs → lv_has ls 6 [(3, .int v3)] → W p l e ({ frames := 6, cells := 0, slots := 0, locals := 134 } : Room) s m args below meth c H locs 0 0 (MQ below (va_Qi (fun (r : Int32) (u : Int32 × Int32 × (Nat → Int32)) => K r u) (fun u t => xE D A ((fun (u : Int32 × Int32 × (Nat → Int32)) => [(h, .inr (5, [.int f_refusal, .ref h_text, .int f_size, .ref h_now, .ref h_trial, .ref h_diary, .int f_acts, .ref h_kept, .ref h_isKept, .ref h_line, .int f_length, .int u.1, .int u.2.1])), (h_text, .inl (cI, 120, .inl f_text)), (g1, .inl (cI, 377, .inl u.2.2))]) u) t) A) args s 0 0 A) (F0 m 432 ls []) := by
  obtain ⟨hx, hb, hr, hml, hown, hts, hlocks, hK, hN⟩ := id C0
  intro f_spot f_out f_p1 v3 hk H locs ls hP hD hS hl
  rw [xp_X5_readCommand_432] at hk
  refine lv_iload_n hx hb dX5_readCommand_432 rfl (lv_at hl 0 rfl) ?_
  refine lv_iconst (v := (-1 : Int32)) hx hb dX5_readCommand_433 (by decide) ?_
  refine lv_icmp_eq (tgt := 441) hx hb dX5_readCommand_434 (by decide) (fun c1 => ?_) (fun c1 => ?_)
  · have hk := hk.1 c1
    refine lv_iconst (v := 0) hx hb dX5_readCommand_441 (by decide) ?_
    exact x_retz rfl C0 (f_spot, f_out, f_p1) hk hP hD hS dX5_readCommand_442
  · have hk := hk.2 c1
    refine lv_iconst (v := 1) hx hb dX5_readCommand_437 (by decide) ?_
    refine lv_goto (tgt := 442) hx hb dX5_readCommand_438 (by decide) ?_
    exact x_retz rfl C0 (f_spot, f_out, f_p1) hk hP hD hS dX5_readCommand_442
set_option maxHeartbeats 4000000 in
set_option maxRecDepth 100000 in
theorem xb_X5_readCommand_0 {p : Program} {l : Launch} {e : Env} {s : State} {m : MethodId} {args : Array Value} {below : List Frame} {meth : Method} {c : Code} {A : Nat → Prop} {D : va_G} {cI cC cZ cL : ClassId} {h h_text h_now h_trial h_diary h_kept h_isKept h_line g1 : Nat}  {f_refusal : Int32} {f_size : Int32} {f_acts : Int32} {f_length : Int32} {f_text : Nat → Int32} {K : Int32 → (Int32 × Int32 × (Nat → Int32)) → Prop}  (C0 : xC p s m args meth c cX5_readCommand 6 (some .boolean) wsX5_readCommand RX5 D (xTY cI cC cZ cL)) (hA : ∀ q : Nat, s.heap.size ≤ q → A q)  : ∀ (f_spot : Int32) (f_out : Int32) (f_p1 : Nat → Int32) , xp_X5_readCommand f_text f_size f_spot f_out f_p1 K → ∀ (H : Heap) (locs : List Loc) (ls : Array Slot), va_P D vwCl [(h, .inr (5, [.int f_refusal, .ref h_text, .int f_size, .ref h_now, .ref h_trial, .ref h_diary, .int f_acts, .ref h_kept, .ref h_isKept, .ref h_line, .int f_length, .int f_spot, .int f_out])), (h_text, .inl (cI, 120, .inl f_text)), (g1, .inl (cI, 377, .inl f_p1))] H → va_D A [(h, .inr (5, [.int f_refusal, .ref h_text, .int f_size, .ref h_now, .ref h_trial, .ref h_diary, .int f_acts, .ref h_kept, .ref h_isKept, .ref h_line, .int f_length, .int f_spot, .int f_out])), (h_text, .inl (cI, 120, .inl f_text)), (g1, .inl (cI, 377, .inl f_p1))] → va_S A s.heap H locs → lv_has ls 6 [(0, .ref h), (1, .ref g1)] → W p l e ({ frames := 6, cells := 0, slots := 0, locals := 134 } : Room) s m args below meth c H locs 0 0 (MQ below (va_Qi (fun (r : Int32) (u : Int32 × Int32 × (Nat → Int32)) => K r u) (fun u t => xE D A ((fun (u : Int32 × Int32 × (Nat → Int32)) => [(h, .inr (5, [.int f_refusal, .ref h_text, .int f_size, .ref h_now, .ref h_trial, .ref h_diary, .int f_acts, .ref h_kept, .ref h_isKept, .ref h_line, .int f_length, .int u.1, .int u.2.1])), (h_text, .inl (cI, 120, .inl f_text)), (g1, .inl (cI, 377, .inl u.2.2))]) u) t) A) args s 0 0 A) (F0 m 0 ls []) := by
  obtain ⟨hx, hb, hr, hml, hown, hts, hlocks, hK, hN⟩ := id C0
  intro f_spot f_out f_p1 hk H locs ls hP hD hS hl
  rw [xp_X5_readCommand] at hk
  refine lv_aload_n hx hb dX5_readCommand_0 rfl (lv_at hl 0 rfl) ?_
  refine va_get (D := D) (ci := 5) (v := .ref h_text) (C := RX5) (T := TX5) (N := 13) hx hb hts xin_X5_readCommand_X5 hown hK hP 0 rfl rfl 1 (by decide) (hts (.fieldLink RX5 7 "TakeLogModel" "text" "[I") (by decide +kernel)) (fun _ h9 => h9) rfl dX5_readCommand_1 ?_
  refine lv_aload_n hx hb dX5_readCommand_4 rfl (lv_at hl 0 rfl) ?_
  refine va_get (D := D) (ci := 5) (v := .int f_spot) (C := RX5) (T := TX5) (N := 13) hx hb hts xin_X5_readCommand_X5 hown hK hP 0 rfl rfl 11 (by decide) (hts (.fieldLink RX5 107 "TakeLogModel" "spot" "I") (by decide +kernel)) (fun _ h9 => h9) rfl dX5_readCommand_5 ?_
  refine x_iald hx hb hK hP 1 0 rfl rfl hk.1 rfl rfl dX5_readCommand_8 ?_
  have hk := hk.2
  refine lv_istore_n (lv' := [(2, .int (f_text f_spot.toNatClampNeg)), (0, .ref h), (1, .ref g1)]) hx hb dX5_readCommand_9 rfl hl (by decide) rfl (fun ls hl => ?_)
  refine lv_aload_n hx hb dX5_readCommand_10 rfl (lv_at hl 1 rfl) ?_
  refine lv_dup hx hb dX5_readCommand_11 rfl ?_
  refine va_get (D := D) (ci := 5) (v := .int f_spot) (C := RX5) (T := TX5) (N := 13) hx hb hts xin_X5_readCommand_X5 hown hK hP 0 rfl rfl 11 (by decide) (hts (.fieldLink RX5 107 "TakeLogModel" "spot" "I") (by decide +kernel)) (fun _ h9 => h9) rfl dX5_readCommand_12 ?_
  refine lv_iconst (v := 1) hx hb dX5_readCommand_15 (by decide) ?_
  refine lv_iadd hx hb dX5_readCommand_16 ?_
  refine va_put (D := D) (ci := 5) (v := .int (f_spot + 1)) (ty := .int) (C := RX5) (T := TX5) (N := 13) hx hb hts xin_X5_readCommand_X5 tyX5 tyX5_ok nmX5 hown hK hP hD hS 0 rfl rfl 11 (by decide) (hts (.fieldLink RX5 107 "TakeLogModel" "spot" "I") (by decide +kernel)) (fun _ h9 => h9) rfl (by decide +kernel) rfl rfl (Nat.le_of_ble_eq_true rfl) dX5_readCommand_17 (fun H locs hP hD hS => ?_)
  have hP : va_P D vwCl [(h, .inr (5, [.int f_refusal, .ref h_text, .int f_size, .ref h_now, .ref h_trial, .ref h_diary, .int f_acts, .ref h_kept, .ref h_isKept, .ref h_line, .int f_length, .int (f_spot + 1), .int f_out])), (h_text, .inl (cI, 120, .inl f_text)), (g1, .inl (cI, 377, .inl f_p1))] H := hP
  have hD : va_D A [(h, .inr (5, [.int f_refusal, .ref h_text, .int f_size, .ref h_now, .ref h_trial, .ref h_diary, .int f_acts, .ref h_kept, .ref h_isKept, .ref h_line, .int f_length, .int (f_spot + 1), .int f_out])), (h_text, .inl (cI, 120, .inl f_text)), (g1, .inl (cI, 377, .inl f_p1))] := hD
  refine lv_iload_n hx hb dX5_readCommand_20 rfl (lv_at hl 0 rfl) ?_
  by_cases c2 : (f_text f_spot.toNatClampNeg) = 98
  · have hk := hk.1 c2
    refine lv_tableIn (x := (f_text f_spot.toNatClampNeg)) (off := 150) (tgt := 171) hx hb dX5_readCommand_21 (by rw [c2]; decide) (by rw [c2]; decide) (by rw [c2]; rfl) (by decide) ?_
    refine lv_aload_n hx hb dX5_readCommand_171 rfl (lv_at hl 1 rfl) ?_
    refine lv_iconst (v := 0) hx hb dX5_readCommand_172 (by decide) ?_
    refine lv_iconst (v := 2) hx hb dX5_readCommand_173 (by decide) ?_
    refine lv_iconst (v := 1) hx hb dX5_readCommand_174 (by decide) ?_
    refine lv_bipush (v := 99) hx hb dX5_readCommand_175 (by decide) ?_
    refine x_joini (ws1 := fun (u3 : Int32) => [(h, .inr (5, [.int f_refusal, .ref h_text, .int f_size, .ref h_now, .ref h_trial, .ref h_diary, .int f_acts, .ref h_kept, .ref h_isKept, .ref h_line, .int f_length, .int u3, .int f_out])), (h_text, .inl (cI, 120, .inl f_text)), (g1, .inl (cI, 377, .inl f_p1))]) (x_runV (n0 := 4) (As := [.int 0, .int 2, .int 1, .int 99]) (rest := []) C0 (xc_X5_figures l D cI cC cZ cL h h_text h_now h_trial h_diary h_kept h_isKept h_line H.size f_refusal f_size f_acts f_length (f_spot + 1) f_out f_text 0 2 1 99 _ hk) gX5_readCommand_X5_figures rfl ⟨rfl, rfl⟩ (by decide +kernel) rfl ⟨by decide, by decide⟩ ⟨Nat.zero_le _, Nat.zero_le _⟩ hP hD [0, 1] rfl rfl (k := 0) rfl rfl rfl hl.1 rfl (Nat.le_of_ble_eq_true rfl) dX5_readCommand_177) hP hD hS hA [0, 1] [2] [1, 2, 0] rfl rfl rfl (by decide) (fun _ => rfl) rfl (fun r3 u3 H locs hk hP hD hS => ?_)
    refine lv_istore_n (lv' := [(3, .int r3), (2, .int (f_text f_spot.toNatClampNeg)), (0, .ref h), (1, .ref g1)]) hx hb dX5_readCommand_180 rfl hl (by decide) rfl (fun ls hl => ?_)
    refine lv_aload_n hx hb dX5_readCommand_181 rfl (lv_at hl 2 rfl) ?_
    refine lv_iload_n hx hb dX5_readCommand_182 rfl (lv_at hl 0 rfl) ?_
    refine x_joini (ws1 := fun (u4 : Int32) => [(h, .inr (5, [.int f_refusal, .ref h_text, .int f_size, .ref h_now, .ref h_trial, .ref h_diary, .int f_acts, .ref h_kept, .ref h_isKept, .ref h_line, .int f_length, .int u4, .int f_out])), (h_text, .inl (cI, 120, .inl f_text)), (g1, .inl (cI, 377, .inl f_p1))]) (x_runV (n0 := 1) (As := [.int r3]) (rest := []) C0 (xc_X5_letter l D cI cC cZ cL h h_text h_now h_trial h_diary h_kept h_isKept h_line H.size f_refusal f_size f_acts f_length u3 f_out f_text r3 _ hk) gX5_readCommand_X5_letter rfl ⟨rfl, rfl⟩ (by decide +kernel) rfl ⟨by decide, by decide⟩ ⟨Nat.zero_le _, Nat.zero_le _⟩ hP hD [0, 1] rfl rfl (k := 0) rfl rfl rfl hl.1 rfl (Nat.le_of_ble_eq_true rfl) dX5_readCommand_183) hP hD hS hA [0, 1] [2] [1, 2, 0] rfl rfl rfl (by decide) (fun _ => rfl) rfl (fun r4 u4 H locs hk hP hD hS => ?_)
    refine lv_istore (lv' := [(4, .int r4), (3, .int r3), (2, .int (f_text f_spot.toNatClampNeg)), (0, .ref h), (1, .ref g1)]) hx hb dX5_readCommand_186 hl (by decide) rfl (fun ls hl => ?_)
    refine lv_aload_n hx hb dX5_readCommand_188 rfl (lv_at hl 3 rfl) ?_
    refine lv_iload hx hb dX5_readCommand_189 (lv_at hl 0 rfl) ?_
    refine lv_iconst (v := 2) hx hb dX5_readCommand_191 (by decide) ?_
    refine lv_iconst (v := 1) hx hb dX5_readCommand_192 (by decide) ?_
    refine lv_bipush (v := 99) hx hb dX5_readCommand_193 (by decide) ?_
    refine x_joini (ws1 := fun (u5 : Int32) => [(h, .inr (5, [.int f_refusal, .ref h_text, .int f_size, .ref h_now, .ref h_trial, .ref h_diary, .int f_acts, .ref h_kept, .ref h_isKept, .ref h_line, .int f_length, .int u5, .int f_out])), (h_text, .inl (cI, 120, .inl f_text)), (g1, .inl (cI, 377, .inl f_p1))]) (x_runV (n0 := 4) (As := [.int r4, .int 2, .int 1, .int 99]) (rest := []) C0 (xc_X5_figures l D cI cC cZ cL h h_text h_now h_trial h_diary h_kept h_isKept h_line H.size f_refusal f_size f_acts f_length u4 f_out f_text r4 2 1 99 _ hk) gX5_readCommand_X5_figures rfl ⟨rfl, rfl⟩ (by decide +kernel) rfl ⟨by decide, by decide⟩ ⟨Nat.zero_le _, Nat.zero_le _⟩ hP hD [0, 1] rfl rfl (k := 0) rfl rfl rfl hl.1 rfl (Nat.le_of_ble_eq_true rfl) dX5_readCommand_195) hP hD hS hA [0, 1] [2] [1, 2, 0] rfl rfl rfl (by decide) (fun _ => rfl) rfl (fun r5 u5 H locs hk hP hD hS => ?_)
    refine lv_istore (lv' := [(5, .int r5), (4, .int r4), (3, .int r3), (2, .int (f_text f_spot.toNatClampNeg)), (0, .ref h), (1, .ref g1)]) hx hb dX5_readCommand_198 hl (by decide) rfl (fun ls hl => ?_)
    refine lv_iload hx hb dX5_readCommand_200 (lv_at hl 0 rfl) ?_
    refine lv_iconst (v := (-1 : Int32)) hx hb dX5_readCommand_202 (by decide) ?_
    refine lv_icmp_eq (tgt := 234) hx hb dX5_readCommand_203 (by decide) (fun c6 => ?_) (fun c6 => ?_)
    · have hk := hk.1 c6
      refine lv_iconst (v := 0) hx hb dX5_readCommand_234 (by decide) ?_
      exact x_retz rfl C0 (u5, f_out, f_p1) hk hP hD hS dX5_readCommand_235
    · have hk := hk.2 c6
      refine lv_aload_n hx hb dX5_readCommand_206 rfl (lv_at hl 4 rfl) ?_
      refine lv_aload_n hx hb dX5_readCommand_207 rfl (lv_at hl 5 rfl) ?_
      refine lv_iload_n hx hb dX5_readCommand_208 rfl (lv_at hl 2 rfl) ?_
      refine lv_iload hx hb dX5_readCommand_209 (lv_at hl 1 rfl) ?_
      refine lv_iload hx hb dX5_readCommand_211 (lv_at hl 0 rfl) ?_
      refine x_joini (ws1 := fun (u7 : (Nat → Int32)) => [(h, .inr (5, [.int f_refusal, .ref h_text, .int f_size, .ref h_now, .ref h_trial, .ref h_diary, .int f_acts, .ref h_kept, .ref h_isKept, .ref h_line, .int f_length, .int u5, .int f_out])), (h_text, .inl (cI, 120, .inl f_text)), (g1, .inl (cI, 377, .inl u7))]) (x_runO (n0 := 4) (As := [.ref g1, .int r3, .int r4, .int r5]) (rest := [.ref h]) C0 (xc_X5_boardOn l D cI cC cZ cL g1 H.size f_p1 r3 r4 r5 _ hk) gX5_readCommand_X5_boardOn rfl ⟨rfl, rfl⟩ (by decide +kernel) rfl ⟨by decide, by decide⟩ ⟨Nat.zero_le _, Nat.zero_le _⟩ hP hD [2] rfl rfl hl.1 rfl (Nat.le_of_ble_eq_true rfl) dX5_readCommand_213) hP hD hS hA [2] [0, 1] [0, 1, 2] rfl rfl rfl (by decide) (fun _ => rfl) rfl (fun r7 u7 H locs hk hP hD hS => ?_)
      refine lv_if_lt (tgt := 223) hx hb dX5_readCommand_216 (by decide) (fun c8 => ?_) (fun c8 => ?_)
      · have hk := hk.1 c8
        refine lv_iconst (v := 0) hx hb dX5_readCommand_223 (by decide) ?_
        exact xb_X5_readCommand_224 C0 hA  _ _ _ _ hk H locs ls hP hD hS (lv_sub hl [] rfl)
      · have hk := hk.2 c8
        refine lv_iconst (v := 1) hx hb dX5_readCommand_219 (by decide) ?_
        refine lv_goto (tgt := 224) hx hb dX5_readCommand_220 (by decide) ?_
        exact xb_X5_readCommand_224 C0 hA  _ _ _ _ hk H locs ls hP hD hS (lv_sub hl [] rfl)
  have hk := hk.2 c2
  by_cases c9 : (f_text f_spot.toNatClampNeg) = 99
  · have hk := hk.1 c9
    refine lv_tableIn (x := (f_text f_spot.toNatClampNeg)) (off := 99) (tgt := 120) hx hb dX5_readCommand_21 (by rw [c9]; decide) (by rw [c9]; decide) (by rw [c9]; rfl) (by decide) ?_
    refine lv_aload_n hx hb dX5_readCommand_120 rfl (lv_at hl 1 rfl) ?_
    refine lv_iconst (v := 0) hx hb dX5_readCommand_121 (by decide) ?_
    refine lv_iconst (v := 2) hx hb dX5_readCommand_122 (by decide) ?_
    refine lv_iconst (v := 1) hx hb dX5_readCommand_123 (by decide) ?_
    refine lv_bipush (v := 99) hx hb dX5_readCommand_124 (by decide) ?_
    refine x_joini (ws1 := fun (u10 : Int32) => [(h, .inr (5, [.int f_refusal, .ref h_text, .int f_size, .ref h_now, .ref h_trial, .ref h_diary, .int f_acts, .ref h_kept, .ref h_isKept, .ref h_line, .int f_length, .int u10, .int f_out])), (h_text, .inl (cI, 120, .inl f_text)), (g1, .inl (cI, 377, .inl f_p1))]) (x_runV (n0 := 4) (As := [.int 0, .int 2, .int 1, .int 99]) (rest := []) C0 (xc_X5_figures l D cI cC cZ cL h h_text h_now h_trial h_diary h_kept h_isKept h_line H.size f_refusal f_size f_acts f_length (f_spot + 1) f_out f_text 0 2 1 99 _ hk) gX5_readCommand_X5_figures rfl ⟨rfl, rfl⟩ (by decide +kernel) rfl ⟨by decide, by decide⟩ ⟨Nat.zero_le _, Nat.zero_le _⟩ hP hD [0, 1] rfl rfl (k := 0) rfl rfl rfl hl.1 rfl (Nat.le_of_ble_eq_true rfl) dX5_readCommand_126) hP hD hS hA [0, 1] [2] [1, 2, 0] rfl rfl rfl (by decide) (fun _ => rfl) rfl (fun r10 u10 H locs hk hP hD hS => ?_)
    refine lv_istore_n (lv' := [(3, .int r10), (2, .int (f_text f_spot.toNatClampNeg)), (0, .ref h), (1, .ref g1)]) hx hb dX5_readCommand_129 rfl hl (by decide) rfl (fun ls hl => ?_)
    refine lv_aload_n hx hb dX5_readCommand_130 rfl (lv_at hl 2 rfl) ?_
    refine lv_iload_n hx hb dX5_readCommand_131 rfl (lv_at hl 0 rfl) ?_
    refine x_joini (ws1 := fun (u11 : Int32) => [(h, .inr (5, [.int f_refusal, .ref h_text, .int f_size, .ref h_now, .ref h_trial, .ref h_diary, .int f_acts, .ref h_kept, .ref h_isKept, .ref h_line, .int f_length, .int u11, .int f_out])), (h_text, .inl (cI, 120, .inl f_text)), (g1, .inl (cI, 377, .inl f_p1))]) (x_runV (n0 := 1) (As := [.int r10]) (rest := []) C0 (xc_X5_letter l D cI cC cZ cL h h_text h_now h_trial h_diary h_kept h_isKept h_line H.size f_refusal f_size f_acts f_length u10 f_out f_text r10 _ hk) gX5_readCommand_X5_letter rfl ⟨rfl, rfl⟩ (by decide +kernel) rfl ⟨by decide, by decide⟩ ⟨Nat.zero_le _, Nat.zero_le _⟩ hP hD [0, 1] rfl rfl (k := 0) rfl rfl rfl hl.1 rfl (Nat.le_of_ble_eq_true rfl) dX5_readCommand_132) hP hD hS hA [0, 1] [2] [1, 2, 0] rfl rfl rfl (by decide) (fun _ => rfl) rfl (fun r11 u11 H locs hk hP hD hS => ?_)
    refine lv_istore (lv' := [(4, .int r11), (3, .int r10), (2, .int (f_text f_spot.toNatClampNeg)), (0, .ref h), (1, .ref g1)]) hx hb dX5_readCommand_135 hl (by decide) rfl (fun ls hl => ?_)
    refine lv_iload hx hb dX5_readCommand_137 (lv_at hl 0 rfl) ?_
    refine lv_iconst (v := (-1 : Int32)) hx hb dX5_readCommand_139 (by decide) ?_
    refine lv_icmp_eq (tgt := 169) hx hb dX5_readCommand_140 (by decide) (fun c12 => ?_) (fun c12 => ?_)
    · have hk := hk.1 c12
      refine lv_iconst (v := 0) hx hb dX5_readCommand_169 (by decide) ?_
      exact x_retz rfl C0 (u11, f_out, f_p1) hk hP hD hS dX5_readCommand_170
    · have hk := hk.2 c12
      refine lv_aload_n hx hb dX5_readCommand_143 rfl (lv_at hl 3 rfl) ?_
      refine lv_aload_n hx hb dX5_readCommand_144 rfl (lv_at hl 4 rfl) ?_
      refine lv_iload_n hx hb dX5_readCommand_145 rfl (lv_at hl 1 rfl) ?_
      refine lv_iload hx hb dX5_readCommand_146 (lv_at hl 0 rfl) ?_
      refine x_joini (ws1 := fun (u13 : (Nat → Int32)) => [(h, .inr (5, [.int f_refusal, .ref h_text, .int f_size, .ref h_now, .ref h_trial, .ref h_diary, .int f_acts, .ref h_kept, .ref h_isKept, .ref h_line, .int f_length, .int u11, .int f_out])), (h_text, .inl (cI, 120, .inl f_text)), (g1, .inl (cI, 377, .inl u13))]) (x_runO (n0 := 3) (As := [.ref g1, .int r10, .int r11]) (rest := [.ref h]) C0 (xc_X5_callOn l D cI cC cZ cL g1 H.size f_p1 r10 r11 _ hk) gX5_readCommand_X5_callOn rfl ⟨rfl, rfl⟩ (by decide +kernel) rfl ⟨by decide, by decide⟩ ⟨Nat.zero_le _, Nat.zero_le _⟩ hP hD [2] rfl rfl hl.1 rfl (Nat.le_of_ble_eq_true rfl) dX5_readCommand_148) hP hD hS hA [2] [0, 1] [0, 1, 2] rfl rfl rfl (by decide) (fun _ => rfl) rfl (fun r13 u13 H locs hk hP hD hS => ?_)
      refine lv_if_le (tgt := 158) hx hb dX5_readCommand_151 (by decide) (fun c14 => ?_) (fun c14 => ?_)
      · have hk := hk.1 c14
        refine lv_iconst (v := 0) hx hb dX5_readCommand_158 (by decide) ?_
        exact xb_X5_readCommand_159 C0 hA  _ _ _ _ hk H locs ls hP hD hS (lv_sub hl [] rfl)
      · have hk := hk.2 c14
        refine lv_iconst (v := 1) hx hb dX5_readCommand_154 (by decide) ?_
        refine lv_goto (tgt := 159) hx hb dX5_readCommand_155 (by decide) ?_
        exact xb_X5_readCommand_159 C0 hA  _ _ _ _ hk H locs ls hP hD hS (lv_sub hl [] rfl)
  have hk := hk.2 c9
  by_cases c15 : (f_text f_spot.toNatClampNeg) = 100
  · have hk := hk.1 c15
    refine lv_tableIn (x := (f_text f_spot.toNatClampNeg)) (off := 422) (tgt := 443) hx hb dX5_readCommand_21 (by rw [c15]; decide) (by rw [c15]; decide) (by rw [c15]; rfl) (by decide) ?_
    refine lv_aload_n hx hb dX5_readCommand_443 rfl (lv_at hl 1 rfl) ?_
    refine lv_dup hx hb dX5_readCommand_444 rfl ?_
    refine va_get (D := D) (ci := 5) (v := .int (f_spot + 1)) (C := RX5) (T := TX5) (N := 13) hx hb hts xin_X5_readCommand_X5 hown hK hP 0 rfl rfl 11 (by decide) (hts (.fieldLink RX5 107 "TakeLogModel" "spot" "I") (by decide +kernel)) (fun _ h9 => h9) rfl dX5_readCommand_445 ?_
    refine lv_iconst (v := 1) hx hb dX5_readCommand_448 (by decide) ?_
    refine lv_isub hx hb dX5_readCommand_449 ?_
    refine va_put (D := D) (ci := 5) (v := .int ((f_spot + 1) - 1)) (ty := .int) (C := RX5) (T := TX5) (N := 13) hx hb hts xin_X5_readCommand_X5 tyX5 tyX5_ok nmX5 hown hK hP hD hS 0 rfl rfl 11 (by decide) (hts (.fieldLink RX5 107 "TakeLogModel" "spot" "I") (by decide +kernel)) (fun _ h9 => h9) rfl (by decide +kernel) rfl rfl (Nat.le_of_ble_eq_true rfl) dX5_readCommand_450 (fun H locs hP hD hS => ?_)
    have hP : va_P D vwCl [(h, .inr (5, [.int f_refusal, .ref h_text, .int f_size, .ref h_now, .ref h_trial, .ref h_diary, .int f_acts, .ref h_kept, .ref h_isKept, .ref h_line, .int f_length, .int ((f_spot + 1) - 1), .int f_out])), (h_text, .inl (cI, 120, .inl f_text)), (g1, .inl (cI, 377, .inl f_p1))] H := hP
    have hD : va_D A [(h, .inr (5, [.int f_refusal, .ref h_text, .int f_size, .ref h_now, .ref h_trial, .ref h_diary, .int f_acts, .ref h_kept, .ref h_isKept, .ref h_line, .int f_length, .int ((f_spot + 1) - 1), .int f_out])), (h_text, .inl (cI, 120, .inl f_text)), (g1, .inl (cI, 377, .inl f_p1))] := hD
    refine lv_iconst (v := 0) hx hb dX5_readCommand_453 (by decide) ?_
    exact x_retz rfl C0 ((f_spot + 1) - 1, f_out, f_p1) hk hP hD hS dX5_readCommand_454
  have hk := hk.2 c15
  by_cases c16 : (f_text f_spot.toNatClampNeg) = 101
  · have hk := hk.1 c16
    refine lv_tableIn (x := (f_text f_spot.toNatClampNeg)) (off := 422) (tgt := 443) hx hb dX5_readCommand_21 (by rw [c16]; decide) (by rw [c16]; decide) (by rw [c16]; rfl) (by decide) ?_
    refine lv_aload_n hx hb dX5_readCommand_443 rfl (lv_at hl 1 rfl) ?_
    refine lv_dup hx hb dX5_readCommand_444 rfl ?_
    refine va_get (D := D) (ci := 5) (v := .int (f_spot + 1)) (C := RX5) (T := TX5) (N := 13) hx hb hts xin_X5_readCommand_X5 hown hK hP 0 rfl rfl 11 (by decide) (hts (.fieldLink RX5 107 "TakeLogModel" "spot" "I") (by decide +kernel)) (fun _ h9 => h9) rfl dX5_readCommand_445 ?_
    refine lv_iconst (v := 1) hx hb dX5_readCommand_448 (by decide) ?_
    refine lv_isub hx hb dX5_readCommand_449 ?_
    refine va_put (D := D) (ci := 5) (v := .int ((f_spot + 1) - 1)) (ty := .int) (C := RX5) (T := TX5) (N := 13) hx hb hts xin_X5_readCommand_X5 tyX5 tyX5_ok nmX5 hown hK hP hD hS 0 rfl rfl 11 (by decide) (hts (.fieldLink RX5 107 "TakeLogModel" "spot" "I") (by decide +kernel)) (fun _ h9 => h9) rfl (by decide +kernel) rfl rfl (Nat.le_of_ble_eq_true rfl) dX5_readCommand_450 (fun H locs hP hD hS => ?_)
    have hP : va_P D vwCl [(h, .inr (5, [.int f_refusal, .ref h_text, .int f_size, .ref h_now, .ref h_trial, .ref h_diary, .int f_acts, .ref h_kept, .ref h_isKept, .ref h_line, .int f_length, .int ((f_spot + 1) - 1), .int f_out])), (h_text, .inl (cI, 120, .inl f_text)), (g1, .inl (cI, 377, .inl f_p1))] H := hP
    have hD : va_D A [(h, .inr (5, [.int f_refusal, .ref h_text, .int f_size, .ref h_now, .ref h_trial, .ref h_diary, .int f_acts, .ref h_kept, .ref h_isKept, .ref h_line, .int f_length, .int ((f_spot + 1) - 1), .int f_out])), (h_text, .inl (cI, 120, .inl f_text)), (g1, .inl (cI, 377, .inl f_p1))] := hD
    refine lv_iconst (v := 0) hx hb dX5_readCommand_453 (by decide) ?_
    exact x_retz rfl C0 ((f_spot + 1) - 1, f_out, f_p1) hk hP hD hS dX5_readCommand_454
  have hk := hk.2 c16
  by_cases c17 : (f_text f_spot.toNatClampNeg) = 102
  · have hk := hk.1 c17
    refine lv_tableIn (x := (f_text f_spot.toNatClampNeg)) (off := 325) (tgt := 346) hx hb dX5_readCommand_21 (by rw [c17]; decide) (by rw [c17]; decide) (by rw [c17]; rfl) (by decide) ?_
    refine lv_aload_n hx hb dX5_readCommand_346 rfl (lv_at hl 1 rfl) ?_
    refine lv_iconst (v := 0) hx hb dX5_readCommand_347 (by decide) ?_
    refine lv_iconst (v := 2) hx hb dX5_readCommand_348 (by decide) ?_
    refine lv_iconst (v := 0) hx hb dX5_readCommand_349 (by decide) ?_
    refine lv_bipush (v := 23) hx hb dX5_readCommand_350 (by decide) ?_
    refine x_joini (ws1 := fun (u18 : Int32) => [(h, .inr (5, [.int f_refusal, .ref h_text, .int f_size, .ref h_now, .ref h_trial, .ref h_diary, .int f_acts, .ref h_kept, .ref h_isKept, .ref h_line, .int f_length, .int u18, .int f_out])), (h_text, .inl (cI, 120, .inl f_text)), (g1, .inl (cI, 377, .inl f_p1))]) (x_runV (n0 := 4) (As := [.int 0, .int 2, .int 0, .int 23]) (rest := []) C0 (xc_X5_figures l D cI cC cZ cL h h_text h_now h_trial h_diary h_kept h_isKept h_line H.size f_refusal f_size f_acts f_length (f_spot + 1) f_out f_text 0 2 0 23 _ hk) gX5_readCommand_X5_figures rfl ⟨rfl, rfl⟩ (by decide +kernel) rfl ⟨by decide, by decide⟩ ⟨Nat.zero_le _, Nat.zero_le _⟩ hP hD [0, 1] rfl rfl (k := 0) rfl rfl rfl hl.1 rfl (Nat.le_of_ble_eq_true rfl) dX5_readCommand_352) hP hD hS hA [0, 1] [2] [1, 2, 0] rfl rfl rfl (by decide) (fun _ => rfl) rfl (fun r18 u18 H locs hk hP hD hS => ?_)
    refine lv_istore_n (lv' := [(3, .int r18), (2, .int (f_text f_spot.toNatClampNeg)), (0, .ref h), (1, .ref g1)]) hx hb dX5_readCommand_355 rfl hl (by decide) rfl (fun ls hl => ?_)
    refine lv_iload_n hx hb dX5_readCommand_356 rfl (lv_at hl 0 rfl) ?_
    refine lv_iconst (v := (-1 : Int32)) hx hb dX5_readCommand_357 (by decide) ?_
    refine lv_icmp_eq (tgt := 407) hx hb dX5_readCommand_358 (by decide) (fun c19 => ?_) (fun c19 => ?_)
    · have hk := hk.1 c19
      refine lv_iconst (v := 0) hx hb dX5_readCommand_407 (by decide) ?_
      exact x_retz rfl C0 (u18, f_out, f_p1) hk hP hD hS dX5_readCommand_408
    · have hk := hk.2 c19
      refine lv_aload_n hx hb dX5_readCommand_361 rfl (lv_at hl 2 rfl) ?_
      refine lv_aload_n hx hb dX5_readCommand_362 rfl (lv_at hl 3 rfl) ?_
      refine lv_iload_n hx hb dX5_readCommand_363 rfl (lv_at hl 0 rfl) ?_
      refine x_joini (ws1 := fun (_ : Unit) => [(h, .inr (5, [.int f_refusal, .ref h_text, .int f_size, .ref h_now, .ref h_trial, .ref h_diary, .int f_acts, .ref h_kept, .ref h_isKept, .ref h_line, .int f_length, .int u18, .int f_out])), (h_text, .inl (cI, 120, .inl f_text)), (g1, .inl (cI, 377, .inl f_p1))]) (x_runO (n0 := 2) (As := [.ref g1, .int r18]) (rest := [.ref h]) C0 (xc_X5_isTake l D cI cC cZ cL g1 H.size f_p1 r18 _ hk) gX5_readCommand_X5_isTake rfl ⟨rfl, rfl⟩ (by decide +kernel) rfl ⟨by decide, by decide⟩ ⟨Nat.zero_le _, Nat.zero_le _⟩ hP hD [2] rfl rfl hl.1 rfl (Nat.le_of_ble_eq_true rfl) dX5_readCommand_364) hP hD hS hA [2] [0, 1] [0, 1, 2] rfl rfl rfl (by decide) (fun _ => rfl) rfl (fun r20 u20 H locs hk hP hD hS => ?_)
      refine lv_if_eq (tgt := 396) hx hb dX5_readCommand_367 (by decide) (fun c21 => ?_) (fun c21 => ?_)
      · have hk := hk.1 c21
        refine lv_iconst (v := 0) hx hb dX5_readCommand_396 (by decide) ?_
        exact xb_X5_readCommand_397 C0 hA  _ _ _ _ hk H locs ls hP hD hS (lv_sub hl [] rfl)
      · have hk := hk.2 c21
        refine lv_aload_n hx hb dX5_readCommand_370 rfl (lv_at hl 3 rfl) ?_
        refine lv_iload_n hx hb dX5_readCommand_371 rfl (lv_at hl 0 rfl) ?_
        refine lv_iload_n hx hb dX5_readCommand_372 rfl (lv_at hl 1 rfl) ?_
        refine lv_bipush (v := 102) hx hb dX5_readCommand_373 (by decide) ?_
        refine lv_icmp_ne (tgt := 383) hx hb dX5_readCommand_375 (by decide) (fun c22 => ?_) (fun c22 => ?_)
        · have hk := hk.1 c22
          refine lv_bipush (v := 13) hx hb dX5_readCommand_383 (by decide) ?_
          exact xb_X5_readCommand_385 C0 hA  _ _ _ _ _ hk H locs ls hP hD hS (lv_sub hl [] rfl)
        · have hk := hk.2 c22
          refine lv_bipush (v := 14) hx hb dX5_readCommand_378 (by decide) ?_
          refine lv_goto (tgt := 385) hx hb dX5_readCommand_380 (by decide) ?_
          exact xb_X5_readCommand_385 C0 hA  _ _ _ _ _ hk H locs ls hP hD hS (lv_sub hl [] rfl)
  have hk := hk.2 c17
  by_cases c23 : (f_text f_spot.toNatClampNeg) = 103
  · have hk := hk.1 c23
    refine lv_tableIn (x := (f_text f_spot.toNatClampNeg)) (off := 422) (tgt := 443) hx hb dX5_readCommand_21 (by rw [c23]; decide) (by rw [c23]; decide) (by rw [c23]; rfl) (by decide) ?_
    refine lv_aload_n hx hb dX5_readCommand_443 rfl (lv_at hl 1 rfl) ?_
    refine lv_dup hx hb dX5_readCommand_444 rfl ?_
    refine va_get (D := D) (ci := 5) (v := .int (f_spot + 1)) (C := RX5) (T := TX5) (N := 13) hx hb hts xin_X5_readCommand_X5 hown hK hP 0 rfl rfl 11 (by decide) (hts (.fieldLink RX5 107 "TakeLogModel" "spot" "I") (by decide +kernel)) (fun _ h9 => h9) rfl dX5_readCommand_445 ?_
    refine lv_iconst (v := 1) hx hb dX5_readCommand_448 (by decide) ?_
    refine lv_isub hx hb dX5_readCommand_449 ?_
    refine va_put (D := D) (ci := 5) (v := .int ((f_spot + 1) - 1)) (ty := .int) (C := RX5) (T := TX5) (N := 13) hx hb hts xin_X5_readCommand_X5 tyX5 tyX5_ok nmX5 hown hK hP hD hS 0 rfl rfl 11 (by decide) (hts (.fieldLink RX5 107 "TakeLogModel" "spot" "I") (by decide +kernel)) (fun _ h9 => h9) rfl (by decide +kernel) rfl rfl (Nat.le_of_ble_eq_true rfl) dX5_readCommand_450 (fun H locs hP hD hS => ?_)
    have hP : va_P D vwCl [(h, .inr (5, [.int f_refusal, .ref h_text, .int f_size, .ref h_now, .ref h_trial, .ref h_diary, .int f_acts, .ref h_kept, .ref h_isKept, .ref h_line, .int f_length, .int ((f_spot + 1) - 1), .int f_out])), (h_text, .inl (cI, 120, .inl f_text)), (g1, .inl (cI, 377, .inl f_p1))] H := hP
    have hD : va_D A [(h, .inr (5, [.int f_refusal, .ref h_text, .int f_size, .ref h_now, .ref h_trial, .ref h_diary, .int f_acts, .ref h_kept, .ref h_isKept, .ref h_line, .int f_length, .int ((f_spot + 1) - 1), .int f_out])), (h_text, .inl (cI, 120, .inl f_text)), (g1, .inl (cI, 377, .inl f_p1))] := hD
    refine lv_iconst (v := 0) hx hb dX5_readCommand_453 (by decide) ?_
    exact x_retz rfl C0 ((f_spot + 1) - 1, f_out, f_p1) hk hP hD hS dX5_readCommand_454
  have hk := hk.2 c23
  by_cases c24 : (f_text f_spot.toNatClampNeg) = 104
  · have hk := hk.1 c24
    refine lv_tableIn (x := (f_text f_spot.toNatClampNeg)) (off := 422) (tgt := 443) hx hb dX5_readCommand_21 (by rw [c24]; decide) (by rw [c24]; decide) (by rw [c24]; rfl) (by decide) ?_
    refine lv_aload_n hx hb dX5_readCommand_443 rfl (lv_at hl 1 rfl) ?_
    refine lv_dup hx hb dX5_readCommand_444 rfl ?_
    refine va_get (D := D) (ci := 5) (v := .int (f_spot + 1)) (C := RX5) (T := TX5) (N := 13) hx hb hts xin_X5_readCommand_X5 hown hK hP 0 rfl rfl 11 (by decide) (hts (.fieldLink RX5 107 "TakeLogModel" "spot" "I") (by decide +kernel)) (fun _ h9 => h9) rfl dX5_readCommand_445 ?_
    refine lv_iconst (v := 1) hx hb dX5_readCommand_448 (by decide) ?_
    refine lv_isub hx hb dX5_readCommand_449 ?_
    refine va_put (D := D) (ci := 5) (v := .int ((f_spot + 1) - 1)) (ty := .int) (C := RX5) (T := TX5) (N := 13) hx hb hts xin_X5_readCommand_X5 tyX5 tyX5_ok nmX5 hown hK hP hD hS 0 rfl rfl 11 (by decide) (hts (.fieldLink RX5 107 "TakeLogModel" "spot" "I") (by decide +kernel)) (fun _ h9 => h9) rfl (by decide +kernel) rfl rfl (Nat.le_of_ble_eq_true rfl) dX5_readCommand_450 (fun H locs hP hD hS => ?_)
    have hP : va_P D vwCl [(h, .inr (5, [.int f_refusal, .ref h_text, .int f_size, .ref h_now, .ref h_trial, .ref h_diary, .int f_acts, .ref h_kept, .ref h_isKept, .ref h_line, .int f_length, .int ((f_spot + 1) - 1), .int f_out])), (h_text, .inl (cI, 120, .inl f_text)), (g1, .inl (cI, 377, .inl f_p1))] H := hP
    have hD : va_D A [(h, .inr (5, [.int f_refusal, .ref h_text, .int f_size, .ref h_now, .ref h_trial, .ref h_diary, .int f_acts, .ref h_kept, .ref h_isKept, .ref h_line, .int f_length, .int ((f_spot + 1) - 1), .int f_out])), (h_text, .inl (cI, 120, .inl f_text)), (g1, .inl (cI, 377, .inl f_p1))] := hD
    refine lv_iconst (v := 0) hx hb dX5_readCommand_453 (by decide) ?_
    exact x_retz rfl C0 ((f_spot + 1) - 1, f_out, f_p1) hk hP hD hS dX5_readCommand_454
  have hk := hk.2 c24
  by_cases c25 : (f_text f_spot.toNatClampNeg) = 105
  · have hk := hk.1 c25
    refine lv_tableIn (x := (f_text f_spot.toNatClampNeg)) (off := 422) (tgt := 443) hx hb dX5_readCommand_21 (by rw [c25]; decide) (by rw [c25]; decide) (by rw [c25]; rfl) (by decide) ?_
    refine lv_aload_n hx hb dX5_readCommand_443 rfl (lv_at hl 1 rfl) ?_
    refine lv_dup hx hb dX5_readCommand_444 rfl ?_
    refine va_get (D := D) (ci := 5) (v := .int (f_spot + 1)) (C := RX5) (T := TX5) (N := 13) hx hb hts xin_X5_readCommand_X5 hown hK hP 0 rfl rfl 11 (by decide) (hts (.fieldLink RX5 107 "TakeLogModel" "spot" "I") (by decide +kernel)) (fun _ h9 => h9) rfl dX5_readCommand_445 ?_
    refine lv_iconst (v := 1) hx hb dX5_readCommand_448 (by decide) ?_
    refine lv_isub hx hb dX5_readCommand_449 ?_
    refine va_put (D := D) (ci := 5) (v := .int ((f_spot + 1) - 1)) (ty := .int) (C := RX5) (T := TX5) (N := 13) hx hb hts xin_X5_readCommand_X5 tyX5 tyX5_ok nmX5 hown hK hP hD hS 0 rfl rfl 11 (by decide) (hts (.fieldLink RX5 107 "TakeLogModel" "spot" "I") (by decide +kernel)) (fun _ h9 => h9) rfl (by decide +kernel) rfl rfl (Nat.le_of_ble_eq_true rfl) dX5_readCommand_450 (fun H locs hP hD hS => ?_)
    have hP : va_P D vwCl [(h, .inr (5, [.int f_refusal, .ref h_text, .int f_size, .ref h_now, .ref h_trial, .ref h_diary, .int f_acts, .ref h_kept, .ref h_isKept, .ref h_line, .int f_length, .int ((f_spot + 1) - 1), .int f_out])), (h_text, .inl (cI, 120, .inl f_text)), (g1, .inl (cI, 377, .inl f_p1))] H := hP
    have hD : va_D A [(h, .inr (5, [.int f_refusal, .ref h_text, .int f_size, .ref h_now, .ref h_trial, .ref h_diary, .int f_acts, .ref h_kept, .ref h_isKept, .ref h_line, .int f_length, .int ((f_spot + 1) - 1), .int f_out])), (h_text, .inl (cI, 120, .inl f_text)), (g1, .inl (cI, 377, .inl f_p1))] := hD
    refine lv_iconst (v := 0) hx hb dX5_readCommand_453 (by decide) ?_
    exact x_retz rfl C0 ((f_spot + 1) - 1, f_out, f_p1) hk hP hD hS dX5_readCommand_454
  have hk := hk.2 c25
  by_cases c26 : (f_text f_spot.toNatClampNeg) = 106
  · have hk := hk.1 c26
    refine lv_tableIn (x := (f_text f_spot.toNatClampNeg)) (off := 422) (tgt := 443) hx hb dX5_readCommand_21 (by rw [c26]; decide) (by rw [c26]; decide) (by rw [c26]; rfl) (by decide) ?_
    refine lv_aload_n hx hb dX5_readCommand_443 rfl (lv_at hl 1 rfl) ?_
    refine lv_dup hx hb dX5_readCommand_444 rfl ?_
    refine va_get (D := D) (ci := 5) (v := .int (f_spot + 1)) (C := RX5) (T := TX5) (N := 13) hx hb hts xin_X5_readCommand_X5 hown hK hP 0 rfl rfl 11 (by decide) (hts (.fieldLink RX5 107 "TakeLogModel" "spot" "I") (by decide +kernel)) (fun _ h9 => h9) rfl dX5_readCommand_445 ?_
    refine lv_iconst (v := 1) hx hb dX5_readCommand_448 (by decide) ?_
    refine lv_isub hx hb dX5_readCommand_449 ?_
    refine va_put (D := D) (ci := 5) (v := .int ((f_spot + 1) - 1)) (ty := .int) (C := RX5) (T := TX5) (N := 13) hx hb hts xin_X5_readCommand_X5 tyX5 tyX5_ok nmX5 hown hK hP hD hS 0 rfl rfl 11 (by decide) (hts (.fieldLink RX5 107 "TakeLogModel" "spot" "I") (by decide +kernel)) (fun _ h9 => h9) rfl (by decide +kernel) rfl rfl (Nat.le_of_ble_eq_true rfl) dX5_readCommand_450 (fun H locs hP hD hS => ?_)
    have hP : va_P D vwCl [(h, .inr (5, [.int f_refusal, .ref h_text, .int f_size, .ref h_now, .ref h_trial, .ref h_diary, .int f_acts, .ref h_kept, .ref h_isKept, .ref h_line, .int f_length, .int ((f_spot + 1) - 1), .int f_out])), (h_text, .inl (cI, 120, .inl f_text)), (g1, .inl (cI, 377, .inl f_p1))] H := hP
    have hD : va_D A [(h, .inr (5, [.int f_refusal, .ref h_text, .int f_size, .ref h_now, .ref h_trial, .ref h_diary, .int f_acts, .ref h_kept, .ref h_isKept, .ref h_line, .int f_length, .int ((f_spot + 1) - 1), .int f_out])), (h_text, .inl (cI, 120, .inl f_text)), (g1, .inl (cI, 377, .inl f_p1))] := hD
    refine lv_iconst (v := 0) hx hb dX5_readCommand_453 (by decide) ?_
    exact x_retz rfl C0 ((f_spot + 1) - 1, f_out, f_p1) hk hP hD hS dX5_readCommand_454
  have hk := hk.2 c26
  by_cases c27 : (f_text f_spot.toNatClampNeg) = 107
  · have hk := hk.1 c27
    refine lv_tableIn (x := (f_text f_spot.toNatClampNeg)) (off := 422) (tgt := 443) hx hb dX5_readCommand_21 (by rw [c27]; decide) (by rw [c27]; decide) (by rw [c27]; rfl) (by decide) ?_
    refine lv_aload_n hx hb dX5_readCommand_443 rfl (lv_at hl 1 rfl) ?_
    refine lv_dup hx hb dX5_readCommand_444 rfl ?_
    refine va_get (D := D) (ci := 5) (v := .int (f_spot + 1)) (C := RX5) (T := TX5) (N := 13) hx hb hts xin_X5_readCommand_X5 hown hK hP 0 rfl rfl 11 (by decide) (hts (.fieldLink RX5 107 "TakeLogModel" "spot" "I") (by decide +kernel)) (fun _ h9 => h9) rfl dX5_readCommand_445 ?_
    refine lv_iconst (v := 1) hx hb dX5_readCommand_448 (by decide) ?_
    refine lv_isub hx hb dX5_readCommand_449 ?_
    refine va_put (D := D) (ci := 5) (v := .int ((f_spot + 1) - 1)) (ty := .int) (C := RX5) (T := TX5) (N := 13) hx hb hts xin_X5_readCommand_X5 tyX5 tyX5_ok nmX5 hown hK hP hD hS 0 rfl rfl 11 (by decide) (hts (.fieldLink RX5 107 "TakeLogModel" "spot" "I") (by decide +kernel)) (fun _ h9 => h9) rfl (by decide +kernel) rfl rfl (Nat.le_of_ble_eq_true rfl) dX5_readCommand_450 (fun H locs hP hD hS => ?_)
    have hP : va_P D vwCl [(h, .inr (5, [.int f_refusal, .ref h_text, .int f_size, .ref h_now, .ref h_trial, .ref h_diary, .int f_acts, .ref h_kept, .ref h_isKept, .ref h_line, .int f_length, .int ((f_spot + 1) - 1), .int f_out])), (h_text, .inl (cI, 120, .inl f_text)), (g1, .inl (cI, 377, .inl f_p1))] H := hP
    have hD : va_D A [(h, .inr (5, [.int f_refusal, .ref h_text, .int f_size, .ref h_now, .ref h_trial, .ref h_diary, .int f_acts, .ref h_kept, .ref h_isKept, .ref h_line, .int f_length, .int ((f_spot + 1) - 1), .int f_out])), (h_text, .inl (cI, 120, .inl f_text)), (g1, .inl (cI, 377, .inl f_p1))] := hD
    refine lv_iconst (v := 0) hx hb dX5_readCommand_453 (by decide) ?_
    exact x_retz rfl C0 ((f_spot + 1) - 1, f_out, f_p1) hk hP hD hS dX5_readCommand_454
  have hk := hk.2 c27
  by_cases c28 : (f_text f_spot.toNatClampNeg) = 108
  · have hk := hk.1 c28
    refine lv_tableIn (x := (f_text f_spot.toNatClampNeg)) (off := 422) (tgt := 443) hx hb dX5_readCommand_21 (by rw [c28]; decide) (by rw [c28]; decide) (by rw [c28]; rfl) (by decide) ?_
    refine lv_aload_n hx hb dX5_readCommand_443 rfl (lv_at hl 1 rfl) ?_
    refine lv_dup hx hb dX5_readCommand_444 rfl ?_
    refine va_get (D := D) (ci := 5) (v := .int (f_spot + 1)) (C := RX5) (T := TX5) (N := 13) hx hb hts xin_X5_readCommand_X5 hown hK hP 0 rfl rfl 11 (by decide) (hts (.fieldLink RX5 107 "TakeLogModel" "spot" "I") (by decide +kernel)) (fun _ h9 => h9) rfl dX5_readCommand_445 ?_
    refine lv_iconst (v := 1) hx hb dX5_readCommand_448 (by decide) ?_
    refine lv_isub hx hb dX5_readCommand_449 ?_
    refine va_put (D := D) (ci := 5) (v := .int ((f_spot + 1) - 1)) (ty := .int) (C := RX5) (T := TX5) (N := 13) hx hb hts xin_X5_readCommand_X5 tyX5 tyX5_ok nmX5 hown hK hP hD hS 0 rfl rfl 11 (by decide) (hts (.fieldLink RX5 107 "TakeLogModel" "spot" "I") (by decide +kernel)) (fun _ h9 => h9) rfl (by decide +kernel) rfl rfl (Nat.le_of_ble_eq_true rfl) dX5_readCommand_450 (fun H locs hP hD hS => ?_)
    have hP : va_P D vwCl [(h, .inr (5, [.int f_refusal, .ref h_text, .int f_size, .ref h_now, .ref h_trial, .ref h_diary, .int f_acts, .ref h_kept, .ref h_isKept, .ref h_line, .int f_length, .int ((f_spot + 1) - 1), .int f_out])), (h_text, .inl (cI, 120, .inl f_text)), (g1, .inl (cI, 377, .inl f_p1))] H := hP
    have hD : va_D A [(h, .inr (5, [.int f_refusal, .ref h_text, .int f_size, .ref h_now, .ref h_trial, .ref h_diary, .int f_acts, .ref h_kept, .ref h_isKept, .ref h_line, .int f_length, .int ((f_spot + 1) - 1), .int f_out])), (h_text, .inl (cI, 120, .inl f_text)), (g1, .inl (cI, 377, .inl f_p1))] := hD
    refine lv_iconst (v := 0) hx hb dX5_readCommand_453 (by decide) ?_
    exact x_retz rfl C0 ((f_spot + 1) - 1, f_out, f_p1) hk hP hD hS dX5_readCommand_454
  have hk := hk.2 c28
  by_cases c29 : (f_text f_spot.toNatClampNeg) = 109
  · have hk := hk.1 c29
    refine lv_tableIn (x := (f_text f_spot.toNatClampNeg)) (off := 232) (tgt := 253) hx hb dX5_readCommand_21 (by rw [c29]; decide) (by rw [c29]; decide) (by rw [c29]; rfl) (by decide) ?_
    refine lv_aload_n hx hb dX5_readCommand_253 rfl (lv_at hl 1 rfl) ?_
    refine lv_iconst (v := 0) hx hb dX5_readCommand_254 (by decide) ?_
    refine lv_iconst (v := 3) hx hb dX5_readCommand_255 (by decide) ?_
    refine lv_iconst (v := 1) hx hb dX5_readCommand_256 (by decide) ?_
    refine lv_bipush (v := 120) hx hb dX5_readCommand_257 (by decide) ?_
    refine x_joini (ws1 := fun (u30 : Int32) => [(h, .inr (5, [.int f_refusal, .ref h_text, .int f_size, .ref h_now, .ref h_trial, .ref h_diary, .int f_acts, .ref h_kept, .ref h_isKept, .ref h_line, .int f_length, .int u30, .int f_out])), (h_text, .inl (cI, 120, .inl f_text)), (g1, .inl (cI, 377, .inl f_p1))]) (x_runV (n0 := 4) (As := [.int 0, .int 3, .int 1, .int 120]) (rest := []) C0 (xc_X5_figures l D cI cC cZ cL h h_text h_now h_trial h_diary h_kept h_isKept h_line H.size f_refusal f_size f_acts f_length (f_spot + 1) f_out f_text 0 3 1 120 _ hk) gX5_readCommand_X5_figures rfl ⟨rfl, rfl⟩ (by decide +kernel) rfl ⟨by decide, by decide⟩ ⟨Nat.zero_le _, Nat.zero_le _⟩ hP hD [0, 1] rfl rfl (k := 0) rfl rfl rfl hl.1 rfl (Nat.le_of_ble_eq_true rfl) dX5_readCommand_259) hP hD hS hA [0, 1] [2] [1, 2, 0] rfl rfl rfl (by decide) (fun _ => rfl) rfl (fun r30 u30 H locs hk hP hD hS => ?_)
    refine lv_istore_n (lv' := [(3, .int r30), (2, .int (f_text f_spot.toNatClampNeg)), (0, .ref h), (1, .ref g1)]) hx hb dX5_readCommand_262 rfl hl (by decide) rfl (fun ls hl => ?_)
    refine lv_iload_n hx hb dX5_readCommand_263 rfl (lv_at hl 0 rfl) ?_
    refine lv_iconst (v := (-1 : Int32)) hx hb dX5_readCommand_264 (by decide) ?_
    refine lv_icmp_eq (tgt := 310) hx hb dX5_readCommand_265 (by decide) (fun c31 => ?_) (fun c31 => ?_)
    · have hk := hk.1 c31
      refine lv_iconst (v := 0) hx hb dX5_readCommand_310 (by decide) ?_
      exact x_retz rfl C0 (u30, f_out, f_p1) hk hP hD hS dX5_readCommand_311
    · have hk := hk.2 c31
      refine lv_aload_n hx hb dX5_readCommand_268 rfl (lv_at hl 2 rfl) ?_
      refine lv_aload_n hx hb dX5_readCommand_269 rfl (lv_at hl 3 rfl) ?_
      refine x_joini (ws1 := fun (_ : Unit) => [(h, .inr (5, [.int f_refusal, .ref h_text, .int f_size, .ref h_now, .ref h_trial, .ref h_diary, .int f_acts, .ref h_kept, .ref h_isKept, .ref h_line, .int f_length, .int u30, .int f_out])), (h_text, .inl (cI, 120, .inl f_text)), (g1, .inl (cI, 377, .inl f_p1))]) (x_runO (n0 := 1) (As := [.ref g1]) (rest := [.ref h]) C0 (xc_X5_canShoot l D cI cC cZ cL g1 H.size f_p1 _ hk) gX5_readCommand_X5_canShoot rfl ⟨rfl, rfl⟩ (by decide +kernel) rfl ⟨by decide, by decide⟩ ⟨Nat.zero_le _, Nat.zero_le _⟩ hP hD [2] rfl rfl hl.1 rfl (Nat.le_of_ble_eq_true rfl) dX5_readCommand_270) hP hD hS hA [2] [0, 1] [0, 1, 2] rfl rfl rfl (by decide) (fun _ => rfl) rfl (fun r32 u32 H locs hk hP hD hS => ?_)
      refine lv_if_eq (tgt := 299) hx hb dX5_readCommand_273 (by decide) (fun c33 => ?_) (fun c33 => ?_)
      · have hk := hk.1 c33
        refine lv_iconst (v := 0) hx hb dX5_readCommand_299 (by decide) ?_
        exact xb_X5_readCommand_300 C0 hA  _ _ _ _ hk H locs ls hP hD hS (lv_sub hl [] rfl)
      · have hk := hk.2 c33
        refine lv_aload_n hx hb dX5_readCommand_276 rfl (lv_at hl 3 rfl) ?_
        refine lv_iload_n hx hb dX5_readCommand_277 rfl (lv_at hl 0 rfl) ?_
        refine lv_iload_n hx hb dX5_readCommand_278 rfl (lv_at hl 1 rfl) ?_
        refine lv_bipush (v := 116) hx hb dX5_readCommand_279 (by decide) ?_
        refine lv_icmp_ne (tgt := 288) hx hb dX5_readCommand_281 (by decide) (fun c34 => ?_) (fun c34 => ?_)
        · have hk := hk.1 c34
          refine lv_iconst (v := 0) hx hb dX5_readCommand_288 (by decide) ?_
          exact xb_X5_readCommand_289 C0 hA  _ _ _ _ _ hk H locs ls hP hD hS (lv_sub hl [] rfl)
        · have hk := hk.2 c34
          refine lv_iconst (v := 1) hx hb dX5_readCommand_284 (by decide) ?_
          refine lv_goto (tgt := 289) hx hb dX5_readCommand_285 (by decide) ?_
          exact xb_X5_readCommand_289 C0 hA  _ _ _ _ _ hk H locs ls hP hD hS (lv_sub hl [] rfl)
  have hk := hk.2 c29
  by_cases c35 : (f_text f_spot.toNatClampNeg) = 110
  · have hk := hk.1 c35
    refine lv_tableIn (x := (f_text f_spot.toNatClampNeg)) (off := 291) (tgt := 312) hx hb dX5_readCommand_21 (by rw [c35]; decide) (by rw [c35]; decide) (by rw [c35]; rfl) (by decide) ?_
    refine lv_aload_n hx hb dX5_readCommand_312 rfl (lv_at hl 1 rfl) ?_
    refine lv_aload_n hx hb dX5_readCommand_313 rfl (lv_at hl 2 rfl) ?_
    refine x_joini (ws1 := fun (u36 : (Nat → Int32)) => [(h, .inr (5, [.int f_refusal, .ref h_text, .int f_size, .ref h_now, .ref h_trial, .ref h_diary, .int f_acts, .ref h_kept, .ref h_isKept, .ref h_line, .int f_length, .int (f_spot + 1), .int f_out])), (h_text, .inl (cI, 120, .inl f_text)), (g1, .inl (cI, 377, .inl u36))]) (x_runO (n0 := 1) (As := [.ref g1]) (rest := [.ref h]) C0 (xc_X5_newCameraOn l D cI cC cZ cL g1 H.size f_p1 _ hk) gX5_readCommand_X5_newCameraOn rfl ⟨rfl, rfl⟩ (by decide +kernel) rfl ⟨by decide, by decide⟩ ⟨Nat.zero_le _, Nat.zero_le _⟩ hP hD [2] rfl rfl hl.1 rfl (Nat.le_of_ble_eq_true rfl) dX5_readCommand_314) hP hD hS hA [2] [0, 1] [0, 1, 2] rfl rfl rfl (by decide) (fun _ => rfl) rfl (fun r36 u36 H locs hk hP hD hS => ?_)
    refine lv_if_le (tgt := 324) hx hb dX5_readCommand_317 (by decide) (fun c37 => ?_) (fun c37 => ?_)
    · have hk := hk.1 c37
      refine lv_iconst (v := 0) hx hb dX5_readCommand_324 (by decide) ?_
      refine x_joini (ws1 := fun (u38 : Int32) => [(h, .inr (5, [.int f_refusal, .ref h_text, .int f_size, .ref h_now, .ref h_trial, .ref h_diary, .int f_acts, .ref h_kept, .ref h_isKept, .ref h_line, .int f_length, .int (f_spot + 1), .int u38])), (h_text, .inl (cI, 120, .inl f_text)), (g1, .inl (cI, 377, .inl u36))]) (x_runV (n0 := 1) (As := [.int 0]) (rest := []) C0 (xc_X5_done l D cI cC cZ cL h h_text h_now h_trial h_diary h_kept h_isKept h_line H.size f_refusal f_size f_acts f_length (f_spot + 1) f_out 0 _ hk) gX5_readCommand_X5_done rfl ⟨rfl, rfl⟩ (by decide +kernel) rfl ⟨by decide, by decide⟩ ⟨Nat.zero_le _, Nat.zero_le _⟩ hP hD [0] rfl rfl (k := 0) rfl rfl rfl hl.1 rfl (Nat.le_of_ble_eq_true rfl) dX5_readCommand_325) hP hD hS hA [0] [1, 2] [2, 0, 1] rfl rfl rfl (by decide) (fun _ => rfl) rfl (fun r38 u38 H locs hk hP hD hS => ?_)
      exact x_retz hk.1 C0 (f_spot + 1, u38, u36) hk.2 hP hD hS dX5_readCommand_328
    · have hk := hk.2 c37
      refine lv_iconst (v := 1) hx hb dX5_readCommand_320 (by decide) ?_
      refine lv_goto (tgt := 325) hx hb dX5_readCommand_321 (by decide) ?_
      refine x_joini (ws1 := fun (u39 : Int32) => [(h, .inr (5, [.int f_refusal, .ref h_text, .int f_size, .ref h_now, .ref h_trial, .ref h_diary, .int f_acts, .ref h_kept, .ref h_isKept, .ref h_line, .int f_length, .int (f_spot + 1), .int u39])), (h_text, .inl (cI, 120, .inl f_text)), (g1, .inl (cI, 377, .inl u36))]) (x_runV (n0 := 1) (As := [.int 1]) (rest := []) C0 (xc_X5_done l D cI cC cZ cL h h_text h_now h_trial h_diary h_kept h_isKept h_line H.size f_refusal f_size f_acts f_length (f_spot + 1) f_out 1 _ hk) gX5_readCommand_X5_done rfl ⟨rfl, rfl⟩ (by decide +kernel) rfl ⟨by decide, by decide⟩ ⟨Nat.zero_le _, Nat.zero_le _⟩ hP hD [0] rfl rfl (k := 0) rfl rfl rfl hl.1 rfl (Nat.le_of_ble_eq_true rfl) dX5_readCommand_325) hP hD hS hA [0] [1, 2] [2, 0, 1] rfl rfl rfl (by decide) (fun _ => rfl) rfl (fun r39 u39 H locs hk hP hD hS => ?_)
      exact x_retz hk.1 C0 (f_spot + 1, u39, u36) hk.2 hP hD hS dX5_readCommand_328
  have hk := hk.2 c35
  by_cases c40 : (f_text f_spot.toNatClampNeg) = 111
  · have hk := hk.1 c40
    refine lv_tableIn (x := (f_text f_spot.toNatClampNeg)) (off := 325) (tgt := 346) hx hb dX5_readCommand_21 (by rw [c40]; decide) (by rw [c40]; decide) (by rw [c40]; rfl) (by decide) ?_
    refine lv_aload_n hx hb dX5_readCommand_346 rfl (lv_at hl 1 rfl) ?_
    refine lv_iconst (v := 0) hx hb dX5_readCommand_347 (by decide) ?_
    refine lv_iconst (v := 2) hx hb dX5_readCommand_348 (by decide) ?_
    refine lv_iconst (v := 0) hx hb dX5_readCommand_349 (by decide) ?_
    refine lv_bipush (v := 23) hx hb dX5_readCommand_350 (by decide) ?_
    refine x_joini (ws1 := fun (u41 : Int32) => [(h, .inr (5, [.int f_refusal, .ref h_text, .int f_size, .ref h_now, .ref h_trial, .ref h_diary, .int f_acts, .ref h_kept, .ref h_isKept, .ref h_line, .int f_length, .int u41, .int f_out])), (h_text, .inl (cI, 120, .inl f_text)), (g1, .inl (cI, 377, .inl f_p1))]) (x_runV (n0 := 4) (As := [.int 0, .int 2, .int 0, .int 23]) (rest := []) C0 (xc_X5_figures l D cI cC cZ cL h h_text h_now h_trial h_diary h_kept h_isKept h_line H.size f_refusal f_size f_acts f_length (f_spot + 1) f_out f_text 0 2 0 23 _ hk) gX5_readCommand_X5_figures rfl ⟨rfl, rfl⟩ (by decide +kernel) rfl ⟨by decide, by decide⟩ ⟨Nat.zero_le _, Nat.zero_le _⟩ hP hD [0, 1] rfl rfl (k := 0) rfl rfl rfl hl.1 rfl (Nat.le_of_ble_eq_true rfl) dX5_readCommand_352) hP hD hS hA [0, 1] [2] [1, 2, 0] rfl rfl rfl (by decide) (fun _ => rfl) rfl (fun r41 u41 H locs hk hP hD hS => ?_)
    refine lv_istore_n (lv' := [(3, .int r41), (2, .int (f_text f_spot.toNatClampNeg)), (0, .ref h), (1, .ref g1)]) hx hb dX5_readCommand_355 rfl hl (by decide) rfl (fun ls hl => ?_)
    refine lv_iload_n hx hb dX5_readCommand_356 rfl (lv_at hl 0 rfl) ?_
    refine lv_iconst (v := (-1 : Int32)) hx hb dX5_readCommand_357 (by decide) ?_
    refine lv_icmp_eq (tgt := 407) hx hb dX5_readCommand_358 (by decide) (fun c42 => ?_) (fun c42 => ?_)
    · have hk := hk.1 c42
      refine lv_iconst (v := 0) hx hb dX5_readCommand_407 (by decide) ?_
      exact x_retz rfl C0 (u41, f_out, f_p1) hk hP hD hS dX5_readCommand_408
    · have hk := hk.2 c42
      refine lv_aload_n hx hb dX5_readCommand_361 rfl (lv_at hl 2 rfl) ?_
      refine lv_aload_n hx hb dX5_readCommand_362 rfl (lv_at hl 3 rfl) ?_
      refine lv_iload_n hx hb dX5_readCommand_363 rfl (lv_at hl 0 rfl) ?_
      refine x_joini (ws1 := fun (_ : Unit) => [(h, .inr (5, [.int f_refusal, .ref h_text, .int f_size, .ref h_now, .ref h_trial, .ref h_diary, .int f_acts, .ref h_kept, .ref h_isKept, .ref h_line, .int f_length, .int u41, .int f_out])), (h_text, .inl (cI, 120, .inl f_text)), (g1, .inl (cI, 377, .inl f_p1))]) (x_runO (n0 := 2) (As := [.ref g1, .int r41]) (rest := [.ref h]) C0 (xc_X5_isTake l D cI cC cZ cL g1 H.size f_p1 r41 _ hk) gX5_readCommand_X5_isTake rfl ⟨rfl, rfl⟩ (by decide +kernel) rfl ⟨by decide, by decide⟩ ⟨Nat.zero_le _, Nat.zero_le _⟩ hP hD [2] rfl rfl hl.1 rfl (Nat.le_of_ble_eq_true rfl) dX5_readCommand_364) hP hD hS hA [2] [0, 1] [0, 1, 2] rfl rfl rfl (by decide) (fun _ => rfl) rfl (fun r43 u43 H locs hk hP hD hS => ?_)
      refine lv_if_eq (tgt := 396) hx hb dX5_readCommand_367 (by decide) (fun c44 => ?_) (fun c44 => ?_)
      · have hk := hk.1 c44
        refine lv_iconst (v := 0) hx hb dX5_readCommand_396 (by decide) ?_
        exact xb_X5_readCommand_397 C0 hA  _ _ _ _ hk H locs ls hP hD hS (lv_sub hl [] rfl)
      · have hk := hk.2 c44
        refine lv_aload_n hx hb dX5_readCommand_370 rfl (lv_at hl 3 rfl) ?_
        refine lv_iload_n hx hb dX5_readCommand_371 rfl (lv_at hl 0 rfl) ?_
        refine lv_iload_n hx hb dX5_readCommand_372 rfl (lv_at hl 1 rfl) ?_
        refine lv_bipush (v := 102) hx hb dX5_readCommand_373 (by decide) ?_
        refine lv_icmp_ne (tgt := 383) hx hb dX5_readCommand_375 (by decide) (fun c45 => ?_) (fun c45 => ?_)
        · have hk := hk.1 c45
          refine lv_bipush (v := 13) hx hb dX5_readCommand_383 (by decide) ?_
          exact xb_X5_readCommand_385 C0 hA  _ _ _ _ _ hk H locs ls hP hD hS (lv_sub hl [] rfl)
        · have hk := hk.2 c45
          refine lv_bipush (v := 14) hx hb dX5_readCommand_378 (by decide) ?_
          refine lv_goto (tgt := 385) hx hb dX5_readCommand_380 (by decide) ?_
          exact xb_X5_readCommand_385 C0 hA  _ _ _ _ _ hk H locs ls hP hD hS (lv_sub hl [] rfl)
  have hk := hk.2 c40
  by_cases c46 : (f_text f_spot.toNatClampNeg) = 112
  · have hk := hk.1 c46
    refine lv_tableIn (x := (f_text f_spot.toNatClampNeg)) (off := 422) (tgt := 443) hx hb dX5_readCommand_21 (by rw [c46]; decide) (by rw [c46]; decide) (by rw [c46]; rfl) (by decide) ?_
    refine lv_aload_n hx hb dX5_readCommand_443 rfl (lv_at hl 1 rfl) ?_
    refine lv_dup hx hb dX5_readCommand_444 rfl ?_
    refine va_get (D := D) (ci := 5) (v := .int (f_spot + 1)) (C := RX5) (T := TX5) (N := 13) hx hb hts xin_X5_readCommand_X5 hown hK hP 0 rfl rfl 11 (by decide) (hts (.fieldLink RX5 107 "TakeLogModel" "spot" "I") (by decide +kernel)) (fun _ h9 => h9) rfl dX5_readCommand_445 ?_
    refine lv_iconst (v := 1) hx hb dX5_readCommand_448 (by decide) ?_
    refine lv_isub hx hb dX5_readCommand_449 ?_
    refine va_put (D := D) (ci := 5) (v := .int ((f_spot + 1) - 1)) (ty := .int) (C := RX5) (T := TX5) (N := 13) hx hb hts xin_X5_readCommand_X5 tyX5 tyX5_ok nmX5 hown hK hP hD hS 0 rfl rfl 11 (by decide) (hts (.fieldLink RX5 107 "TakeLogModel" "spot" "I") (by decide +kernel)) (fun _ h9 => h9) rfl (by decide +kernel) rfl rfl (Nat.le_of_ble_eq_true rfl) dX5_readCommand_450 (fun H locs hP hD hS => ?_)
    have hP : va_P D vwCl [(h, .inr (5, [.int f_refusal, .ref h_text, .int f_size, .ref h_now, .ref h_trial, .ref h_diary, .int f_acts, .ref h_kept, .ref h_isKept, .ref h_line, .int f_length, .int ((f_spot + 1) - 1), .int f_out])), (h_text, .inl (cI, 120, .inl f_text)), (g1, .inl (cI, 377, .inl f_p1))] H := hP
    have hD : va_D A [(h, .inr (5, [.int f_refusal, .ref h_text, .int f_size, .ref h_now, .ref h_trial, .ref h_diary, .int f_acts, .ref h_kept, .ref h_isKept, .ref h_line, .int f_length, .int ((f_spot + 1) - 1), .int f_out])), (h_text, .inl (cI, 120, .inl f_text)), (g1, .inl (cI, 377, .inl f_p1))] := hD
    refine lv_iconst (v := 0) hx hb dX5_readCommand_453 (by decide) ?_
    exact x_retz rfl C0 ((f_spot + 1) - 1, f_out, f_p1) hk hP hD hS dX5_readCommand_454
  have hk := hk.2 c46
  by_cases c47 : (f_text f_spot.toNatClampNeg) = 113
  · have hk := hk.1 c47
    refine lv_tableIn (x := (f_text f_spot.toNatClampNeg)) (off := 422) (tgt := 443) hx hb dX5_readCommand_21 (by rw [c47]; decide) (by rw [c47]; decide) (by rw [c47]; rfl) (by decide) ?_
    refine lv_aload_n hx hb dX5_readCommand_443 rfl (lv_at hl 1 rfl) ?_
    refine lv_dup hx hb dX5_readCommand_444 rfl ?_
    refine va_get (D := D) (ci := 5) (v := .int (f_spot + 1)) (C := RX5) (T := TX5) (N := 13) hx hb hts xin_X5_readCommand_X5 hown hK hP 0 rfl rfl 11 (by decide) (hts (.fieldLink RX5 107 "TakeLogModel" "spot" "I") (by decide +kernel)) (fun _ h9 => h9) rfl dX5_readCommand_445 ?_
    refine lv_iconst (v := 1) hx hb dX5_readCommand_448 (by decide) ?_
    refine lv_isub hx hb dX5_readCommand_449 ?_
    refine va_put (D := D) (ci := 5) (v := .int ((f_spot + 1) - 1)) (ty := .int) (C := RX5) (T := TX5) (N := 13) hx hb hts xin_X5_readCommand_X5 tyX5 tyX5_ok nmX5 hown hK hP hD hS 0 rfl rfl 11 (by decide) (hts (.fieldLink RX5 107 "TakeLogModel" "spot" "I") (by decide +kernel)) (fun _ h9 => h9) rfl (by decide +kernel) rfl rfl (Nat.le_of_ble_eq_true rfl) dX5_readCommand_450 (fun H locs hP hD hS => ?_)
    have hP : va_P D vwCl [(h, .inr (5, [.int f_refusal, .ref h_text, .int f_size, .ref h_now, .ref h_trial, .ref h_diary, .int f_acts, .ref h_kept, .ref h_isKept, .ref h_line, .int f_length, .int ((f_spot + 1) - 1), .int f_out])), (h_text, .inl (cI, 120, .inl f_text)), (g1, .inl (cI, 377, .inl f_p1))] H := hP
    have hD : va_D A [(h, .inr (5, [.int f_refusal, .ref h_text, .int f_size, .ref h_now, .ref h_trial, .ref h_diary, .int f_acts, .ref h_kept, .ref h_isKept, .ref h_line, .int f_length, .int ((f_spot + 1) - 1), .int f_out])), (h_text, .inl (cI, 120, .inl f_text)), (g1, .inl (cI, 377, .inl f_p1))] := hD
    refine lv_iconst (v := 0) hx hb dX5_readCommand_453 (by decide) ?_
    exact x_retz rfl C0 ((f_spot + 1) - 1, f_out, f_p1) hk hP hD hS dX5_readCommand_454
  have hk := hk.2 c47
  by_cases c48 : (f_text f_spot.toNatClampNeg) = 114
  · have hk := hk.1 c48
    refine lv_tableIn (x := (f_text f_spot.toNatClampNeg)) (off := 215) (tgt := 236) hx hb dX5_readCommand_21 (by rw [c48]; decide) (by rw [c48]; decide) (by rw [c48]; rfl) (by decide) ?_
    refine lv_aload_n hx hb dX5_readCommand_236 rfl (lv_at hl 1 rfl) ?_
    refine lv_aload_n hx hb dX5_readCommand_237 rfl (lv_at hl 2 rfl) ?_
    refine x_joini (ws1 := fun (u49 : (Nat → Int32)) => [(h, .inr (5, [.int f_refusal, .ref h_text, .int f_size, .ref h_now, .ref h_trial, .ref h_diary, .int f_acts, .ref h_kept, .ref h_isKept, .ref h_line, .int f_length, .int (f_spot + 1), .int f_out])), (h_text, .inl (cI, 120, .inl f_text)), (g1, .inl (cI, 377, .inl u49))]) (x_runO (n0 := 1) (As := [.ref g1]) (rest := [.ref h]) C0 (xc_X5_rightOn l D cI cC cZ cL g1 H.size f_p1 _ hk) gX5_readCommand_X5_rightOn rfl ⟨rfl, rfl⟩ (by decide +kernel) rfl ⟨by decide, by decide⟩ ⟨Nat.zero_le _, Nat.zero_le _⟩ hP hD [2] rfl rfl hl.1 rfl (Nat.le_of_ble_eq_true rfl) dX5_readCommand_238) hP hD hS hA [2] [0, 1] [0, 1, 2] rfl rfl rfl (by decide) (fun _ => rfl) rfl (fun r49 u49 H locs hk hP hD hS => ?_)
    refine lv_if_le (tgt := 248) hx hb dX5_readCommand_241 (by decide) (fun c50 => ?_) (fun c50 => ?_)
    · have hk := hk.1 c50
      refine lv_iconst (v := 0) hx hb dX5_readCommand_248 (by decide) ?_
      refine x_joini (ws1 := fun (u51 : Int32) => [(h, .inr (5, [.int f_refusal, .ref h_text, .int f_size, .ref h_now, .ref h_trial, .ref h_diary, .int f_acts, .ref h_kept, .ref h_isKept, .ref h_line, .int f_length, .int (f_spot + 1), .int u51])), (h_text, .inl (cI, 120, .inl f_text)), (g1, .inl (cI, 377, .inl u49))]) (x_runV (n0 := 1) (As := [.int 0]) (rest := []) C0 (xc_X5_done l D cI cC cZ cL h h_text h_now h_trial h_diary h_kept h_isKept h_line H.size f_refusal f_size f_acts f_length (f_spot + 1) f_out 0 _ hk) gX5_readCommand_X5_done rfl ⟨rfl, rfl⟩ (by decide +kernel) rfl ⟨by decide, by decide⟩ ⟨Nat.zero_le _, Nat.zero_le _⟩ hP hD [0] rfl rfl (k := 0) rfl rfl rfl hl.1 rfl (Nat.le_of_ble_eq_true rfl) dX5_readCommand_249) hP hD hS hA [0] [1, 2] [2, 0, 1] rfl rfl rfl (by decide) (fun _ => rfl) rfl (fun r51 u51 H locs hk hP hD hS => ?_)
      exact x_retz hk.1 C0 (f_spot + 1, u51, u49) hk.2 hP hD hS dX5_readCommand_252
    · have hk := hk.2 c50
      refine lv_iconst (v := 1) hx hb dX5_readCommand_244 (by decide) ?_
      refine lv_goto (tgt := 249) hx hb dX5_readCommand_245 (by decide) ?_
      refine x_joini (ws1 := fun (u52 : Int32) => [(h, .inr (5, [.int f_refusal, .ref h_text, .int f_size, .ref h_now, .ref h_trial, .ref h_diary, .int f_acts, .ref h_kept, .ref h_isKept, .ref h_line, .int f_length, .int (f_spot + 1), .int u52])), (h_text, .inl (cI, 120, .inl f_text)), (g1, .inl (cI, 377, .inl u49))]) (x_runV (n0 := 1) (As := [.int 1]) (rest := []) C0 (xc_X5_done l D cI cC cZ cL h h_text h_now h_trial h_diary h_kept h_isKept h_line H.size f_refusal f_size f_acts f_length (f_spot + 1) f_out 1 _ hk) gX5_readCommand_X5_done rfl ⟨rfl, rfl⟩ (by decide +kernel) rfl ⟨by decide, by decide⟩ ⟨Nat.zero_le _, Nat.zero_le _⟩ hP hD [0] rfl rfl (k := 0) rfl rfl rfl hl.1 rfl (Nat.le_of_ble_eq_true rfl) dX5_readCommand_249) hP hD hS hA [0] [1, 2] [2, 0, 1] rfl rfl rfl (by decide) (fun _ => rfl) rfl (fun r52 u52 H locs hk hP hD hS => ?_)
      exact x_retz hk.1 C0 (f_spot + 1, u52, u49) hk.2 hP hD hS dX5_readCommand_252
  have hk := hk.2 c48
  by_cases c53 : (f_text f_spot.toNatClampNeg) = 115
  · have hk := hk.1 c53
    refine lv_tableIn (x := (f_text f_spot.toNatClampNeg)) (off := 308) (tgt := 329) hx hb dX5_readCommand_21 (by rw [c53]; decide) (by rw [c53]; decide) (by rw [c53]; rfl) (by decide) ?_
    refine lv_aload_n hx hb dX5_readCommand_329 rfl (lv_at hl 1 rfl) ?_
    refine lv_aload_n hx hb dX5_readCommand_330 rfl (lv_at hl 2 rfl) ?_
    refine x_joini (ws1 := fun (u54 : (Nat → Int32)) => [(h, .inr (5, [.int f_refusal, .ref h_text, .int f_size, .ref h_now, .ref h_trial, .ref h_diary, .int f_acts, .ref h_kept, .ref h_isKept, .ref h_line, .int f_length, .int (f_spot + 1), .int f_out])), (h_text, .inl (cI, 120, .inl f_text)), (g1, .inl (cI, 377, .inl u54))]) (x_runO (n0 := 1) (As := [.ref g1]) (rest := [.ref h]) C0 (xc_X5_newSoundOn l D cI cC cZ cL g1 H.size f_p1 _ hk) gX5_readCommand_X5_newSoundOn rfl ⟨rfl, rfl⟩ (by decide +kernel) rfl ⟨by decide, by decide⟩ ⟨Nat.zero_le _, Nat.zero_le _⟩ hP hD [2] rfl rfl hl.1 rfl (Nat.le_of_ble_eq_true rfl) dX5_readCommand_331) hP hD hS hA [2] [0, 1] [0, 1, 2] rfl rfl rfl (by decide) (fun _ => rfl) rfl (fun r54 u54 H locs hk hP hD hS => ?_)
    refine lv_if_le (tgt := 341) hx hb dX5_readCommand_334 (by decide) (fun c55 => ?_) (fun c55 => ?_)
    · have hk := hk.1 c55
      refine lv_iconst (v := 0) hx hb dX5_readCommand_341 (by decide) ?_
      refine x_joini (ws1 := fun (u56 : Int32) => [(h, .inr (5, [.int f_refusal, .ref h_text, .int f_size, .ref h_now, .ref h_trial, .ref h_diary, .int f_acts, .ref h_kept, .ref h_isKept, .ref h_line, .int f_length, .int (f_spot + 1), .int u56])), (h_text, .inl (cI, 120, .inl f_text)), (g1, .inl (cI, 377, .inl u54))]) (x_runV (n0 := 1) (As := [.int 0]) (rest := []) C0 (xc_X5_done l D cI cC cZ cL h h_text h_now h_trial h_diary h_kept h_isKept h_line H.size f_refusal f_size f_acts f_length (f_spot + 1) f_out 0 _ hk) gX5_readCommand_X5_done rfl ⟨rfl, rfl⟩ (by decide +kernel) rfl ⟨by decide, by decide⟩ ⟨Nat.zero_le _, Nat.zero_le _⟩ hP hD [0] rfl rfl (k := 0) rfl rfl rfl hl.1 rfl (Nat.le_of_ble_eq_true rfl) dX5_readCommand_342) hP hD hS hA [0] [1, 2] [2, 0, 1] rfl rfl rfl (by decide) (fun _ => rfl) rfl (fun r56 u56 H locs hk hP hD hS => ?_)
      exact x_retz hk.1 C0 (f_spot + 1, u56, u54) hk.2 hP hD hS dX5_readCommand_345
    · have hk := hk.2 c55
      refine lv_iconst (v := 1) hx hb dX5_readCommand_337 (by decide) ?_
      refine lv_goto (tgt := 342) hx hb dX5_readCommand_338 (by decide) ?_
      refine x_joini (ws1 := fun (u57 : Int32) => [(h, .inr (5, [.int f_refusal, .ref h_text, .int f_size, .ref h_now, .ref h_trial, .ref h_diary, .int f_acts, .ref h_kept, .ref h_isKept, .ref h_line, .int f_length, .int (f_spot + 1), .int u57])), (h_text, .inl (cI, 120, .inl f_text)), (g1, .inl (cI, 377, .inl u54))]) (x_runV (n0 := 1) (As := [.int 1]) (rest := []) C0 (xc_X5_done l D cI cC cZ cL h h_text h_now h_trial h_diary h_kept h_isKept h_line H.size f_refusal f_size f_acts f_length (f_spot + 1) f_out 1 _ hk) gX5_readCommand_X5_done rfl ⟨rfl, rfl⟩ (by decide +kernel) rfl ⟨by decide, by decide⟩ ⟨Nat.zero_le _, Nat.zero_le _⟩ hP hD [0] rfl rfl (k := 0) rfl rfl rfl hl.1 rfl (Nat.le_of_ble_eq_true rfl) dX5_readCommand_342) hP hD hS hA [0] [1, 2] [2, 0, 1] rfl rfl rfl (by decide) (fun _ => rfl) rfl (fun r57 u57 H locs hk hP hD hS => ?_)
      exact x_retz hk.1 C0 (f_spot + 1, u57, u54) hk.2 hP hD hS dX5_readCommand_345
  have hk := hk.2 c53
  by_cases c58 : (f_text f_spot.toNatClampNeg) = 116
  · have hk := hk.1 c58
    refine lv_tableIn (x := (f_text f_spot.toNatClampNeg)) (off := 232) (tgt := 253) hx hb dX5_readCommand_21 (by rw [c58]; decide) (by rw [c58]; decide) (by rw [c58]; rfl) (by decide) ?_
    refine lv_aload_n hx hb dX5_readCommand_253 rfl (lv_at hl 1 rfl) ?_
    refine lv_iconst (v := 0) hx hb dX5_readCommand_254 (by decide) ?_
    refine lv_iconst (v := 3) hx hb dX5_readCommand_255 (by decide) ?_
    refine lv_iconst (v := 1) hx hb dX5_readCommand_256 (by decide) ?_
    refine lv_bipush (v := 120) hx hb dX5_readCommand_257 (by decide) ?_
    refine x_joini (ws1 := fun (u59 : Int32) => [(h, .inr (5, [.int f_refusal, .ref h_text, .int f_size, .ref h_now, .ref h_trial, .ref h_diary, .int f_acts, .ref h_kept, .ref h_isKept, .ref h_line, .int f_length, .int u59, .int f_out])), (h_text, .inl (cI, 120, .inl f_text)), (g1, .inl (cI, 377, .inl f_p1))]) (x_runV (n0 := 4) (As := [.int 0, .int 3, .int 1, .int 120]) (rest := []) C0 (xc_X5_figures l D cI cC cZ cL h h_text h_now h_trial h_diary h_kept h_isKept h_line H.size f_refusal f_size f_acts f_length (f_spot + 1) f_out f_text 0 3 1 120 _ hk) gX5_readCommand_X5_figures rfl ⟨rfl, rfl⟩ (by decide +kernel) rfl ⟨by decide, by decide⟩ ⟨Nat.zero_le _, Nat.zero_le _⟩ hP hD [0, 1] rfl rfl (k := 0) rfl rfl rfl hl.1 rfl (Nat.le_of_ble_eq_true rfl) dX5_readCommand_259) hP hD hS hA [0, 1] [2] [1, 2, 0] rfl rfl rfl (by decide) (fun _ => rfl) rfl (fun r59 u59 H locs hk hP hD hS => ?_)
    refine lv_istore_n (lv' := [(3, .int r59), (2, .int (f_text f_spot.toNatClampNeg)), (0, .ref h), (1, .ref g1)]) hx hb dX5_readCommand_262 rfl hl (by decide) rfl (fun ls hl => ?_)
    refine lv_iload_n hx hb dX5_readCommand_263 rfl (lv_at hl 0 rfl) ?_
    refine lv_iconst (v := (-1 : Int32)) hx hb dX5_readCommand_264 (by decide) ?_
    refine lv_icmp_eq (tgt := 310) hx hb dX5_readCommand_265 (by decide) (fun c60 => ?_) (fun c60 => ?_)
    · have hk := hk.1 c60
      refine lv_iconst (v := 0) hx hb dX5_readCommand_310 (by decide) ?_
      exact x_retz rfl C0 (u59, f_out, f_p1) hk hP hD hS dX5_readCommand_311
    · have hk := hk.2 c60
      refine lv_aload_n hx hb dX5_readCommand_268 rfl (lv_at hl 2 rfl) ?_
      refine lv_aload_n hx hb dX5_readCommand_269 rfl (lv_at hl 3 rfl) ?_
      refine x_joini (ws1 := fun (_ : Unit) => [(h, .inr (5, [.int f_refusal, .ref h_text, .int f_size, .ref h_now, .ref h_trial, .ref h_diary, .int f_acts, .ref h_kept, .ref h_isKept, .ref h_line, .int f_length, .int u59, .int f_out])), (h_text, .inl (cI, 120, .inl f_text)), (g1, .inl (cI, 377, .inl f_p1))]) (x_runO (n0 := 1) (As := [.ref g1]) (rest := [.ref h]) C0 (xc_X5_canShoot l D cI cC cZ cL g1 H.size f_p1 _ hk) gX5_readCommand_X5_canShoot rfl ⟨rfl, rfl⟩ (by decide +kernel) rfl ⟨by decide, by decide⟩ ⟨Nat.zero_le _, Nat.zero_le _⟩ hP hD [2] rfl rfl hl.1 rfl (Nat.le_of_ble_eq_true rfl) dX5_readCommand_270) hP hD hS hA [2] [0, 1] [0, 1, 2] rfl rfl rfl (by decide) (fun _ => rfl) rfl (fun r61 u61 H locs hk hP hD hS => ?_)
      refine lv_if_eq (tgt := 299) hx hb dX5_readCommand_273 (by decide) (fun c62 => ?_) (fun c62 => ?_)
      · have hk := hk.1 c62
        refine lv_iconst (v := 0) hx hb dX5_readCommand_299 (by decide) ?_
        exact xb_X5_readCommand_300 C0 hA  _ _ _ _ hk H locs ls hP hD hS (lv_sub hl [] rfl)
      · have hk := hk.2 c62
        refine lv_aload_n hx hb dX5_readCommand_276 rfl (lv_at hl 3 rfl) ?_
        refine lv_iload_n hx hb dX5_readCommand_277 rfl (lv_at hl 0 rfl) ?_
        refine lv_iload_n hx hb dX5_readCommand_278 rfl (lv_at hl 1 rfl) ?_
        refine lv_bipush (v := 116) hx hb dX5_readCommand_279 (by decide) ?_
        refine lv_icmp_ne (tgt := 288) hx hb dX5_readCommand_281 (by decide) (fun c63 => ?_) (fun c63 => ?_)
        · have hk := hk.1 c63
          refine lv_iconst (v := 0) hx hb dX5_readCommand_288 (by decide) ?_
          exact xb_X5_readCommand_289 C0 hA  _ _ _ _ _ hk H locs ls hP hD hS (lv_sub hl [] rfl)
        · have hk := hk.2 c63
          refine lv_iconst (v := 1) hx hb dX5_readCommand_284 (by decide) ?_
          refine lv_goto (tgt := 289) hx hb dX5_readCommand_285 (by decide) ?_
          exact xb_X5_readCommand_289 C0 hA  _ _ _ _ _ hk H locs ls hP hD hS (lv_sub hl [] rfl)
  have hk := hk.2 c58
  by_cases c64 : (f_text f_spot.toNatClampNeg) = 117
  · have hk := hk.1 c64
    refine lv_tableIn (x := (f_text f_spot.toNatClampNeg)) (off := 422) (tgt := 443) hx hb dX5_readCommand_21 (by rw [c64]; decide) (by rw [c64]; decide) (by rw [c64]; rfl) (by decide) ?_
    refine lv_aload_n hx hb dX5_readCommand_443 rfl (lv_at hl 1 rfl) ?_
    refine lv_dup hx hb dX5_readCommand_444 rfl ?_
    refine va_get (D := D) (ci := 5) (v := .int (f_spot + 1)) (C := RX5) (T := TX5) (N := 13) hx hb hts xin_X5_readCommand_X5 hown hK hP 0 rfl rfl 11 (by decide) (hts (.fieldLink RX5 107 "TakeLogModel" "spot" "I") (by decide +kernel)) (fun _ h9 => h9) rfl dX5_readCommand_445 ?_
    refine lv_iconst (v := 1) hx hb dX5_readCommand_448 (by decide) ?_
    refine lv_isub hx hb dX5_readCommand_449 ?_
    refine va_put (D := D) (ci := 5) (v := .int ((f_spot + 1) - 1)) (ty := .int) (C := RX5) (T := TX5) (N := 13) hx hb hts xin_X5_readCommand_X5 tyX5 tyX5_ok nmX5 hown hK hP hD hS 0 rfl rfl 11 (by decide) (hts (.fieldLink RX5 107 "TakeLogModel" "spot" "I") (by decide +kernel)) (fun _ h9 => h9) rfl (by decide +kernel) rfl rfl (Nat.le_of_ble_eq_true rfl) dX5_readCommand_450 (fun H locs hP hD hS => ?_)
    have hP : va_P D vwCl [(h, .inr (5, [.int f_refusal, .ref h_text, .int f_size, .ref h_now, .ref h_trial, .ref h_diary, .int f_acts, .ref h_kept, .ref h_isKept, .ref h_line, .int f_length, .int ((f_spot + 1) - 1), .int f_out])), (h_text, .inl (cI, 120, .inl f_text)), (g1, .inl (cI, 377, .inl f_p1))] H := hP
    have hD : va_D A [(h, .inr (5, [.int f_refusal, .ref h_text, .int f_size, .ref h_now, .ref h_trial, .ref h_diary, .int f_acts, .ref h_kept, .ref h_isKept, .ref h_line, .int f_length, .int ((f_spot + 1) - 1), .int f_out])), (h_text, .inl (cI, 120, .inl f_text)), (g1, .inl (cI, 377, .inl f_p1))] := hD
    refine lv_iconst (v := 0) hx hb dX5_readCommand_453 (by decide) ?_
    exact x_retz rfl C0 ((f_spot + 1) - 1, f_out, f_p1) hk hP hD hS dX5_readCommand_454
  have hk := hk.2 c64
  by_cases c65 : (f_text f_spot.toNatClampNeg) = 118
  · have hk := hk.1 c65
    refine lv_tableIn (x := (f_text f_spot.toNatClampNeg)) (off := 388) (tgt := 409) hx hb dX5_readCommand_21 (by rw [c65]; decide) (by rw [c65]; decide) (by rw [c65]; rfl) (by decide) ?_
    refine lv_aload_n hx hb dX5_readCommand_409 rfl (lv_at hl 1 rfl) ?_
    refine lv_iconst (v := 0) hx hb dX5_readCommand_410 (by decide) ?_
    refine lv_iconst (v := 2) hx hb dX5_readCommand_411 (by decide) ?_
    refine lv_iconst (v := 0) hx hb dX5_readCommand_412 (by decide) ?_
    refine lv_bipush (v := 99) hx hb dX5_readCommand_413 (by decide) ?_
    refine x_joini (ws1 := fun (u66 : Int32) => [(h, .inr (5, [.int f_refusal, .ref h_text, .int f_size, .ref h_now, .ref h_trial, .ref h_diary, .int f_acts, .ref h_kept, .ref h_isKept, .ref h_line, .int f_length, .int u66, .int f_out])), (h_text, .inl (cI, 120, .inl f_text)), (g1, .inl (cI, 377, .inl f_p1))]) (x_runV (n0 := 4) (As := [.int 0, .int 2, .int 0, .int 99]) (rest := []) C0 (xc_X5_figures l D cI cC cZ cL h h_text h_now h_trial h_diary h_kept h_isKept h_line H.size f_refusal f_size f_acts f_length (f_spot + 1) f_out f_text 0 2 0 99 _ hk) gX5_readCommand_X5_figures rfl ⟨rfl, rfl⟩ (by decide +kernel) rfl ⟨by decide, by decide⟩ ⟨Nat.zero_le _, Nat.zero_le _⟩ hP hD [0, 1] rfl rfl (k := 0) rfl rfl rfl hl.1 rfl (Nat.le_of_ble_eq_true rfl) dX5_readCommand_415) hP hD hS hA [0, 1] [2] [1, 2, 0] rfl rfl rfl (by decide) (fun _ => rfl) rfl (fun r66 u66 H locs hk hP hD hS => ?_)
    refine lv_istore_n (lv' := [(3, .int r66), (2, .int (f_text f_spot.toNatClampNeg)), (0, .ref h), (1, .ref g1)]) hx hb dX5_readCommand_418 rfl hl (by decide) rfl (fun ls hl => ?_)
    refine lv_iload_n hx hb dX5_readCommand_419 rfl (lv_at hl 0 rfl) ?_
    refine lv_iconst (v := (-1 : Int32)) hx hb dX5_readCommand_420 (by decide) ?_
    refine lv_icmp_eq (tgt := 432) hx hb dX5_readCommand_421 (by decide) (fun c67 => ?_) (fun c67 => ?_)
    · have hk := hk.1 c67
      exact xb_X5_readCommand_432 C0 hA  _ _ _ _ hk H locs ls hP hD hS (lv_sub hl [0] rfl)
    · have hk := hk.2 c67
      refine lv_aload_n hx hb dX5_readCommand_424 rfl (lv_at hl 3 rfl) ?_
      refine lv_bipush (v := 11) hx hb dX5_readCommand_425 (by decide) ?_
      refine lv_iload_n hx hb dX5_readCommand_427 rfl (lv_at hl 0 rfl) ?_
      refine lv_bipush (v := 50) hx hb dX5_readCommand_428 (by decide) ?_
      refine lv_isub hx hb dX5_readCommand_430 ?_
      refine x_iast (k := 11) hx hb hK hP hD hS 2 0 rfl rfl (x_lit rfl (by decide) (by decide)) rfl dX5_readCommand_431 (fun H locs hP hD hS => ?_)
      have hP : va_P D vwCl [(h, .inr (5, [.int f_refusal, .ref h_text, .int f_size, .ref h_now, .ref h_trial, .ref h_diary, .int f_acts, .ref h_kept, .ref h_isKept, .ref h_line, .int f_length, .int u66, .int f_out])), (h_text, .inl (cI, 120, .inl f_text)), (g1, .inl (cI, 377, .inl (upd f_p1 11 (r66 - 50))))] H := hP
      have hD : va_D A [(h, .inr (5, [.int f_refusal, .ref h_text, .int f_size, .ref h_now, .ref h_trial, .ref h_diary, .int f_acts, .ref h_kept, .ref h_isKept, .ref h_line, .int f_length, .int u66, .int f_out])), (h_text, .inl (cI, 120, .inl f_text)), (g1, .inl (cI, 377, .inl (upd f_p1 11 (r66 - 50))))] := hD
      exact xb_X5_readCommand_432 C0 hA  _ _ _ _ hk H locs ls hP hD hS (lv_sub hl [0] rfl)
  have hk := hk.2 c65
  have ec2 := x_ne c2 (k := 98) rfl
  have ec9 := x_ne c9 (k := 99) rfl
  have ec15 := x_ne c15 (k := 100) rfl
  have ec16 := x_ne c16 (k := 101) rfl
  have ec17 := x_ne c17 (k := 102) rfl
  have ec23 := x_ne c23 (k := 103) rfl
  have ec24 := x_ne c24 (k := 104) rfl
  have ec25 := x_ne c25 (k := 105) rfl
  have ec26 := x_ne c26 (k := 106) rfl
  have ec27 := x_ne c27 (k := 107) rfl
  have ec28 := x_ne c28 (k := 108) rfl
  have ec29 := x_ne c29 (k := 109) rfl
  have ec35 := x_ne c35 (k := 110) rfl
  have ec40 := x_ne c40 (k := 111) rfl
  have ec46 := x_ne c46 (k := 112) rfl
  have ec47 := x_ne c47 (k := 113) rfl
  have ec48 := x_ne c48 (k := 114) rfl
  have ec53 := x_ne c53 (k := 115) rfl
  have ec58 := x_ne c58 (k := 116) rfl
  have ec64 := x_ne c64 (k := 117) rfl
  have ec65 := x_ne c65 (k := 118) rfl
  refine lv_tableOut (x := (f_text f_spot.toNatClampNeg)) (tgt := 443) hx hb dX5_readCommand_21 (by omega) (by decide) ?_
  refine lv_aload_n hx hb dX5_readCommand_443 rfl (lv_at hl 1 rfl) ?_
  refine lv_dup hx hb dX5_readCommand_444 rfl ?_
  refine va_get (D := D) (ci := 5) (v := .int (f_spot + 1)) (C := RX5) (T := TX5) (N := 13) hx hb hts xin_X5_readCommand_X5 hown hK hP 0 rfl rfl 11 (by decide) (hts (.fieldLink RX5 107 "TakeLogModel" "spot" "I") (by decide +kernel)) (fun _ h9 => h9) rfl dX5_readCommand_445 ?_
  refine lv_iconst (v := 1) hx hb dX5_readCommand_448 (by decide) ?_
  refine lv_isub hx hb dX5_readCommand_449 ?_
  refine va_put (D := D) (ci := 5) (v := .int ((f_spot + 1) - 1)) (ty := .int) (C := RX5) (T := TX5) (N := 13) hx hb hts xin_X5_readCommand_X5 tyX5 tyX5_ok nmX5 hown hK hP hD hS 0 rfl rfl 11 (by decide) (hts (.fieldLink RX5 107 "TakeLogModel" "spot" "I") (by decide +kernel)) (fun _ h9 => h9) rfl (by decide +kernel) rfl rfl (Nat.le_of_ble_eq_true rfl) dX5_readCommand_450 (fun H locs hP hD hS => ?_)
  have hP : va_P D vwCl [(h, .inr (5, [.int f_refusal, .ref h_text, .int f_size, .ref h_now, .ref h_trial, .ref h_diary, .int f_acts, .ref h_kept, .ref h_isKept, .ref h_line, .int f_length, .int ((f_spot + 1) - 1), .int f_out])), (h_text, .inl (cI, 120, .inl f_text)), (g1, .inl (cI, 377, .inl f_p1))] H := hP
  have hD : va_D A [(h, .inr (5, [.int f_refusal, .ref h_text, .int f_size, .ref h_now, .ref h_trial, .ref h_diary, .int f_acts, .ref h_kept, .ref h_isKept, .ref h_line, .int f_length, .int ((f_spot + 1) - 1), .int f_out])), (h_text, .inl (cI, 120, .inl f_text)), (g1, .inl (cI, 377, .inl f_p1))] := hD
  refine lv_iconst (v := 0) hx hb dX5_readCommand_453 (by decide) ?_
  exact x_retz rfl C0 ((f_spot + 1) - 1, f_out, f_p1) hk hP hD hS dX5_readCommand_454
theorem xc_X5_readCommand (l : Launch) (D : va_G) (cI cC cZ cL : ClassId) (h h_text h_now h_trial h_diary h_kept h_isKept h_line g1 : Nat)  (sz : Nat) (f_refusal : Int32) (f_size : Int32) (f_acts : Int32) (f_length : Int32) (f_spot : Int32) (f_out : Int32) (f_text : Nat → Int32) (f_p1 : Nat → Int32)  (K : Int32 → (Int32 × Int32 × (Nat → Int32)) → Prop) (hk : xp_X5_readCommand f_text f_size f_spot f_out f_p1 K) : XMi l yX5_readCommand wsX5_readCommand ({ frames := 6, cells := 0, slots := 0, locals := 134 } : Room) D (xTY cI cC cZ cL) [.ref h, .ref g1] [(h, .inr (5, [.int f_refusal, .ref h_text, .int f_size, .ref h_now, .ref h_trial, .ref h_diary, .int f_acts, .ref h_kept, .ref h_isKept, .ref h_line, .int f_length, .int f_spot, .int f_out])), (h_text, .inl (cI, 120, .inl f_text)), (g1, .inl (cI, 377, .inl f_p1))] sz (fun (r : Int32) (u : Int32 × Int32 × (Nat → Int32)) => K r u) (fun (u : Int32 × Int32 × (Nat → Int32)) => [(h, .inr (5, [.int f_refusal, .ref h_text, .int f_size, .ref h_now, .ref h_trial, .ref h_diary, .int f_acts, .ref h_kept, .ref h_isKept, .ref h_line, .int f_length, .int u.1, .int u.2.1])), (h_text, .inl (cI, 120, .inl f_text)), (g1, .inl (cI, 377, .inl u.2.2))]) :=
  x_enter (cc := cX5_readCommand) (maxL := 6) (ret := (some .boolean)) (own := RX5) (by decide) rfl rfl (Nat.le_of_ble_eq_true rfl) (fun p e s m below meth c ls C0 hA hP hD hS hl => xb_X5_readCommand_0 C0 hA _ _ _ hk s.heap [] ls hP hD hS hl)
