set_option maxRecDepth 20000 in
theorem xin_X3_of_X3 : ∀ w ∈ u_ws RX3 TX3 1, w ∈ wsX3_of := by decide +kernel
set_option maxHeartbeats 4000000 in
set_option maxRecDepth 100000 in
theorem xb_X3_of_0 {p : Program} {l : Launch} {e : Env} {s : State} {m : MethodId} {args : Array Value} {below : List Frame} {meth : Method} {c : Code} {A : Nat → Prop} {D : va_G} {cI cC cZ cL : ClassId} {h h_cells : Nat}  {f_cells : Nat → Int32} {K : Int32 → Prop}  (C0 : xC p s m args meth c cX3_of 4 (some .int) wsX3_of RX3 D (xTY cI cC cZ cL)) (hA : ∀ q : Nat, s.heap.size ≤ q → A q)  : ∀ (x1 : Int32) (x2 : Int32) , xp_X3_of f_cells x1 x2 K → ∀ (H : Heap) (locs : List Loc) (ls : Array Slot), va_P D vwCl [(h, .inr (3, [.ref h_cells])), (h_cells, .inl (cI, 400, .inl f_cells))] H → va_D A [(h, .inr (3, [.ref h_cells])), (h_cells, .inl (cI, 400, .inl f_cells))] → va_S A s.heap H locs → lv_has ls 4 [(0, .ref h), (1, .int x1), (2, .int x2)] → W p l e ({ frames := 0, cells := 0, slots := 0, locals := 0 } : Room) s m args below meth c H locs 0 0 (MQ below (va_Qi (fun (r : Int32) (_ : Unit) => K r) (fun u t => xE D A ((fun (_ : Unit) => [(h, .inr (3, [.ref h_cells])), (h_cells, .inl (cI, 400, .inl f_cells))]) u) t) A) args s 0 0 A) (F0 m 0 ls []) := by
  obtain ⟨hx, hb, hr, hml, hown, hts, hlocks, hK, hN⟩ := id C0
  intro x1 x2 hk H locs ls hP hD hS hl
  rw [xp_X3_of] at hk
  refine lv_bipush (v := 16) hx hb dX3_of_0 (by decide) ?_
  refine lv_iload_n hx hb dX3_of_2 rfl (lv_at hl 1 rfl) ?_
  refine lv_bipush (v := 16) hx hb dX3_of_3 (by decide) ?_
  refine lv_imul hx hb dX3_of_5 ?_
  refine lv_iadd hx hb dX3_of_6 ?_
  refine lv_iload_n hx hb dX3_of_7 rfl (lv_at hl 2 rfl) ?_
  refine lv_iadd hx hb dX3_of_8 ?_
  refine lv_istore_n (lv' := [(3, .int ((16 + (x1 * 16)) + x2)), (0, .ref h), (1, .int x1), (2, .int x2)]) hx hb dX3_of_9 rfl hl (by decide) rfl (fun ls hl => ?_)
  refine lv_iload_n hx hb dX3_of_10 rfl (lv_at hl 0 rfl) ?_
  refine lv_bipush (v := 16) hx hb dX3_of_11 (by decide) ?_
  refine lv_icmp_lt (tgt := 23) hx hb dX3_of_13 (by decide) (fun c1 => ?_) (fun c1 => ?_)
  · have hk := hk.1 c1
    refine lv_iconst (v := (-1 : Int32)) hx hb dX3_of_23 (by decide) ?_
    refine lv_goto (tgt := 33) hx hb dX3_of_24 (by decide) ?_
    exact x_reti C0 () hk hP hD hS dX3_of_33
  · have hk := hk.2 c1
    refine lv_iload_n hx hb dX3_of_16 rfl (lv_at hl 0 rfl) ?_
    refine lv_sipush (v := 400) hx hb dX3_of_17 (by decide) ?_
    refine lv_icmp_lt (tgt := 27) hx hb dX3_of_20 (by decide) (fun c2 => ?_) (fun c2 => ?_)
    · have hk := hk.1 c2
      refine lv_aload_n hx hb dX3_of_27 rfl (lv_at hl 1 rfl) ?_
      refine va_get (D := D) (ci := 3) (v := .ref h_cells) (C := RX3) (T := TX3) (N := 1) hx hb hts xin_X3_of_X3 hown hK hP 0 rfl rfl 0 (by decide) (hts (.fieldLink RX3 9 "TakeLog$State" "cells" "[I") (by decide +kernel)) (fun _ h9 => h9) rfl dX3_of_28 ?_
      refine lv_iload_n hx hb dX3_of_31 rfl (lv_at hl 0 rfl) ?_
      refine x_iald hx hb hK hP 1 0 rfl rfl hk.1 rfl rfl dX3_of_32 ?_
      have hk := hk.2
      exact x_reti C0 () hk hP hD hS dX3_of_33
    · have hk := hk.2 c2
      refine lv_iconst (v := (-1 : Int32)) hx hb dX3_of_23 (by decide) ?_
      refine lv_goto (tgt := 33) hx hb dX3_of_24 (by decide) ?_
      exact x_reti C0 () hk hP hD hS dX3_of_33
theorem xc_X3_of (l : Launch) (D : va_G) (cI cC cZ cL : ClassId) (h h_cells : Nat)  (sz : Nat) (f_cells : Nat → Int32) (x1 : Int32) (x2 : Int32) (K : Int32 → Prop) (hk : xp_X3_of f_cells x1 x2 K) : XMi l yX3_of wsX3_of ({ frames := 0, cells := 0, slots := 0, locals := 0 } : Room) D (xTY cI cC cZ cL) [.ref h, .int x1, .int x2] [(h, .inr (3, [.ref h_cells])), (h_cells, .inl (cI, 400, .inl f_cells))] sz (fun (r : Int32) (_ : Unit) => K r) (fun (_ : Unit) => [(h, .inr (3, [.ref h_cells])), (h_cells, .inl (cI, 400, .inl f_cells))]) :=
  x_enter (cc := cX3_of) (maxL := 4) (ret := (some .int)) (own := RX3) (by decide) rfl rfl (Nat.le_of_ble_eq_true rfl) (fun p e s m below meth c ls C0 hA hP hD hS hl => xb_X3_of_0 C0 hA _ _ hk s.heap [] ls hP hD hS hl)
set_option maxRecDepth 20000 in
theorem xin_X3_numberBehind_X3 : ∀ w ∈ u_ws RX3 TX3 1, w ∈ wsX3_numberBehind := by decide +kernel
set_option maxHeartbeats 4000000 in
set_option maxRecDepth 100000 in
theorem xb_X3_numberBehind_6 {p : Program} {l : Launch} {e : Env} {s : State} {m : MethodId} {args : Array Value} {below : List Frame} {meth : Method} {c : Code} {A : Nat → Prop} {D : va_G} {cI cC cZ cL : ClassId} {h h_cells : Nat}  {f_cells : Nat → Int32} {K : Int32 → Prop}  (C0 : xC p s m args meth c cX3_numberBehind 6 (some .int) wsX3_numberBehind RX3 D (xTY cI cC cZ cL)) (hA : ∀ q : Nat, s.heap.size ≤ q → A q)  : ∀ (n : Nat) (v1 : Int32) (v2 : Int32) (v3 : Int32) (v4 : Int32) (v5 : Int32) , xp_X3_numberBehind_6 f_cells K n v1 v2 v3 v4 v5 → ∀ (H : Heap) (locs : List Loc) (ls : Array Slot), va_P D vwCl [(h, .inr (3, [.ref h_cells])), (h_cells, .inl (cI, 400, .inl f_cells))] H → va_D A [(h, .inr (3, [.ref h_cells])), (h_cells, .inl (cI, 400, .inl f_cells))] → va_S A s.heap H locs → lv_has ls 6 [(0, .ref h), (1, .int v1), (2, .int v2), (3, .int v3), (4, .int v4), (5, .int v5)] → W p l e ({ frames := 1, cells := 0, slots := 0, locals := 23 } : Room) s m args below meth c H locs 0 0 (MQ below (va_Qi (fun (r : Int32) (_ : Unit) => K r) (fun u t => xE D A ((fun (_ : Unit) => [(h, .inr (3, [.ref h_cells])), (h_cells, .inl (cI, 400, .inl f_cells))]) u) t) A) args s 0 0 A) (F0 m 6 ls []) := by
  obtain ⟨hx, hb, hr, hml, hown, hts, hlocks, hK, hN⟩ := id C0
  intro n
  induction n with
  | zero => intro v1 v2 v3 v4 v5 hk; exact hk.elim
  | succ n ih =>
    intro v1 v2 v3 v4 v5 hk H locs ls hP hD hS hl
    rw [xp_X3_numberBehind_6] at hk
    refine lv_iload hx hb dX3_numberBehind_6 (lv_at hl 5 rfl) ?_
    refine lv_iload_n hx hb dX3_numberBehind_8 rfl (lv_at hl 1 rfl) ?_
    refine lv_icmp_ge (tgt := 54) hx hb dX3_numberBehind_9 (by decide) (fun c1 => ?_) (fun c1 => ?_)
    · have hk := hk.1 c1
      refine lv_iload hx hb dX3_numberBehind_54 (lv_at hl 4 rfl) ?_
      exact x_reti C0 () hk hP hD hS dX3_numberBehind_56
    · have hk := hk.2 c1
      refine lv_aload_n hx hb dX3_numberBehind_12 rfl (lv_at hl 0 rfl) ?_
      refine lv_iload hx hb dX3_numberBehind_13 (lv_at hl 5 rfl) ?_
      refine lv_iconst (v := 0) hx hb dX3_numberBehind_15 (by decide) ?_
      refine x_joini (ws1 := fun (_ : Unit) => [(h, .inr (3, [.ref h_cells])), (h_cells, .inl (cI, 400, .inl f_cells))]) (x_runV (n0 := 2) (As := [.int v5, .int 0]) (rest := []) C0 (xc_X3_of l D cI cC cZ cL h h_cells H.size f_cells v5 0 _ hk) gX3_numberBehind_X3_of rfl ⟨rfl, rfl⟩ (by decide +kernel) rfl ⟨by decide, by decide⟩ ⟨Nat.zero_le _, Nat.zero_le _⟩ hP hD [0, 1] rfl rfl (k := 0) rfl rfl rfl hl.1 rfl (Nat.le_of_ble_eq_true rfl) dX3_numberBehind_16) hP hD hS hA [0, 1] [] [0, 1] rfl rfl rfl (by decide) (fun _ => rfl) rfl (fun r2 u2 H locs hk hP hD hS => ?_)
      refine lv_iload_n hx hb dX3_numberBehind_19 rfl (lv_at hl 2 rfl) ?_
      refine lv_icmp_ne (tgt := 48) hx hb dX3_numberBehind_20 (by decide) (fun c3 => ?_) (fun c3 => ?_)
      · have hk := hk.1 c3
        refine lv_iinc (v := (v5 + 1)) (lv' := [(5, .int (v5 + 1)), (0, .ref h), (1, .int v1), (2, .int v2), (3, .int v3), (4, .int v4)]) hx hb dX3_numberBehind_48 hl (k := 5) rfl rfl (by decide) rfl (fun ls hl => ?_)
        refine lv_goto (tgt := 6) hx hb dX3_numberBehind_51 (by decide) ?_
        exact ih _ _ _ _ _ hk H locs ls hP hD hS (lv_sub hl [1, 2, 3, 4, 5, 0] rfl)
      · have hk := hk.2 c3
        refine lv_aload_n hx hb dX3_numberBehind_23 rfl (lv_at hl 0 rfl) ?_
        refine lv_iload hx hb dX3_numberBehind_24 (lv_at hl 5 rfl) ?_
        refine lv_iconst (v := 1) hx hb dX3_numberBehind_26 (by decide) ?_
        refine x_joini (ws1 := fun (_ : Unit) => [(h, .inr (3, [.ref h_cells])), (h_cells, .inl (cI, 400, .inl f_cells))]) (x_runV (n0 := 2) (As := [.int v5, .int 1]) (rest := []) C0 (xc_X3_of l D cI cC cZ cL h h_cells H.size f_cells v5 1 _ hk) gX3_numberBehind_X3_of rfl ⟨rfl, rfl⟩ (by decide +kernel) rfl ⟨by decide, by decide⟩ ⟨Nat.zero_le _, Nat.zero_le _⟩ hP hD [0, 1] rfl rfl (k := 0) rfl rfl rfl hl.1 rfl (Nat.le_of_ble_eq_true rfl) dX3_numberBehind_27) hP hD hS hA [0, 1] [] [0, 1] rfl rfl rfl (by decide) (fun _ => rfl) rfl (fun r4 u4 H locs hk hP hD hS => ?_)
        refine lv_iload_n hx hb dX3_numberBehind_30 rfl (lv_at hl 3 rfl) ?_
        refine lv_icmp_ne (tgt := 48) hx hb dX3_numberBehind_31 (by decide) (fun c5 => ?_) (fun c5 => ?_)
        · have hk := hk.1 c5
          refine lv_iinc (v := (v5 + 1)) (lv' := [(5, .int (v5 + 1)), (0, .ref h), (1, .int v1), (2, .int v2), (3, .int v3), (4, .int v4)]) hx hb dX3_numberBehind_48 hl (k := 5) rfl rfl (by decide) rfl (fun ls hl => ?_)
          refine lv_goto (tgt := 6) hx hb dX3_numberBehind_51 (by decide) ?_
          exact ih _ _ _ _ _ hk H locs ls hP hD hS (lv_sub hl [1, 2, 3, 4, 5, 0] rfl)
        · have hk := hk.2 c5
          refine lv_aload_n hx hb dX3_numberBehind_34 rfl (lv_at hl 0 rfl) ?_
          refine lv_iload hx hb dX3_numberBehind_35 (lv_at hl 5 rfl) ?_
          refine lv_bipush (v := 15) hx hb dX3_numberBehind_37 (by decide) ?_
          refine x_joini (ws1 := fun (_ : Unit) => [(h, .inr (3, [.ref h_cells])), (h_cells, .inl (cI, 400, .inl f_cells))]) (x_runV (n0 := 2) (As := [.int v5, .int 15]) (rest := []) C0 (xc_X3_of l D cI cC cZ cL h h_cells H.size f_cells v5 15 _ hk) gX3_numberBehind_X3_of rfl ⟨rfl, rfl⟩ (by decide +kernel) rfl ⟨by decide, by decide⟩ ⟨Nat.zero_le _, Nat.zero_le _⟩ hP hD [0, 1] rfl rfl (k := 0) rfl rfl rfl hl.1 rfl (Nat.le_of_ble_eq_true rfl) dX3_numberBehind_39) hP hD hS hA [0, 1] [] [0, 1] rfl rfl rfl (by decide) (fun _ => rfl) rfl (fun r6 u6 H locs hk hP hD hS => ?_)
          refine lv_if_ne (tgt := 48) hx hb dX3_numberBehind_42 (by decide) (fun c7 => ?_) (fun c7 => ?_)
          · have hk := hk.1 c7
            refine lv_iinc (v := (v5 + 1)) (lv' := [(5, .int (v5 + 1)), (0, .ref h), (1, .int v1), (2, .int v2), (3, .int v3), (4, .int v4)]) hx hb dX3_numberBehind_48 hl (k := 5) rfl rfl (by decide) rfl (fun ls hl => ?_)
            refine lv_goto (tgt := 6) hx hb dX3_numberBehind_51 (by decide) ?_
            exact ih _ _ _ _ _ hk H locs ls hP hD hS (lv_sub hl [1, 2, 3, 4, 5, 0] rfl)
          · have hk := hk.2 c7
            refine lv_iinc (v := (v4 + 1)) (lv' := [(4, .int (v4 + 1)), (0, .ref h), (1, .int v1), (2, .int v2), (3, .int v3), (5, .int v5)]) hx hb dX3_numberBehind_45 hl (k := 4) rfl rfl (by decide) rfl (fun ls hl => ?_)
            refine lv_iinc (v := (v5 + 1)) (lv' := [(5, .int (v5 + 1)), (4, .int (v4 + 1)), (0, .ref h), (1, .int v1), (2, .int v2), (3, .int v3)]) hx hb dX3_numberBehind_48 hl (k := 5) rfl rfl (by decide) rfl (fun ls hl => ?_)
            refine lv_goto (tgt := 6) hx hb dX3_numberBehind_51 (by decide) ?_
            exact ih _ _ _ _ _ hk H locs ls hP hD hS (lv_sub hl [2, 3, 4, 5, 1, 0] rfl)
set_option maxHeartbeats 4000000 in
set_option maxRecDepth 100000 in
theorem xb_X3_numberBehind_0 {p : Program} {l : Launch} {e : Env} {s : State} {m : MethodId} {args : Array Value} {below : List Frame} {meth : Method} {c : Code} {A : Nat → Prop} {D : va_G} {cI cC cZ cL : ClassId} {h h_cells : Nat}  {f_cells : Nat → Int32} {K : Int32 → Prop}  (C0 : xC p s m args meth c cX3_numberBehind 6 (some .int) wsX3_numberBehind RX3 D (xTY cI cC cZ cL)) (hA : ∀ q : Nat, s.heap.size ≤ q → A q)  : ∀ (x1 : Int32) (x2 : Int32) (x3 : Int32) , xp_X3_numberBehind f_cells x1 x2 x3 K → ∀ (H : Heap) (locs : List Loc) (ls : Array Slot), va_P D vwCl [(h, .inr (3, [.ref h_cells])), (h_cells, .inl (cI, 400, .inl f_cells))] H → va_D A [(h, .inr (3, [.ref h_cells])), (h_cells, .inl (cI, 400, .inl f_cells))] → va_S A s.heap H locs → lv_has ls 6 [(0, .ref h), (1, .int x1), (2, .int x2), (3, .int x3)] → W p l e ({ frames := 1, cells := 0, slots := 0, locals := 23 } : Room) s m args below meth c H locs 0 0 (MQ below (va_Qi (fun (r : Int32) (_ : Unit) => K r) (fun u t => xE D A ((fun (_ : Unit) => [(h, .inr (3, [.ref h_cells])), (h_cells, .inl (cI, 400, .inl f_cells))]) u) t) A) args s 0 0 A) (F0 m 0 ls []) := by
  obtain ⟨hx, hb, hr, hml, hown, hts, hlocks, hK, hN⟩ := id C0
  intro x1 x2 x3 hk H locs ls hP hD hS hl
  rw [xp_X3_numberBehind] at hk
  refine lv_iconst (v := 1) hx hb dX3_numberBehind_0 (by decide) ?_
  refine lv_istore (lv' := [(4, .int 1), (0, .ref h), (1, .int x1), (2, .int x2), (3, .int x3)]) hx hb dX3_numberBehind_1 hl (by decide) rfl (fun ls hl => ?_)
  refine lv_iconst (v := 0) hx hb dX3_numberBehind_3 (by decide) ?_
  refine lv_istore (lv' := [(5, .int 0), (4, .int 1), (0, .ref h), (1, .int x1), (2, .int x2), (3, .int x3)]) hx hb dX3_numberBehind_4 hl (by decide) rfl (fun ls hl => ?_)
  obtain ⟨n9, hk⟩ := hk
  exact xb_X3_numberBehind_6 C0 hA  n9 _ _ _ _ _ hk H locs ls hP hD hS (lv_sub hl [2, 3, 4, 5, 1, 0] rfl)
theorem xc_X3_numberBehind (l : Launch) (D : va_G) (cI cC cZ cL : ClassId) (h h_cells : Nat)  (sz : Nat) (f_cells : Nat → Int32) (x1 : Int32) (x2 : Int32) (x3 : Int32) (K : Int32 → Prop) (hk : xp_X3_numberBehind f_cells x1 x2 x3 K) : XMi l yX3_numberBehind wsX3_numberBehind ({ frames := 1, cells := 0, slots := 0, locals := 23 } : Room) D (xTY cI cC cZ cL) [.ref h, .int x1, .int x2, .int x3] [(h, .inr (3, [.ref h_cells])), (h_cells, .inl (cI, 400, .inl f_cells))] sz (fun (r : Int32) (_ : Unit) => K r) (fun (_ : Unit) => [(h, .inr (3, [.ref h_cells])), (h_cells, .inl (cI, 400, .inl f_cells))]) :=
  x_enter (cc := cX3_numberBehind) (maxL := 6) (ret := (some .int)) (own := RX3) (by decide) rfl rfl (Nat.le_of_ble_eq_true rfl) (fun p e s m below meth c ls C0 hA hP hD hS hl => xb_X3_numberBehind_0 C0 hA _ _ _ hk s.heap [] ls hP hD hS hl)
set_option maxRecDepth 20000 in
theorem xin_X3_rightNumber_X3 : ∀ w ∈ u_ws RX3 TX3 1, w ∈ wsX3_rightNumber := by decide +kernel
set_option maxHeartbeats 4000000 in
set_option maxRecDepth 100000 in
theorem xb_X3_rightNumber_0 {p : Program} {l : Launch} {e : Env} {s : State} {m : MethodId} {args : Array Value} {below : List Frame} {meth : Method} {c : Code} {A : Nat → Prop} {D : va_G} {cI cC cZ cL : ClassId} {h h_cells : Nat}  {f_cells : Nat → Int32} {K : Int32 → Prop}  (C0 : xC p s m args meth c cX3_rightNumber 2 (some .int) wsX3_rightNumber RX3 D (xTY cI cC cZ cL)) (hA : ∀ q : Nat, s.heap.size ≤ q → A q)  : ∀ (x1 : Int32) , xp_X3_rightNumber f_cells x1 K → ∀ (H : Heap) (locs : List Loc) (ls : Array Slot), va_P D vwCl [(h, .inr (3, [.ref h_cells])), (h_cells, .inl (cI, 400, .inl f_cells))] H → va_D A [(h, .inr (3, [.ref h_cells])), (h_cells, .inl (cI, 400, .inl f_cells))] → va_S A s.heap H locs → lv_has ls 2 [(0, .ref h), (1, .int x1)] → W p l e ({ frames := 2, cells := 0, slots := 0, locals := 48 } : Room) s m args below meth c H locs 0 0 (MQ below (va_Qi (fun (r : Int32) (_ : Unit) => K r) (fun u t => xE D A ((fun (_ : Unit) => [(h, .inr (3, [.ref h_cells])), (h_cells, .inl (cI, 400, .inl f_cells))]) u) t) A) args s 0 0 A) (F0 m 0 ls []) := by
  obtain ⟨hx, hb, hr, hml, hown, hts, hlocks, hK, hN⟩ := id C0
  intro x1 hk H locs ls hP hD hS hl
  rw [xp_X3_rightNumber] at hk
  refine lv_aload_n hx hb dX3_rightNumber_0 rfl (lv_at hl 0 rfl) ?_
  refine lv_iload_n hx hb dX3_rightNumber_1 rfl (lv_at hl 1 rfl) ?_
  refine lv_aload_n hx hb dX3_rightNumber_2 rfl (lv_at hl 0 rfl) ?_
  refine lv_iload_n hx hb dX3_rightNumber_3 rfl (lv_at hl 1 rfl) ?_
  refine lv_iconst (v := 0) hx hb dX3_rightNumber_4 (by decide) ?_
  refine x_joini (ws1 := fun (_ : Unit) => [(h, .inr (3, [.ref h_cells])), (h_cells, .inl (cI, 400, .inl f_cells))]) (x_runV (n0 := 2) (As := [.int x1, .int 0]) (rest := [.int x1, .ref h]) C0 (xc_X3_of l D cI cC cZ cL h h_cells H.size f_cells x1 0 _ hk) gX3_rightNumber_X3_of rfl ⟨rfl, rfl⟩ (by decide +kernel) rfl ⟨by decide, by decide⟩ ⟨Nat.zero_le _, Nat.zero_le _⟩ hP hD [0, 1] rfl rfl (k := 0) rfl rfl rfl hl.1 rfl (Nat.le_of_ble_eq_true rfl) dX3_rightNumber_5) hP hD hS hA [0, 1] [] [0, 1] rfl rfl rfl (by decide) (fun _ => rfl) rfl (fun r1 u1 H locs hk hP hD hS => ?_)
  refine lv_aload_n hx hb dX3_rightNumber_8 rfl (lv_at hl 0 rfl) ?_
  refine lv_iload_n hx hb dX3_rightNumber_9 rfl (lv_at hl 1 rfl) ?_
  refine lv_iconst (v := 1) hx hb dX3_rightNumber_10 (by decide) ?_
  refine x_joini (ws1 := fun (_ : Unit) => [(h, .inr (3, [.ref h_cells])), (h_cells, .inl (cI, 400, .inl f_cells))]) (x_runV (n0 := 2) (As := [.int x1, .int 1]) (rest := [.int r1, .int x1, .ref h]) C0 (xc_X3_of l D cI cC cZ cL h h_cells H.size f_cells x1 1 _ hk) gX3_rightNumber_X3_of rfl ⟨rfl, rfl⟩ (by decide +kernel) rfl ⟨by decide, by decide⟩ ⟨Nat.zero_le _, Nat.zero_le _⟩ hP hD [0, 1] rfl rfl (k := 0) rfl rfl rfl hl.1 rfl (Nat.le_of_ble_eq_true rfl) dX3_rightNumber_11) hP hD hS hA [0, 1] [] [0, 1] rfl rfl rfl (by decide) (fun _ => rfl) rfl (fun r2 u2 H locs hk hP hD hS => ?_)
  refine x_joini (ws1 := fun (_ : Unit) => [(h, .inr (3, [.ref h_cells])), (h_cells, .inl (cI, 400, .inl f_cells))]) (x_runV (n0 := 3) (As := [.int x1, .int r1, .int r2]) (rest := []) C0 (xc_X3_numberBehind l D cI cC cZ cL h h_cells H.size f_cells x1 r1 r2 _ hk) gX3_rightNumber_X3_numberBehind rfl ⟨rfl, rfl⟩ (by decide +kernel) rfl ⟨by decide, by decide⟩ ⟨Nat.zero_le _, Nat.zero_le _⟩ hP hD [0, 1] rfl rfl (k := 0) rfl rfl rfl hl.1 rfl (Nat.le_of_ble_eq_true rfl) dX3_rightNumber_14) hP hD hS hA [0, 1] [] [0, 1] rfl rfl rfl (by decide) (fun _ => rfl) rfl (fun r3 u3 H locs hk hP hD hS => ?_)
  exact x_reti C0 () hk hP hD hS dX3_rightNumber_17
theorem xc_X3_rightNumber (l : Launch) (D : va_G) (cI cC cZ cL : ClassId) (h h_cells : Nat)  (sz : Nat) (f_cells : Nat → Int32) (x1 : Int32) (K : Int32 → Prop) (hk : xp_X3_rightNumber f_cells x1 K) : XMi l yX3_rightNumber wsX3_rightNumber ({ frames := 2, cells := 0, slots := 0, locals := 48 } : Room) D (xTY cI cC cZ cL) [.ref h, .int x1] [(h, .inr (3, [.ref h_cells])), (h_cells, .inl (cI, 400, .inl f_cells))] sz (fun (r : Int32) (_ : Unit) => K r) (fun (_ : Unit) => [(h, .inr (3, [.ref h_cells])), (h_cells, .inl (cI, 400, .inl f_cells))]) :=
  x_enter (cc := cX3_rightNumber) (maxL := 2) (ret := (some .int)) (own := RX3) (by decide) rfl rfl (Nat.le_of_ble_eq_true rfl) (fun p e s m below meth c ls C0 hA hP hD hS hl => xb_X3_rightNumber_0 C0 hA _ hk s.heap [] ls hP hD hS hl)
set_option maxRecDepth 20000 in
theorem xin_X3_said_X3 : ∀ w ∈ u_ws RX3 TX3 1, w ∈ wsX3_said := by decide +kernel
set_option maxHeartbeats 4000000 in
set_option maxRecDepth 100000 in
theorem xb_X3_said_0 {p : Program} {l : Launch} {e : Env} {s : State} {m : MethodId} {args : Array Value} {below : List Frame} {meth : Method} {c : Code} {A : Nat → Prop} {D : va_G} {cI cC cZ cL : ClassId} {h h_cells : Nat}  {f_cells : Nat → Int32} {K : Int32 → Prop}  (C0 : xC p s m args meth c cX3_said 5 (some .boolean) wsX3_said RX3 D (xTY cI cC cZ cL)) (hA : ∀ q : Nat, s.heap.size ≤ q → A q)  : ∀ (x1 : Int32) (x2 : Int32) (x3 : Int32) (x4 : Int32) , xp_X3_said f_cells x1 x2 x3 x4 K → ∀ (H : Heap) (locs : List Loc) (ls : Array Slot), va_P D vwCl [(h, .inr (3, [.ref h_cells])), (h_cells, .inl (cI, 400, .inl f_cells))] H → va_D A [(h, .inr (3, [.ref h_cells])), (h_cells, .inl (cI, 400, .inl f_cells))] → va_S A s.heap H locs → lv_has ls 5 [(0, .ref h), (1, .int x1), (2, .int x2), (3, .int x3), (4, .int x4)] → W p l e ({ frames := 1, cells := 0, slots := 0, locals := 23 } : Room) s m args below meth c H locs 0 0 (MQ below (va_Qi (fun (r : Int32) (_ : Unit) => K r) (fun u t => xE D A ((fun (_ : Unit) => [(h, .inr (3, [.ref h_cells])), (h_cells, .inl (cI, 400, .inl f_cells))]) u) t) A) args s 0 0 A) (F0 m 0 ls []) := by
  obtain ⟨hx, hb, hr, hml, hown, hts, hlocks, hK, hN⟩ := id C0
  intro x1 x2 x3 x4 hk H locs ls hP hD hS hl
  rw [xp_X3_said] at hk
  refine lv_aload_n hx hb dX3_said_0 rfl (lv_at hl 0 rfl) ?_
  refine lv_iload_n hx hb dX3_said_1 rfl (lv_at hl 1 rfl) ?_
  refine lv_iconst (v := 3) hx hb dX3_said_2 (by decide) ?_
  refine x_joini (ws1 := fun (_ : Unit) => [(h, .inr (3, [.ref h_cells])), (h_cells, .inl (cI, 400, .inl f_cells))]) (x_runV (n0 := 2) (As := [.int x1, .int 3]) (rest := []) C0 (xc_X3_of l D cI cC cZ cL h h_cells H.size f_cells x1 3 _ hk) gX3_said_X3_of rfl ⟨rfl, rfl⟩ (by decide +kernel) rfl ⟨by decide, by decide⟩ ⟨Nat.zero_le _, Nat.zero_le _⟩ hP hD [0, 1] rfl rfl (k := 0) rfl rfl rfl hl.1 rfl (Nat.le_of_ble_eq_true rfl) dX3_said_3) hP hD hS hA [0, 1] [] [0, 1] rfl rfl rfl (by decide) (fun _ => rfl) rfl (fun r1 u1 H locs hk hP hD hS => ?_)
  refine lv_iload_n hx hb dX3_said_6 rfl (lv_at hl 2 rfl) ?_
  refine lv_icmp_ne (tgt := 35) hx hb dX3_said_7 (by decide) (fun c2 => ?_) (fun c2 => ?_)
  · have hk := hk.1 c2
    refine lv_iconst (v := 0) hx hb dX3_said_35 (by decide) ?_
    exact x_retz rfl C0 () hk hP hD hS dX3_said_36
  · have hk := hk.2 c2
    refine lv_aload_n hx hb dX3_said_10 rfl (lv_at hl 0 rfl) ?_
    refine lv_iload_n hx hb dX3_said_11 rfl (lv_at hl 1 rfl) ?_
    refine lv_iconst (v := 4) hx hb dX3_said_12 (by decide) ?_
    refine x_joini (ws1 := fun (_ : Unit) => [(h, .inr (3, [.ref h_cells])), (h_cells, .inl (cI, 400, .inl f_cells))]) (x_runV (n0 := 2) (As := [.int x1, .int 4]) (rest := []) C0 (xc_X3_of l D cI cC cZ cL h h_cells H.size f_cells x1 4 _ hk) gX3_said_X3_of rfl ⟨rfl, rfl⟩ (by decide +kernel) rfl ⟨by decide, by decide⟩ ⟨Nat.zero_le _, Nat.zero_le _⟩ hP hD [0, 1] rfl rfl (k := 0) rfl rfl rfl hl.1 rfl (Nat.le_of_ble_eq_true rfl) dX3_said_13) hP hD hS hA [0, 1] [] [0, 1] rfl rfl rfl (by decide) (fun _ => rfl) rfl (fun r3 u3 H locs hk hP hD hS => ?_)
    refine lv_iload_n hx hb dX3_said_16 rfl (lv_at hl 3 rfl) ?_
    refine lv_icmp_ne (tgt := 35) hx hb dX3_said_17 (by decide) (fun c4 => ?_) (fun c4 => ?_)
    · have hk := hk.1 c4
      refine lv_iconst (v := 0) hx hb dX3_said_35 (by decide) ?_
      exact x_retz rfl C0 () hk hP hD hS dX3_said_36
    · have hk := hk.2 c4
      refine lv_aload_n hx hb dX3_said_20 rfl (lv_at hl 0 rfl) ?_
      refine lv_iload_n hx hb dX3_said_21 rfl (lv_at hl 1 rfl) ?_
      refine lv_iconst (v := 5) hx hb dX3_said_22 (by decide) ?_
      refine x_joini (ws1 := fun (_ : Unit) => [(h, .inr (3, [.ref h_cells])), (h_cells, .inl (cI, 400, .inl f_cells))]) (x_runV (n0 := 2) (As := [.int x1, .int 5]) (rest := []) C0 (xc_X3_of l D cI cC cZ cL h h_cells H.size f_cells x1 5 _ hk) gX3_said_X3_of rfl ⟨rfl, rfl⟩ (by decide +kernel) rfl ⟨by decide, by decide⟩ ⟨Nat.zero_le _, Nat.zero_le _⟩ hP hD [0, 1] rfl rfl (k := 0) rfl rfl rfl hl.1 rfl (Nat.le_of_ble_eq_true rfl) dX3_said_23) hP hD hS hA [0, 1] [] [0, 1] rfl rfl rfl (by decide) (fun _ => rfl) rfl (fun r5 u5 H locs hk hP hD hS => ?_)
      refine lv_iload hx hb dX3_said_26 (lv_at hl 4 rfl) ?_
      refine lv_icmp_ne (tgt := 35) hx hb dX3_said_28 (by decide) (fun c6 => ?_) (fun c6 => ?_)
      · have hk := hk.1 c6
        refine lv_iconst (v := 0) hx hb dX3_said_35 (by decide) ?_
        exact x_retz rfl C0 () hk hP hD hS dX3_said_36
      · have hk := hk.2 c6
        refine lv_iconst (v := 1) hx hb dX3_said_31 (by decide) ?_
        refine lv_goto (tgt := 36) hx hb dX3_said_32 (by decide) ?_
        exact x_retz rfl C0 () hk hP hD hS dX3_said_36
theorem xc_X3_said (l : Launch) (D : va_G) (cI cC cZ cL : ClassId) (h h_cells : Nat)  (sz : Nat) (f_cells : Nat → Int32) (x1 : Int32) (x2 : Int32) (x3 : Int32) (x4 : Int32) (K : Int32 → Prop) (hk : xp_X3_said f_cells x1 x2 x3 x4 K) : XMi l yX3_said wsX3_said ({ frames := 1, cells := 0, slots := 0, locals := 23 } : Room) D (xTY cI cC cZ cL) [.ref h, .int x1, .int x2, .int x3, .int x4] [(h, .inr (3, [.ref h_cells])), (h_cells, .inl (cI, 400, .inl f_cells))] sz (fun (r : Int32) (_ : Unit) => K r) (fun (_ : Unit) => [(h, .inr (3, [.ref h_cells])), (h_cells, .inl (cI, 400, .inl f_cells))]) :=
  x_enter (cc := cX3_said) (maxL := 5) (ret := (some .boolean)) (own := RX3) (by decide) rfl rfl (Nat.le_of_ble_eq_true rfl) (fun p e s m below meth c ls C0 hA hP hD hS hl => xb_X3_said_0 C0 hA _ _ _ _ hk s.heap [] ls hP hD hS hl)
set_option maxRecDepth 20000 in
theorem xin_X3_isRight_X3 : ∀ w ∈ u_ws RX3 TX3 1, w ∈ wsX3_isRight := by decide +kernel
set_option maxHeartbeats 4000000 in
set_option maxRecDepth 100000 in
theorem xb_X3_isRight_0 {p : Program} {l : Launch} {e : Env} {s : State} {m : MethodId} {args : Array Value} {below : List Frame} {meth : Method} {c : Code} {A : Nat → Prop} {D : va_G} {cI cC cZ cL : ClassId} {h h_cells : Nat}  {f_cells : Nat → Int32} {K : Int32 → Prop}  (C0 : xC p s m args meth c cX3_isRight 2 (some .boolean) wsX3_isRight RX3 D (xTY cI cC cZ cL)) (hA : ∀ q : Nat, s.heap.size ≤ q → A q)  : ∀ (x1 : Int32) , xp_X3_isRight f_cells x1 K → ∀ (H : Heap) (locs : List Loc) (ls : Array Slot), va_P D vwCl [(h, .inr (3, [.ref h_cells])), (h_cells, .inl (cI, 400, .inl f_cells))] H → va_D A [(h, .inr (3, [.ref h_cells])), (h_cells, .inl (cI, 400, .inl f_cells))] → va_S A s.heap H locs → lv_has ls 2 [(0, .ref h), (1, .int x1)] → W p l e ({ frames := 3, cells := 0, slots := 0, locals := 69 } : Room) s m args below meth c H locs 0 0 (MQ below (va_Qi (fun (r : Int32) (_ : Unit) => K r) (fun u t => xE D A ((fun (_ : Unit) => [(h, .inr (3, [.ref h_cells])), (h_cells, .inl (cI, 400, .inl f_cells))]) u) t) A) args s 0 0 A) (F0 m 0 ls []) := by
  obtain ⟨hx, hb, hr, hml, hown, hts, hlocks, hK, hN⟩ := id C0
  intro x1 hk H locs ls hP hD hS hl
  rw [xp_X3_isRight] at hk
  refine lv_aload_n hx hb dX3_isRight_0 rfl (lv_at hl 0 rfl) ?_
  refine lv_iload_n hx hb dX3_isRight_1 rfl (lv_at hl 1 rfl) ?_
  refine lv_aload_n hx hb dX3_isRight_2 rfl (lv_at hl 0 rfl) ?_
  refine lv_iload_n hx hb dX3_isRight_3 rfl (lv_at hl 1 rfl) ?_
  refine lv_iconst (v := 0) hx hb dX3_isRight_4 (by decide) ?_
  refine x_joini (ws1 := fun (_ : Unit) => [(h, .inr (3, [.ref h_cells])), (h_cells, .inl (cI, 400, .inl f_cells))]) (x_runV (n0 := 2) (As := [.int x1, .int 0]) (rest := [.int x1, .ref h]) C0 (xc_X3_of l D cI cC cZ cL h h_cells H.size f_cells x1 0 _ hk) gX3_isRight_X3_of rfl ⟨rfl, rfl⟩ (by decide +kernel) rfl ⟨by decide, by decide⟩ ⟨Nat.zero_le _, Nat.zero_le _⟩ hP hD [0, 1] rfl rfl (k := 0) rfl rfl rfl hl.1 rfl (Nat.le_of_ble_eq_true rfl) dX3_isRight_5) hP hD hS hA [0, 1] [] [0, 1] rfl rfl rfl (by decide) (fun _ => rfl) rfl (fun r1 u1 H locs hk hP hD hS => ?_)
  refine lv_aload_n hx hb dX3_isRight_8 rfl (lv_at hl 0 rfl) ?_
  refine lv_iload_n hx hb dX3_isRight_9 rfl (lv_at hl 1 rfl) ?_
  refine lv_iconst (v := 1) hx hb dX3_isRight_10 (by decide) ?_
  refine x_joini (ws1 := fun (_ : Unit) => [(h, .inr (3, [.ref h_cells])), (h_cells, .inl (cI, 400, .inl f_cells))]) (x_runV (n0 := 2) (As := [.int x1, .int 1]) (rest := [.int r1, .int x1, .ref h]) C0 (xc_X3_of l D cI cC cZ cL h h_cells H.size f_cells x1 1 _ hk) gX3_isRight_X3_of rfl ⟨rfl, rfl⟩ (by decide +kernel) rfl ⟨by decide, by decide⟩ ⟨Nat.zero_le _, Nat.zero_le _⟩ hP hD [0, 1] rfl rfl (k := 0) rfl rfl rfl hl.1 rfl (Nat.le_of_ble_eq_true rfl) dX3_isRight_11) hP hD hS hA [0, 1] [] [0, 1] rfl rfl rfl (by decide) (fun _ => rfl) rfl (fun r2 u2 H locs hk hP hD hS => ?_)
  refine lv_aload_n hx hb dX3_isRight_14 rfl (lv_at hl 0 rfl) ?_
  refine lv_iload_n hx hb dX3_isRight_15 rfl (lv_at hl 1 rfl) ?_
  refine x_joini (ws1 := fun (_ : Unit) => [(h, .inr (3, [.ref h_cells])), (h_cells, .inl (cI, 400, .inl f_cells))]) (x_runV (n0 := 1) (As := [.int x1]) (rest := [.int r2, .int r1, .int x1, .ref h]) C0 (xc_X3_rightNumber l D cI cC cZ cL h h_cells H.size f_cells x1 _ hk) gX3_isRight_X3_rightNumber rfl ⟨rfl, rfl⟩ (by decide +kernel) rfl ⟨by decide, by decide⟩ ⟨Nat.zero_le _, Nat.zero_le _⟩ hP hD [0, 1] rfl rfl (k := 0) rfl rfl rfl hl.1 rfl (Nat.le_of_ble_eq_true rfl) dX3_isRight_16) hP hD hS hA [0, 1] [] [0, 1] rfl rfl rfl (by decide) (fun _ => rfl) rfl (fun r3 u3 H locs hk hP hD hS => ?_)
  refine x_joini (ws1 := fun (_ : Unit) => [(h, .inr (3, [.ref h_cells])), (h_cells, .inl (cI, 400, .inl f_cells))]) (x_runV (n0 := 4) (As := [.int x1, .int r1, .int r2, .int r3]) (rest := []) C0 (xc_X3_said l D cI cC cZ cL h h_cells H.size f_cells x1 r1 r2 r3 _ hk) gX3_isRight_X3_said rfl ⟨rfl, rfl⟩ (by decide +kernel) rfl ⟨by decide, by decide⟩ ⟨Nat.zero_le _, Nat.zero_le _⟩ hP hD [0, 1] rfl rfl (k := 0) rfl rfl rfl hl.1 rfl (Nat.le_of_ble_eq_true rfl) dX3_isRight_19) hP hD hS hA [0, 1] [] [0, 1] rfl rfl rfl (by decide) (fun _ => rfl) rfl (fun r4 u4 H locs hk hP hD hS => ?_)
  exact x_retz hk.1 C0 () hk.2 hP hD hS dX3_isRight_22
theorem xc_X3_isRight (l : Launch) (D : va_G) (cI cC cZ cL : ClassId) (h h_cells : Nat)  (sz : Nat) (f_cells : Nat → Int32) (x1 : Int32) (K : Int32 → Prop) (hk : xp_X3_isRight f_cells x1 K) : XMi l yX3_isRight wsX3_isRight ({ frames := 3, cells := 0, slots := 0, locals := 69 } : Room) D (xTY cI cC cZ cL) [.ref h, .int x1] [(h, .inr (3, [.ref h_cells])), (h_cells, .inl (cI, 400, .inl f_cells))] sz (fun (r : Int32) (_ : Unit) => K r) (fun (_ : Unit) => [(h, .inr (3, [.ref h_cells])), (h_cells, .inl (cI, 400, .inl f_cells))]) :=
  x_enter (cc := cX3_isRight) (maxL := 2) (ret := (some .boolean)) (own := RX3) (by decide) rfl rfl (Nat.le_of_ble_eq_true rfl) (fun p e s m below meth c ls C0 hA hP hD hS hl => xb_X3_isRight_0 C0 hA _ hk s.heap [] ls hP hD hS hl)
set_option maxRecDepth 20000 in
theorem xin_X3_hasSound_X3 : ∀ w ∈ u_ws RX3 TX3 1, w ∈ wsX3_hasSound := by decide +kernel
set_option maxHeartbeats 4000000 in
set_option maxRecDepth 100000 in
theorem xb_X3_hasSound_0 {p : Program} {l : Launch} {e : Env} {s : State} {m : MethodId} {args : Array Value} {below : List Frame} {meth : Method} {c : Code} {A : Nat → Prop} {D : va_G} {cI cC cZ cL : ClassId} {h h_cells : Nat}  {f_cells : Nat → Int32} {K : Int32 → Prop}  (C0 : xC p s m args meth c cX3_hasSound 2 (some .boolean) wsX3_hasSound RX3 D (xTY cI cC cZ cL)) (hA : ∀ q : Nat, s.heap.size ≤ q → A q)  : ∀ (x1 : Int32) , xp_X3_hasSound f_cells x1 K → ∀ (H : Heap) (locs : List Loc) (ls : Array Slot), va_P D vwCl [(h, .inr (3, [.ref h_cells])), (h_cells, .inl (cI, 400, .inl f_cells))] H → va_D A [(h, .inr (3, [.ref h_cells])), (h_cells, .inl (cI, 400, .inl f_cells))] → va_S A s.heap H locs → lv_has ls 2 [(0, .ref h), (1, .int x1)] → W p l e ({ frames := 1, cells := 0, slots := 0, locals := 23 } : Room) s m args below meth c H locs 0 0 (MQ below (va_Qi (fun (r : Int32) (_ : Unit) => K r) (fun u t => xE D A ((fun (_ : Unit) => [(h, .inr (3, [.ref h_cells])), (h_cells, .inl (cI, 400, .inl f_cells))]) u) t) A) args s 0 0 A) (F0 m 0 ls []) := by
  obtain ⟨hx, hb, hr, hml, hown, hts, hlocks, hK, hN⟩ := id C0
  intro x1 hk H locs ls hP hD hS hl
  rw [xp_X3_hasSound] at hk
  refine lv_aload_n hx hb dX3_hasSound_0 rfl (lv_at hl 0 rfl) ?_
  refine lv_iload_n hx hb dX3_hasSound_1 rfl (lv_at hl 1 rfl) ?_
  refine lv_bipush (v := 9) hx hb dX3_hasSound_2 (by decide) ?_
  refine x_joini (ws1 := fun (_ : Unit) => [(h, .inr (3, [.ref h_cells])), (h_cells, .inl (cI, 400, .inl f_cells))]) (x_runV (n0 := 2) (As := [.int x1, .int 9]) (rest := []) C0 (xc_X3_of l D cI cC cZ cL h h_cells H.size f_cells x1 9 _ hk) gX3_hasSound_X3_of rfl ⟨rfl, rfl⟩ (by decide +kernel) rfl ⟨by decide, by decide⟩ ⟨Nat.zero_le _, Nat.zero_le _⟩ hP hD [0, 1] rfl rfl (k := 0) rfl rfl rfl hl.1 rfl (Nat.le_of_ble_eq_true rfl) dX3_hasSound_4) hP hD hS hA [0, 1] [] [0, 1] rfl rfl rfl (by decide) (fun _ => rfl) rfl (fun r1 u1 H locs hk hP hD hS => ?_)
  refine lv_iconst (v := (-1 : Int32)) hx hb dX3_hasSound_7 (by decide) ?_
  refine lv_icmp_eq (tgt := 15) hx hb dX3_hasSound_8 (by decide) (fun c2 => ?_) (fun c2 => ?_)
  · have hk := hk.1 c2
    refine lv_iconst (v := 0) hx hb dX3_hasSound_15 (by decide) ?_
    exact x_retz rfl C0 () hk hP hD hS dX3_hasSound_16
  · have hk := hk.2 c2
    refine lv_iconst (v := 1) hx hb dX3_hasSound_11 (by decide) ?_
    refine lv_goto (tgt := 16) hx hb dX3_hasSound_12 (by decide) ?_
    exact x_retz rfl C0 () hk hP hD hS dX3_hasSound_16
theorem xc_X3_hasSound (l : Launch) (D : va_G) (cI cC cZ cL : ClassId) (h h_cells : Nat)  (sz : Nat) (f_cells : Nat → Int32) (x1 : Int32) (K : Int32 → Prop) (hk : xp_X3_hasSound f_cells x1 K) : XMi l yX3_hasSound wsX3_hasSound ({ frames := 1, cells := 0, slots := 0, locals := 23 } : Room) D (xTY cI cC cZ cL) [.ref h, .int x1] [(h, .inr (3, [.ref h_cells])), (h_cells, .inl (cI, 400, .inl f_cells))] sz (fun (r : Int32) (_ : Unit) => K r) (fun (_ : Unit) => [(h, .inr (3, [.ref h_cells])), (h_cells, .inl (cI, 400, .inl f_cells))]) :=
  x_enter (cc := cX3_hasSound) (maxL := 2) (ret := (some .boolean)) (own := RX3) (by decide) rfl rfl (Nat.le_of_ble_eq_true rfl) (fun p e s m below meth c ls C0 hA hP hD hS hl => xb_X3_hasSound_0 C0 hA _ hk s.heap [] ls hP hD hS hl)
set_option maxRecDepth 20000 in
theorem xin_X3_reset_X3 : ∀ w ∈ u_ws RX3 TX3 1, w ∈ wsX3_reset := by decide +kernel
set_option maxHeartbeats 4000000 in
set_option maxRecDepth 100000 in
theorem xb_X3_reset_0 {p : Program} {l : Launch} {e : Env} {s : State} {m : MethodId} {args : Array Value} {below : List Frame} {meth : Method} {c : Code} {A : Nat → Prop} {D : va_G} {cI cC cZ cL : ClassId} {h h_cells : Nat}   {K : ((Nat → Int32)) → Prop}  (C0 : xC p s m args meth c cX3_reset 1 none wsX3_reset RX3 D (xTY cI cC cZ cL)) (hA : ∀ q : Nat, s.heap.size ≤ q → A q)  : ∀ (f_cells : Nat → Int32) , xp_X3_reset f_cells K → ∀ (H : Heap) (locs : List Loc) (ls : Array Slot), va_P D vwCl [(h, .inr (3, [.ref h_cells])), (h_cells, .inl (cI, 400, .inl f_cells))] H → va_D A [(h, .inr (3, [.ref h_cells])), (h_cells, .inl (cI, 400, .inl f_cells))] → va_S A s.heap H locs → lv_has ls 1 [(0, .ref h)] → W p l e ({ frames := 1, cells := 0, slots := 0, locals := 23 } : Room) s m args below meth c H locs 0 0 (MQ below (va_Qv (fun (u : (Nat → Int32)) => K u) (fun u t => xE D A ((fun (u : (Nat → Int32)) => [(h, .inr (3, [.ref h_cells])), (h_cells, .inl (cI, 400, .inl u))]) u) t) A) args s 0 0 A) (F0 m 0 ls []) := by
  obtain ⟨hx, hb, hr, hml, hown, hts, hlocks, hK, hN⟩ := id C0
  intro f_cells hk H locs ls hP hD hS hl
  rw [xp_X3_reset] at hk
  refine lv_aload_n hx hb dX3_reset_0 rfl (lv_at hl 0 rfl) ?_
  refine va_get (D := D) (ci := 3) (v := .ref h_cells) (C := RX3) (T := TX3) (N := 1) hx hb hts xin_X3_reset_X3 hown hK hP 0 rfl rfl 0 (by decide) (hts (.fieldLink RX3 9 "TakeLog$State" "cells" "[I") (by decide +kernel)) (fun _ h9 => h9) rfl dX3_reset_1 ?_
  refine lv_iconst (v := 0) hx hb dX3_reset_4 (by decide) ?_
  refine x_joinv (ws1 := fun (u1 : (Nat → Int32)) => [(h, .inr (3, [.ref h_cells])), (h_cells, .inl (cI, 400, .inl u1))]) (x_runO (n0 := 2) (As := [.ref h_cells, .int 0]) (rest := []) C0 (xc_J7_fill_53178 l D cI cC cZ cL h_cells 400 H.size f_cells 0 _ hk) gX3_reset_J7_fill_53178 rfl ⟨rfl, rfl⟩ (by decide +kernel) rfl ⟨by decide, by decide⟩ ⟨Nat.zero_le _, Nat.zero_le _⟩ hP hD [1] rfl rfl hl.1 rfl (Nat.le_of_ble_eq_true rfl) dX3_reset_5) hP hD hS hA [1] [0] [0, 1] rfl rfl rfl (by decide) (fun _ => rfl) rfl (fun u1 H locs hk hP hD hS => ?_)
  refine lv_aload_n hx hb dX3_reset_8 rfl (lv_at hl 0 rfl) ?_
  refine va_get (D := D) (ci := 3) (v := .ref h_cells) (C := RX3) (T := TX3) (N := 1) hx hb hts xin_X3_reset_X3 hown hK hP 0 rfl rfl 0 (by decide) (hts (.fieldLink RX3 9 "TakeLog$State" "cells" "[I") (by decide +kernel)) (fun _ h9 => h9) rfl dX3_reset_9 ?_
  refine lv_iconst (v := 1) hx hb dX3_reset_12 (by decide) ?_
  refine lv_iconst (v := 1) hx hb dX3_reset_13 (by decide) ?_
  refine x_iast (k := 1) hx hb hK hP hD hS 1 0 rfl rfl (x_lit rfl (by decide) (by decide)) rfl dX3_reset_14 (fun H locs hP hD hS => ?_)
  have hP : va_P D vwCl [(h, .inr (3, [.ref h_cells])), (h_cells, .inl (cI, 400, .inl (upd u1 1 1)))] H := hP
  have hD : va_D A [(h, .inr (3, [.ref h_cells])), (h_cells, .inl (cI, 400, .inl (upd u1 1 1)))] := hD
  refine lv_aload_n hx hb dX3_reset_15 rfl (lv_at hl 0 rfl) ?_
  refine va_get (D := D) (ci := 3) (v := .ref h_cells) (C := RX3) (T := TX3) (N := 1) hx hb hts xin_X3_reset_X3 hown hK hP 0 rfl rfl 0 (by decide) (hts (.fieldLink RX3 9 "TakeLog$State" "cells" "[I") (by decide +kernel)) (fun _ h9 => h9) rfl dX3_reset_16 ?_
  refine lv_iconst (v := 3) hx hb dX3_reset_19 (by decide) ?_
  refine lv_iconst (v := 1) hx hb dX3_reset_20 (by decide) ?_
  refine x_iast (k := 3) hx hb hK hP hD hS 1 0 rfl rfl (x_lit rfl (by decide) (by decide)) rfl dX3_reset_21 (fun H locs hP hD hS => ?_)
  have hP : va_P D vwCl [(h, .inr (3, [.ref h_cells])), (h_cells, .inl (cI, 400, .inl (upd (upd u1 1 1) 3 1)))] H := hP
  have hD : va_D A [(h, .inr (3, [.ref h_cells])), (h_cells, .inl (cI, 400, .inl (upd (upd u1 1 1) 3 1)))] := hD
  refine lv_aload_n hx hb dX3_reset_22 rfl (lv_at hl 0 rfl) ?_
  refine va_get (D := D) (ci := 3) (v := .ref h_cells) (C := RX3) (T := TX3) (N := 1) hx hb hts xin_X3_reset_X3 hown hK hP 0 rfl rfl 0 (by decide) (hts (.fieldLink RX3 9 "TakeLog$State" "cells" "[I") (by decide +kernel)) (fun _ h9 => h9) rfl dX3_reset_23 ?_
  refine lv_iconst (v := 5) hx hb dX3_reset_26 (by decide) ?_
  refine lv_iconst (v := 1) hx hb dX3_reset_27 (by decide) ?_
  refine x_iast (k := 5) hx hb hK hP hD hS 1 0 rfl rfl (x_lit rfl (by decide) (by decide)) rfl dX3_reset_28 (fun H locs hP hD hS => ?_)
  have hP : va_P D vwCl [(h, .inr (3, [.ref h_cells])), (h_cells, .inl (cI, 400, .inl (upd (upd (upd u1 1 1) 3 1) 5 1)))] H := hP
  have hD : va_D A [(h, .inr (3, [.ref h_cells])), (h_cells, .inl (cI, 400, .inl (upd (upd (upd u1 1 1) 3 1) 5 1)))] := hD
  refine lv_aload_n hx hb dX3_reset_29 rfl (lv_at hl 0 rfl) ?_
  refine va_get (D := D) (ci := 3) (v := .ref h_cells) (C := RX3) (T := TX3) (N := 1) hx hb hts xin_X3_reset_X3 hown hK hP 0 rfl rfl 0 (by decide) (hts (.fieldLink RX3 9 "TakeLog$State" "cells" "[I") (by decide +kernel)) (fun _ h9 => h9) rfl dX3_reset_30 ?_
  refine lv_bipush (v := 6) hx hb dX3_reset_33 (by decide) ?_
  refine lv_iconst (v := 1) hx hb dX3_reset_35 (by decide) ?_
  refine x_iast (k := 6) hx hb hK hP hD hS 1 0 rfl rfl (x_lit rfl (by decide) (by decide)) rfl dX3_reset_36 (fun H locs hP hD hS => ?_)
  have hP : va_P D vwCl [(h, .inr (3, [.ref h_cells])), (h_cells, .inl (cI, 400, .inl (upd (upd (upd (upd u1 1 1) 3 1) 5 1) 6 1)))] H := hP
  have hD : va_D A [(h, .inr (3, [.ref h_cells])), (h_cells, .inl (cI, 400, .inl (upd (upd (upd (upd u1 1 1) 3 1) 5 1) 6 1)))] := hD
  refine lv_aload_n hx hb dX3_reset_37 rfl (lv_at hl 0 rfl) ?_
  refine va_get (D := D) (ci := 3) (v := .ref h_cells) (C := RX3) (T := TX3) (N := 1) hx hb hts xin_X3_reset_X3 hown hK hP 0 rfl rfl 0 (by decide) (hts (.fieldLink RX3 9 "TakeLog$State" "cells" "[I") (by decide +kernel)) (fun _ h9 => h9) rfl dX3_reset_38 ?_
  refine lv_bipush (v := 8) hx hb dX3_reset_41 (by decide) ?_
  refine lv_iconst (v := 1) hx hb dX3_reset_43 (by decide) ?_
  refine x_iast (k := 8) hx hb hK hP hD hS 1 0 rfl rfl (x_lit rfl (by decide) (by decide)) rfl dX3_reset_44 (fun H locs hP hD hS => ?_)
  have hP : va_P D vwCl [(h, .inr (3, [.ref h_cells])), (h_cells, .inl (cI, 400, .inl (upd (upd (upd (upd (upd u1 1 1) 3 1) 5 1) 6 1) 8 1)))] H := hP
  have hD : va_D A [(h, .inr (3, [.ref h_cells])), (h_cells, .inl (cI, 400, .inl (upd (upd (upd (upd (upd u1 1 1) 3 1) 5 1) 6 1) 8 1)))] := hD
  refine lv_aload_n hx hb dX3_reset_45 rfl (lv_at hl 0 rfl) ?_
  refine va_get (D := D) (ci := 3) (v := .ref h_cells) (C := RX3) (T := TX3) (N := 1) hx hb hts xin_X3_reset_X3 hown hK hP 0 rfl rfl 0 (by decide) (hts (.fieldLink RX3 9 "TakeLog$State" "cells" "[I") (by decide +kernel)) (fun _ h9 => h9) rfl dX3_reset_46 ?_
  refine lv_bipush (v := 12) hx hb dX3_reset_49 (by decide) ?_
  refine lv_sipush (v := 300) hx hb dX3_reset_51 (by decide) ?_
  refine x_iast (k := 12) hx hb hK hP hD hS 1 0 rfl rfl (x_lit rfl (by decide) (by decide)) rfl dX3_reset_54 (fun H locs hP hD hS => ?_)
  have hP : va_P D vwCl [(h, .inr (3, [.ref h_cells])), (h_cells, .inl (cI, 400, .inl (upd (upd (upd (upd (upd (upd u1 1 1) 3 1) 5 1) 6 1) 8 1) 12 300)))] H := hP
  have hD : va_D A [(h, .inr (3, [.ref h_cells])), (h_cells, .inl (cI, 400, .inl (upd (upd (upd (upd (upd (upd u1 1 1) 3 1) 5 1) 6 1) 8 1) 12 300)))] := hD
  refine lv_aload_n hx hb dX3_reset_55 rfl (lv_at hl 0 rfl) ?_
  refine va_get (D := D) (ci := 3) (v := .ref h_cells) (C := RX3) (T := TX3) (N := 1) hx hb hts xin_X3_reset_X3 hown hK hP 0 rfl rfl 0 (by decide) (hts (.fieldLink RX3 9 "TakeLog$State" "cells" "[I") (by decide +kernel)) (fun _ h9 => h9) rfl dX3_reset_56 ?_
  refine lv_bipush (v := 13) hx hb dX3_reset_59 (by decide) ?_
  refine lv_sipush (v := 900) hx hb dX3_reset_61 (by decide) ?_
  refine x_iast (k := 13) hx hb hK hP hD hS 1 0 rfl rfl (x_lit rfl (by decide) (by decide)) rfl dX3_reset_64 (fun H locs hP hD hS => ?_)
  have hP : va_P D vwCl [(h, .inr (3, [.ref h_cells])), (h_cells, .inl (cI, 400, .inl (upd (upd (upd (upd (upd (upd (upd u1 1 1) 3 1) 5 1) 6 1) 8 1) 12 300) 13 900)))] H := hP
  have hD : va_D A [(h, .inr (3, [.ref h_cells])), (h_cells, .inl (cI, 400, .inl (upd (upd (upd (upd (upd (upd (upd u1 1 1) 3 1) 5 1) 6 1) 8 1) 12 300) 13 900)))] := hD
  refine lv_aload_n hx hb dX3_reset_65 rfl (lv_at hl 0 rfl) ?_
  refine va_get (D := D) (ci := 3) (v := .ref h_cells) (C := RX3) (T := TX3) (N := 1) hx hb hts xin_X3_reset_X3 hown hK hP 0 rfl rfl 0 (by decide) (hts (.fieldLink RX3 9 "TakeLog$State" "cells" "[I") (by decide +kernel)) (fun _ h9 => h9) rfl dX3_reset_66 ?_
  refine lv_bipush (v := 14) hx hb dX3_reset_69 (by decide) ?_
  refine lv_bipush (v := 10) hx hb dX3_reset_71 (by decide) ?_
  refine x_iast (k := 14) hx hb hK hP hD hS 1 0 rfl rfl (x_lit rfl (by decide) (by decide)) rfl dX3_reset_73 (fun H locs hP hD hS => ?_)
  have hP : va_P D vwCl [(h, .inr (3, [.ref h_cells])), (h_cells, .inl (cI, 400, .inl (upd (upd (upd (upd (upd (upd (upd (upd u1 1 1) 3 1) 5 1) 6 1) 8 1) 12 300) 13 900) 14 10)))] H := hP
  have hD : va_D A [(h, .inr (3, [.ref h_cells])), (h_cells, .inl (cI, 400, .inl (upd (upd (upd (upd (upd (upd (upd (upd u1 1 1) 3 1) 5 1) 6 1) 8 1) 12 300) 13 900) 14 10)))] := hD
  refine lv_aload_n hx hb dX3_reset_74 rfl (lv_at hl 0 rfl) ?_
  refine va_get (D := D) (ci := 3) (v := .ref h_cells) (C := RX3) (T := TX3) (N := 1) hx hb hts xin_X3_reset_X3 hown hK hP 0 rfl rfl 0 (by decide) (hts (.fieldLink RX3 9 "TakeLog$State" "cells" "[I") (by decide +kernel)) (fun _ h9 => h9) rfl dX3_reset_75 ?_
  refine lv_bipush (v := 15) hx hb dX3_reset_78 (by decide) ?_
  refine lv_iconst (v := 1) hx hb dX3_reset_80 (by decide) ?_
  refine x_iast (k := 15) hx hb hK hP hD hS 1 0 rfl rfl (x_lit rfl (by decide) (by decide)) rfl dX3_reset_81 (fun H locs hP hD hS => ?_)
  have hP : va_P D vwCl [(h, .inr (3, [.ref h_cells])), (h_cells, .inl (cI, 400, .inl (upd (upd (upd (upd (upd (upd (upd (upd (upd u1 1 1) 3 1) 5 1) 6 1) 8 1) 12 300) 13 900) 14 10) 15 1)))] H := hP
  have hD : va_D A [(h, .inr (3, [.ref h_cells])), (h_cells, .inl (cI, 400, .inl (upd (upd (upd (upd (upd (upd (upd (upd (upd u1 1 1) 3 1) 5 1) 6 1) 8 1) 12 300) 13 900) 14 10) 15 1)))] := hD
  exact x_retv C0 (upd (upd (upd (upd (upd (upd (upd (upd (upd u1 1 1) 3 1) 5 1) 6 1) 8 1) 12 300) 13 900) 14 10) 15 1) hk hP hD hS dX3_reset_82
theorem xc_X3_reset (l : Launch) (D : va_G) (cI cC cZ cL : ClassId) (h h_cells : Nat)  (sz : Nat) (f_cells : Nat → Int32)  (K : ((Nat → Int32)) → Prop) (hk : xp_X3_reset f_cells K) : XMv l yX3_reset wsX3_reset ({ frames := 1, cells := 0, slots := 0, locals := 23 } : Room) D (xTY cI cC cZ cL) [.ref h] [(h, .inr (3, [.ref h_cells])), (h_cells, .inl (cI, 400, .inl f_cells))] sz (fun (u : (Nat → Int32)) => K u) (fun (u : (Nat → Int32)) => [(h, .inr (3, [.ref h_cells])), (h_cells, .inl (cI, 400, .inl u))]) :=
  x_enter (cc := cX3_reset) (maxL := 1) (ret := none) (own := RX3) (by decide) rfl rfl (Nat.le_of_ble_eq_true rfl) (fun p e s m below meth c ls C0 hA hP hD hS hl => xb_X3_reset_0 C0 hA _ hk s.heap [] ls hP hD hS hl)
set_option maxRecDepth 20000 in
theorem xin_X3_copyFrom_X3 : ∀ w ∈ u_ws RX3 TX3 1, w ∈ wsX3_copyFrom := by decide +kernel
set_option maxHeartbeats 4000000 in
set_option maxRecDepth 100000 in
theorem xb_X3_copyFrom_0 {p : Program} {l : Launch} {e : Env} {s : State} {m : MethodId} {args : Array Value} {below : List Frame} {meth : Method} {c : Code} {A : Nat → Prop} {D : va_G} {cI cC cZ cL : ClassId} {h h_cells g1 g1_cells : Nat}  {f_p1_cells : Nat → Int32} {K : ((Nat → Int32)) → Prop}  (C0 : xC p s m args meth c cX3_copyFrom 2 none wsX3_copyFrom RX3 D (xTY cI cC cZ cL)) (hA : ∀ q : Nat, s.heap.size ≤ q → A q)  : ∀ (f_cells : Nat → Int32) , xp_X3_copyFrom f_p1_cells f_cells K → ∀ (H : Heap) (locs : List Loc) (ls : Array Slot), va_P D vwCl [(h, .inr (3, [.ref h_cells])), (h_cells, .inl (cI, 400, .inl f_cells)), (g1, .inr (3, [.ref g1_cells])), (g1_cells, .inl (cI, 400, .inl f_p1_cells))] H → va_D A [(h, .inr (3, [.ref h_cells])), (h_cells, .inl (cI, 400, .inl f_cells)), (g1, .inr (3, [.ref g1_cells])), (g1_cells, .inl (cI, 400, .inl f_p1_cells))] → va_S A s.heap H locs → lv_has ls 2 [(0, .ref h), (1, .ref g1)] → W p l e ({ frames := 1, cells := 0, slots := 0, locals := 37 } : Room) s m args below meth c H locs 0 0 (MQ below (va_Qv (fun (u : (Nat → Int32)) => K u) (fun u t => xE D A ((fun (u : (Nat → Int32)) => [(h, .inr (3, [.ref h_cells])), (h_cells, .inl (cI, 400, .inl u)), (g1, .inr (3, [.ref g1_cells])), (g1_cells, .inl (cI, 400, .inl f_p1_cells))]) u) t) A) args s 0 0 A) (F0 m 0 ls []) := by
  obtain ⟨hx, hb, hr, hml, hown, hts, hlocks, hK, hN⟩ := id C0
  intro f_cells hk H locs ls hP hD hS hl
  rw [xp_X3_copyFrom] at hk
  refine lv_aload_n hx hb dX3_copyFrom_0 rfl (lv_at hl 1 rfl) ?_
  refine va_get (D := D) (ci := 3) (v := .ref g1_cells) (C := RX3) (T := TX3) (N := 1) hx hb hts xin_X3_copyFrom_X3 hown hK hP 2 rfl rfl 0 (by decide) (hts (.fieldLink RX3 9 "TakeLog$State" "cells" "[I") (by decide +kernel)) (fun _ h9 => h9) rfl dX3_copyFrom_1 ?_
  refine lv_iconst (v := 0) hx hb dX3_copyFrom_4 (by decide) ?_
  refine lv_aload_n hx hb dX3_copyFrom_5 rfl (lv_at hl 0 rfl) ?_
  refine va_get (D := D) (ci := 3) (v := .ref h_cells) (C := RX3) (T := TX3) (N := 1) hx hb hts xin_X3_copyFrom_X3 hown hK hP 0 rfl rfl 0 (by decide) (hts (.fieldLink RX3 9 "TakeLog$State" "cells" "[I") (by decide +kernel)) (fun _ h9 => h9) rfl dX3_copyFrom_6 ?_
  refine lv_iconst (v := 0) hx hb dX3_copyFrom_9 (by decide) ?_
  refine lv_sipush (v := 400) hx hb dX3_copyFrom_10 (by decide) ?_
  refine x_copyi (s1 := 0) (d1 := 0) (n1 := 400) hx hb (hml.trans hl.1.symm) hown (hts (.methodLink RX3 24 arraycopyName) (by decide +kernel)) (hts (.native arraycopyName) (by decide +kernel)) (hts (.static arraycopyName) (by decide +kernel)) (hts (.initialized "java/lang/System") (by decide +kernel)) hK hP hD hS 3 1 0 rfl rfl rfl (by decide) (by decide) (by decide) rfl rfl rfl hk.1.1 hk.1.2 (by decide) (Nat.le_of_ble_eq_true rfl) dX3_copyFrom_13 (fun H locs hP hD hS => ?_)
  have hk := hk.2
  have hP : va_P D vwCl [(h, .inr (3, [.ref h_cells])), (h_cells, .inl (cI, 400, .inl (va_cpy f_p1_cells f_cells 0 0 400))), (g1, .inr (3, [.ref g1_cells])), (g1_cells, .inl (cI, 400, .inl f_p1_cells))] H := hP
  have hD : va_D A [(h, .inr (3, [.ref h_cells])), (h_cells, .inl (cI, 400, .inl (va_cpy f_p1_cells f_cells 0 0 400))), (g1, .inr (3, [.ref g1_cells])), (g1_cells, .inl (cI, 400, .inl f_p1_cells))] := hD
  exact x_retv C0 (va_cpy f_p1_cells f_cells 0 0 400) hk hP hD hS dX3_copyFrom_16
theorem xc_X3_copyFrom (l : Launch) (D : va_G) (cI cC cZ cL : ClassId) (h h_cells g1 g1_cells : Nat)  (sz : Nat) (f_cells : Nat → Int32) (f_p1_cells : Nat → Int32)  (K : ((Nat → Int32)) → Prop) (hk : xp_X3_copyFrom f_p1_cells f_cells K) : XMv l yX3_copyFrom wsX3_copyFrom ({ frames := 1, cells := 0, slots := 0, locals := 37 } : Room) D (xTY cI cC cZ cL) [.ref h, .ref g1] [(h, .inr (3, [.ref h_cells])), (h_cells, .inl (cI, 400, .inl f_cells)), (g1, .inr (3, [.ref g1_cells])), (g1_cells, .inl (cI, 400, .inl f_p1_cells))] sz (fun (u : (Nat → Int32)) => K u) (fun (u : (Nat → Int32)) => [(h, .inr (3, [.ref h_cells])), (h_cells, .inl (cI, 400, .inl u)), (g1, .inr (3, [.ref g1_cells])), (g1_cells, .inl (cI, 400, .inl f_p1_cells))]) :=
  x_enter (cc := cX3_copyFrom) (maxL := 2) (ret := none) (own := RX3) (by decide) rfl rfl (Nat.le_of_ble_eq_true rfl) (fun p e s m below meth c ls C0 hA hP hD hS hl => xb_X3_copyFrom_0 C0 hA _ hk s.heap [] ls hP hD hS hl)
set_option maxRecDepth 20000 in
theorem xin_X3_takes_X3 : ∀ w ∈ u_ws RX3 TX3 1, w ∈ wsX3_takes := by decide +kernel
set_option maxHeartbeats 4000000 in
set_option maxRecDepth 100000 in
theorem xb_X3_takes_0 {p : Program} {l : Launch} {e : Env} {s : State} {m : MethodId} {args : Array Value} {below : List Frame} {meth : Method} {c : Code} {A : Nat → Prop} {D : va_G} {cI cC cZ cL : ClassId} {h h_cells : Nat}  {f_cells : Nat → Int32} {K : Int32 → Prop}  (C0 : xC p s m args meth c cX3_takes 1 (some .int) wsX3_takes RX3 D (xTY cI cC cZ cL)) (hA : ∀ q : Nat, s.heap.size ≤ q → A q)  : xp_X3_takes f_cells K → ∀ (H : Heap) (locs : List Loc) (ls : Array Slot), va_P D vwCl [(h, .inr (3, [.ref h_cells])), (h_cells, .inl (cI, 400, .inl f_cells))] H → va_D A [(h, .inr (3, [.ref h_cells])), (h_cells, .inl (cI, 400, .inl f_cells))] → va_S A s.heap H locs → lv_has ls 1 [(0, .ref h)] → W p l e ({ frames := 0, cells := 0, slots := 0, locals := 0 } : Room) s m args below meth c H locs 0 0 (MQ below (va_Qi (fun (r : Int32) (_ : Unit) => K r) (fun u t => xE D A ((fun (_ : Unit) => [(h, .inr (3, [.ref h_cells])), (h_cells, .inl (cI, 400, .inl f_cells))]) u) t) A) args s 0 0 A) (F0 m 0 ls []) := by
  obtain ⟨hx, hb, hr, hml, hown, hts, hlocks, hK, hN⟩ := id C0
  intro  hk H locs ls hP hD hS hl
  rw [xp_X3_takes] at hk
  refine lv_aload_n hx hb dX3_takes_0 rfl (lv_at hl 0 rfl) ?_
  refine va_get (D := D) (ci := 3) (v := .ref h_cells) (C := RX3) (T := TX3) (N := 1) hx hb hts xin_X3_takes_X3 hown hK hP 0 rfl rfl 0 (by decide) (hts (.fieldLink RX3 9 "TakeLog$State" "cells" "[I") (by decide +kernel)) (fun _ h9 => h9) rfl dX3_takes_1 ?_
  refine lv_iconst (v := 0) hx hb dX3_takes_4 (by decide) ?_
  refine x_iald (k := 0) hx hb hK hP 1 0 rfl rfl (x_lit rfl (by decide) (by decide)) rfl (v := (f_cells 0)) rfl dX3_takes_5 ?_
  exact x_reti C0 () hk hP hD hS dX3_takes_6
theorem xc_X3_takes (l : Launch) (D : va_G) (cI cC cZ cL : ClassId) (h h_cells : Nat)  (sz : Nat) (f_cells : Nat → Int32)  (K : Int32 → Prop) (hk : xp_X3_takes f_cells K) : XMi l yX3_takes wsX3_takes ({ frames := 0, cells := 0, slots := 0, locals := 0 } : Room) D (xTY cI cC cZ cL) [.ref h] [(h, .inr (3, [.ref h_cells])), (h_cells, .inl (cI, 400, .inl f_cells))] sz (fun (r : Int32) (_ : Unit) => K r) (fun (_ : Unit) => [(h, .inr (3, [.ref h_cells])), (h_cells, .inl (cI, 400, .inl f_cells))]) :=
  x_enter (cc := cX3_takes) (maxL := 1) (ret := (some .int)) (own := RX3) (by decide) rfl rfl (Nat.le_of_ble_eq_true rfl) (fun p e s m below meth c ls C0 hA hP hD hS hl => xb_X3_takes_0 C0 hA  hk s.heap [] ls hP hD hS hl)
set_option maxRecDepth 20000 in
theorem xin_X3_hasTake_X3 : ∀ w ∈ u_ws RX3 TX3 1, w ∈ wsX3_hasTake := by decide +kernel
set_option maxHeartbeats 4000000 in
set_option maxRecDepth 100000 in
theorem xb_X3_hasTake_0 {p : Program} {l : Launch} {e : Env} {s : State} {m : MethodId} {args : Array Value} {below : List Frame} {meth : Method} {c : Code} {A : Nat → Prop} {D : va_G} {cI cC cZ cL : ClassId} {h h_cells : Nat}  {f_cells : Nat → Int32} {K : Int32 → Prop}  (C0 : xC p s m args meth c cX3_hasTake 2 (some .boolean) wsX3_hasTake RX3 D (xTY cI cC cZ cL)) (hA : ∀ q : Nat, s.heap.size ≤ q → A q)  : ∀ (x1 : Int32) , xp_X3_hasTake f_cells x1 K → ∀ (H : Heap) (locs : List Loc) (ls : Array Slot), va_P D vwCl [(h, .inr (3, [.ref h_cells])), (h_cells, .inl (cI, 400, .inl f_cells))] H → va_D A [(h, .inr (3, [.ref h_cells])), (h_cells, .inl (cI, 400, .inl f_cells))] → va_S A s.heap H locs → lv_has ls 2 [(0, .ref h), (1, .int x1)] → W p l e ({ frames := 0, cells := 0, slots := 0, locals := 0 } : Room) s m args below meth c H locs 0 0 (MQ below (va_Qi (fun (r : Int32) (_ : Unit) => K r) (fun u t => xE D A ((fun (_ : Unit) => [(h, .inr (3, [.ref h_cells])), (h_cells, .inl (cI, 400, .inl f_cells))]) u) t) A) args s 0 0 A) (F0 m 0 ls []) := by
  obtain ⟨hx, hb, hr, hml, hown, hts, hlocks, hK, hN⟩ := id C0
  intro x1 hk H locs ls hP hD hS hl
  rw [xp_X3_hasTake] at hk
  refine lv_iload_n hx hb dX3_hasTake_0 rfl (lv_at hl 1 rfl) ?_
  refine lv_if_lt (tgt := 18) hx hb dX3_hasTake_1 (by decide) (fun c1 => ?_) (fun c1 => ?_)
  · have hk := hk.1 c1
    refine lv_iconst (v := 0) hx hb dX3_hasTake_18 (by decide) ?_
    exact x_retz rfl C0 () hk hP hD hS dX3_hasTake_19
  · have hk := hk.2 c1
    refine lv_iload_n hx hb dX3_hasTake_4 rfl (lv_at hl 1 rfl) ?_
    refine lv_aload_n hx hb dX3_hasTake_5 rfl (lv_at hl 0 rfl) ?_
    refine va_get (D := D) (ci := 3) (v := .ref h_cells) (C := RX3) (T := TX3) (N := 1) hx hb hts xin_X3_hasTake_X3 hown hK hP 0 rfl rfl 0 (by decide) (hts (.fieldLink RX3 9 "TakeLog$State" "cells" "[I") (by decide +kernel)) (fun _ h9 => h9) rfl dX3_hasTake_6 ?_
    refine lv_iconst (v := 0) hx hb dX3_hasTake_9 (by decide) ?_
    refine x_iald (k := 0) hx hb hK hP 1 0 rfl rfl (x_lit rfl (by decide) (by decide)) rfl (v := (f_cells 0)) rfl dX3_hasTake_10 ?_
    refine lv_icmp_ge (tgt := 18) hx hb dX3_hasTake_11 (by decide) (fun c2 => ?_) (fun c2 => ?_)
    · have hk := hk.1 c2
      refine lv_iconst (v := 0) hx hb dX3_hasTake_18 (by decide) ?_
      exact x_retz rfl C0 () hk hP hD hS dX3_hasTake_19
    · have hk := hk.2 c2
      refine lv_iconst (v := 1) hx hb dX3_hasTake_14 (by decide) ?_
      refine lv_goto (tgt := 19) hx hb dX3_hasTake_15 (by decide) ?_
      exact x_retz rfl C0 () hk hP hD hS dX3_hasTake_19
theorem xc_X3_hasTake (l : Launch) (D : va_G) (cI cC cZ cL : ClassId) (h h_cells : Nat)  (sz : Nat) (f_cells : Nat → Int32) (x1 : Int32) (K : Int32 → Prop) (hk : xp_X3_hasTake f_cells x1 K) : XMi l yX3_hasTake wsX3_hasTake ({ frames := 0, cells := 0, slots := 0, locals := 0 } : Room) D (xTY cI cC cZ cL) [.ref h, .int x1] [(h, .inr (3, [.ref h_cells])), (h_cells, .inl (cI, 400, .inl f_cells))] sz (fun (r : Int32) (_ : Unit) => K r) (fun (_ : Unit) => [(h, .inr (3, [.ref h_cells])), (h_cells, .inl (cI, 400, .inl f_cells))]) :=
  x_enter (cc := cX3_hasTake) (maxL := 2) (ret := (some .boolean)) (own := RX3) (by decide) rfl rfl (Nat.le_of_ble_eq_true rfl) (fun p e s m below meth c ls C0 hA hP hD hS hl => xb_X3_hasTake_0 C0 hA _ hk s.heap [] ls hP hD hS hl)
set_option maxRecDepth 20000 in
theorem xin_X3_put_X3 : ∀ w ∈ u_ws RX3 TX3 1, w ∈ wsX3_put := by decide +kernel
set_option maxHeartbeats 4000000 in
set_option maxRecDepth 100000 in
theorem xb_X3_put_0 {p : Program} {l : Launch} {e : Env} {s : State} {m : MethodId} {args : Array Value} {below : List Frame} {meth : Method} {c : Code} {A : Nat → Prop} {D : va_G} {cI cC cZ cL : ClassId} {h h_cells : Nat}   {K : ((Nat → Int32)) → Prop}  (C0 : xC p s m args meth c cX3_put 5 none wsX3_put RX3 D (xTY cI cC cZ cL)) (hA : ∀ q : Nat, s.heap.size ≤ q → A q)  : ∀ (f_cells : Nat → Int32) (x1 : Int32) (x2 : Int32) (x3 : Int32) , xp_X3_put f_cells x1 x2 x3 K → ∀ (H : Heap) (locs : List Loc) (ls : Array Slot), va_P D vwCl [(h, .inr (3, [.ref h_cells])), (h_cells, .inl (cI, 400, .inl f_cells))] H → va_D A [(h, .inr (3, [.ref h_cells])), (h_cells, .inl (cI, 400, .inl f_cells))] → va_S A s.heap H locs → lv_has ls 5 [(0, .ref h), (1, .int x1), (2, .int x2), (3, .int x3)] → W p l e ({ frames := 0, cells := 0, slots := 0, locals := 0 } : Room) s m args below meth c H locs 0 0 (MQ below (va_Qv (fun (u : (Nat → Int32)) => K u) (fun u t => xE D A ((fun (u : (Nat → Int32)) => [(h, .inr (3, [.ref h_cells])), (h_cells, .inl (cI, 400, .inl u))]) u) t) A) args s 0 0 A) (F0 m 0 ls []) := by
  obtain ⟨hx, hb, hr, hml, hown, hts, hlocks, hK, hN⟩ := id C0
  intro f_cells x1 x2 x3 hk H locs ls hP hD hS hl
  rw [xp_X3_put] at hk
  refine lv_bipush (v := 16) hx hb dX3_put_0 (by decide) ?_
  refine lv_iload_n hx hb dX3_put_2 rfl (lv_at hl 1 rfl) ?_
  refine lv_bipush (v := 16) hx hb dX3_put_3 (by decide) ?_
  refine lv_imul hx hb dX3_put_5 ?_
  refine lv_iadd hx hb dX3_put_6 ?_
  refine lv_iload_n hx hb dX3_put_7 rfl (lv_at hl 2 rfl) ?_
  refine lv_iadd hx hb dX3_put_8 ?_
  refine lv_istore (lv' := [(4, .int ((16 + (x1 * 16)) + x2)), (0, .ref h), (1, .int x1), (2, .int x2), (3, .int x3)]) hx hb dX3_put_9 hl (by decide) rfl (fun ls hl => ?_)
  refine lv_iload hx hb dX3_put_11 (lv_at hl 0 rfl) ?_
  refine lv_bipush (v := 16) hx hb dX3_put_13 (by decide) ?_
  refine lv_icmp_lt (tgt := 34) hx hb dX3_put_15 (by decide) (fun c1 => ?_) (fun c1 => ?_)
  · have hk := hk.1 c1
    exact x_retv C0 (f_cells) hk hP hD hS dX3_put_34
  · have hk := hk.2 c1
    refine lv_iload hx hb dX3_put_18 (lv_at hl 0 rfl) ?_
    refine lv_sipush (v := 400) hx hb dX3_put_20 (by decide) ?_
    refine lv_icmp_ge (tgt := 34) hx hb dX3_put_23 (by decide) (fun c2 => ?_) (fun c2 => ?_)
    · have hk := hk.1 c2
      exact x_retv C0 (f_cells) hk hP hD hS dX3_put_34
    · have hk := hk.2 c2
      refine lv_aload_n hx hb dX3_put_26 rfl (lv_at hl 1 rfl) ?_
      refine va_get (D := D) (ci := 3) (v := .ref h_cells) (C := RX3) (T := TX3) (N := 1) hx hb hts xin_X3_put_X3 hown hK hP 0 rfl rfl 0 (by decide) (hts (.fieldLink RX3 9 "TakeLog$State" "cells" "[I") (by decide +kernel)) (fun _ h9 => h9) rfl dX3_put_27 ?_
      refine lv_iload hx hb dX3_put_30 (lv_at hl 0 rfl) ?_
      refine lv_iload_n hx hb dX3_put_32 rfl (lv_at hl 4 rfl) ?_
      refine x_iast hx hb hK hP hD hS 1 0 rfl rfl hk.1 rfl dX3_put_33 (fun H locs hP hD hS => ?_)
      have hk := hk.2
      have hP : va_P D vwCl [(h, .inr (3, [.ref h_cells])), (h_cells, .inl (cI, 400, .inl (upd f_cells (((16 + (x1 * 16)) + x2).toNatClampNeg) x3)))] H := hP
      have hD : va_D A [(h, .inr (3, [.ref h_cells])), (h_cells, .inl (cI, 400, .inl (upd f_cells (((16 + (x1 * 16)) + x2).toNatClampNeg) x3)))] := hD
      exact x_retv C0 (upd f_cells (((16 + (x1 * 16)) + x2).toNatClampNeg) x3) hk hP hD hS dX3_put_34
theorem xc_X3_put (l : Launch) (D : va_G) (cI cC cZ cL : ClassId) (h h_cells : Nat)  (sz : Nat) (f_cells : Nat → Int32) (x1 : Int32) (x2 : Int32) (x3 : Int32) (K : ((Nat → Int32)) → Prop) (hk : xp_X3_put f_cells x1 x2 x3 K) : XMv l yX3_put wsX3_put ({ frames := 0, cells := 0, slots := 0, locals := 0 } : Room) D (xTY cI cC cZ cL) [.ref h, .int x1, .int x2, .int x3] [(h, .inr (3, [.ref h_cells])), (h_cells, .inl (cI, 400, .inl f_cells))] sz (fun (u : (Nat → Int32)) => K u) (fun (u : (Nat → Int32)) => [(h, .inr (3, [.ref h_cells])), (h_cells, .inl (cI, 400, .inl u))]) :=
  x_enter (cc := cX3_put) (maxL := 5) (ret := none) (own := RX3) (by decide) rfl rfl (Nat.le_of_ble_eq_true rfl) (fun p e s m below meth c ls C0 hA hP hD hS hl => xb_X3_put_0 C0 hA _ _ _ _ hk s.heap [] ls hP hD hS hl)
set_option maxRecDepth 20000 in
theorem xin_X3_chosen_X3 : ∀ w ∈ u_ws RX3 TX3 1, w ∈ wsX3_chosen := by decide +kernel
set_option maxHeartbeats 4000000 in
set_option maxRecDepth 100000 in
theorem xb_X3_chosen_0 {p : Program} {l : Launch} {e : Env} {s : State} {m : MethodId} {args : Array Value} {below : List Frame} {meth : Method} {c : Code} {A : Nat → Prop} {D : va_G} {cI cC cZ cL : ClassId} {h h_cells : Nat}  {f_cells : Nat → Int32} {K : Int32 → Prop}  (C0 : xC p s m args meth c cX3_chosen 3 (some .int) wsX3_chosen RX3 D (xTY cI cC cZ cL)) (hA : ∀ q : Nat, s.heap.size ≤ q → A q)  : ∀ (x1 : Int32) , xp_X3_chosen f_cells x1 K → ∀ (H : Heap) (locs : List Loc) (ls : Array Slot), va_P D vwCl [(h, .inr (3, [.ref h_cells])), (h_cells, .inl (cI, 400, .inl f_cells))] H → va_D A [(h, .inr (3, [.ref h_cells])), (h_cells, .inl (cI, 400, .inl f_cells))] → va_S A s.heap H locs → lv_has ls 3 [(0, .ref h), (1, .int x1)] → W p l e ({ frames := 0, cells := 0, slots := 0, locals := 0 } : Room) s m args below meth c H locs 0 0 (MQ below (va_Qi (fun (r : Int32) (_ : Unit) => K r) (fun u t => xE D A ((fun (_ : Unit) => [(h, .inr (3, [.ref h_cells])), (h_cells, .inl (cI, 400, .inl f_cells))]) u) t) A) args s 0 0 A) (F0 m 0 ls []) := by
  obtain ⟨hx, hb, hr, hml, hown, hts, hlocks, hK, hN⟩ := id C0
  intro x1 hk H locs ls hP hD hS hl
  rw [xp_X3_chosen] at hk
  refine lv_bipush (v := 12) hx hb dX3_chosen_0 (by decide) ?_
  refine lv_iload_n hx hb dX3_chosen_2 rfl (lv_at hl 1 rfl) ?_
  refine lv_iadd hx hb dX3_chosen_3 ?_
  refine lv_istore_n (lv' := [(2, .int (12 + x1)), (0, .ref h), (1, .int x1)]) hx hb dX3_chosen_4 rfl hl (by decide) rfl (fun ls hl => ?_)
  refine lv_iload_n hx hb dX3_chosen_5 rfl (lv_at hl 0 rfl) ?_
  refine lv_bipush (v := 12) hx hb dX3_chosen_6 (by decide) ?_
  refine lv_icmp_lt (tgt := 17) hx hb dX3_chosen_8 (by decide) (fun c1 => ?_) (fun c1 => ?_)
  · have hk := hk.1 c1
    refine lv_iconst (v := (-1 : Int32)) hx hb dX3_chosen_17 (by decide) ?_
    refine lv_goto (tgt := 27) hx hb dX3_chosen_18 (by decide) ?_
    exact x_reti C0 () hk hP hD hS dX3_chosen_27
  · have hk := hk.2 c1
    refine lv_iload_n hx hb dX3_chosen_11 rfl (lv_at hl 0 rfl) ?_
    refine lv_bipush (v := 15) hx hb dX3_chosen_12 (by decide) ?_
    refine lv_icmp_le (tgt := 21) hx hb dX3_chosen_14 (by decide) (fun c2 => ?_) (fun c2 => ?_)
    · have hk := hk.1 c2
      refine lv_aload_n hx hb dX3_chosen_21 rfl (lv_at hl 1 rfl) ?_
      refine va_get (D := D) (ci := 3) (v := .ref h_cells) (C := RX3) (T := TX3) (N := 1) hx hb hts xin_X3_chosen_X3 hown hK hP 0 rfl rfl 0 (by decide) (hts (.fieldLink RX3 9 "TakeLog$State" "cells" "[I") (by decide +kernel)) (fun _ h9 => h9) rfl dX3_chosen_22 ?_
      refine lv_iload_n hx hb dX3_chosen_25 rfl (lv_at hl 0 rfl) ?_
      refine x_iald hx hb hK hP 1 0 rfl rfl hk.1 rfl rfl dX3_chosen_26 ?_
      have hk := hk.2
      exact x_reti C0 () hk hP hD hS dX3_chosen_27
    · have hk := hk.2 c2
      refine lv_iconst (v := (-1 : Int32)) hx hb dX3_chosen_17 (by decide) ?_
      refine lv_goto (tgt := 27) hx hb dX3_chosen_18 (by decide) ?_
      exact x_reti C0 () hk hP hD hS dX3_chosen_27
theorem xc_X3_chosen (l : Launch) (D : va_G) (cI cC cZ cL : ClassId) (h h_cells : Nat)  (sz : Nat) (f_cells : Nat → Int32) (x1 : Int32) (K : Int32 → Prop) (hk : xp_X3_chosen f_cells x1 K) : XMi l yX3_chosen wsX3_chosen ({ frames := 0, cells := 0, slots := 0, locals := 0 } : Room) D (xTY cI cC cZ cL) [.ref h, .int x1] [(h, .inr (3, [.ref h_cells])), (h_cells, .inl (cI, 400, .inl f_cells))] sz (fun (r : Int32) (_ : Unit) => K r) (fun (_ : Unit) => [(h, .inr (3, [.ref h_cells])), (h_cells, .inl (cI, 400, .inl f_cells))]) :=
  x_enter (cc := cX3_chosen) (maxL := 3) (ret := (some .int)) (own := RX3) (by decide) rfl rfl (Nat.le_of_ble_eq_true rfl) (fun p e s m below meth c ls C0 hA hP hD hS hl => xb_X3_chosen_0 C0 hA _ hk s.heap [] ls hP hD hS hl)
set_option maxRecDepth 20000 in
theorem xin_X3_cameraLeft_X3 : ∀ w ∈ u_ws RX3 TX3 1, w ∈ wsX3_cameraLeft := by decide +kernel
set_option maxHeartbeats 4000000 in
set_option maxRecDepth 100000 in
theorem xb_X3_cameraLeft_0 {p : Program} {l : Launch} {e : Env} {s : State} {m : MethodId} {args : Array Value} {below : List Frame} {meth : Method} {c : Code} {A : Nat → Prop} {D : va_G} {cI cC cZ cL : ClassId} {h h_cells : Nat}  {f_cells : Nat → Int32} {K : Int32 → Prop}  (C0 : xC p s m args meth c cX3_cameraLeft 1 (some .int) wsX3_cameraLeft RX3 D (xTY cI cC cZ cL)) (hA : ∀ q : Nat, s.heap.size ≤ q → A q)  : xp_X3_cameraLeft f_cells K → ∀ (H : Heap) (locs : List Loc) (ls : Array Slot), va_P D vwCl [(h, .inr (3, [.ref h_cells])), (h_cells, .inl (cI, 400, .inl f_cells))] H → va_D A [(h, .inr (3, [.ref h_cells])), (h_cells, .inl (cI, 400, .inl f_cells))] → va_S A s.heap H locs → lv_has ls 1 [(0, .ref h)] → W p l e ({ frames := 1, cells := 0, slots := 0, locals := 22 } : Room) s m args below meth c H locs 0 0 (MQ below (va_Qi (fun (r : Int32) (_ : Unit) => K r) (fun u t => xE D A ((fun (_ : Unit) => [(h, .inr (3, [.ref h_cells])), (h_cells, .inl (cI, 400, .inl f_cells))]) u) t) A) args s 0 0 A) (F0 m 0 ls []) := by
  obtain ⟨hx, hb, hr, hml, hown, hts, hlocks, hK, hN⟩ := id C0
  intro  hk H locs ls hP hD hS hl
  rw [xp_X3_cameraLeft] at hk
  refine lv_iconst (v := 0) hx hb dX3_cameraLeft_0 (by decide) ?_
  refine lv_aload_n hx hb dX3_cameraLeft_1 rfl (lv_at hl 0 rfl) ?_
  refine lv_iconst (v := 0) hx hb dX3_cameraLeft_2 (by decide) ?_
  refine x_joini (ws1 := fun (_ : Unit) => [(h, .inr (3, [.ref h_cells])), (h_cells, .inl (cI, 400, .inl f_cells))]) (x_runV (n0 := 1) (As := [.int 0]) (rest := [.int 0]) C0 (xc_X3_chosen l D cI cC cZ cL h h_cells H.size f_cells 0 _ hk) gX3_cameraLeft_X3_chosen rfl ⟨rfl, rfl⟩ (by decide +kernel) rfl ⟨by decide, by decide⟩ ⟨Nat.zero_le _, Nat.zero_le _⟩ hP hD [0, 1] rfl rfl (k := 0) rfl rfl rfl hl.1 rfl (Nat.le_of_ble_eq_true rfl) dX3_cameraLeft_3) hP hD hS hA [0, 1] [] [0, 1] rfl rfl rfl (by decide) (fun _ => rfl) rfl (fun r1 u1 H locs hk hP hD hS => ?_)
  refine lv_aload_n hx hb dX3_cameraLeft_6 rfl (lv_at hl 0 rfl) ?_
  refine va_get (D := D) (ci := 3) (v := .ref h_cells) (C := RX3) (T := TX3) (N := 1) hx hb hts xin_X3_cameraLeft_X3 hown hK hP 0 rfl rfl 0 (by decide) (hts (.fieldLink RX3 9 "TakeLog$State" "cells" "[I") (by decide +kernel)) (fun _ h9 => h9) rfl dX3_cameraLeft_7 ?_
  refine lv_bipush (v := 7) hx hb dX3_cameraLeft_10 (by decide) ?_
  refine x_iald (k := 7) hx hb hK hP 1 0 rfl rfl (x_lit rfl (by decide) (by decide)) rfl (v := (f_cells 7)) rfl dX3_cameraLeft_12 ?_
  refine lv_isub hx hb dX3_cameraLeft_13 ?_
  refine va_mmax hx hb (hml.trans hl.1.symm) hown (hts (.methodLink RX3 34 Lib.Math.max.name) (by decide +kernel)) (hts (.static Lib.Math.max.name) (by decide +kernel)) (hts (.initialized "java/lang/Math") (by decide +kernel)) (hts (.code Lib.Math.max.name Lib.Math.max.code 2 (some .int)) (by decide +kernel)) (by decide) (Nat.le_of_ble_eq_true rfl) (Nat.zero_le _) (Nat.zero_le _) dX3_cameraLeft_14 ?_
  exact x_reti C0 () hk hP hD hS dX3_cameraLeft_17
theorem xc_X3_cameraLeft (l : Launch) (D : va_G) (cI cC cZ cL : ClassId) (h h_cells : Nat)  (sz : Nat) (f_cells : Nat → Int32)  (K : Int32 → Prop) (hk : xp_X3_cameraLeft f_cells K) : XMi l yX3_cameraLeft wsX3_cameraLeft ({ frames := 1, cells := 0, slots := 0, locals := 22 } : Room) D (xTY cI cC cZ cL) [.ref h] [(h, .inr (3, [.ref h_cells])), (h_cells, .inl (cI, 400, .inl f_cells))] sz (fun (r : Int32) (_ : Unit) => K r) (fun (_ : Unit) => [(h, .inr (3, [.ref h_cells])), (h_cells, .inl (cI, 400, .inl f_cells))]) :=
  x_enter (cc := cX3_cameraLeft) (maxL := 1) (ret := (some .int)) (own := RX3) (by decide) rfl rfl (Nat.le_of_ble_eq_true rfl) (fun p e s m below meth c ls C0 hA hP hD hS hl => xb_X3_cameraLeft_0 C0 hA  hk s.heap [] ls hP hD hS hl)
set_option maxRecDepth 20000 in
theorem xin_X3_told_X3 : ∀ w ∈ u_ws RX3 TX3 1, w ∈ wsX3_told := by decide +kernel
set_option maxHeartbeats 4000000 in
set_option maxRecDepth 100000 in
theorem xb_X3_told_0 {p : Program} {l : Launch} {e : Env} {s : State} {m : MethodId} {args : Array Value} {below : List Frame} {meth : Method} {c : Code} {A : Nat → Prop} {D : va_G} {cI cC cZ cL : ClassId} {h h_cells : Nat}  {f_cells : Nat → Int32} {K : Int32 → Prop}  (C0 : xC p s m args meth c cX3_told 3 (some .int) wsX3_told RX3 D (xTY cI cC cZ cL)) (hA : ∀ q : Nat, s.heap.size ≤ q → A q)  : ∀ (x1 : Int32) (x2 : Int32) , xp_X3_told f_cells x1 x2 K → ∀ (H : Heap) (locs : List Loc) (ls : Array Slot), va_P D vwCl [(h, .inr (3, [.ref h_cells])), (h_cells, .inl (cI, 400, .inl f_cells))] H → va_D A [(h, .inr (3, [.ref h_cells])), (h_cells, .inl (cI, 400, .inl f_cells))] → va_S A s.heap H locs → lv_has ls 3 [(0, .ref h), (1, .int x1), (2, .int x2)] → W p l e ({ frames := 4, cells := 0, slots := 0, locals := 90 } : Room) s m args below meth c H locs 0 0 (MQ below (va_Qi (fun (r : Int32) (_ : Unit) => K r) (fun u t => xE D A ((fun (_ : Unit) => [(h, .inr (3, [.ref h_cells])), (h_cells, .inl (cI, 400, .inl f_cells))]) u) t) A) args s 0 0 A) (F0 m 0 ls []) := by
  obtain ⟨hx, hb, hr, hml, hown, hts, hlocks, hK, hN⟩ := id C0
  intro x1 x2 hk H locs ls hP hD hS hl
  rw [xp_X3_told] at hk
  refine lv_iload_n hx hb dX3_told_0 rfl (lv_at hl 2 rfl) ?_
  by_cases c2 : x2 = 2
  · have hk := hk.1 c2
    refine lv_lookup (x := x2) (off := 27) (tgt := 28) hx hb dX3_told_1 (by decide) (by rw [c2]; rfl) (by decide) ?_
    refine lv_aload_n hx hb dX3_told_28 rfl (lv_at hl 0 rfl) ?_
    refine lv_iload_n hx hb dX3_told_29 rfl (lv_at hl 1 rfl) ?_
    refine x_joini (ws1 := fun (_ : Unit) => [(h, .inr (3, [.ref h_cells])), (h_cells, .inl (cI, 400, .inl f_cells))]) (x_runV (n0 := 1) (As := [.int x1]) (rest := []) C0 (xc_X3_rightNumber l D cI cC cZ cL h h_cells H.size f_cells x1 _ hk) gX3_told_X3_rightNumber rfl ⟨rfl, rfl⟩ (by decide +kernel) rfl ⟨by decide, by decide⟩ ⟨Nat.zero_le _, Nat.zero_le _⟩ hP hD [0, 1] rfl rfl (k := 0) rfl rfl rfl hl.1 rfl (Nat.le_of_ble_eq_true rfl) dX3_told_30) hP hD hS hA [0, 1] [] [0, 1] rfl rfl rfl (by decide) (fun _ => rfl) rfl (fun r3 u3 H locs hk hP hD hS => ?_)
    exact x_reti C0 () hk hP hD hS dX3_told_33
  have hk := hk.2 c2
  by_cases c4 : x2 = 16
  · have hk := hk.1 c4
    refine lv_lookup (x := x2) (off := 33) (tgt := 34) hx hb dX3_told_1 (by decide) (by rw [c4]; rfl) (by decide) ?_
    refine lv_aload_n hx hb dX3_told_34 rfl (lv_at hl 0 rfl) ?_
    refine lv_iload_n hx hb dX3_told_35 rfl (lv_at hl 1 rfl) ?_
    refine x_joini (ws1 := fun (_ : Unit) => [(h, .inr (3, [.ref h_cells])), (h_cells, .inl (cI, 400, .inl f_cells))]) (x_runV (n0 := 1) (As := [.int x1]) (rest := []) C0 (xc_X3_isRight l D cI cC cZ cL h h_cells H.size f_cells x1 _ hk) gX3_told_X3_isRight rfl ⟨rfl, rfl⟩ (by decide +kernel) rfl ⟨by decide, by decide⟩ ⟨Nat.zero_le _, Nat.zero_le _⟩ hP hD [0, 1] rfl rfl (k := 0) rfl rfl rfl hl.1 rfl (Nat.le_of_ble_eq_true rfl) dX3_told_36) hP hD hS hA [0, 1] [] [0, 1] rfl rfl rfl (by decide) (fun _ => rfl) rfl (fun r5 u5 H locs hk hP hD hS => ?_)
    refine lv_if_eq (tgt := 46) hx hb dX3_told_39 (by decide) (fun c6 => ?_) (fun c6 => ?_)
    · have hk := hk.1 c6
      refine lv_iconst (v := 0) hx hb dX3_told_46 (by decide) ?_
      exact x_reti C0 () hk hP hD hS dX3_told_47
    · have hk := hk.2 c6
      refine lv_iconst (v := 1) hx hb dX3_told_42 (by decide) ?_
      refine lv_goto (tgt := 47) hx hb dX3_told_43 (by decide) ?_
      exact x_reti C0 () hk hP hD hS dX3_told_47
  have hk := hk.2 c4
  have ec2 := x_ne c2 (k := 2) rfl
  have ec4 := x_ne c4 (k := 16) rfl
  refine lv_lookup (x := x2) (off := 47) (tgt := 48) hx hb dX3_told_1 (by decide) (by simp [Op.lookupswitch.offset, Ne.symm ec2, ec2, Ne.symm ec4, ec4]) (by decide) ?_
  refine lv_aload_n hx hb dX3_told_48 rfl (lv_at hl 0 rfl) ?_
  refine lv_iload_n hx hb dX3_told_49 rfl (lv_at hl 1 rfl) ?_
  refine lv_iload_n hx hb dX3_told_50 rfl (lv_at hl 2 rfl) ?_
  refine x_joini (ws1 := fun (_ : Unit) => [(h, .inr (3, [.ref h_cells])), (h_cells, .inl (cI, 400, .inl f_cells))]) (x_runV (n0 := 2) (As := [.int x1, .int x2]) (rest := []) C0 (xc_X3_of l D cI cC cZ cL h h_cells H.size f_cells x1 x2 _ hk) gX3_told_X3_of rfl ⟨rfl, rfl⟩ (by decide +kernel) rfl ⟨by decide, by decide⟩ ⟨Nat.zero_le _, Nat.zero_le _⟩ hP hD [0, 1] rfl rfl (k := 0) rfl rfl rfl hl.1 rfl (Nat.le_of_ble_eq_true rfl) dX3_told_51) hP hD hS hA [0, 1] [] [0, 1] rfl rfl rfl (by decide) (fun _ => rfl) rfl (fun r7 u7 H locs hk hP hD hS => ?_)
  exact x_reti C0 () hk hP hD hS dX3_told_54
theorem xc_X3_told (l : Launch) (D : va_G) (cI cC cZ cL : ClassId) (h h_cells : Nat)  (sz : Nat) (f_cells : Nat → Int32) (x1 : Int32) (x2 : Int32) (K : Int32 → Prop) (hk : xp_X3_told f_cells x1 x2 K) : XMi l yX3_told wsX3_told ({ frames := 4, cells := 0, slots := 0, locals := 90 } : Room) D (xTY cI cC cZ cL) [.ref h, .int x1, .int x2] [(h, .inr (3, [.ref h_cells])), (h_cells, .inl (cI, 400, .inl f_cells))] sz (fun (r : Int32) (_ : Unit) => K r) (fun (_ : Unit) => [(h, .inr (3, [.ref h_cells])), (h_cells, .inl (cI, 400, .inl f_cells))]) :=
  x_enter (cc := cX3_told) (maxL := 3) (ret := (some .int)) (own := RX3) (by decide) rfl rfl (Nat.le_of_ble_eq_true rfl) (fun p e s m below meth c ls C0 hA hP hD hS hl => xb_X3_told_0 C0 hA _ _ hk s.heap [] ls hP hD hS hl)
set_option maxRecDepth 20000 in
theorem xin_X3_wrongSet_X3 : ∀ w ∈ u_ws RX3 TX3 1, w ∈ wsX3_wrongSet := by decide +kernel
set_option maxHeartbeats 4000000 in
set_option maxRecDepth 100000 in
theorem xb_X3_wrongSet_4 {p : Program} {l : Launch} {e : Env} {s : State} {m : MethodId} {args : Array Value} {below : List Frame} {meth : Method} {c : Code} {A : Nat → Prop} {D : va_G} {cI cC cZ cL : ClassId} {h h_cells : Nat}  {f_cells : Nat → Int32} {K : Int32 → Prop}  (C0 : xC p s m args meth c cX3_wrongSet 3 (some .int) wsX3_wrongSet RX3 D (xTY cI cC cZ cL)) (hA : ∀ q : Nat, s.heap.size ≤ q → A q)  : ∀ (n : Nat) (v1 : Int32) (v2 : Int32) , xp_X3_wrongSet_4 f_cells K n v1 v2 → ∀ (H : Heap) (locs : List Loc) (ls : Array Slot), va_P D vwCl [(h, .inr (3, [.ref h_cells])), (h_cells, .inl (cI, 400, .inl f_cells))] H → va_D A [(h, .inr (3, [.ref h_cells])), (h_cells, .inl (cI, 400, .inl f_cells))] → va_S A s.heap H locs → lv_has ls 3 [(0, .ref h), (1, .int v1), (2, .int v2)] → W p l e ({ frames := 4, cells := 0, slots := 0, locals := 90 } : Room) s m args below meth c H locs 0 0 (MQ below (va_Qi (fun (r : Int32) (_ : Unit) => K r) (fun u t => xE D A ((fun (_ : Unit) => [(h, .inr (3, [.ref h_cells])), (h_cells, .inl (cI, 400, .inl f_cells))]) u) t) A) args s 0 0 A) (F0 m 4 ls []) := by
  obtain ⟨hx, hb, hr, hml, hown, hts, hlocks, hK, hN⟩ := id C0
  intro n
  induction n with
  | zero => intro v1 v2 hk; exact hk.elim
  | succ n ih =>
    intro v1 v2 hk H locs ls hP hD hS hl
    rw [xp_X3_wrongSet_4] at hk
    refine lv_iload_n hx hb dX3_wrongSet_4 rfl (lv_at hl 2 rfl) ?_
    refine lv_aload_n hx hb dX3_wrongSet_5 rfl (lv_at hl 0 rfl) ?_
    refine x_joini (ws1 := fun (_ : Unit) => [(h, .inr (3, [.ref h_cells])), (h_cells, .inl (cI, 400, .inl f_cells))]) (x_runV (n0 := 0) (As := []) (rest := [.int v2]) C0 (xc_X3_takes l D cI cC cZ cL h h_cells H.size f_cells _ hk) gX3_wrongSet_X3_takes rfl ⟨rfl, rfl⟩ (by decide +kernel) rfl ⟨by decide, by decide⟩ ⟨Nat.zero_le _, Nat.zero_le _⟩ hP hD [0, 1] rfl rfl (k := 0) rfl rfl rfl hl.1 rfl (Nat.le_of_ble_eq_true rfl) dX3_wrongSet_6) hP hD hS hA [0, 1] [] [0, 1] rfl rfl rfl (by decide) (fun _ => rfl) rfl (fun r1 u1 H locs hk hP hD hS => ?_)
    refine lv_icmp_ge (tgt := 32) hx hb dX3_wrongSet_9 (by decide) (fun c2 => ?_) (fun c2 => ?_)
    · have hk := hk.1 c2
      refine lv_iload_n hx hb dX3_wrongSet_32 rfl (lv_at hl 1 rfl) ?_
      exact x_reti C0 () hk hP hD hS dX3_wrongSet_33
    · have hk := hk.2 c2
      refine lv_aload_n hx hb dX3_wrongSet_12 rfl (lv_at hl 0 rfl) ?_
      refine lv_iload_n hx hb dX3_wrongSet_13 rfl (lv_at hl 2 rfl) ?_
      refine x_joini (ws1 := fun (_ : Unit) => [(h, .inr (3, [.ref h_cells])), (h_cells, .inl (cI, 400, .inl f_cells))]) (x_runV (n0 := 1) (As := [.int v2]) (rest := []) C0 (xc_X3_isRight l D cI cC cZ cL h h_cells H.size f_cells v2 _ hk) gX3_wrongSet_X3_isRight rfl ⟨rfl, rfl⟩ (by decide +kernel) rfl ⟨by decide, by decide⟩ ⟨Nat.zero_le _, Nat.zero_le _⟩ hP hD [0, 1] rfl rfl (k := 0) rfl rfl rfl hl.1 rfl (Nat.le_of_ble_eq_true rfl) dX3_wrongSet_14) hP hD hS hA [0, 1] [] [0, 1] rfl rfl rfl (by decide) (fun _ => rfl) rfl (fun r3 u3 H locs hk hP hD hS => ?_)
      refine lv_if_ne (tgt := 26) hx hb dX3_wrongSet_17 (by decide) (fun c4 => ?_) (fun c4 => ?_)
      · have hk := hk.1 c4
        refine lv_iinc (v := (v2 + 1)) (lv' := [(2, .int (v2 + 1)), (0, .ref h), (1, .int v1)]) hx hb dX3_wrongSet_26 hl (k := 2) rfl rfl (by decide) rfl (fun ls hl => ?_)
        refine lv_goto (tgt := 4) hx hb dX3_wrongSet_29 (by decide) ?_
        exact ih _ _ hk H locs ls hP hD hS (lv_sub hl [1, 2, 0] rfl)
      · have hk := hk.2 c4
        refine lv_iload_n hx hb dX3_wrongSet_20 rfl (lv_at hl 1 rfl) ?_
        refine lv_iconst (v := 1) hx hb dX3_wrongSet_21 (by decide) ?_
        refine lv_iload_n hx hb dX3_wrongSet_22 rfl (lv_at hl 2 rfl) ?_
        refine lv_ishl hx hb dX3_wrongSet_23 ?_
        refine lv_ior hx hb dX3_wrongSet_24 ?_
        refine lv_istore_n (lv' := [(1, .int (v1 ||| ((1 : Int32) <<< (v2 &&& 31)))), (0, .ref h), (2, .int v2)]) hx hb dX3_wrongSet_25 rfl hl (by decide) rfl (fun ls hl => ?_)
        refine lv_iinc (v := (v2 + 1)) (lv' := [(2, .int (v2 + 1)), (1, .int (v1 ||| ((1 : Int32) <<< (v2 &&& 31)))), (0, .ref h)]) hx hb dX3_wrongSet_26 hl (k := 2) rfl rfl (by decide) rfl (fun ls hl => ?_)
        refine lv_goto (tgt := 4) hx hb dX3_wrongSet_29 (by decide) ?_
        exact ih _ _ hk H locs ls hP hD hS (lv_sub hl [2, 1, 0] rfl)
set_option maxHeartbeats 4000000 in
set_option maxRecDepth 100000 in
theorem xb_X3_wrongSet_0 {p : Program} {l : Launch} {e : Env} {s : State} {m : MethodId} {args : Array Value} {below : List Frame} {meth : Method} {c : Code} {A : Nat → Prop} {D : va_G} {cI cC cZ cL : ClassId} {h h_cells : Nat}  {f_cells : Nat → Int32} {K : Int32 → Prop}  (C0 : xC p s m args meth c cX3_wrongSet 3 (some .int) wsX3_wrongSet RX3 D (xTY cI cC cZ cL)) (hA : ∀ q : Nat, s.heap.size ≤ q → A q)  : xp_X3_wrongSet f_cells K → ∀ (H : Heap) (locs : List Loc) (ls : Array Slot), va_P D vwCl [(h, .inr (3, [.ref h_cells])), (h_cells, .inl (cI, 400, .inl f_cells))] H → va_D A [(h, .inr (3, [.ref h_cells])), (h_cells, .inl (cI, 400, .inl f_cells))] → va_S A s.heap H locs → lv_has ls 3 [(0, .ref h)] → W p l e ({ frames := 4, cells := 0, slots := 0, locals := 90 } : Room) s m args below meth c H locs 0 0 (MQ below (va_Qi (fun (r : Int32) (_ : Unit) => K r) (fun u t => xE D A ((fun (_ : Unit) => [(h, .inr (3, [.ref h_cells])), (h_cells, .inl (cI, 400, .inl f_cells))]) u) t) A) args s 0 0 A) (F0 m 0 ls []) := by
  obtain ⟨hx, hb, hr, hml, hown, hts, hlocks, hK, hN⟩ := id C0
  intro  hk H locs ls hP hD hS hl
  rw [xp_X3_wrongSet] at hk
  refine lv_iconst (v := 0) hx hb dX3_wrongSet_0 (by decide) ?_
  refine lv_istore_n (lv' := [(1, .int 0), (0, .ref h)]) hx hb dX3_wrongSet_1 rfl hl (by decide) rfl (fun ls hl => ?_)
  refine lv_iconst (v := 0) hx hb dX3_wrongSet_2 (by decide) ?_
  refine lv_istore_n (lv' := [(2, .int 0), (1, .int 0), (0, .ref h)]) hx hb dX3_wrongSet_3 rfl hl (by decide) rfl (fun ls hl => ?_)
  obtain ⟨n9, hk⟩ := hk
  exact xb_X3_wrongSet_4 C0 hA  n9 _ _ hk H locs ls hP hD hS (lv_sub hl [2, 1, 0] rfl)
theorem xc_X3_wrongSet (l : Launch) (D : va_G) (cI cC cZ cL : ClassId) (h h_cells : Nat)  (sz : Nat) (f_cells : Nat → Int32)  (K : Int32 → Prop) (hk : xp_X3_wrongSet f_cells K) : XMi l yX3_wrongSet wsX3_wrongSet ({ frames := 4, cells := 0, slots := 0, locals := 90 } : Room) D (xTY cI cC cZ cL) [.ref h] [(h, .inr (3, [.ref h_cells])), (h_cells, .inl (cI, 400, .inl f_cells))] sz (fun (r : Int32) (_ : Unit) => K r) (fun (_ : Unit) => [(h, .inr (3, [.ref h_cells])), (h_cells, .inl (cI, 400, .inl f_cells))]) :=
  x_enter (cc := cX3_wrongSet) (maxL := 3) (ret := (some .int)) (own := RX3) (by decide) rfl rfl (Nat.le_of_ble_eq_true rfl) (fun p e s m below meth c ls C0 hA hP hD hS hl => xb_X3_wrongSet_0 C0 hA  hk s.heap [] ls hP hD hS hl)
set_option maxRecDepth 20000 in
theorem xin_X3_wrongSlates_X3 : ∀ w ∈ u_ws RX3 TX3 1, w ∈ wsX3_wrongSlates := by decide +kernel
set_option maxHeartbeats 4000000 in
set_option maxRecDepth 100000 in
theorem xb_X3_wrongSlates_0 {p : Program} {l : Launch} {e : Env} {s : State} {m : MethodId} {args : Array Value} {below : List Frame} {meth : Method} {c : Code} {A : Nat → Prop} {D : va_G} {cI cC cZ cL : ClassId} {h h_cells : Nat}  {f_cells : Nat → Int32} {K : Int32 → Prop}  (C0 : xC p s m args meth c cX3_wrongSlates 1 (some .int) wsX3_wrongSlates RX3 D (xTY cI cC cZ cL)) (hA : ∀ q : Nat, s.heap.size ≤ q → A q)  : xp_X3_wrongSlates f_cells K → ∀ (H : Heap) (locs : List Loc) (ls : Array Slot), va_P D vwCl [(h, .inr (3, [.ref h_cells])), (h_cells, .inl (cI, 400, .inl f_cells))] H → va_D A [(h, .inr (3, [.ref h_cells])), (h_cells, .inl (cI, 400, .inl f_cells))] → va_S A s.heap H locs → lv_has ls 1 [(0, .ref h)] → W p l e ({ frames := 5, cells := 0, slots := 0, locals := 112 } : Room) s m args below meth c H locs 0 0 (MQ below (va_Qi (fun (r : Int32) (_ : Unit) => K r) (fun u t => xE D A ((fun (_ : Unit) => [(h, .inr (3, [.ref h_cells])), (h_cells, .inl (cI, 400, .inl f_cells))]) u) t) A) args s 0 0 A) (F0 m 0 ls []) := by
  obtain ⟨hx, hb, hr, hml, hown, hts, hlocks, hK, hN⟩ := id C0
  intro  hk H locs ls hP hD hS hl
  rw [xp_X3_wrongSlates] at hk
  refine lv_aload_n hx hb dX3_wrongSlates_0 rfl (lv_at hl 0 rfl) ?_
  refine x_joini (ws1 := fun (_ : Unit) => [(h, .inr (3, [.ref h_cells])), (h_cells, .inl (cI, 400, .inl f_cells))]) (x_runV (n0 := 0) (As := []) (rest := []) C0 (xc_X3_wrongSet l D cI cC cZ cL h h_cells H.size f_cells _ hk) gX3_wrongSlates_X3_wrongSet rfl ⟨rfl, rfl⟩ (by decide +kernel) rfl ⟨by decide, by decide⟩ ⟨Nat.zero_le _, Nat.zero_le _⟩ hP hD [0, 1] rfl rfl (k := 0) rfl rfl rfl hl.1 rfl (Nat.le_of_ble_eq_true rfl) dX3_wrongSlates_1) hP hD hS hA [0, 1] [] [0, 1] rfl rfl rfl (by decide) (fun _ => rfl) rfl (fun r1 u1 H locs hk hP hD hS => ?_)
  refine x_joini (ws1 := fun (_ : Unit) => [(h, .inr (3, [.ref h_cells])), (h_cells, .inl (cI, 400, .inl f_cells))]) (x_runO (n0 := 1) (As := [.int r1]) (rest := []) C0 (xc_J6_bitCount_0f7a4 l D cI cC cZ cL  H.size r1 _ hk) gX3_wrongSlates_J6_bitCount_0f7a4 rfl ⟨rfl, rfl⟩ (by decide +kernel) rfl ⟨by decide, by decide⟩ ⟨Nat.zero_le _, Nat.zero_le _⟩ hP hD [] rfl rfl hl.1 rfl (Nat.le_of_ble_eq_true rfl) dX3_wrongSlates_4) hP hD hS hA [] [0, 1] [0, 1] rfl rfl rfl (by decide) (fun _ => rfl) rfl (fun r2 u2 H locs hk hP hD hS => ?_)
  exact x_reti C0 () hk hP hD hS dX3_wrongSlates_7
theorem xc_X3_wrongSlates (l : Launch) (D : va_G) (cI cC cZ cL : ClassId) (h h_cells : Nat)  (sz : Nat) (f_cells : Nat → Int32)  (K : Int32 → Prop) (hk : xp_X3_wrongSlates f_cells K) : XMi l yX3_wrongSlates wsX3_wrongSlates ({ frames := 5, cells := 0, slots := 0, locals := 112 } : Room) D (xTY cI cC cZ cL) [.ref h] [(h, .inr (3, [.ref h_cells])), (h_cells, .inl (cI, 400, .inl f_cells))] sz (fun (r : Int32) (_ : Unit) => K r) (fun (_ : Unit) => [(h, .inr (3, [.ref h_cells])), (h_cells, .inl (cI, 400, .inl f_cells))]) :=
  x_enter (cc := cX3_wrongSlates) (maxL := 1) (ret := (some .int)) (own := RX3) (by decide) rfl rfl (Nat.le_of_ble_eq_true rfl) (fun p e s m below meth c ls C0 hA hP hD hS hl => xb_X3_wrongSlates_0 C0 hA  hk s.heap [] ls hP hD hS hl)
set_option maxRecDepth 20000 in
theorem xin_X3_marked_X3 : ∀ w ∈ u_ws RX3 TX3 1, w ∈ wsX3_marked := by decide +kernel
set_option maxHeartbeats 4000000 in
set_option maxRecDepth 100000 in
theorem xb_X3_marked_4 {p : Program} {l : Launch} {e : Env} {s : State} {m : MethodId} {args : Array Value} {below : List Frame} {meth : Method} {c : Code} {A : Nat → Prop} {D : va_G} {cI cC cZ cL : ClassId} {h h_cells : Nat}  {f_cells : Nat → Int32} {K : Int32 → Prop}  (C0 : xC p s m args meth c cX3_marked 4 (some .int) wsX3_marked RX3 D (xTY cI cC cZ cL)) (hA : ∀ q : Nat, s.heap.size ≤ q → A q)  : ∀ (n : Nat) (v1 : Int32) (v2 : Int32) (v3 : Int32) , xp_X3_marked_4 f_cells K n v1 v2 v3 → ∀ (H : Heap) (locs : List Loc) (ls : Array Slot), va_P D vwCl [(h, .inr (3, [.ref h_cells])), (h_cells, .inl (cI, 400, .inl f_cells))] H → va_D A [(h, .inr (3, [.ref h_cells])), (h_cells, .inl (cI, 400, .inl f_cells))] → va_S A s.heap H locs → lv_has ls 4 [(0, .ref h), (1, .int v1), (2, .int v2), (3, .int v3)] → W p l e ({ frames := 1, cells := 0, slots := 0, locals := 23 } : Room) s m args below meth c H locs 0 0 (MQ below (va_Qi (fun (r : Int32) (_ : Unit) => K r) (fun u t => xE D A ((fun (_ : Unit) => [(h, .inr (3, [.ref h_cells])), (h_cells, .inl (cI, 400, .inl f_cells))]) u) t) A) args s 0 0 A) (F0 m 4 ls []) := by
  obtain ⟨hx, hb, hr, hml, hown, hts, hlocks, hK, hN⟩ := id C0
  intro n
  induction n with
  | zero => intro v1 v2 v3 hk; exact hk.elim
  | succ n ih =>
    intro v1 v2 v3 hk H locs ls hP hD hS hl
    rw [xp_X3_marked_4] at hk
    refine lv_iload_n hx hb dX3_marked_4 rfl (lv_at hl 3 rfl) ?_
    refine lv_aload_n hx hb dX3_marked_5 rfl (lv_at hl 0 rfl) ?_
    refine x_joini (ws1 := fun (_ : Unit) => [(h, .inr (3, [.ref h_cells])), (h_cells, .inl (cI, 400, .inl f_cells))]) (x_runV (n0 := 0) (As := []) (rest := [.int v3]) C0 (xc_X3_takes l D cI cC cZ cL h h_cells H.size f_cells _ hk) gX3_marked_X3_takes rfl ⟨rfl, rfl⟩ (by decide +kernel) rfl ⟨by decide, by decide⟩ ⟨Nat.zero_le _, Nat.zero_le _⟩ hP hD [0, 1] rfl rfl (k := 0) rfl rfl rfl hl.1 rfl (Nat.le_of_ble_eq_true rfl) dX3_marked_6) hP hD hS hA [0, 1] [] [0, 1] rfl rfl rfl (by decide) (fun _ => rfl) rfl (fun r1 u1 H locs hk hP hD hS => ?_)
    refine lv_icmp_ge (tgt := 27) hx hb dX3_marked_9 (by decide) (fun c2 => ?_) (fun c2 => ?_)
    · have hk := hk.1 c2
      refine lv_iload_n hx hb dX3_marked_27 rfl (lv_at hl 2 rfl) ?_
      exact x_reti C0 () hk hP hD hS dX3_marked_28
    · have hk := hk.2 c2
      refine lv_iload_n hx hb dX3_marked_12 rfl (lv_at hl 2 rfl) ?_
      refine lv_aload_n hx hb dX3_marked_13 rfl (lv_at hl 0 rfl) ?_
      refine lv_iload_n hx hb dX3_marked_14 rfl (lv_at hl 3 rfl) ?_
      refine lv_iload_n hx hb dX3_marked_15 rfl (lv_at hl 1 rfl) ?_
      refine x_joini (ws1 := fun (_ : Unit) => [(h, .inr (3, [.ref h_cells])), (h_cells, .inl (cI, 400, .inl f_cells))]) (x_runV (n0 := 2) (As := [.int v3, .int v1]) (rest := [.int v2]) C0 (xc_X3_of l D cI cC cZ cL h h_cells H.size f_cells v3 v1 _ hk) gX3_marked_X3_of rfl ⟨rfl, rfl⟩ (by decide +kernel) rfl ⟨by decide, by decide⟩ ⟨Nat.zero_le _, Nat.zero_le _⟩ hP hD [0, 1] rfl rfl (k := 0) rfl rfl rfl hl.1 rfl (Nat.le_of_ble_eq_true rfl) dX3_marked_16) hP hD hS hA [0, 1] [] [0, 1] rfl rfl rfl (by decide) (fun _ => rfl) rfl (fun r3 u3 H locs hk hP hD hS => ?_)
      refine lv_iadd hx hb dX3_marked_19 ?_
      refine lv_istore_n (lv' := [(2, .int (v2 + r3)), (0, .ref h), (1, .int v1), (3, .int v3)]) hx hb dX3_marked_20 rfl hl (by decide) rfl (fun ls hl => ?_)
      refine lv_iinc (v := (v3 + 1)) (lv' := [(3, .int (v3 + 1)), (2, .int (v2 + r3)), (0, .ref h), (1, .int v1)]) hx hb dX3_marked_21 hl (k := 3) rfl rfl (by decide) rfl (fun ls hl => ?_)
      refine lv_goto (tgt := 4) hx hb dX3_marked_24 (by decide) ?_
      exact ih _ _ _ hk H locs ls hP hD hS (lv_sub hl [2, 3, 1, 0] rfl)
set_option maxHeartbeats 4000000 in
set_option maxRecDepth 100000 in
theorem xb_X3_marked_0 {p : Program} {l : Launch} {e : Env} {s : State} {m : MethodId} {args : Array Value} {below : List Frame} {meth : Method} {c : Code} {A : Nat → Prop} {D : va_G} {cI cC cZ cL : ClassId} {h h_cells : Nat}  {f_cells : Nat → Int32} {K : Int32 → Prop}  (C0 : xC p s m args meth c cX3_marked 4 (some .int) wsX3_marked RX3 D (xTY cI cC cZ cL)) (hA : ∀ q : Nat, s.heap.size ≤ q → A q)  : ∀ (x1 : Int32) , xp_X3_marked f_cells x1 K → ∀ (H : Heap) (locs : List Loc) (ls : Array Slot), va_P D vwCl [(h, .inr (3, [.ref h_cells])), (h_cells, .inl (cI, 400, .inl f_cells))] H → va_D A [(h, .inr (3, [.ref h_cells])), (h_cells, .inl (cI, 400, .inl f_cells))] → va_S A s.heap H locs → lv_has ls 4 [(0, .ref h), (1, .int x1)] → W p l e ({ frames := 1, cells := 0, slots := 0, locals := 23 } : Room) s m args below meth c H locs 0 0 (MQ below (va_Qi (fun (r : Int32) (_ : Unit) => K r) (fun u t => xE D A ((fun (_ : Unit) => [(h, .inr (3, [.ref h_cells])), (h_cells, .inl (cI, 400, .inl f_cells))]) u) t) A) args s 0 0 A) (F0 m 0 ls []) := by
  obtain ⟨hx, hb, hr, hml, hown, hts, hlocks, hK, hN⟩ := id C0
  intro x1 hk H locs ls hP hD hS hl
  rw [xp_X3_marked] at hk
  refine lv_iconst (v := 0) hx hb dX3_marked_0 (by decide) ?_
  refine lv_istore_n (lv' := [(2, .int 0), (0, .ref h), (1, .int x1)]) hx hb dX3_marked_1 rfl hl (by decide) rfl (fun ls hl => ?_)
  refine lv_iconst (v := 0) hx hb dX3_marked_2 (by decide) ?_
  refine lv_istore_n (lv' := [(3, .int 0), (2, .int 0), (0, .ref h), (1, .int x1)]) hx hb dX3_marked_3 rfl hl (by decide) rfl (fun ls hl => ?_)
  obtain ⟨n9, hk⟩ := hk
  exact xb_X3_marked_4 C0 hA  n9 _ _ _ hk H locs ls hP hD hS (lv_sub hl [2, 3, 1, 0] rfl)
theorem xc_X3_marked (l : Launch) (D : va_G) (cI cC cZ cL : ClassId) (h h_cells : Nat)  (sz : Nat) (f_cells : Nat → Int32) (x1 : Int32) (K : Int32 → Prop) (hk : xp_X3_marked f_cells x1 K) : XMi l yX3_marked wsX3_marked ({ frames := 1, cells := 0, slots := 0, locals := 23 } : Room) D (xTY cI cC cZ cL) [.ref h, .int x1] [(h, .inr (3, [.ref h_cells])), (h_cells, .inl (cI, 400, .inl f_cells))] sz (fun (r : Int32) (_ : Unit) => K r) (fun (_ : Unit) => [(h, .inr (3, [.ref h_cells])), (h_cells, .inl (cI, 400, .inl f_cells))]) :=
  x_enter (cc := cX3_marked) (maxL := 4) (ret := (some .int)) (own := RX3) (by decide) rfl rfl (Nat.le_of_ble_eq_true rfl) (fun p e s m below meth c ls C0 hA hP hD hS hl => xb_X3_marked_0 C0 hA _ hk s.heap [] ls hP hD hS hl)
set_option maxRecDepth 20000 in
theorem xin_X3_circledSeconds_X3 : ∀ w ∈ u_ws RX3 TX3 1, w ∈ wsX3_circledSeconds := by decide +kernel
set_option maxHeartbeats 4000000 in
set_option maxRecDepth 100000 in
theorem xb_X3_circledSeconds_4 {p : Program} {l : Launch} {e : Env} {s : State} {m : MethodId} {args : Array Value} {below : List Frame} {meth : Method} {c : Code} {A : Nat → Prop} {D : va_G} {cI cC cZ cL : ClassId} {h h_cells : Nat}  {f_cells : Nat → Int32} {K : Int32 → Prop}  (C0 : xC p s m args meth c cX3_circledSeconds 3 (some .int) wsX3_circledSeconds RX3 D (xTY cI cC cZ cL)) (hA : ∀ q : Nat, s.heap.size ≤ q → A q)  : ∀ (n : Nat) (v1 : Int32) (v2 : Int32) , xp_X3_circledSeconds_4 f_cells K n v1 v2 → ∀ (H : Heap) (locs : List Loc) (ls : Array Slot), va_P D vwCl [(h, .inr (3, [.ref h_cells])), (h_cells, .inl (cI, 400, .inl f_cells))] H → va_D A [(h, .inr (3, [.ref h_cells])), (h_cells, .inl (cI, 400, .inl f_cells))] → va_S A s.heap H locs → lv_has ls 3 [(0, .ref h), (1, .int v1), (2, .int v2)] → W p l e ({ frames := 1, cells := 0, slots := 0, locals := 23 } : Room) s m args below meth c H locs 0 0 (MQ below (va_Qi (fun (r : Int32) (_ : Unit) => K r) (fun u t => xE D A ((fun (_ : Unit) => [(h, .inr (3, [.ref h_cells])), (h_cells, .inl (cI, 400, .inl f_cells))]) u) t) A) args s 0 0 A) (F0 m 4 ls []) := by
  obtain ⟨hx, hb, hr, hml, hown, hts, hlocks, hK, hN⟩ := id C0
  intro n
  induction n with
  | zero => intro v1 v2 hk; exact hk.elim
  | succ n ih =>
    intro v1 v2 hk H locs ls hP hD hS hl
    rw [xp_X3_circledSeconds_4] at hk
    refine lv_iload_n hx hb dX3_circledSeconds_4 rfl (lv_at hl 2 rfl) ?_
    refine lv_aload_n hx hb dX3_circledSeconds_5 rfl (lv_at hl 0 rfl) ?_
    refine x_joini (ws1 := fun (_ : Unit) => [(h, .inr (3, [.ref h_cells])), (h_cells, .inl (cI, 400, .inl f_cells))]) (x_runV (n0 := 0) (As := []) (rest := [.int v2]) C0 (xc_X3_takes l D cI cC cZ cL h h_cells H.size f_cells _ hk) gX3_circledSeconds_X3_takes rfl ⟨rfl, rfl⟩ (by decide +kernel) rfl ⟨by decide, by decide⟩ ⟨Nat.zero_le _, Nat.zero_le _⟩ hP hD [0, 1] rfl rfl (k := 0) rfl rfl rfl hl.1 rfl (Nat.le_of_ble_eq_true rfl) dX3_circledSeconds_6) hP hD hS hA [0, 1] [] [0, 1] rfl rfl rfl (by decide) (fun _ => rfl) rfl (fun r1 u1 H locs hk hP hD hS => ?_)
    refine lv_icmp_ge (tgt := 36) hx hb dX3_circledSeconds_9 (by decide) (fun c2 => ?_) (fun c2 => ?_)
    · have hk := hk.1 c2
      refine lv_iload_n hx hb dX3_circledSeconds_36 rfl (lv_at hl 1 rfl) ?_
      exact x_reti C0 () hk hP hD hS dX3_circledSeconds_37
    · have hk := hk.2 c2
      refine lv_iload_n hx hb dX3_circledSeconds_12 rfl (lv_at hl 1 rfl) ?_
      refine lv_aload_n hx hb dX3_circledSeconds_13 rfl (lv_at hl 0 rfl) ?_
      refine lv_iload_n hx hb dX3_circledSeconds_14 rfl (lv_at hl 2 rfl) ?_
      refine lv_bipush (v := 14) hx hb dX3_circledSeconds_15 (by decide) ?_
      refine x_joini (ws1 := fun (_ : Unit) => [(h, .inr (3, [.ref h_cells])), (h_cells, .inl (cI, 400, .inl f_cells))]) (x_runV (n0 := 2) (As := [.int v2, .int 14]) (rest := [.int v1]) C0 (xc_X3_of l D cI cC cZ cL h h_cells H.size f_cells v2 14 _ hk) gX3_circledSeconds_X3_of rfl ⟨rfl, rfl⟩ (by decide +kernel) rfl ⟨by decide, by decide⟩ ⟨Nat.zero_le _, Nat.zero_le _⟩ hP hD [0, 1] rfl rfl (k := 0) rfl rfl rfl hl.1 rfl (Nat.le_of_ble_eq_true rfl) dX3_circledSeconds_17) hP hD hS hA [0, 1] [] [0, 1] rfl rfl rfl (by decide) (fun _ => rfl) rfl (fun r3 u3 H locs hk hP hD hS => ?_)
      refine lv_aload_n hx hb dX3_circledSeconds_20 rfl (lv_at hl 0 rfl) ?_
      refine lv_iload_n hx hb dX3_circledSeconds_21 rfl (lv_at hl 2 rfl) ?_
      refine lv_bipush (v := 8) hx hb dX3_circledSeconds_22 (by decide) ?_
      refine x_joini (ws1 := fun (_ : Unit) => [(h, .inr (3, [.ref h_cells])), (h_cells, .inl (cI, 400, .inl f_cells))]) (x_runV (n0 := 2) (As := [.int v2, .int 8]) (rest := [.int r3, .int v1]) C0 (xc_X3_of l D cI cC cZ cL h h_cells H.size f_cells v2 8 _ hk) gX3_circledSeconds_X3_of rfl ⟨rfl, rfl⟩ (by decide +kernel) rfl ⟨by decide, by decide⟩ ⟨Nat.zero_le _, Nat.zero_le _⟩ hP hD [0, 1] rfl rfl (k := 0) rfl rfl rfl hl.1 rfl (Nat.le_of_ble_eq_true rfl) dX3_circledSeconds_24) hP hD hS hA [0, 1] [] [0, 1] rfl rfl rfl (by decide) (fun _ => rfl) rfl (fun r4 u4 H locs hk hP hD hS => ?_)
      refine lv_imul hx hb dX3_circledSeconds_27 ?_
      refine lv_iadd hx hb dX3_circledSeconds_28 ?_
      refine lv_istore_n (lv' := [(1, .int (v1 + (r3 * r4))), (0, .ref h), (2, .int v2)]) hx hb dX3_circledSeconds_29 rfl hl (by decide) rfl (fun ls hl => ?_)
      refine lv_iinc (v := (v2 + 1)) (lv' := [(2, .int (v2 + 1)), (1, .int (v1 + (r3 * r4))), (0, .ref h)]) hx hb dX3_circledSeconds_30 hl (k := 2) rfl rfl (by decide) rfl (fun ls hl => ?_)
      refine lv_goto (tgt := 4) hx hb dX3_circledSeconds_33 (by decide) ?_
      exact ih _ _ hk H locs ls hP hD hS (lv_sub hl [2, 1, 0] rfl)
set_option maxHeartbeats 4000000 in
set_option maxRecDepth 100000 in
theorem xb_X3_circledSeconds_0 {p : Program} {l : Launch} {e : Env} {s : State} {m : MethodId} {args : Array Value} {below : List Frame} {meth : Method} {c : Code} {A : Nat → Prop} {D : va_G} {cI cC cZ cL : ClassId} {h h_cells : Nat}  {f_cells : Nat → Int32} {K : Int32 → Prop}  (C0 : xC p s m args meth c cX3_circledSeconds 3 (some .int) wsX3_circledSeconds RX3 D (xTY cI cC cZ cL)) (hA : ∀ q : Nat, s.heap.size ≤ q → A q)  : xp_X3_circledSeconds f_cells K → ∀ (H : Heap) (locs : List Loc) (ls : Array Slot), va_P D vwCl [(h, .inr (3, [.ref h_cells])), (h_cells, .inl (cI, 400, .inl f_cells))] H → va_D A [(h, .inr (3, [.ref h_cells])), (h_cells, .inl (cI, 400, .inl f_cells))] → va_S A s.heap H locs → lv_has ls 3 [(0, .ref h)] → W p l e ({ frames := 1, cells := 0, slots := 0, locals := 23 } : Room) s m args below meth c H locs 0 0 (MQ below (va_Qi (fun (r : Int32) (_ : Unit) => K r) (fun u t => xE D A ((fun (_ : Unit) => [(h, .inr (3, [.ref h_cells])), (h_cells, .inl (cI, 400, .inl f_cells))]) u) t) A) args s 0 0 A) (F0 m 0 ls []) := by
  obtain ⟨hx, hb, hr, hml, hown, hts, hlocks, hK, hN⟩ := id C0
  intro  hk H locs ls hP hD hS hl
  rw [xp_X3_circledSeconds] at hk
  refine lv_iconst (v := 0) hx hb dX3_circledSeconds_0 (by decide) ?_
  refine lv_istore_n (lv' := [(1, .int 0), (0, .ref h)]) hx hb dX3_circledSeconds_1 rfl hl (by decide) rfl (fun ls hl => ?_)
  refine lv_iconst (v := 0) hx hb dX3_circledSeconds_2 (by decide) ?_
  refine lv_istore_n (lv' := [(2, .int 0), (1, .int 0), (0, .ref h)]) hx hb dX3_circledSeconds_3 rfl hl (by decide) rfl (fun ls hl => ?_)
  obtain ⟨n9, hk⟩ := hk
  exact xb_X3_circledSeconds_4 C0 hA  n9 _ _ hk H locs ls hP hD hS (lv_sub hl [2, 1, 0] rfl)
theorem xc_X3_circledSeconds (l : Launch) (D : va_G) (cI cC cZ cL : ClassId) (h h_cells : Nat)  (sz : Nat) (f_cells : Nat → Int32)  (K : Int32 → Prop) (hk : xp_X3_circledSeconds f_cells K) : XMi l yX3_circledSeconds wsX3_circledSeconds ({ frames := 1, cells := 0, slots := 0, locals := 23 } : Room) D (xTY cI cC cZ cL) [.ref h] [(h, .inr (3, [.ref h_cells])), (h_cells, .inl (cI, 400, .inl f_cells))] sz (fun (r : Int32) (_ : Unit) => K r) (fun (_ : Unit) => [(h, .inr (3, [.ref h_cells])), (h_cells, .inl (cI, 400, .inl f_cells))]) :=
  x_enter (cc := cX3_circledSeconds) (maxL := 3) (ret := (some .int)) (own := RX3) (by decide) rfl rfl (Nat.le_of_ble_eq_true rfl) (fun p e s m below meth c ls C0 hA hP hD hS hl => xb_X3_circledSeconds_0 C0 hA  hk s.heap [] ls hP hD hS hl)
set_option maxRecDepth 20000 in
theorem xin_X3_overlap_X3 : ∀ w ∈ u_ws RX3 TX3 1, w ∈ wsX3_overlap := by decide +kernel
set_option maxHeartbeats 4000000 in
set_option maxRecDepth 100000 in
theorem xb_X3_overlap_48 {p : Program} {l : Launch} {e : Env} {s : State} {m : MethodId} {args : Array Value} {below : List Frame} {meth : Method} {c : Code} {A : Nat → Prop} {D : va_G} {cI cC cZ cL : ClassId} {h h_cells : Nat}  {f_cells : Nat → Int32} {K : Int32 → Prop}  (C0 : xC p s m args meth c cX3_overlap 8 (some .int) wsX3_overlap RX3 D (xTY cI cC cZ cL)) (hA : ∀ q : Nat, s.heap.size ≤ q → A q)  : ∀ (t0 : Int32) (t1 : Int32) , xp_X3_overlap_48 f_cells K t0 t1 → ∀ (H : Heap) (locs : List Loc) (ls : Array Slot), va_P D vwCl [(h, .inr (3, [.ref h_cells])), (h_cells, .inl (cI, 400, .inl f_cells))] H → va_D A [(h, .inr (3, [.ref h_cells])), (h_cells, .inl (cI, 400, .inl f_cells))] → va_S A s.heap H locs → lv_has ls 8 [] → W p l e ({ frames := 1, cells := 0, slots := 0, locals := 23 } : Room) s m args below meth c H locs 0 0 (MQ below (va_Qi (fun (r : Int32) (_ : Unit) => K r) (fun u t => xE D A ((fun (_ : Unit) => [(h, .inr (3, [.ref h_cells])), (h_cells, .inl (cI, 400, .inl f_cells))]) u) t) A) args s 0 0 A) (F0 m 48 ls [.int t0, .int t1]) := by
  obtain ⟨hx, hb, hr, hml, hown, hts, hlocks, hK, hN⟩ := id C0
  intro t0 t1 hk H locs ls hP hD hS hl
  rw [xp_X3_overlap_48] at hk
  refine lv_isub hx hb dX3_overlap_48 ?_
  refine lv_istore (lv' := [(7, .int (t1 - t0))]) hx hb dX3_overlap_49 hl (by decide) rfl (fun ls hl => ?_)
  refine lv_iload hx hb dX3_overlap_51 (lv_at hl 0 rfl) ?_
  refine lv_if_le (tgt := 61) hx hb dX3_overlap_53 (by decide) (fun c1 => ?_) (fun c1 => ?_)
  · have hk := hk.1 c1
    refine lv_iconst (v := 0) hx hb dX3_overlap_61 (by decide) ?_
    exact x_reti C0 () hk hP hD hS dX3_overlap_62
  · have hk := hk.2 c1
    refine lv_iload hx hb dX3_overlap_56 (lv_at hl 0 rfl) ?_
    refine lv_goto (tgt := 62) hx hb dX3_overlap_58 (by decide) ?_
    exact x_reti C0 () hk hP hD hS dX3_overlap_62
set_option maxHeartbeats 4000000 in
set_option maxRecDepth 100000 in
theorem xb_X3_overlap_0 {p : Program} {l : Launch} {e : Env} {s : State} {m : MethodId} {args : Array Value} {below : List Frame} {meth : Method} {c : Code} {A : Nat → Prop} {D : va_G} {cI cC cZ cL : ClassId} {h h_cells : Nat}  {f_cells : Nat → Int32} {K : Int32 → Prop}  (C0 : xC p s m args meth c cX3_overlap 8 (some .int) wsX3_overlap RX3 D (xTY cI cC cZ cL)) (hA : ∀ q : Nat, s.heap.size ≤ q → A q)  : ∀ (x1 : Int32) (x2 : Int32) (x3 : Int32) (x4 : Int32) , xp_X3_overlap f_cells x1 x2 x3 x4 K → ∀ (H : Heap) (locs : List Loc) (ls : Array Slot), va_P D vwCl [(h, .inr (3, [.ref h_cells])), (h_cells, .inl (cI, 400, .inl f_cells))] H → va_D A [(h, .inr (3, [.ref h_cells])), (h_cells, .inl (cI, 400, .inl f_cells))] → va_S A s.heap H locs → lv_has ls 8 [(0, .ref h), (1, .int x1), (2, .int x2), (3, .int x3), (4, .int x4)] → W p l e ({ frames := 1, cells := 0, slots := 0, locals := 23 } : Room) s m args below meth c H locs 0 0 (MQ below (va_Qi (fun (r : Int32) (_ : Unit) => K r) (fun u t => xE D A ((fun (_ : Unit) => [(h, .inr (3, [.ref h_cells])), (h_cells, .inl (cI, 400, .inl f_cells))]) u) t) A) args s 0 0 A) (F0 m 0 ls []) := by
  obtain ⟨hx, hb, hr, hml, hown, hts, hlocks, hK, hN⟩ := id C0
  intro x1 x2 x3 x4 hk H locs ls hP hD hS hl
  rw [xp_X3_overlap] at hk
  refine lv_aload_n hx hb dX3_overlap_0 rfl (lv_at hl 0 rfl) ?_
  refine lv_iload_n hx hb dX3_overlap_1 rfl (lv_at hl 3 rfl) ?_
  refine lv_bipush (v := 13) hx hb dX3_overlap_2 (by decide) ?_
  refine x_joini (ws1 := fun (_ : Unit) => [(h, .inr (3, [.ref h_cells])), (h_cells, .inl (cI, 400, .inl f_cells))]) (x_runV (n0 := 2) (As := [.int x3, .int 13]) (rest := []) C0 (xc_X3_of l D cI cC cZ cL h h_cells H.size f_cells x3 13 _ hk) gX3_overlap_X3_of rfl ⟨rfl, rfl⟩ (by decide +kernel) rfl ⟨by decide, by decide⟩ ⟨Nat.zero_le _, Nat.zero_le _⟩ hP hD [0, 1] rfl rfl (k := 0) rfl rfl rfl hl.1 rfl (Nat.le_of_ble_eq_true rfl) dX3_overlap_4) hP hD hS hA [0, 1] [] [0, 1] rfl rfl rfl (by decide) (fun _ => rfl) rfl (fun r1 u1 H locs hk hP hD hS => ?_)
  refine lv_iload hx hb dX3_overlap_7 (lv_at hl 4 rfl) ?_
  refine lv_iadd hx hb dX3_overlap_9 ?_
  refine lv_istore (lv' := [(5, .int (r1 + x4)), (0, .ref h), (1, .int x1), (2, .int x2), (3, .int x3), (4, .int x4)]) hx hb dX3_overlap_10 hl (by decide) rfl (fun ls hl => ?_)
  refine lv_iload hx hb dX3_overlap_12 (lv_at hl 0 rfl) ?_
  refine lv_aload_n hx hb dX3_overlap_14 rfl (lv_at hl 1 rfl) ?_
  refine lv_iload_n hx hb dX3_overlap_15 rfl (lv_at hl 4 rfl) ?_
  refine lv_bipush (v := 8) hx hb dX3_overlap_16 (by decide) ?_
  refine x_joini (ws1 := fun (_ : Unit) => [(h, .inr (3, [.ref h_cells])), (h_cells, .inl (cI, 400, .inl f_cells))]) (x_runV (n0 := 2) (As := [.int x3, .int 8]) (rest := [.int (r1 + x4)]) C0 (xc_X3_of l D cI cC cZ cL h h_cells H.size f_cells x3 8 _ hk) gX3_overlap_X3_of rfl ⟨rfl, rfl⟩ (by decide +kernel) rfl ⟨by decide, by decide⟩ ⟨Nat.zero_le _, Nat.zero_le _⟩ hP hD [0, 1] rfl rfl (k := 0) rfl rfl rfl hl.1 rfl (Nat.le_of_ble_eq_true rfl) dX3_overlap_18) hP hD hS hA [0, 1] [] [0, 1] rfl rfl rfl (by decide) (fun _ => rfl) rfl (fun r2 u2 H locs hk hP hD hS => ?_)
  refine lv_iadd hx hb dX3_overlap_21 ?_
  refine lv_istore (lv' := [(6, .int ((r1 + x4) + r2)), (5, .int (r1 + x4)), (0, .ref h), (1, .int x1), (2, .int x2), (3, .int x3), (4, .int x4)]) hx hb dX3_overlap_22 hl (by decide) rfl (fun ls hl => ?_)
  refine lv_iload hx hb dX3_overlap_24 (lv_at hl 0 rfl) ?_
  refine lv_iload_n hx hb dX3_overlap_26 rfl (lv_at hl 4 rfl) ?_
  refine lv_icmp_ge (tgt := 35) hx hb dX3_overlap_27 (by decide) (fun c3 => ?_) (fun c3 => ?_)
  · have hk := hk.1 c3
    refine lv_iload_n hx hb dX3_overlap_35 rfl (lv_at hl 4 rfl) ?_
    refine lv_iload hx hb dX3_overlap_36 (lv_at hl 1 rfl) ?_
    refine lv_iload_n hx hb dX3_overlap_38 rfl (lv_at hl 3 rfl) ?_
    refine lv_icmp_le (tgt := 47) hx hb dX3_overlap_39 (by decide) (fun c4 => ?_) (fun c4 => ?_)
    · have hk := hk.1 c4
      refine lv_iload_n hx hb dX3_overlap_47 rfl (lv_at hl 3 rfl) ?_
      exact xb_X3_overlap_48 C0 hA  _ _ hk H locs ls hP hD hS (lv_sub hl [] rfl)
    · have hk := hk.2 c4
      refine lv_iload hx hb dX3_overlap_42 (lv_at hl 1 rfl) ?_
      refine lv_goto (tgt := 48) hx hb dX3_overlap_44 (by decide) ?_
      exact xb_X3_overlap_48 C0 hA  _ _ hk H locs ls hP hD hS (lv_sub hl [] rfl)
  · have hk := hk.2 c3
    refine lv_iload hx hb dX3_overlap_30 (lv_at hl 0 rfl) ?_
    refine lv_goto (tgt := 36) hx hb dX3_overlap_32 (by decide) ?_
    refine lv_iload hx hb dX3_overlap_36 (lv_at hl 1 rfl) ?_
    refine lv_iload_n hx hb dX3_overlap_38 rfl (lv_at hl 3 rfl) ?_
    refine lv_icmp_le (tgt := 47) hx hb dX3_overlap_39 (by decide) (fun c5 => ?_) (fun c5 => ?_)
    · have hk := hk.1 c5
      refine lv_iload_n hx hb dX3_overlap_47 rfl (lv_at hl 3 rfl) ?_
      exact xb_X3_overlap_48 C0 hA  _ _ hk H locs ls hP hD hS (lv_sub hl [] rfl)
    · have hk := hk.2 c5
      refine lv_iload hx hb dX3_overlap_42 (lv_at hl 1 rfl) ?_
      refine lv_goto (tgt := 48) hx hb dX3_overlap_44 (by decide) ?_
      exact xb_X3_overlap_48 C0 hA  _ _ hk H locs ls hP hD hS (lv_sub hl [] rfl)
theorem xc_X3_overlap (l : Launch) (D : va_G) (cI cC cZ cL : ClassId) (h h_cells : Nat)  (sz : Nat) (f_cells : Nat → Int32) (x1 : Int32) (x2 : Int32) (x3 : Int32) (x4 : Int32) (K : Int32 → Prop) (hk : xp_X3_overlap f_cells x1 x2 x3 x4 K) : XMi l yX3_overlap wsX3_overlap ({ frames := 1, cells := 0, slots := 0, locals := 23 } : Room) D (xTY cI cC cZ cL) [.ref h, .int x1, .int x2, .int x3, .int x4] [(h, .inr (3, [.ref h_cells])), (h_cells, .inl (cI, 400, .inl f_cells))] sz (fun (r : Int32) (_ : Unit) => K r) (fun (_ : Unit) => [(h, .inr (3, [.ref h_cells])), (h_cells, .inl (cI, 400, .inl f_cells))]) :=
  x_enter (cc := cX3_overlap) (maxL := 8) (ret := (some .int)) (own := RX3) (by decide) rfl rfl (Nat.le_of_ble_eq_true rfl) (fun p e s m below meth c ls C0 hA hP hD hS hl => xb_X3_overlap_0 C0 hA _ _ _ _ hk s.heap [] ls hP hD hS hl)
set_option maxRecDepth 20000 in
theorem xin_X3_soundFor_X3 : ∀ w ∈ u_ws RX3 TX3 1, w ∈ wsX3_soundFor := by decide +kernel
set_option maxHeartbeats 4000000 in
set_option maxRecDepth 100000 in
theorem xb_X3_soundFor_60 {p : Program} {l : Launch} {e : Env} {s : State} {m : MethodId} {args : Array Value} {below : List Frame} {meth : Method} {c : Code} {A : Nat → Prop} {D : va_G} {cI cC cZ cL : ClassId} {h h_cells : Nat}  {f_cells : Nat → Int32} {K : Int32 → Prop} {X28 : Int32 → Int32 → Int32 → Int32 → Int32 → Int32 → Prop} (C0 : xC p s m args meth c cX3_soundFor 9 (some .int) wsX3_soundFor RX3 D (xTY cI cC cZ cL)) (hA : ∀ q : Nat, s.heap.size ≤ q → A q) (hX28 : ∀ (v2 : Int32) (v3 : Int32) (v4 : Int32) (v5 : Int32) (v6 : Int32) (v7 : Int32), X28 v2 v3 v4 v5 v6 v7 → ∀ (H : Heap) (locs : List Loc) (ls : Array Slot), va_P D vwCl [(h, .inr (3, [.ref h_cells])), (h_cells, .inl (cI, 400, .inl f_cells))] H → va_D A [(h, .inr (3, [.ref h_cells])), (h_cells, .inl (cI, 400, .inl f_cells))] → va_S A s.heap H locs → lv_has ls 9 [(0, .ref h), (2, .int v2), (3, .int v3), (4, .int v4), (5, .int v5), (6, .int v6), (7, .int v7)] → W p l e ({ frames := 2, cells := 0, slots := 0, locals := 50 } : Room) s m args below meth c H locs 0 0 (MQ below (va_Qi (fun (r : Int32) (_ : Unit) => K r) (fun u t => xE D A ((fun (_ : Unit) => [(h, .inr (3, [.ref h_cells])), (h_cells, .inl (cI, 400, .inl f_cells))]) u) t) A) args s 0 0 A) (F0 m 28 ls [])) : ∀ (v2 : Int32) (v3 : Int32) (v4 : Int32) (v5 : Int32) (v6 : Int32) (v7 : Int32) (t0 : Int32) , xp_X3_soundFor_60 f_cells K X28 v2 v3 v4 v5 v6 v7 t0 → ∀ (H : Heap) (locs : List Loc) (ls : Array Slot), va_P D vwCl [(h, .inr (3, [.ref h_cells])), (h_cells, .inl (cI, 400, .inl f_cells))] H → va_D A [(h, .inr (3, [.ref h_cells])), (h_cells, .inl (cI, 400, .inl f_cells))] → va_S A s.heap H locs → lv_has ls 9 [(0, .ref h), (2, .int v2), (3, .int v3), (4, .int v4), (5, .int v5), (6, .int v6), (7, .int v7)] → W p l e ({ frames := 2, cells := 0, slots := 0, locals := 50 } : Room) s m args below meth c H locs 0 0 (MQ below (va_Qi (fun (r : Int32) (_ : Unit) => K r) (fun u t => xE D A ((fun (_ : Unit) => [(h, .inr (3, [.ref h_cells])), (h_cells, .inl (cI, 400, .inl f_cells))]) u) t) A) args s 0 0 A) (F0 m 60 ls [.int t0]) := by
  obtain ⟨hx, hb, hr, hml, hown, hts, hlocks, hK, hN⟩ := id C0
  intro v2 v3 v4 v5 v6 v7 t0 hk H locs ls hP hD hS hl
  rw [xp_X3_soundFor_60] at hk
  refine lv_istore (lv' := [(8, .int t0), (0, .ref h), (2, .int v2), (3, .int v3), (4, .int v4), (5, .int v5), (6, .int v6), (7, .int v7)]) hx hb dX3_soundFor_60 hl (by decide) rfl (fun ls hl => ?_)
  refine lv_iload hx hb dX3_soundFor_62 (lv_at hl 0 rfl) ?_
  refine lv_iload hx hb dX3_soundFor_64 (lv_at hl 6 rfl) ?_
  refine lv_icmp_le (tgt := 77) hx hb dX3_soundFor_66 (by decide) (fun c1 => ?_) (fun c1 => ?_)
  · have hk := hk.1 c1
    refine lv_iinc (v := (v7 + 1)) (lv' := [(7, .int (v7 + 1)), (8, .int t0), (0, .ref h), (2, .int v2), (3, .int v3), (4, .int v4), (5, .int v5), (6, .int v6)]) hx hb dX3_soundFor_77 hl (k := 7) rfl rfl (by decide) rfl (fun ls hl => ?_)
    refine lv_goto (tgt := 28) hx hb dX3_soundFor_80 (by decide) ?_
    exact hX28 _ _ _ _ _ _ hk H locs ls hP hD hS (lv_sub hl [2, 3, 4, 5, 6, 7, 0] rfl)
  · have hk := hk.2 c1
    refine lv_iload hx hb dX3_soundFor_69 (lv_at hl 0 rfl) ?_
    refine lv_istore (lv' := [(6, .int t0), (8, .int t0), (0, .ref h), (2, .int v2), (3, .int v3), (4, .int v4), (5, .int v5), (7, .int v7)]) hx hb dX3_soundFor_71 hl (by decide) rfl (fun ls hl => ?_)
    refine lv_iload hx hb dX3_soundFor_73 (lv_at hl 7 rfl) ?_
    refine lv_istore (lv' := [(5, .int v7), (6, .int t0), (8, .int t0), (0, .ref h), (2, .int v2), (3, .int v3), (4, .int v4), (7, .int v7)]) hx hb dX3_soundFor_75 hl (by decide) rfl (fun ls hl => ?_)
    refine lv_iinc (v := (v7 + 1)) (lv' := [(7, .int (v7 + 1)), (5, .int v7), (6, .int t0), (8, .int t0), (0, .ref h), (2, .int v2), (3, .int v3), (4, .int v4)]) hx hb dX3_soundFor_77 hl (k := 7) rfl rfl (by decide) rfl (fun ls hl => ?_)
    refine lv_goto (tgt := 28) hx hb dX3_soundFor_80 (by decide) ?_
    exact hX28 _ _ _ _ _ _ hk H locs ls hP hD hS (lv_sub hl [4, 5, 6, 7, 1, 2, 0] rfl)
set_option maxHeartbeats 4000000 in
set_option maxRecDepth 100000 in
theorem xb_X3_soundFor_28 {p : Program} {l : Launch} {e : Env} {s : State} {m : MethodId} {args : Array Value} {below : List Frame} {meth : Method} {c : Code} {A : Nat → Prop} {D : va_G} {cI cC cZ cL : ClassId} {h h_cells : Nat}  {f_cells : Nat → Int32} {K : Int32 → Prop}  (C0 : xC p s m args meth c cX3_soundFor 9 (some .int) wsX3_soundFor RX3 D (xTY cI cC cZ cL)) (hA : ∀ q : Nat, s.heap.size ≤ q → A q)  : ∀ (n : Nat) (v2 : Int32) (v3 : Int32) (v4 : Int32) (v5 : Int32) (v6 : Int32) (v7 : Int32) , xp_X3_soundFor_28 f_cells K n v2 v3 v4 v5 v6 v7 → ∀ (H : Heap) (locs : List Loc) (ls : Array Slot), va_P D vwCl [(h, .inr (3, [.ref h_cells])), (h_cells, .inl (cI, 400, .inl f_cells))] H → va_D A [(h, .inr (3, [.ref h_cells])), (h_cells, .inl (cI, 400, .inl f_cells))] → va_S A s.heap H locs → lv_has ls 9 [(0, .ref h), (2, .int v2), (3, .int v3), (4, .int v4), (5, .int v5), (6, .int v6), (7, .int v7)] → W p l e ({ frames := 2, cells := 0, slots := 0, locals := 50 } : Room) s m args below meth c H locs 0 0 (MQ below (va_Qi (fun (r : Int32) (_ : Unit) => K r) (fun u t => xE D A ((fun (_ : Unit) => [(h, .inr (3, [.ref h_cells])), (h_cells, .inl (cI, 400, .inl f_cells))]) u) t) A) args s 0 0 A) (F0 m 28 ls []) := by
  obtain ⟨hx, hb, hr, hml, hown, hts, hlocks, hK, hN⟩ := id C0
  intro n
  induction n with
  | zero => intro v2 v3 v4 v5 v6 v7 hk; exact hk.elim
  | succ n ih =>
    intro v2 v3 v4 v5 v6 v7 hk H locs ls hP hD hS hl
    rw [xp_X3_soundFor_28] at hk
    refine lv_iload hx hb dX3_soundFor_28 (lv_at hl 6 rfl) ?_
    refine lv_aload_n hx hb dX3_soundFor_30 rfl (lv_at hl 0 rfl) ?_
    refine x_joini (ws1 := fun (_ : Unit) => [(h, .inr (3, [.ref h_cells])), (h_cells, .inl (cI, 400, .inl f_cells))]) (x_runV (n0 := 0) (As := []) (rest := [.int v7]) C0 (xc_X3_takes l D cI cC cZ cL h h_cells H.size f_cells _ hk) gX3_soundFor_X3_takes rfl ⟨rfl, rfl⟩ (by decide +kernel) rfl ⟨by decide, by decide⟩ ⟨Nat.zero_le _, Nat.zero_le _⟩ hP hD [0, 1] rfl rfl (k := 0) rfl rfl rfl hl.1 rfl (Nat.le_of_ble_eq_true rfl) dX3_soundFor_31) hP hD hS hA [0, 1] [] [0, 1] rfl rfl rfl (by decide) (fun _ => rfl) rfl (fun r1 u1 H locs hk hP hD hS => ?_)
    refine lv_icmp_ge (tgt := 83) hx hb dX3_soundFor_34 (by decide) (fun c2 => ?_) (fun c2 => ?_)
    · have hk := hk.1 c2
      refine lv_iload hx hb dX3_soundFor_83 (lv_at hl 4 rfl) ?_
      exact x_reti C0 () hk hP hD hS dX3_soundFor_85
    · have hk := hk.2 c2
      refine lv_aload_n hx hb dX3_soundFor_37 rfl (lv_at hl 0 rfl) ?_
      refine lv_iload hx hb dX3_soundFor_38 (lv_at hl 6 rfl) ?_
      refine x_joini (ws1 := fun (_ : Unit) => [(h, .inr (3, [.ref h_cells])), (h_cells, .inl (cI, 400, .inl f_cells))]) (x_runV (n0 := 1) (As := [.int v7]) (rest := []) C0 (xc_X3_hasSound l D cI cC cZ cL h h_cells H.size f_cells v7 _ hk) gX3_soundFor_X3_hasSound rfl ⟨rfl, rfl⟩ (by decide +kernel) rfl ⟨by decide, by decide⟩ ⟨Nat.zero_le _, Nat.zero_le _⟩ hP hD [0, 1] rfl rfl (k := 0) rfl rfl rfl hl.1 rfl (Nat.le_of_ble_eq_true rfl) dX3_soundFor_40) hP hD hS hA [0, 1] [] [0, 1] rfl rfl rfl (by decide) (fun _ => rfl) rfl (fun r3 u3 H locs hk hP hD hS => ?_)
      refine lv_if_eq (tgt := 59) hx hb dX3_soundFor_43 (by decide) (fun c4 => ?_) (fun c4 => ?_)
      · have hk := hk.1 c4
        refine lv_iconst (v := 0) hx hb dX3_soundFor_59 (by decide) ?_
        exact xb_X3_soundFor_60 C0 hA ih _ _ _ _ _ _ _ hk H locs ls hP hD hS (lv_sub hl [0, 1, 2, 3, 4, 5, 6] rfl)
      · have hk := hk.2 c4
        refine lv_aload_n hx hb dX3_soundFor_46 rfl (lv_at hl 0 rfl) ?_
        refine lv_iload_n hx hb dX3_soundFor_47 rfl (lv_at hl 2 rfl) ?_
        refine lv_iload hx hb dX3_soundFor_48 (lv_at hl 3 rfl) ?_
        refine lv_iload hx hb dX3_soundFor_50 (lv_at hl 6 rfl) ?_
        refine lv_iload_n hx hb dX3_soundFor_52 rfl (lv_at hl 1 rfl) ?_
        refine x_joini (ws1 := fun (_ : Unit) => [(h, .inr (3, [.ref h_cells])), (h_cells, .inl (cI, 400, .inl f_cells))]) (x_runV (n0 := 4) (As := [.int v3, .int v4, .int v7, .int v2]) (rest := []) C0 (xc_X3_overlap l D cI cC cZ cL h h_cells H.size f_cells v3 v4 v7 v2 _ hk) gX3_soundFor_X3_overlap rfl ⟨rfl, rfl⟩ (by decide +kernel) rfl ⟨by decide, by decide⟩ ⟨Nat.zero_le _, Nat.zero_le _⟩ hP hD [0, 1] rfl rfl (k := 0) rfl rfl rfl hl.1 rfl (Nat.le_of_ble_eq_true rfl) dX3_soundFor_53) hP hD hS hA [0, 1] [] [0, 1] rfl rfl rfl (by decide) (fun _ => rfl) rfl (fun r5 u5 H locs hk hP hD hS => ?_)
        refine lv_goto (tgt := 60) hx hb dX3_soundFor_56 (by decide) ?_
        exact xb_X3_soundFor_60 C0 hA ih _ _ _ _ _ _ _ hk H locs ls hP hD hS (lv_sub hl [0, 1, 2, 3, 4, 5, 6] rfl)
set_option maxHeartbeats 4000000 in
set_option maxRecDepth 100000 in
theorem xb_X3_soundFor_0 {p : Program} {l : Launch} {e : Env} {s : State} {m : MethodId} {args : Array Value} {below : List Frame} {meth : Method} {c : Code} {A : Nat → Prop} {D : va_G} {cI cC cZ cL : ClassId} {h h_cells : Nat}  {f_cells : Nat → Int32} {K : Int32 → Prop}  (C0 : xC p s m args meth c cX3_soundFor 9 (some .int) wsX3_soundFor RX3 D (xTY cI cC cZ cL)) (hA : ∀ q : Nat, s.heap.size ≤ q → A q)  : ∀ (x1 : Int32) (x2 : Int32) , xp_X3_soundFor f_cells x1 x2 K → ∀ (H : Heap) (locs : List Loc) (ls : Array Slot), va_P D vwCl [(h, .inr (3, [.ref h_cells])), (h_cells, .inl (cI, 400, .inl f_cells))] H → va_D A [(h, .inr (3, [.ref h_cells])), (h_cells, .inl (cI, 400, .inl f_cells))] → va_S A s.heap H locs → lv_has ls 9 [(0, .ref h), (1, .int x1), (2, .int x2)] → W p l e ({ frames := 2, cells := 0, slots := 0, locals := 50 } : Room) s m args below meth c H locs 0 0 (MQ below (va_Qi (fun (r : Int32) (_ : Unit) => K r) (fun u t => xE D A ((fun (_ : Unit) => [(h, .inr (3, [.ref h_cells])), (h_cells, .inl (cI, 400, .inl f_cells))]) u) t) A) args s 0 0 A) (F0 m 0 ls []) := by
  obtain ⟨hx, hb, hr, hml, hown, hts, hlocks, hK, hN⟩ := id C0
  intro x1 x2 hk H locs ls hP hD hS hl
  rw [xp_X3_soundFor] at hk
  refine lv_aload_n hx hb dX3_soundFor_0 rfl (lv_at hl 0 rfl) ?_
  refine lv_iload_n hx hb dX3_soundFor_1 rfl (lv_at hl 1 rfl) ?_
  refine lv_bipush (v := 12) hx hb dX3_soundFor_2 (by decide) ?_
  refine x_joini (ws1 := fun (_ : Unit) => [(h, .inr (3, [.ref h_cells])), (h_cells, .inl (cI, 400, .inl f_cells))]) (x_runV (n0 := 2) (As := [.int x1, .int 12]) (rest := []) C0 (xc_X3_of l D cI cC cZ cL h h_cells H.size f_cells x1 12 _ hk) gX3_soundFor_X3_of rfl ⟨rfl, rfl⟩ (by decide +kernel) rfl ⟨by decide, by decide⟩ ⟨Nat.zero_le _, Nat.zero_le _⟩ hP hD [0, 1] rfl rfl (k := 0) rfl rfl rfl hl.1 rfl (Nat.le_of_ble_eq_true rfl) dX3_soundFor_4) hP hD hS hA [0, 1] [] [0, 1] rfl rfl rfl (by decide) (fun _ => rfl) rfl (fun r1 u1 H locs hk hP hD hS => ?_)
  refine lv_istore_n (lv' := [(3, .int r1), (0, .ref h), (1, .int x1), (2, .int x2)]) hx hb dX3_soundFor_7 rfl hl (by decide) rfl (fun ls hl => ?_)
  refine lv_iload_n hx hb dX3_soundFor_8 rfl (lv_at hl 0 rfl) ?_
  refine lv_aload_n hx hb dX3_soundFor_9 rfl (lv_at hl 1 rfl) ?_
  refine lv_iload_n hx hb dX3_soundFor_10 rfl (lv_at hl 2 rfl) ?_
  refine lv_bipush (v := 8) hx hb dX3_soundFor_11 (by decide) ?_
  refine x_joini (ws1 := fun (_ : Unit) => [(h, .inr (3, [.ref h_cells])), (h_cells, .inl (cI, 400, .inl f_cells))]) (x_runV (n0 := 2) (As := [.int x1, .int 8]) (rest := [.int r1]) C0 (xc_X3_of l D cI cC cZ cL h h_cells H.size f_cells x1 8 _ hk) gX3_soundFor_X3_of rfl ⟨rfl, rfl⟩ (by decide +kernel) rfl ⟨by decide, by decide⟩ ⟨Nat.zero_le _, Nat.zero_le _⟩ hP hD [0, 1] rfl rfl (k := 0) rfl rfl rfl hl.1 rfl (Nat.le_of_ble_eq_true rfl) dX3_soundFor_13) hP hD hS hA [0, 1] [] [0, 1] rfl rfl rfl (by decide) (fun _ => rfl) rfl (fun r2 u2 H locs hk hP hD hS => ?_)
  refine lv_iadd hx hb dX3_soundFor_16 ?_
  refine lv_istore (lv' := [(4, .int (r1 + r2)), (3, .int r1), (0, .ref h), (1, .int x1), (2, .int x2)]) hx hb dX3_soundFor_17 hl (by decide) rfl (fun ls hl => ?_)
  refine lv_iconst (v := (-1 : Int32)) hx hb dX3_soundFor_19 (by decide) ?_
  refine lv_istore (lv' := [(5, .int (-1 : Int32)), (4, .int (r1 + r2)), (3, .int r1), (0, .ref h), (1, .int x1), (2, .int x2)]) hx hb dX3_soundFor_20 hl (by decide) rfl (fun ls hl => ?_)
  refine lv_iconst (v := 0) hx hb dX3_soundFor_22 (by decide) ?_
  refine lv_istore (lv' := [(6, .int 0), (5, .int (-1 : Int32)), (4, .int (r1 + r2)), (3, .int r1), (0, .ref h), (1, .int x1), (2, .int x2)]) hx hb dX3_soundFor_23 hl (by decide) rfl (fun ls hl => ?_)
  refine lv_iconst (v := 0) hx hb dX3_soundFor_25 (by decide) ?_
  refine lv_istore (lv' := [(7, .int 0), (6, .int 0), (5, .int (-1 : Int32)), (4, .int (r1 + r2)), (3, .int r1), (0, .ref h), (1, .int x1), (2, .int x2)]) hx hb dX3_soundFor_26 hl (by decide) rfl (fun ls hl => ?_)
  obtain ⟨n9, hk⟩ := hk
  exact xb_X3_soundFor_28 C0 hA  n9 _ _ _ _ _ _ hk H locs ls hP hD hS (lv_sub hl [5, 7, 4, 3, 2, 1, 0] rfl)
theorem xc_X3_soundFor (l : Launch) (D : va_G) (cI cC cZ cL : ClassId) (h h_cells : Nat)  (sz : Nat) (f_cells : Nat → Int32) (x1 : Int32) (x2 : Int32) (K : Int32 → Prop) (hk : xp_X3_soundFor f_cells x1 x2 K) : XMi l yX3_soundFor wsX3_soundFor ({ frames := 2, cells := 0, slots := 0, locals := 50 } : Room) D (xTY cI cC cZ cL) [.ref h, .int x1, .int x2] [(h, .inr (3, [.ref h_cells])), (h_cells, .inl (cI, 400, .inl f_cells))] sz (fun (r : Int32) (_ : Unit) => K r) (fun (_ : Unit) => [(h, .inr (3, [.ref h_cells])), (h_cells, .inl (cI, 400, .inl f_cells))]) :=
  x_enter (cc := cX3_soundFor) (maxL := 9) (ret := (some .int)) (own := RX3) (by decide) rfl rfl (Nat.le_of_ble_eq_true rfl) (fun p e s m below meth c ls C0 hA hP hD hS hl => xb_X3_soundFor_0 C0 hA _ _ hk s.heap [] ls hP hD hS hl)
set_option maxRecDepth 20000 in
theorem xin_X3_unlikeSounds_X3 : ∀ w ∈ u_ws RX3 TX3 1, w ∈ wsX3_unlikeSounds := by decide +kernel
set_option maxHeartbeats 4000000 in
set_option maxRecDepth 100000 in
theorem xb_X3_unlikeSounds_4 {p : Program} {l : Launch} {e : Env} {s : State} {m : MethodId} {args : Array Value} {below : List Frame} {meth : Method} {c : Code} {A : Nat → Prop} {D : va_G} {cI cC cZ cL : ClassId} {h h_cells : Nat}  {f_cells : Nat → Int32} {K : Int32 → Prop}  (C0 : xC p s m args meth c cX3_unlikeSounds 3 (some .int) wsX3_unlikeSounds RX3 D (xTY cI cC cZ cL)) (hA : ∀ q : Nat, s.heap.size ≤ q → A q)  : ∀ (n : Nat) (v1 : Int32) (v2 : Int32) , xp_X3_unlikeSounds_4 f_cells K n v1 v2 → ∀ (H : Heap) (locs : List Loc) (ls : Array Slot), va_P D vwCl [(h, .inr (3, [.ref h_cells])), (h_cells, .inl (cI, 400, .inl f_cells))] H → va_D A [(h, .inr (3, [.ref h_cells])), (h_cells, .inl (cI, 400, .inl f_cells))] → va_S A s.heap H locs → lv_has ls 3 [(0, .ref h), (1, .int v1), (2, .int v2)] → W p l e ({ frames := 3, cells := 0, slots := 0, locals := 78 } : Room) s m args below meth c H locs 0 0 (MQ below (va_Qi (fun (r : Int32) (_ : Unit) => K r) (fun u t => xE D A ((fun (_ : Unit) => [(h, .inr (3, [.ref h_cells])), (h_cells, .inl (cI, 400, .inl f_cells))]) u) t) A) args s 0 0 A) (F0 m 4 ls []) := by
  obtain ⟨hx, hb, hr, hml, hown, hts, hlocks, hK, hN⟩ := id C0
  intro n
  induction n with
  | zero => intro v1 v2 hk; exact hk.elim
  | succ n ih =>
    intro v1 v2 hk H locs ls hP hD hS hl
    rw [xp_X3_unlikeSounds_4] at hk
    refine lv_iload_n hx hb dX3_unlikeSounds_4 rfl (lv_at hl 2 rfl) ?_
    refine lv_aload_n hx hb dX3_unlikeSounds_5 rfl (lv_at hl 0 rfl) ?_
    refine x_joini (ws1 := fun (_ : Unit) => [(h, .inr (3, [.ref h_cells])), (h_cells, .inl (cI, 400, .inl f_cells))]) (x_runV (n0 := 0) (As := []) (rest := [.int v2]) C0 (xc_X3_takes l D cI cC cZ cL h h_cells H.size f_cells _ hk) gX3_unlikeSounds_X3_takes rfl ⟨rfl, rfl⟩ (by decide +kernel) rfl ⟨by decide, by decide⟩ ⟨Nat.zero_le _, Nat.zero_le _⟩ hP hD [0, 1] rfl rfl (k := 0) rfl rfl rfl hl.1 rfl (Nat.le_of_ble_eq_true rfl) dX3_unlikeSounds_6) hP hD hS hA [0, 1] [] [0, 1] rfl rfl rfl (by decide) (fun _ => rfl) rfl (fun r1 u1 H locs hk hP hD hS => ?_)
    refine lv_icmp_ge (tgt := 43) hx hb dX3_unlikeSounds_9 (by decide) (fun c2 => ?_) (fun c2 => ?_)
    · have hk := hk.1 c2
      refine lv_iload_n hx hb dX3_unlikeSounds_43 rfl (lv_at hl 1 rfl) ?_
      exact x_reti C0 () hk hP hD hS dX3_unlikeSounds_44
    · have hk := hk.2 c2
      refine lv_aload_n hx hb dX3_unlikeSounds_12 rfl (lv_at hl 0 rfl) ?_
      refine lv_iload_n hx hb dX3_unlikeSounds_13 rfl (lv_at hl 2 rfl) ?_
      refine lv_iconst (v := 0) hx hb dX3_unlikeSounds_14 (by decide) ?_
      refine x_joini (ws1 := fun (_ : Unit) => [(h, .inr (3, [.ref h_cells])), (h_cells, .inl (cI, 400, .inl f_cells))]) (x_runV (n0 := 2) (As := [.int v2, .int 0]) (rest := []) C0 (xc_X3_soundFor l D cI cC cZ cL h h_cells H.size f_cells v2 0 _ hk) gX3_unlikeSounds_X3_soundFor rfl ⟨rfl, rfl⟩ (by decide +kernel) rfl ⟨by decide, by decide⟩ ⟨Nat.zero_le _, Nat.zero_le _⟩ hP hD [0, 1] rfl rfl (k := 0) rfl rfl rfl hl.1 rfl (Nat.le_of_ble_eq_true rfl) dX3_unlikeSounds_15) hP hD hS hA [0, 1] [] [0, 1] rfl rfl rfl (by decide) (fun _ => rfl) rfl (fun r3 u3 H locs hk hP hD hS => ?_)
      refine lv_aload_n hx hb dX3_unlikeSounds_18 rfl (lv_at hl 0 rfl) ?_
      refine lv_iload_n hx hb dX3_unlikeSounds_19 rfl (lv_at hl 2 rfl) ?_
      refine x_joini (ws1 := fun (_ : Unit) => [(h, .inr (3, [.ref h_cells])), (h_cells, .inl (cI, 400, .inl f_cells))]) (x_runV (n0 := 1) (As := [.int v2]) (rest := [.int r3]) C0 (xc_X3_hasSound l D cI cC cZ cL h h_cells H.size f_cells v2 _ hk) gX3_unlikeSounds_X3_hasSound rfl ⟨rfl, rfl⟩ (by decide +kernel) rfl ⟨by decide, by decide⟩ ⟨Nat.zero_le _, Nat.zero_le _⟩ hP hD [0, 1] rfl rfl (k := 0) rfl rfl rfl hl.1 rfl (Nat.le_of_ble_eq_true rfl) dX3_unlikeSounds_20) hP hD hS hA [0, 1] [] [0, 1] rfl rfl rfl (by decide) (fun _ => rfl) rfl (fun r4 u4 H locs hk hP hD hS => ?_)
      refine lv_if_eq (tgt := 30) hx hb dX3_unlikeSounds_23 (by decide) (fun c5 => ?_) (fun c5 => ?_)
      · have hk := hk.1 c5
        refine lv_iconst (v := (-1 : Int32)) hx hb dX3_unlikeSounds_30 (by decide) ?_
        refine lv_icmp_eq (tgt := 37) hx hb dX3_unlikeSounds_31 (by decide) (fun c6 => ?_) (fun c6 => ?_)
        · have hk := hk.1 c6
          refine lv_iinc (v := (v2 + 1)) (lv' := [(2, .int (v2 + 1)), (0, .ref h), (1, .int v1)]) hx hb dX3_unlikeSounds_37 hl (k := 2) rfl rfl (by decide) rfl (fun ls hl => ?_)
          refine lv_goto (tgt := 4) hx hb dX3_unlikeSounds_40 (by decide) ?_
          exact ih _ _ hk H locs ls hP hD hS (lv_sub hl [1, 2, 0] rfl)
        · have hk := hk.2 c6
          refine lv_iinc (v := (v1 + 1)) (lv' := [(1, .int (v1 + 1)), (0, .ref h), (2, .int v2)]) hx hb dX3_unlikeSounds_34 hl (k := 1) rfl rfl (by decide) rfl (fun ls hl => ?_)
          refine lv_iinc (v := (v2 + 1)) (lv' := [(2, .int (v2 + 1)), (1, .int (v1 + 1)), (0, .ref h)]) hx hb dX3_unlikeSounds_37 hl (k := 2) rfl rfl (by decide) rfl (fun ls hl => ?_)
          refine lv_goto (tgt := 4) hx hb dX3_unlikeSounds_40 (by decide) ?_
          exact ih _ _ hk H locs ls hP hD hS (lv_sub hl [2, 1, 0] rfl)
      · have hk := hk.2 c5
        refine lv_iload_n hx hb dX3_unlikeSounds_26 rfl (lv_at hl 2 rfl) ?_
        refine lv_goto (tgt := 31) hx hb dX3_unlikeSounds_27 (by decide) ?_
        refine lv_icmp_eq (tgt := 37) hx hb dX3_unlikeSounds_31 (by decide) (fun c7 => ?_) (fun c7 => ?_)
        · have hk := hk.1 c7
          refine lv_iinc (v := (v2 + 1)) (lv' := [(2, .int (v2 + 1)), (0, .ref h), (1, .int v1)]) hx hb dX3_unlikeSounds_37 hl (k := 2) rfl rfl (by decide) rfl (fun ls hl => ?_)
          refine lv_goto (tgt := 4) hx hb dX3_unlikeSounds_40 (by decide) ?_
          exact ih _ _ hk H locs ls hP hD hS (lv_sub hl [1, 2, 0] rfl)
        · have hk := hk.2 c7
          refine lv_iinc (v := (v1 + 1)) (lv' := [(1, .int (v1 + 1)), (0, .ref h), (2, .int v2)]) hx hb dX3_unlikeSounds_34 hl (k := 1) rfl rfl (by decide) rfl (fun ls hl => ?_)
          refine lv_iinc (v := (v2 + 1)) (lv' := [(2, .int (v2 + 1)), (1, .int (v1 + 1)), (0, .ref h)]) hx hb dX3_unlikeSounds_37 hl (k := 2) rfl rfl (by decide) rfl (fun ls hl => ?_)
          refine lv_goto (tgt := 4) hx hb dX3_unlikeSounds_40 (by decide) ?_
          exact ih _ _ hk H locs ls hP hD hS (lv_sub hl [2, 1, 0] rfl)
set_option maxHeartbeats 4000000 in
set_option maxRecDepth 100000 in
theorem xb_X3_unlikeSounds_0 {p : Program} {l : Launch} {e : Env} {s : State} {m : MethodId} {args : Array Value} {below : List Frame} {meth : Method} {c : Code} {A : Nat → Prop} {D : va_G} {cI cC cZ cL : ClassId} {h h_cells : Nat}  {f_cells : Nat → Int32} {K : Int32 → Prop}  (C0 : xC p s m args meth c cX3_unlikeSounds 3 (some .int) wsX3_unlikeSounds RX3 D (xTY cI cC cZ cL)) (hA : ∀ q : Nat, s.heap.size ≤ q → A q)  : xp_X3_unlikeSounds f_cells K → ∀ (H : Heap) (locs : List Loc) (ls : Array Slot), va_P D vwCl [(h, .inr (3, [.ref h_cells])), (h_cells, .inl (cI, 400, .inl f_cells))] H → va_D A [(h, .inr (3, [.ref h_cells])), (h_cells, .inl (cI, 400, .inl f_cells))] → va_S A s.heap H locs → lv_has ls 3 [(0, .ref h)] → W p l e ({ frames := 3, cells := 0, slots := 0, locals := 78 } : Room) s m args below meth c H locs 0 0 (MQ below (va_Qi (fun (r : Int32) (_ : Unit) => K r) (fun u t => xE D A ((fun (_ : Unit) => [(h, .inr (3, [.ref h_cells])), (h_cells, .inl (cI, 400, .inl f_cells))]) u) t) A) args s 0 0 A) (F0 m 0 ls []) := by
  obtain ⟨hx, hb, hr, hml, hown, hts, hlocks, hK, hN⟩ := id C0
  intro  hk H locs ls hP hD hS hl
  rw [xp_X3_unlikeSounds] at hk
  refine lv_iconst (v := 0) hx hb dX3_unlikeSounds_0 (by decide) ?_
  refine lv_istore_n (lv' := [(1, .int 0), (0, .ref h)]) hx hb dX3_unlikeSounds_1 rfl hl (by decide) rfl (fun ls hl => ?_)
  refine lv_iconst (v := 0) hx hb dX3_unlikeSounds_2 (by decide) ?_
  refine lv_istore_n (lv' := [(2, .int 0), (1, .int 0), (0, .ref h)]) hx hb dX3_unlikeSounds_3 rfl hl (by decide) rfl (fun ls hl => ?_)
  obtain ⟨n9, hk⟩ := hk
  exact xb_X3_unlikeSounds_4 C0 hA  n9 _ _ hk H locs ls hP hD hS (lv_sub hl [2, 1, 0] rfl)
theorem xc_X3_unlikeSounds (l : Launch) (D : va_G) (cI cC cZ cL : ClassId) (h h_cells : Nat)  (sz : Nat) (f_cells : Nat → Int32)  (K : Int32 → Prop) (hk : xp_X3_unlikeSounds f_cells K) : XMi l yX3_unlikeSounds wsX3_unlikeSounds ({ frames := 3, cells := 0, slots := 0, locals := 78 } : Room) D (xTY cI cC cZ cL) [.ref h] [(h, .inr (3, [.ref h_cells])), (h_cells, .inl (cI, 400, .inl f_cells))] sz (fun (r : Int32) (_ : Unit) => K r) (fun (_ : Unit) => [(h, .inr (3, [.ref h_cells])), (h_cells, .inl (cI, 400, .inl f_cells))]) :=
  x_enter (cc := cX3_unlikeSounds) (maxL := 3) (ret := (some .int)) (own := RX3) (by decide) rfl rfl (Nat.le_of_ble_eq_true rfl) (fun p e s m below meth c ls C0 hA hP hD hS hl => xb_X3_unlikeSounds_0 C0 hA  hk s.heap [] ls hP hD hS hl)
set_option maxRecDepth 20000 in
theorem xin_X3_total_X3 : ∀ w ∈ u_ws RX3 TX3 1, w ∈ wsX3_total := by decide +kernel
set_option maxHeartbeats 4000000 in
set_option maxRecDepth 100000 in
theorem xb_X3_total_0 {p : Program} {l : Launch} {e : Env} {s : State} {m : MethodId} {args : Array Value} {below : List Frame} {meth : Method} {c : Code} {A : Nat → Prop} {D : va_G} {cI cC cZ cL : ClassId} {h h_cells : Nat}  {f_cells : Nat → Int32} {K : Int32 → Prop}  (C0 : xC p s m args meth c cX3_total 2 (some .int) wsX3_total RX3 D (xTY cI cC cZ cL)) (hA : ∀ q : Nat, s.heap.size ≤ q → A q)  : ∀ (x1 : Int32) , xp_X3_total f_cells x1 K → ∀ (H : Heap) (locs : List Loc) (ls : Array Slot), va_P D vwCl [(h, .inr (3, [.ref h_cells])), (h_cells, .inl (cI, 400, .inl f_cells))] H → va_D A [(h, .inr (3, [.ref h_cells])), (h_cells, .inl (cI, 400, .inl f_cells))] → va_S A s.heap H locs → lv_has ls 2 [(0, .ref h), (1, .int x1)] → W p l e ({ frames := 6, cells := 0, slots := 0, locals := 132 } : Room) s m args below meth c H locs 0 0 (MQ below (va_Qi (fun (r : Int32) (_ : Unit) => K r) (fun u t => xE D A ((fun (_ : Unit) => [(h, .inr (3, [.ref h_cells])), (h_cells, .inl (cI, 400, .inl f_cells))]) u) t) A) args s 0 0 A) (F0 m 0 ls []) := by
  obtain ⟨hx, hb, hr, hml, hown, hts, hlocks, hK, hN⟩ := id C0
  intro x1 hk H locs ls hP hD hS hl
  rw [xp_X3_total] at hk
  refine lv_iload_n hx hb dX3_total_0 rfl (lv_at hl 1 rfl) ?_
  by_cases c2 : x1 = 12
  · have hk := hk.1 c2
    refine lv_tableIn (x := x1) (off := 35) (tgt := 36) hx hb dX3_total_1 (by rw [c2]; decide) (by rw [c2]; decide) (by rw [c2]; rfl) (by decide) ?_
    refine lv_aload_n hx hb dX3_total_36 rfl (lv_at hl 0 rfl) ?_
    refine x_joini (ws1 := fun (_ : Unit) => [(h, .inr (3, [.ref h_cells])), (h_cells, .inl (cI, 400, .inl f_cells))]) (x_runV (n0 := 0) (As := []) (rest := []) C0 (xc_X3_wrongSlates l D cI cC cZ cL h h_cells H.size f_cells _ hk) gX3_total_X3_wrongSlates rfl ⟨rfl, rfl⟩ (by decide +kernel) rfl ⟨by decide, by decide⟩ ⟨Nat.zero_le _, Nat.zero_le _⟩ hP hD [0, 1] rfl rfl (k := 0) rfl rfl rfl hl.1 rfl (Nat.le_of_ble_eq_true rfl) dX3_total_37) hP hD hS hA [0, 1] [] [0, 1] rfl rfl rfl (by decide) (fun _ => rfl) rfl (fun r3 u3 H locs hk hP hD hS => ?_)
    exact x_reti C0 () hk hP hD hS dX3_total_40
  have hk := hk.2 c2
  by_cases c4 : x1 = 13
  · have hk := hk.1 c4
    refine lv_tableIn (x := x1) (off := 40) (tgt := 41) hx hb dX3_total_1 (by rw [c4]; decide) (by rw [c4]; decide) (by rw [c4]; rfl) (by decide) ?_
    refine lv_aload_n hx hb dX3_total_41 rfl (lv_at hl 0 rfl) ?_
    refine lv_bipush (v := 14) hx hb dX3_total_42 (by decide) ?_
    refine x_joini (ws1 := fun (_ : Unit) => [(h, .inr (3, [.ref h_cells])), (h_cells, .inl (cI, 400, .inl f_cells))]) (x_runV (n0 := 1) (As := [.int 14]) (rest := []) C0 (xc_X3_marked l D cI cC cZ cL h h_cells H.size f_cells 14 _ hk) gX3_total_X3_marked rfl ⟨rfl, rfl⟩ (by decide +kernel) rfl ⟨by decide, by decide⟩ ⟨Nat.zero_le _, Nat.zero_le _⟩ hP hD [0, 1] rfl rfl (k := 0) rfl rfl rfl hl.1 rfl (Nat.le_of_ble_eq_true rfl) dX3_total_44) hP hD hS hA [0, 1] [] [0, 1] rfl rfl rfl (by decide) (fun _ => rfl) rfl (fun r5 u5 H locs hk hP hD hS => ?_)
    exact x_reti C0 () hk hP hD hS dX3_total_47
  have hk := hk.2 c4
  by_cases c6 : x1 = 14
  · have hk := hk.1 c6
    refine lv_tableIn (x := x1) (off := 47) (tgt := 48) hx hb dX3_total_1 (by rw [c6]; decide) (by rw [c6]; decide) (by rw [c6]; rfl) (by decide) ?_
    refine lv_aload_n hx hb dX3_total_48 rfl (lv_at hl 0 rfl) ?_
    refine x_joini (ws1 := fun (_ : Unit) => [(h, .inr (3, [.ref h_cells])), (h_cells, .inl (cI, 400, .inl f_cells))]) (x_runV (n0 := 0) (As := []) (rest := []) C0 (xc_X3_circledSeconds l D cI cC cZ cL h h_cells H.size f_cells _ hk) gX3_total_X3_circledSeconds rfl ⟨rfl, rfl⟩ (by decide +kernel) rfl ⟨by decide, by decide⟩ ⟨Nat.zero_le _, Nat.zero_le _⟩ hP hD [0, 1] rfl rfl (k := 0) rfl rfl rfl hl.1 rfl (Nat.le_of_ble_eq_true rfl) dX3_total_49) hP hD hS hA [0, 1] [] [0, 1] rfl rfl rfl (by decide) (fun _ => rfl) rfl (fun r7 u7 H locs hk hP hD hS => ?_)
    exact x_reti C0 () hk hP hD hS dX3_total_52
  have hk := hk.2 c6
  by_cases c8 : x1 = 15
  · have hk := hk.1 c8
    refine lv_tableIn (x := x1) (off := 52) (tgt := 53) hx hb dX3_total_1 (by rw [c8]; decide) (by rw [c8]; decide) (by rw [c8]; rfl) (by decide) ?_
    refine lv_aload_n hx hb dX3_total_53 rfl (lv_at hl 0 rfl) ?_
    refine lv_bipush (v := 15) hx hb dX3_total_54 (by decide) ?_
    refine x_joini (ws1 := fun (_ : Unit) => [(h, .inr (3, [.ref h_cells])), (h_cells, .inl (cI, 400, .inl f_cells))]) (x_runV (n0 := 1) (As := [.int 15]) (rest := []) C0 (xc_X3_marked l D cI cC cZ cL h h_cells H.size f_cells 15 _ hk) gX3_total_X3_marked rfl ⟨rfl, rfl⟩ (by decide +kernel) rfl ⟨by decide, by decide⟩ ⟨Nat.zero_le _, Nat.zero_le _⟩ hP hD [0, 1] rfl rfl (k := 0) rfl rfl rfl hl.1 rfl (Nat.le_of_ble_eq_true rfl) dX3_total_56) hP hD hS hA [0, 1] [] [0, 1] rfl rfl rfl (by decide) (fun _ => rfl) rfl (fun r9 u9 H locs hk hP hD hS => ?_)
    exact x_reti C0 () hk hP hD hS dX3_total_59
  have hk := hk.2 c8
  by_cases c10 : x1 = 16
  · have hk := hk.1 c10
    refine lv_tableIn (x := x1) (off := 59) (tgt := 60) hx hb dX3_total_1 (by rw [c10]; decide) (by rw [c10]; decide) (by rw [c10]; rfl) (by decide) ?_
    refine lv_aload_n hx hb dX3_total_60 rfl (lv_at hl 0 rfl) ?_
    refine x_joini (ws1 := fun (_ : Unit) => [(h, .inr (3, [.ref h_cells])), (h_cells, .inl (cI, 400, .inl f_cells))]) (x_runV (n0 := 0) (As := []) (rest := []) C0 (xc_X3_unlikeSounds l D cI cC cZ cL h h_cells H.size f_cells _ hk) gX3_total_X3_unlikeSounds rfl ⟨rfl, rfl⟩ (by decide +kernel) rfl ⟨by decide, by decide⟩ ⟨Nat.zero_le _, Nat.zero_le _⟩ hP hD [0, 1] rfl rfl (k := 0) rfl rfl rfl hl.1 rfl (Nat.le_of_ble_eq_true rfl) dX3_total_61) hP hD hS hA [0, 1] [] [0, 1] rfl rfl rfl (by decide) (fun _ => rfl) rfl (fun r11 u11 H locs hk hP hD hS => ?_)
    exact x_reti C0 () hk hP hD hS dX3_total_64
  have hk := hk.2 c10
  have ec2 := x_ne c2 (k := 12) rfl
  have ec4 := x_ne c4 (k := 13) rfl
  have ec6 := x_ne c6 (k := 14) rfl
  have ec8 := x_ne c8 (k := 15) rfl
  have ec10 := x_ne c10 (k := 16) rfl
  refine lv_tableOut (x := x1) (tgt := 65) hx hb dX3_total_1 (by omega) (by decide) ?_
  refine lv_iload_n hx hb dX3_total_65 rfl (lv_at hl 1 rfl) ?_
  refine lv_if_lt (tgt := 75) hx hb dX3_total_66 (by decide) (fun c12 => ?_) (fun c12 => ?_)
  · have hk := hk.1 c12
    refine lv_iconst (v := (-1 : Int32)) hx hb dX3_total_75 (by decide) ?_
    refine lv_goto (tgt := 85) hx hb dX3_total_76 (by decide) ?_
    exact x_reti C0 () hk hP hD hS dX3_total_85
  · have hk := hk.2 c12
    refine lv_iload_n hx hb dX3_total_69 rfl (lv_at hl 1 rfl) ?_
    refine lv_bipush (v := 11) hx hb dX3_total_70 (by decide) ?_
    refine lv_icmp_le (tgt := 79) hx hb dX3_total_72 (by decide) (fun c13 => ?_) (fun c13 => ?_)
    · have hk := hk.1 c13
      refine lv_aload_n hx hb dX3_total_79 rfl (lv_at hl 0 rfl) ?_
      refine va_get (D := D) (ci := 3) (v := .ref h_cells) (C := RX3) (T := TX3) (N := 1) hx hb hts xin_X3_total_X3 hown hK hP 0 rfl rfl 0 (by decide) (hts (.fieldLink RX3 9 "TakeLog$State" "cells" "[I") (by decide +kernel)) (fun _ h9 => h9) rfl dX3_total_80 ?_
      refine lv_iload_n hx hb dX3_total_83 rfl (lv_at hl 1 rfl) ?_
      refine x_iald hx hb hK hP 1 0 rfl rfl hk.1 rfl rfl dX3_total_84 ?_
      have hk := hk.2
      exact x_reti C0 () hk hP hD hS dX3_total_85
    · have hk := hk.2 c13
      refine lv_iconst (v := (-1 : Int32)) hx hb dX3_total_75 (by decide) ?_
      refine lv_goto (tgt := 85) hx hb dX3_total_76 (by decide) ?_
      exact x_reti C0 () hk hP hD hS dX3_total_85
theorem xc_X3_total (l : Launch) (D : va_G) (cI cC cZ cL : ClassId) (h h_cells : Nat)  (sz : Nat) (f_cells : Nat → Int32) (x1 : Int32) (K : Int32 → Prop) (hk : xp_X3_total f_cells x1 K) : XMi l yX3_total wsX3_total ({ frames := 6, cells := 0, slots := 0, locals := 132 } : Room) D (xTY cI cC cZ cL) [.ref h, .int x1] [(h, .inr (3, [.ref h_cells])), (h_cells, .inl (cI, 400, .inl f_cells))] sz (fun (r : Int32) (_ : Unit) => K r) (fun (_ : Unit) => [(h, .inr (3, [.ref h_cells])), (h_cells, .inl (cI, 400, .inl f_cells))]) :=
  x_enter (cc := cX3_total) (maxL := 2) (ret := (some .int)) (own := RX3) (by decide) rfl rfl (Nat.le_of_ble_eq_true rfl) (fun p e s m below meth c ls C0 hA hP hD hS hl => xb_X3_total_0 C0 hA _ hk s.heap [] ls hP hD hS hl)
set_option maxRecDepth 20000 in
theorem xin_X3_ofScene_X3 : ∀ w ∈ u_ws RX3 TX3 1, w ∈ wsX3_ofScene := by decide +kernel
set_option maxHeartbeats 4000000 in
set_option maxRecDepth 100000 in
theorem xb_X3_ofScene_17 {p : Program} {l : Launch} {e : Env} {s : State} {m : MethodId} {args : Array Value} {below : List Frame} {meth : Method} {c : Code} {A : Nat → Prop} {D : va_G} {cI cC cZ cL : ClassId} {h h_cells : Nat}  {f_cells : Nat → Int32} {K : Int32 → Prop}  (C0 : xC p s m args meth c cX3_ofScene 9 (some .int) wsX3_ofScene RX3 D (xTY cI cC cZ cL)) (hA : ∀ q : Nat, s.heap.size ≤ q → A q)  : ∀ (n : Nat) (v1 : Int32) (v2 : Int32) (v3 : Int32) (v4 : Int32) (v5 : Int32) (v6 : Int32) (v7 : Int32) (v8 : Int32) , xp_X3_ofScene_17 f_cells K n v1 v2 v3 v4 v5 v6 v7 v8 → ∀ (H : Heap) (locs : List Loc) (ls : Array Slot), va_P D vwCl [(h, .inr (3, [.ref h_cells])), (h_cells, .inl (cI, 400, .inl f_cells))] H → va_D A [(h, .inr (3, [.ref h_cells])), (h_cells, .inl (cI, 400, .inl f_cells))] → va_S A s.heap H locs → lv_has ls 9 [(0, .ref h), (1, .int v1), (2, .int v2), (3, .int v3), (4, .int v4), (5, .int v5), (6, .int v6), (7, .int v7), (8, .int v8)] → W p l e ({ frames := 1, cells := 0, slots := 0, locals := 23 } : Room) s m args below meth c H locs 0 0 (MQ below (va_Qi (fun (r : Int32) (_ : Unit) => K r) (fun u t => xE D A ((fun (_ : Unit) => [(h, .inr (3, [.ref h_cells])), (h_cells, .inl (cI, 400, .inl f_cells))]) u) t) A) args s 0 0 A) (F0 m 17 ls []) := by
  obtain ⟨hx, hb, hr, hml, hown, hts, hlocks, hK, hN⟩ := id C0
  intro n
  induction n with
  | zero => intro v1 v2 v3 v4 v5 v6 v7 v8 hk; exact hk.elim
  | succ n ih =>
    intro v1 v2 v3 v4 v5 v6 v7 v8 hk H locs ls hP hD hS hl
    rw [xp_X3_ofScene_17] at hk
    refine lv_iload hx hb dX3_ofScene_17 (lv_at hl 8 rfl) ?_
    refine lv_aload_n hx hb dX3_ofScene_19 rfl (lv_at hl 0 rfl) ?_
    refine x_joini (ws1 := fun (_ : Unit) => [(h, .inr (3, [.ref h_cells])), (h_cells, .inl (cI, 400, .inl f_cells))]) (x_runV (n0 := 0) (As := []) (rest := [.int v8]) C0 (xc_X3_takes l D cI cC cZ cL h h_cells H.size f_cells _ hk) gX3_ofScene_X3_takes rfl ⟨rfl, rfl⟩ (by decide +kernel) rfl ⟨by decide, by decide⟩ ⟨Nat.zero_le _, Nat.zero_le _⟩ hP hD [0, 1] rfl rfl (k := 0) rfl rfl rfl hl.1 rfl (Nat.le_of_ble_eq_true rfl) dX3_ofScene_20) hP hD hS hA [0, 1] [] [0, 1] rfl rfl rfl (by decide) (fun _ => rfl) rfl (fun r1 u1 H locs hk hP hD hS => ?_)
    refine lv_icmp_ge (tgt := 107) hx hb dX3_ofScene_23 (by decide) (fun c2 => ?_) (fun c2 => ?_)
    · have hk := hk.1 c2
      refine lv_iload_n hx hb dX3_ofScene_107 rfl (lv_at hl 2 rfl) ?_
      by_cases c4 : v2 = 0
      · have hk := hk.1 c4
        refine lv_tableIn (x := v2) (off := 32) (tgt := 140) hx hb dX3_ofScene_108 (by rw [c4]; decide) (by rw [c4]; decide) (by rw [c4]; rfl) (by decide) ?_
        refine lv_iload_n hx hb dX3_ofScene_140 rfl (lv_at hl 3 rfl) ?_
        exact x_reti C0 () hk hP hD hS dX3_ofScene_141
      have hk := hk.2 c4
      by_cases c5 : v2 = 1
      · have hk := hk.1 c5
        refine lv_tableIn (x := v2) (off := 34) (tgt := 142) hx hb dX3_ofScene_108 (by rw [c5]; decide) (by rw [c5]; decide) (by rw [c5]; rfl) (by decide) ?_
        refine lv_iload hx hb dX3_ofScene_142 (lv_at hl 4 rfl) ?_
        exact x_reti C0 () hk hP hD hS dX3_ofScene_144
      have hk := hk.2 c5
      by_cases c6 : v2 = 2
      · have hk := hk.1 c6
        refine lv_tableIn (x := v2) (off := 37) (tgt := 145) hx hb dX3_ofScene_108 (by rw [c6]; decide) (by rw [c6]; decide) (by rw [c6]; rfl) (by decide) ?_
        refine lv_iload hx hb dX3_ofScene_145 (lv_at hl 6 rfl) ?_
        refine x_joini (ws1 := fun (_ : Unit) => [(h, .inr (3, [.ref h_cells])), (h_cells, .inl (cI, 400, .inl f_cells))]) (x_runO (n0 := 1) (As := [.int v6]) (rest := []) C0 (xc_J6_bitCount_0f7a4 l D cI cC cZ cL  H.size v6 _ hk) gX3_ofScene_J6_bitCount_0f7a4 rfl ⟨rfl, rfl⟩ (by decide +kernel) rfl ⟨by decide, by decide⟩ ⟨Nat.zero_le _, Nat.zero_le _⟩ hP hD [] rfl rfl hl.1 rfl (Nat.le_of_ble_eq_true rfl) dX3_ofScene_147) hP hD hS hA [] [0, 1] [0, 1] rfl rfl rfl (by decide) (fun _ => rfl) rfl (fun r7 u7 H locs hk hP hD hS => ?_)
        exact x_reti C0 () hk hP hD hS dX3_ofScene_150
      have hk := hk.2 c6
      by_cases c8 : v2 = 3
      · have hk := hk.1 c8
        refine lv_tableIn (x := v2) (off := 43) (tgt := 151) hx hb dX3_ofScene_108 (by rw [c8]; decide) (by rw [c8]; decide) (by rw [c8]; rfl) (by decide) ?_
        refine lv_iload hx hb dX3_ofScene_151 (lv_at hl 5 rfl) ?_
        exact x_reti C0 () hk hP hD hS dX3_ofScene_153
      have hk := hk.2 c8
      have ec4 := x_ne c4 (k := 0) rfl
      have ec5 := x_ne c5 (k := 1) rfl
      have ec6 := x_ne c6 (k := 2) rfl
      have ec8 := x_ne c8 (k := 3) rfl
      refine lv_tableOut (x := v2) (tgt := 154) hx hb dX3_ofScene_108 (by omega) (by decide) ?_
      refine lv_iload hx hb dX3_ofScene_154 (lv_at hl 6 rfl) ?_
      refine lv_iload hx hb dX3_ofScene_156 (lv_at hl 7 rfl) ?_
      refine lv_iconst (v := (-1 : Int32)) hx hb dX3_ofScene_158 (by decide) ?_
      refine lv_ixor hx hb dX3_ofScene_159 ?_
      refine lv_iand hx hb dX3_ofScene_160 ?_
      refine x_joini (ws1 := fun (_ : Unit) => [(h, .inr (3, [.ref h_cells])), (h_cells, .inl (cI, 400, .inl f_cells))]) (x_runO (n0 := 1) (As := [.int (v6 &&& (v7 ^^^ (-1 : Int32)))]) (rest := []) C0 (xc_J6_bitCount_0f7a4 l D cI cC cZ cL  H.size (v6 &&& (v7 ^^^ (-1 : Int32))) _ hk) gX3_ofScene_J6_bitCount_0f7a4 rfl ⟨rfl, rfl⟩ (by decide +kernel) rfl ⟨by decide, by decide⟩ ⟨Nat.zero_le _, Nat.zero_le _⟩ hP hD [] rfl rfl hl.1 rfl (Nat.le_of_ble_eq_true rfl) dX3_ofScene_161) hP hD hS hA [] [0, 1] [0, 1] rfl rfl rfl (by decide) (fun _ => rfl) rfl (fun r9 u9 H locs hk hP hD hS => ?_)
      exact x_reti C0 () hk hP hD hS dX3_ofScene_164
    · have hk := hk.2 c2
      refine lv_aload_n hx hb dX3_ofScene_26 rfl (lv_at hl 0 rfl) ?_
      refine lv_iload hx hb dX3_ofScene_27 (lv_at hl 8 rfl) ?_
      refine lv_iconst (v := 0) hx hb dX3_ofScene_29 (by decide) ?_
      refine x_joini (ws1 := fun (_ : Unit) => [(h, .inr (3, [.ref h_cells])), (h_cells, .inl (cI, 400, .inl f_cells))]) (x_runV (n0 := 2) (As := [.int v8, .int 0]) (rest := []) C0 (xc_X3_of l D cI cC cZ cL h h_cells H.size f_cells v8 0 _ hk) gX3_ofScene_X3_of rfl ⟨rfl, rfl⟩ (by decide +kernel) rfl ⟨by decide, by decide⟩ ⟨Nat.zero_le _, Nat.zero_le _⟩ hP hD [0, 1] rfl rfl (k := 0) rfl rfl rfl hl.1 rfl (Nat.le_of_ble_eq_true rfl) dX3_ofScene_30) hP hD hS hA [0, 1] [] [0, 1] rfl rfl rfl (by decide) (fun _ => rfl) rfl (fun r10 u10 H locs hk hP hD hS => ?_)
      refine lv_iload_n hx hb dX3_ofScene_33 rfl (lv_at hl 1 rfl) ?_
      refine lv_icmp_ne (tgt := 101) hx hb dX3_ofScene_34 (by decide) (fun c11 => ?_) (fun c11 => ?_)
      · have hk := hk.1 c11
        refine lv_iinc (v := (v8 + 1)) (lv' := [(8, .int (v8 + 1)), (0, .ref h), (1, .int v1), (2, .int v2), (3, .int v3), (4, .int v4), (5, .int v5), (6, .int v6), (7, .int v7)]) hx hb dX3_ofScene_101 hl (k := 8) rfl rfl (by decide) rfl (fun ls hl => ?_)
        refine lv_goto (tgt := 17) hx hb dX3_ofScene_104 (by decide) ?_
        exact ih _ _ _ _ _ _ _ _ hk H locs ls hP hD hS (lv_sub hl [1, 2, 3, 4, 5, 6, 7, 8, 0] rfl)
      · have hk := hk.2 c11
        refine lv_iinc (v := (v3 + 1)) (lv' := [(3, .int (v3 + 1)), (0, .ref h), (1, .int v1), (2, .int v2), (4, .int v4), (5, .int v5), (6, .int v6), (7, .int v7), (8, .int v8)]) hx hb dX3_ofScene_37 hl (k := 3) rfl rfl (by decide) rfl (fun ls hl => ?_)
        refine lv_iload hx hb dX3_ofScene_40 (lv_at hl 4 rfl) ?_
        refine lv_aload_n hx hb dX3_ofScene_42 rfl (lv_at hl 1 rfl) ?_
        refine lv_iload hx hb dX3_ofScene_43 (lv_at hl 8 rfl) ?_
        refine lv_bipush (v := 14) hx hb dX3_ofScene_45 (by decide) ?_
        refine x_joini (ws1 := fun (_ : Unit) => [(h, .inr (3, [.ref h_cells])), (h_cells, .inl (cI, 400, .inl f_cells))]) (x_runV (n0 := 2) (As := [.int v8, .int 14]) (rest := [.int v4]) C0 (xc_X3_of l D cI cC cZ cL h h_cells H.size f_cells v8 14 _ hk) gX3_ofScene_X3_of rfl ⟨rfl, rfl⟩ (by decide +kernel) rfl ⟨by decide, by decide⟩ ⟨Nat.zero_le _, Nat.zero_le _⟩ hP hD [0, 1] rfl rfl (k := 0) rfl rfl rfl hl.1 rfl (Nat.le_of_ble_eq_true rfl) dX3_ofScene_47) hP hD hS hA [0, 1] [] [0, 1] rfl rfl rfl (by decide) (fun _ => rfl) rfl (fun r12 u12 H locs hk hP hD hS => ?_)
        refine lv_iadd hx hb dX3_ofScene_50 ?_
        refine lv_istore (lv' := [(4, .int (v4 + r12)), (3, .int (v3 + 1)), (0, .ref h), (1, .int v1), (2, .int v2), (5, .int v5), (6, .int v6), (7, .int v7), (8, .int v8)]) hx hb dX3_ofScene_51 hl (by decide) rfl (fun ls hl => ?_)
        refine lv_iload hx hb dX3_ofScene_53 (lv_at hl 5 rfl) ?_
        refine lv_aload_n hx hb dX3_ofScene_55 rfl (lv_at hl 2 rfl) ?_
        refine lv_iload hx hb dX3_ofScene_56 (lv_at hl 8 rfl) ?_
        refine lv_bipush (v := 8) hx hb dX3_ofScene_58 (by decide) ?_
        refine x_joini (ws1 := fun (_ : Unit) => [(h, .inr (3, [.ref h_cells])), (h_cells, .inl (cI, 400, .inl f_cells))]) (x_runV (n0 := 2) (As := [.int v8, .int 8]) (rest := [.int v5]) C0 (xc_X3_of l D cI cC cZ cL h h_cells H.size f_cells v8 8 _ hk) gX3_ofScene_X3_of rfl ⟨rfl, rfl⟩ (by decide +kernel) rfl ⟨by decide, by decide⟩ ⟨Nat.zero_le _, Nat.zero_le _⟩ hP hD [0, 1] rfl rfl (k := 0) rfl rfl rfl hl.1 rfl (Nat.le_of_ble_eq_true rfl) dX3_ofScene_60) hP hD hS hA [0, 1] [] [0, 1] rfl rfl rfl (by decide) (fun _ => rfl) rfl (fun r13 u13 H locs hk hP hD hS => ?_)
        refine lv_iadd hx hb dX3_ofScene_63 ?_
        refine lv_istore (lv' := [(5, .int (v5 + r13)), (4, .int (v4 + r12)), (3, .int (v3 + 1)), (0, .ref h), (1, .int v1), (2, .int v2), (6, .int v6), (7, .int v7), (8, .int v8)]) hx hb dX3_ofScene_64 hl (by decide) rfl (fun ls hl => ?_)
        refine lv_iload hx hb dX3_ofScene_66 (lv_at hl 6 rfl) ?_
        refine lv_iconst (v := 1) hx hb dX3_ofScene_68 (by decide) ?_
        refine lv_aload_n hx hb dX3_ofScene_69 rfl (lv_at hl 3 rfl) ?_
        refine lv_iload hx hb dX3_ofScene_70 (lv_at hl 8 rfl) ?_
        refine lv_iconst (v := 1) hx hb dX3_ofScene_72 (by decide) ?_
        refine x_joini (ws1 := fun (_ : Unit) => [(h, .inr (3, [.ref h_cells])), (h_cells, .inl (cI, 400, .inl f_cells))]) (x_runV (n0 := 2) (As := [.int v8, .int 1]) (rest := [.int 1, .int v6]) C0 (xc_X3_of l D cI cC cZ cL h h_cells H.size f_cells v8 1 _ hk) gX3_ofScene_X3_of rfl ⟨rfl, rfl⟩ (by decide +kernel) rfl ⟨by decide, by decide⟩ ⟨Nat.zero_le _, Nat.zero_le _⟩ hP hD [0, 1] rfl rfl (k := 0) rfl rfl rfl hl.1 rfl (Nat.le_of_ble_eq_true rfl) dX3_ofScene_73) hP hD hS hA [0, 1] [] [0, 1] rfl rfl rfl (by decide) (fun _ => rfl) rfl (fun r14 u14 H locs hk hP hD hS => ?_)
        refine lv_ishl hx hb dX3_ofScene_76 ?_
        refine lv_ior hx hb dX3_ofScene_77 ?_
        refine lv_istore (lv' := [(6, .int (v6 ||| ((1 : Int32) <<< (r14 &&& 31)))), (5, .int (v5 + r13)), (4, .int (v4 + r12)), (3, .int (v3 + 1)), (0, .ref h), (1, .int v1), (2, .int v2), (7, .int v7), (8, .int v8)]) hx hb dX3_ofScene_78 hl (by decide) rfl (fun ls hl => ?_)
        refine lv_iload hx hb dX3_ofScene_80 (lv_at hl 7 rfl) ?_
        refine lv_aload_n hx hb dX3_ofScene_82 rfl (lv_at hl 4 rfl) ?_
        refine lv_iload hx hb dX3_ofScene_83 (lv_at hl 8 rfl) ?_
        refine lv_bipush (v := 14) hx hb dX3_ofScene_85 (by decide) ?_
        refine x_joini (ws1 := fun (_ : Unit) => [(h, .inr (3, [.ref h_cells])), (h_cells, .inl (cI, 400, .inl f_cells))]) (x_runV (n0 := 2) (As := [.int v8, .int 14]) (rest := [.int v7]) C0 (xc_X3_of l D cI cC cZ cL h h_cells H.size f_cells v8 14 _ hk) gX3_ofScene_X3_of rfl ⟨rfl, rfl⟩ (by decide +kernel) rfl ⟨by decide, by decide⟩ ⟨Nat.zero_le _, Nat.zero_le _⟩ hP hD [0, 1] rfl rfl (k := 0) rfl rfl rfl hl.1 rfl (Nat.le_of_ble_eq_true rfl) dX3_ofScene_87) hP hD hS hA [0, 1] [] [0, 1] rfl rfl rfl (by decide) (fun _ => rfl) rfl (fun r15 u15 H locs hk hP hD hS => ?_)
        refine lv_aload_n hx hb dX3_ofScene_90 rfl (lv_at hl 4 rfl) ?_
        refine lv_iload hx hb dX3_ofScene_91 (lv_at hl 8 rfl) ?_
        refine lv_iconst (v := 1) hx hb dX3_ofScene_93 (by decide) ?_
        refine x_joini (ws1 := fun (_ : Unit) => [(h, .inr (3, [.ref h_cells])), (h_cells, .inl (cI, 400, .inl f_cells))]) (x_runV (n0 := 2) (As := [.int v8, .int 1]) (rest := [.int r15, .int v7]) C0 (xc_X3_of l D cI cC cZ cL h h_cells H.size f_cells v8 1 _ hk) gX3_ofScene_X3_of rfl ⟨rfl, rfl⟩ (by decide +kernel) rfl ⟨by decide, by decide⟩ ⟨Nat.zero_le _, Nat.zero_le _⟩ hP hD [0, 1] rfl rfl (k := 0) rfl rfl rfl hl.1 rfl (Nat.le_of_ble_eq_true rfl) dX3_ofScene_94) hP hD hS hA [0, 1] [] [0, 1] rfl rfl rfl (by decide) (fun _ => rfl) rfl (fun r16 u16 H locs hk hP hD hS => ?_)
        refine lv_ishl hx hb dX3_ofScene_97 ?_
        refine lv_ior hx hb dX3_ofScene_98 ?_
        refine lv_istore (lv' := [(7, .int (v7 ||| (r15 <<< (r16 &&& 31)))), (6, .int (v6 ||| ((1 : Int32) <<< (r14 &&& 31)))), (5, .int (v5 + r13)), (4, .int (v4 + r12)), (3, .int (v3 + 1)), (0, .ref h), (1, .int v1), (2, .int v2), (8, .int v8)]) hx hb dX3_ofScene_99 hl (by decide) rfl (fun ls hl => ?_)
        refine lv_iinc (v := (v8 + 1)) (lv' := [(8, .int (v8 + 1)), (7, .int (v7 ||| (r15 <<< (r16 &&& 31)))), (6, .int (v6 ||| ((1 : Int32) <<< (r14 &&& 31)))), (5, .int (v5 + r13)), (4, .int (v4 + r12)), (3, .int (v3 + 1)), (0, .ref h), (1, .int v1), (2, .int v2)]) hx hb dX3_ofScene_101 hl (k := 8) rfl rfl (by decide) rfl (fun ls hl => ?_)
        refine lv_goto (tgt := 17) hx hb dX3_ofScene_104 (by decide) ?_
        exact ih _ _ _ _ _ _ _ _ hk H locs ls hP hD hS (lv_sub hl [6, 7, 8, 5, 4, 3, 2, 1, 0] rfl)
set_option maxHeartbeats 4000000 in
set_option maxRecDepth 100000 in
theorem xb_X3_ofScene_0 {p : Program} {l : Launch} {e : Env} {s : State} {m : MethodId} {args : Array Value} {below : List Frame} {meth : Method} {c : Code} {A : Nat → Prop} {D : va_G} {cI cC cZ cL : ClassId} {h h_cells : Nat}  {f_cells : Nat → Int32} {K : Int32 → Prop}  (C0 : xC p s m args meth c cX3_ofScene 9 (some .int) wsX3_ofScene RX3 D (xTY cI cC cZ cL)) (hA : ∀ q : Nat, s.heap.size ≤ q → A q)  : ∀ (x1 : Int32) (x2 : Int32) , xp_X3_ofScene f_cells x1 x2 K → ∀ (H : Heap) (locs : List Loc) (ls : Array Slot), va_P D vwCl [(h, .inr (3, [.ref h_cells])), (h_cells, .inl (cI, 400, .inl f_cells))] H → va_D A [(h, .inr (3, [.ref h_cells])), (h_cells, .inl (cI, 400, .inl f_cells))] → va_S A s.heap H locs → lv_has ls 9 [(0, .ref h), (1, .int x1), (2, .int x2)] → W p l e ({ frames := 1, cells := 0, slots := 0, locals := 23 } : Room) s m args below meth c H locs 0 0 (MQ below (va_Qi (fun (r : Int32) (_ : Unit) => K r) (fun u t => xE D A ((fun (_ : Unit) => [(h, .inr (3, [.ref h_cells])), (h_cells, .inl (cI, 400, .inl f_cells))]) u) t) A) args s 0 0 A) (F0 m 0 ls []) := by
  obtain ⟨hx, hb, hr, hml, hown, hts, hlocks, hK, hN⟩ := id C0
  intro x1 x2 hk H locs ls hP hD hS hl
  rw [xp_X3_ofScene] at hk
  refine lv_iconst (v := 0) hx hb dX3_ofScene_0 (by decide) ?_
  refine lv_istore_n (lv' := [(3, .int 0), (0, .ref h), (1, .int x1), (2, .int x2)]) hx hb dX3_ofScene_1 rfl hl (by decide) rfl (fun ls hl => ?_)
  refine lv_iconst (v := 0) hx hb dX3_ofScene_2 (by decide) ?_
  refine lv_istore (lv' := [(4, .int 0), (3, .int 0), (0, .ref h), (1, .int x1), (2, .int x2)]) hx hb dX3_ofScene_3 hl (by decide) rfl (fun ls hl => ?_)
  refine lv_iconst (v := 0) hx hb dX3_ofScene_5 (by decide) ?_
  refine lv_istore (lv' := [(5, .int 0), (4, .int 0), (3, .int 0), (0, .ref h), (1, .int x1), (2, .int x2)]) hx hb dX3_ofScene_6 hl (by decide) rfl (fun ls hl => ?_)
  refine lv_iconst (v := 0) hx hb dX3_ofScene_8 (by decide) ?_
  refine lv_istore (lv' := [(6, .int 0), (5, .int 0), (4, .int 0), (3, .int 0), (0, .ref h), (1, .int x1), (2, .int x2)]) hx hb dX3_ofScene_9 hl (by decide) rfl (fun ls hl => ?_)
  refine lv_iconst (v := 0) hx hb dX3_ofScene_11 (by decide) ?_
  refine lv_istore (lv' := [(7, .int 0), (6, .int 0), (5, .int 0), (4, .int 0), (3, .int 0), (0, .ref h), (1, .int x1), (2, .int x2)]) hx hb dX3_ofScene_12 hl (by decide) rfl (fun ls hl => ?_)
  refine lv_iconst (v := 0) hx hb dX3_ofScene_14 (by decide) ?_
  refine lv_istore (lv' := [(8, .int 0), (7, .int 0), (6, .int 0), (5, .int 0), (4, .int 0), (3, .int 0), (0, .ref h), (1, .int x1), (2, .int x2)]) hx hb dX3_ofScene_15 hl (by decide) rfl (fun ls hl => ?_)
  obtain ⟨n9, hk⟩ := hk
  exact xb_X3_ofScene_17 C0 hA  n9 _ _ _ _ _ _ _ _ hk H locs ls hP hD hS (lv_sub hl [6, 7, 8, 5, 4, 3, 2, 1, 0] rfl)
theorem xc_X3_ofScene (l : Launch) (D : va_G) (cI cC cZ cL : ClassId) (h h_cells : Nat)  (sz : Nat) (f_cells : Nat → Int32) (x1 : Int32) (x2 : Int32) (K : Int32 → Prop) (hk : xp_X3_ofScene f_cells x1 x2 K) : XMi l yX3_ofScene wsX3_ofScene ({ frames := 1, cells := 0, slots := 0, locals := 23 } : Room) D (xTY cI cC cZ cL) [.ref h, .int x1, .int x2] [(h, .inr (3, [.ref h_cells])), (h_cells, .inl (cI, 400, .inl f_cells))] sz (fun (r : Int32) (_ : Unit) => K r) (fun (_ : Unit) => [(h, .inr (3, [.ref h_cells])), (h_cells, .inl (cI, 400, .inl f_cells))]) :=
  x_enter (cc := cX3_ofScene) (maxL := 9) (ret := (some .int)) (own := RX3) (by decide) rfl rfl (Nat.le_of_ble_eq_true rfl) (fun p e s m below meth c ls C0 hA hP hD hS hl => xb_X3_ofScene_0 C0 hA _ _ hk s.heap [] ls hP hD hS hl)
set_option maxRecDepth 20000 in
theorem xin_X3_nextNumber_X3 : ∀ w ∈ u_ws RX3 TX3 1, w ∈ wsX3_nextNumber := by decide +kernel
set_option maxHeartbeats 4000000 in
set_option maxRecDepth 100000 in
theorem xb_X3_nextNumber_0 {p : Program} {l : Launch} {e : Env} {s : State} {m : MethodId} {args : Array Value} {below : List Frame} {meth : Method} {c : Code} {A : Nat → Prop} {D : va_G} {cI cC cZ cL : ClassId} {h h_cells : Nat}  {f_cells : Nat → Int32} {K : Int32 → Prop}  (C0 : xC p s m args meth c cX3_nextNumber 1 (some .int) wsX3_nextNumber RX3 D (xTY cI cC cZ cL)) (hA : ∀ q : Nat, s.heap.size ≤ q → A q)  : xp_X3_nextNumber f_cells K → ∀ (H : Heap) (locs : List Loc) (ls : Array Slot), va_P D vwCl [(h, .inr (3, [.ref h_cells])), (h_cells, .inl (cI, 400, .inl f_cells))] H → va_D A [(h, .inr (3, [.ref h_cells])), (h_cells, .inl (cI, 400, .inl f_cells))] → va_S A s.heap H locs → lv_has ls 1 [(0, .ref h)] → W p l e ({ frames := 2, cells := 0, slots := 0, locals := 48 } : Room) s m args below meth c H locs 0 0 (MQ below (va_Qi (fun (r : Int32) (_ : Unit) => K r) (fun u t => xE D A ((fun (_ : Unit) => [(h, .inr (3, [.ref h_cells])), (h_cells, .inl (cI, 400, .inl f_cells))]) u) t) A) args s 0 0 A) (F0 m 0 ls []) := by
  obtain ⟨hx, hb, hr, hml, hown, hts, hlocks, hK, hN⟩ := id C0
  intro  hk H locs ls hP hD hS hl
  rw [xp_X3_nextNumber] at hk
  refine lv_aload_n hx hb dX3_nextNumber_0 rfl (lv_at hl 0 rfl) ?_
  refine lv_aload_n hx hb dX3_nextNumber_1 rfl (lv_at hl 0 rfl) ?_
  refine x_joini (ws1 := fun (_ : Unit) => [(h, .inr (3, [.ref h_cells])), (h_cells, .inl (cI, 400, .inl f_cells))]) (x_runV (n0 := 0) (As := []) (rest := [.ref h]) C0 (xc_X3_takes l D cI cC cZ cL h h_cells H.size f_cells _ hk) gX3_nextNumber_X3_takes rfl ⟨rfl, rfl⟩ (by decide +kernel) rfl ⟨by decide, by decide⟩ ⟨Nat.zero_le _, Nat.zero_le _⟩ hP hD [0, 1] rfl rfl (k := 0) rfl rfl rfl hl.1 rfl (Nat.le_of_ble_eq_true rfl) dX3_nextNumber_2) hP hD hS hA [0, 1] [] [0, 1] rfl rfl rfl (by decide) (fun _ => rfl) rfl (fun r1 u1 H locs hk hP hD hS => ?_)
  refine lv_aload_n hx hb dX3_nextNumber_5 rfl (lv_at hl 0 rfl) ?_
  refine va_get (D := D) (ci := 3) (v := .ref h_cells) (C := RX3) (T := TX3) (N := 1) hx hb hts xin_X3_nextNumber_X3 hown hK hP 0 rfl rfl 0 (by decide) (hts (.fieldLink RX3 9 "TakeLog$State" "cells" "[I") (by decide +kernel)) (fun _ h9 => h9) rfl dX3_nextNumber_6 ?_
  refine lv_iconst (v := 1) hx hb dX3_nextNumber_9 (by decide) ?_
  refine x_iald (k := 1) hx hb hK hP 1 0 rfl rfl (x_lit rfl (by decide) (by decide)) rfl (v := (f_cells 1)) rfl dX3_nextNumber_10 ?_
  refine lv_aload_n hx hb dX3_nextNumber_11 rfl (lv_at hl 0 rfl) ?_
  refine va_get (D := D) (ci := 3) (v := .ref h_cells) (C := RX3) (T := TX3) (N := 1) hx hb hts xin_X3_nextNumber_X3 hown hK hP 0 rfl rfl 0 (by decide) (hts (.fieldLink RX3 9 "TakeLog$State" "cells" "[I") (by decide +kernel)) (fun _ h9 => h9) rfl dX3_nextNumber_12 ?_
  refine lv_iconst (v := 2) hx hb dX3_nextNumber_15 (by decide) ?_
  refine x_iald (k := 2) hx hb hK hP 1 0 rfl rfl (x_lit rfl (by decide) (by decide)) rfl (v := (f_cells 2)) rfl dX3_nextNumber_16 ?_
  refine x_joini (ws1 := fun (_ : Unit) => [(h, .inr (3, [.ref h_cells])), (h_cells, .inl (cI, 400, .inl f_cells))]) (x_runV (n0 := 3) (As := [.int r1, .int (f_cells 1), .int (f_cells 2)]) (rest := []) C0 (xc_X3_numberBehind l D cI cC cZ cL h h_cells H.size f_cells r1 (f_cells 1) (f_cells 2) _ hk) gX3_nextNumber_X3_numberBehind rfl ⟨rfl, rfl⟩ (by decide +kernel) rfl ⟨by decide, by decide⟩ ⟨Nat.zero_le _, Nat.zero_le _⟩ hP hD [0, 1] rfl rfl (k := 0) rfl rfl rfl hl.1 rfl (Nat.le_of_ble_eq_true rfl) dX3_nextNumber_17) hP hD hS hA [0, 1] [] [0, 1] rfl rfl rfl (by decide) (fun _ => rfl) rfl (fun r2 u2 H locs hk hP hD hS => ?_)
  exact x_reti C0 () hk hP hD hS dX3_nextNumber_20
theorem xc_X3_nextNumber (l : Launch) (D : va_G) (cI cC cZ cL : ClassId) (h h_cells : Nat)  (sz : Nat) (f_cells : Nat → Int32)  (K : Int32 → Prop) (hk : xp_X3_nextNumber f_cells K) : XMi l yX3_nextNumber wsX3_nextNumber ({ frames := 2, cells := 0, slots := 0, locals := 48 } : Room) D (xTY cI cC cZ cL) [.ref h] [(h, .inr (3, [.ref h_cells])), (h_cells, .inl (cI, 400, .inl f_cells))] sz (fun (r : Int32) (_ : Unit) => K r) (fun (_ : Unit) => [(h, .inr (3, [.ref h_cells])), (h_cells, .inl (cI, 400, .inl f_cells))]) :=
  x_enter (cc := cX3_nextNumber) (maxL := 1) (ret := (some .int)) (own := RX3) (by decide) rfl rfl (Nat.le_of_ble_eq_true rfl) (fun p e s m below meth c ls C0 hA hP hD hS hl => xb_X3_nextNumber_0 C0 hA  hk s.heap [] ls hP hD hS hl)
set_option maxRecDepth 20000 in
theorem xin_X3_boardIsRight_X3 : ∀ w ∈ u_ws RX3 TX3 1, w ∈ wsX3_boardIsRight := by decide +kernel
set_option maxHeartbeats 4000000 in
set_option maxRecDepth 100000 in
theorem xb_X3_boardIsRight_0 {p : Program} {l : Launch} {e : Env} {s : State} {m : MethodId} {args : Array Value} {below : List Frame} {meth : Method} {c : Code} {A : Nat → Prop} {D : va_G} {cI cC cZ cL : ClassId} {h h_cells : Nat}  {f_cells : Nat → Int32} {K : Int32 → Prop}  (C0 : xC p s m args meth c cX3_boardIsRight 1 (some .boolean) wsX3_boardIsRight RX3 D (xTY cI cC cZ cL)) (hA : ∀ q : Nat, s.heap.size ≤ q → A q)  : xp_X3_boardIsRight f_cells K → ∀ (H : Heap) (locs : List Loc) (ls : Array Slot), va_P D vwCl [(h, .inr (3, [.ref h_cells])), (h_cells, .inl (cI, 400, .inl f_cells))] H → va_D A [(h, .inr (3, [.ref h_cells])), (h_cells, .inl (cI, 400, .inl f_cells))] → va_S A s.heap H locs → lv_has ls 1 [(0, .ref h)] → W p l e ({ frames := 3, cells := 0, slots := 0, locals := 68 } : Room) s m args below meth c H locs 0 0 (MQ below (va_Qi (fun (r : Int32) (_ : Unit) => K r) (fun u t => xE D A ((fun (_ : Unit) => [(h, .inr (3, [.ref h_cells])), (h_cells, .inl (cI, 400, .inl f_cells))]) u) t) A) args s 0 0 A) (F0 m 0 ls []) := by
  obtain ⟨hx, hb, hr, hml, hown, hts, hlocks, hK, hN⟩ := id C0
  intro  hk H locs ls hP hD hS hl
  rw [xp_X3_boardIsRight] at hk
  refine lv_aload_n hx hb dX3_boardIsRight_0 rfl (lv_at hl 0 rfl) ?_
  refine va_get (D := D) (ci := 3) (v := .ref h_cells) (C := RX3) (T := TX3) (N := 1) hx hb hts xin_X3_boardIsRight_X3 hown hK hP 0 rfl rfl 0 (by decide) (hts (.fieldLink RX3 9 "TakeLog$State" "cells" "[I") (by decide +kernel)) (fun _ h9 => h9) rfl dX3_boardIsRight_1 ?_
  refine lv_iconst (v := 3) hx hb dX3_boardIsRight_4 (by decide) ?_
  refine x_iald (k := 3) hx hb hK hP 1 0 rfl rfl (x_lit rfl (by decide) (by decide)) rfl (v := (f_cells 3)) rfl dX3_boardIsRight_5 ?_
  refine lv_aload_n hx hb dX3_boardIsRight_6 rfl (lv_at hl 0 rfl) ?_
  refine va_get (D := D) (ci := 3) (v := .ref h_cells) (C := RX3) (T := TX3) (N := 1) hx hb hts xin_X3_boardIsRight_X3 hown hK hP 0 rfl rfl 0 (by decide) (hts (.fieldLink RX3 9 "TakeLog$State" "cells" "[I") (by decide +kernel)) (fun _ h9 => h9) rfl dX3_boardIsRight_7 ?_
  refine lv_iconst (v := 1) hx hb dX3_boardIsRight_10 (by decide) ?_
  refine x_iald (k := 1) hx hb hK hP 1 0 rfl rfl (x_lit rfl (by decide) (by decide)) rfl (v := (f_cells 1)) rfl dX3_boardIsRight_11 ?_
  refine lv_icmp_ne (tgt := 47) hx hb dX3_boardIsRight_12 (by decide) (fun c1 => ?_) (fun c1 => ?_)
  · have hk := hk.1 c1
    refine lv_iconst (v := 0) hx hb dX3_boardIsRight_47 (by decide) ?_
    exact x_retz rfl C0 () hk hP hD hS dX3_boardIsRight_48
  · have hk := hk.2 c1
    refine lv_aload_n hx hb dX3_boardIsRight_15 rfl (lv_at hl 0 rfl) ?_
    refine va_get (D := D) (ci := 3) (v := .ref h_cells) (C := RX3) (T := TX3) (N := 1) hx hb hts xin_X3_boardIsRight_X3 hown hK hP 0 rfl rfl 0 (by decide) (hts (.fieldLink RX3 9 "TakeLog$State" "cells" "[I") (by decide +kernel)) (fun _ h9 => h9) rfl dX3_boardIsRight_16 ?_
    refine lv_iconst (v := 4) hx hb dX3_boardIsRight_19 (by decide) ?_
    refine x_iald (k := 4) hx hb hK hP 1 0 rfl rfl (x_lit rfl (by decide) (by decide)) rfl (v := (f_cells 4)) rfl dX3_boardIsRight_20 ?_
    refine lv_aload_n hx hb dX3_boardIsRight_21 rfl (lv_at hl 0 rfl) ?_
    refine va_get (D := D) (ci := 3) (v := .ref h_cells) (C := RX3) (T := TX3) (N := 1) hx hb hts xin_X3_boardIsRight_X3 hown hK hP 0 rfl rfl 0 (by decide) (hts (.fieldLink RX3 9 "TakeLog$State" "cells" "[I") (by decide +kernel)) (fun _ h9 => h9) rfl dX3_boardIsRight_22 ?_
    refine lv_iconst (v := 2) hx hb dX3_boardIsRight_25 (by decide) ?_
    refine x_iald (k := 2) hx hb hK hP 1 0 rfl rfl (x_lit rfl (by decide) (by decide)) rfl (v := (f_cells 2)) rfl dX3_boardIsRight_26 ?_
    refine lv_icmp_ne (tgt := 47) hx hb dX3_boardIsRight_27 (by decide) (fun c2 => ?_) (fun c2 => ?_)
    · have hk := hk.1 c2
      refine lv_iconst (v := 0) hx hb dX3_boardIsRight_47 (by decide) ?_
      exact x_retz rfl C0 () hk hP hD hS dX3_boardIsRight_48
    · have hk := hk.2 c2
      refine lv_aload_n hx hb dX3_boardIsRight_30 rfl (lv_at hl 0 rfl) ?_
      refine va_get (D := D) (ci := 3) (v := .ref h_cells) (C := RX3) (T := TX3) (N := 1) hx hb hts xin_X3_boardIsRight_X3 hown hK hP 0 rfl rfl 0 (by decide) (hts (.fieldLink RX3 9 "TakeLog$State" "cells" "[I") (by decide +kernel)) (fun _ h9 => h9) rfl dX3_boardIsRight_31 ?_
      refine lv_iconst (v := 5) hx hb dX3_boardIsRight_34 (by decide) ?_
      refine x_iald (k := 5) hx hb hK hP 1 0 rfl rfl (x_lit rfl (by decide) (by decide)) rfl (v := (f_cells 5)) rfl dX3_boardIsRight_35 ?_
      refine lv_aload_n hx hb dX3_boardIsRight_36 rfl (lv_at hl 0 rfl) ?_
      refine x_joini (ws1 := fun (_ : Unit) => [(h, .inr (3, [.ref h_cells])), (h_cells, .inl (cI, 400, .inl f_cells))]) (x_runV (n0 := 0) (As := []) (rest := [.int (f_cells 5)]) C0 (xc_X3_nextNumber l D cI cC cZ cL h h_cells H.size f_cells _ hk) gX3_boardIsRight_X3_nextNumber rfl ⟨rfl, rfl⟩ (by decide +kernel) rfl ⟨by decide, by decide⟩ ⟨Nat.zero_le _, Nat.zero_le _⟩ hP hD [0, 1] rfl rfl (k := 0) rfl rfl rfl hl.1 rfl (Nat.le_of_ble_eq_true rfl) dX3_boardIsRight_37) hP hD hS hA [0, 1] [] [0, 1] rfl rfl rfl (by decide) (fun _ => rfl) rfl (fun r3 u3 H locs hk hP hD hS => ?_)
      refine lv_icmp_ne (tgt := 47) hx hb dX3_boardIsRight_40 (by decide) (fun c4 => ?_) (fun c4 => ?_)
      · have hk := hk.1 c4
        refine lv_iconst (v := 0) hx hb dX3_boardIsRight_47 (by decide) ?_
        exact x_retz rfl C0 () hk hP hD hS dX3_boardIsRight_48
      · have hk := hk.2 c4
        refine lv_iconst (v := 1) hx hb dX3_boardIsRight_43 (by decide) ?_
        refine lv_goto (tgt := 48) hx hb dX3_boardIsRight_44 (by decide) ?_
        exact x_retz rfl C0 () hk hP hD hS dX3_boardIsRight_48
theorem xc_X3_boardIsRight (l : Launch) (D : va_G) (cI cC cZ cL : ClassId) (h h_cells : Nat)  (sz : Nat) (f_cells : Nat → Int32)  (K : Int32 → Prop) (hk : xp_X3_boardIsRight f_cells K) : XMi l yX3_boardIsRight wsX3_boardIsRight ({ frames := 3, cells := 0, slots := 0, locals := 68 } : Room) D (xTY cI cC cZ cL) [.ref h] [(h, .inr (3, [.ref h_cells])), (h_cells, .inl (cI, 400, .inl f_cells))] sz (fun (r : Int32) (_ : Unit) => K r) (fun (_ : Unit) => [(h, .inr (3, [.ref h_cells])), (h_cells, .inl (cI, 400, .inl f_cells))]) :=
  x_enter (cc := cX3_boardIsRight) (maxL := 1) (ret := (some .boolean)) (own := RX3) (by decide) rfl rfl (Nat.le_of_ble_eq_true rfl) (fun p e s m below meth c ls C0 hA hP hD hS hl => xb_X3_boardIsRight_0 C0 hA  hk s.heap [] ls hP hD hS hl)
set_option maxRecDepth 20000 in
theorem xin_X3_saidSo_X3 : ∀ w ∈ u_ws RX3 TX3 1, w ∈ wsX3_saidSo := by decide +kernel
set_option maxHeartbeats 4000000 in
set_option maxRecDepth 100000 in
theorem xb_X3_saidSo_3 {p : Program} {l : Launch} {e : Env} {s : State} {m : MethodId} {args : Array Value} {below : List Frame} {meth : Method} {c : Code} {A : Nat → Prop} {D : va_G} {cI cC cZ cL : ClassId} {h h_cells : Nat}  {f_cells : Nat → Int32} {K : Int32 → Prop}  (C0 : xC p s m args meth c cX3_saidSo 5 (some .int) wsX3_saidSo RX3 D (xTY cI cC cZ cL)) (hA : ∀ q : Nat, s.heap.size ≤ q → A q)  : ∀ (n : Nat) (v1 : Int32) (v2 : Int32) (v3 : Int32) (v4 : Int32) , xp_X3_saidSo_3 f_cells K n v1 v2 v3 v4 → ∀ (H : Heap) (locs : List Loc) (ls : Array Slot), va_P D vwCl [(h, .inr (3, [.ref h_cells])), (h_cells, .inl (cI, 400, .inl f_cells))] H → va_D A [(h, .inr (3, [.ref h_cells])), (h_cells, .inl (cI, 400, .inl f_cells))] → va_S A s.heap H locs → lv_has ls 5 [(0, .ref h), (1, .int v1), (2, .int v2), (3, .int v3), (4, .int v4)] → W p l e ({ frames := 2, cells := 0, slots := 0, locals := 47 } : Room) s m args below meth c H locs 0 0 (MQ below (va_Qi (fun (r : Int32) (_ : Unit) => K r) (fun u t => xE D A ((fun (_ : Unit) => [(h, .inr (3, [.ref h_cells])), (h_cells, .inl (cI, 400, .inl f_cells))]) u) t) A) args s 0 0 A) (F0 m 3 ls []) := by
  obtain ⟨hx, hb, hr, hml, hown, hts, hlocks, hK, hN⟩ := id C0
  intro n
  induction n with
  | zero => intro v1 v2 v3 v4 hk; exact hk.elim
  | succ n ih =>
    intro v1 v2 v3 v4 hk H locs ls hP hD hS hl
    rw [xp_X3_saidSo_3] at hk
    refine lv_iload hx hb dX3_saidSo_3 (lv_at hl 4 rfl) ?_
    refine lv_aload_n hx hb dX3_saidSo_5 rfl (lv_at hl 0 rfl) ?_
    refine x_joini (ws1 := fun (_ : Unit) => [(h, .inr (3, [.ref h_cells])), (h_cells, .inl (cI, 400, .inl f_cells))]) (x_runV (n0 := 0) (As := []) (rest := [.int v4]) C0 (xc_X3_takes l D cI cC cZ cL h h_cells H.size f_cells _ hk) gX3_saidSo_X3_takes rfl ⟨rfl, rfl⟩ (by decide +kernel) rfl ⟨by decide, by decide⟩ ⟨Nat.zero_le _, Nat.zero_le _⟩ hP hD [0, 1] rfl rfl (k := 0) rfl rfl rfl hl.1 rfl (Nat.le_of_ble_eq_true rfl) dX3_saidSo_6) hP hD hS hA [0, 1] [] [0, 1] rfl rfl rfl (by decide) (fun _ => rfl) rfl (fun r1 u1 H locs hk hP hD hS => ?_)
    refine lv_icmp_ge (tgt := 33) hx hb dX3_saidSo_9 (by decide) (fun c2 => ?_) (fun c2 => ?_)
    · have hk := hk.1 c2
      refine lv_iconst (v := (-1 : Int32)) hx hb dX3_saidSo_33 (by decide) ?_
      exact x_reti C0 () hk hP hD hS dX3_saidSo_34
    · have hk := hk.2 c2
      refine lv_aload_n hx hb dX3_saidSo_12 rfl (lv_at hl 0 rfl) ?_
      refine lv_iload hx hb dX3_saidSo_13 (lv_at hl 4 rfl) ?_
      refine lv_iload_n hx hb dX3_saidSo_15 rfl (lv_at hl 1 rfl) ?_
      refine lv_iload_n hx hb dX3_saidSo_16 rfl (lv_at hl 2 rfl) ?_
      refine lv_iload_n hx hb dX3_saidSo_17 rfl (lv_at hl 3 rfl) ?_
      refine x_joini (ws1 := fun (_ : Unit) => [(h, .inr (3, [.ref h_cells])), (h_cells, .inl (cI, 400, .inl f_cells))]) (x_runV (n0 := 4) (As := [.int v4, .int v1, .int v2, .int v3]) (rest := []) C0 (xc_X3_said l D cI cC cZ cL h h_cells H.size f_cells v4 v1 v2 v3 _ hk) gX3_saidSo_X3_said rfl ⟨rfl, rfl⟩ (by decide +kernel) rfl ⟨by decide, by decide⟩ ⟨Nat.zero_le _, Nat.zero_le _⟩ hP hD [0, 1] rfl rfl (k := 0) rfl rfl rfl hl.1 rfl (Nat.le_of_ble_eq_true rfl) dX3_saidSo_18) hP hD hS hA [0, 1] [] [0, 1] rfl rfl rfl (by decide) (fun _ => rfl) rfl (fun r3 u3 H locs hk hP hD hS => ?_)
      refine lv_if_eq (tgt := 27) hx hb dX3_saidSo_21 (by decide) (fun c4 => ?_) (fun c4 => ?_)
      · have hk := hk.1 c4
        refine lv_iinc (v := (v4 + 1)) (lv' := [(4, .int (v4 + 1)), (0, .ref h), (1, .int v1), (2, .int v2), (3, .int v3)]) hx hb dX3_saidSo_27 hl (k := 4) rfl rfl (by decide) rfl (fun ls hl => ?_)
        refine lv_goto (tgt := 3) hx hb dX3_saidSo_30 (by decide) ?_
        exact ih _ _ _ _ hk H locs ls hP hD hS (lv_sub hl [1, 2, 3, 4, 0] rfl)
      · have hk := hk.2 c4
        refine lv_iload hx hb dX3_saidSo_24 (lv_at hl 4 rfl) ?_
        exact x_reti C0 () hk hP hD hS dX3_saidSo_26
set_option maxHeartbeats 4000000 in
set_option maxRecDepth 100000 in
theorem xb_X3_saidSo_0 {p : Program} {l : Launch} {e : Env} {s : State} {m : MethodId} {args : Array Value} {below : List Frame} {meth : Method} {c : Code} {A : Nat → Prop} {D : va_G} {cI cC cZ cL : ClassId} {h h_cells : Nat}  {f_cells : Nat → Int32} {K : Int32 → Prop}  (C0 : xC p s m args meth c cX3_saidSo 5 (some .int) wsX3_saidSo RX3 D (xTY cI cC cZ cL)) (hA : ∀ q : Nat, s.heap.size ≤ q → A q)  : ∀ (x1 : Int32) (x2 : Int32) (x3 : Int32) , xp_X3_saidSo f_cells x1 x2 x3 K → ∀ (H : Heap) (locs : List Loc) (ls : Array Slot), va_P D vwCl [(h, .inr (3, [.ref h_cells])), (h_cells, .inl (cI, 400, .inl f_cells))] H → va_D A [(h, .inr (3, [.ref h_cells])), (h_cells, .inl (cI, 400, .inl f_cells))] → va_S A s.heap H locs → lv_has ls 5 [(0, .ref h), (1, .int x1), (2, .int x2), (3, .int x3)] → W p l e ({ frames := 2, cells := 0, slots := 0, locals := 47 } : Room) s m args below meth c H locs 0 0 (MQ below (va_Qi (fun (r : Int32) (_ : Unit) => K r) (fun u t => xE D A ((fun (_ : Unit) => [(h, .inr (3, [.ref h_cells])), (h_cells, .inl (cI, 400, .inl f_cells))]) u) t) A) args s 0 0 A) (F0 m 0 ls []) := by
  obtain ⟨hx, hb, hr, hml, hown, hts, hlocks, hK, hN⟩ := id C0
  intro x1 x2 x3 hk H locs ls hP hD hS hl
  rw [xp_X3_saidSo] at hk
  refine lv_iconst (v := 0) hx hb dX3_saidSo_0 (by decide) ?_
  refine lv_istore (lv' := [(4, .int 0), (0, .ref h), (1, .int x1), (2, .int x2), (3, .int x3)]) hx hb dX3_saidSo_1 hl (by decide) rfl (fun ls hl => ?_)
  obtain ⟨n9, hk⟩ := hk
  exact xb_X3_saidSo_3 C0 hA  n9 _ _ _ _ hk H locs ls hP hD hS (lv_sub hl [1, 2, 3, 4, 0] rfl)
theorem xc_X3_saidSo (l : Launch) (D : va_G) (cI cC cZ cL : ClassId) (h h_cells : Nat)  (sz : Nat) (f_cells : Nat → Int32) (x1 : Int32) (x2 : Int32) (x3 : Int32) (K : Int32 → Prop) (hk : xp_X3_saidSo f_cells x1 x2 x3 K) : XMi l yX3_saidSo wsX3_saidSo ({ frames := 2, cells := 0, slots := 0, locals := 47 } : Room) D (xTY cI cC cZ cL) [.ref h, .int x1, .int x2, .int x3] [(h, .inr (3, [.ref h_cells])), (h_cells, .inl (cI, 400, .inl f_cells))] sz (fun (r : Int32) (_ : Unit) => K r) (fun (_ : Unit) => [(h, .inr (3, [.ref h_cells])), (h_cells, .inl (cI, 400, .inl f_cells))]) :=
  x_enter (cc := cX3_saidSo) (maxL := 5) (ret := (some .int)) (own := RX3) (by decide) rfl rfl (Nat.le_of_ble_eq_true rfl) (fun p e s m below meth c ls C0 hA hP hD hS hl => xb_X3_saidSo_0 C0 hA _ _ _ hk s.heap [] ls hP hD hS hl)
set_option maxRecDepth 20000 in
theorem xin_X3_meantSo_X3 : ∀ w ∈ u_ws RX3 TX3 1, w ∈ wsX3_meantSo := by decide +kernel
set_option maxHeartbeats 4000000 in
set_option maxRecDepth 100000 in
theorem xb_X3_meantSo_3 {p : Program} {l : Launch} {e : Env} {s : State} {m : MethodId} {args : Array Value} {below : List Frame} {meth : Method} {c : Code} {A : Nat → Prop} {D : va_G} {cI cC cZ cL : ClassId} {h h_cells : Nat}  {f_cells : Nat → Int32} {K : Int32 → Prop}  (C0 : xC p s m args meth c cX3_meantSo 5 (some .int) wsX3_meantSo RX3 D (xTY cI cC cZ cL)) (hA : ∀ q : Nat, s.heap.size ≤ q → A q)  : ∀ (n : Nat) (v1 : Int32) (v2 : Int32) (v3 : Int32) (v4 : Int32) , xp_X3_meantSo_3 f_cells K n v1 v2 v3 v4 → ∀ (H : Heap) (locs : List Loc) (ls : Array Slot), va_P D vwCl [(h, .inr (3, [.ref h_cells])), (h_cells, .inl (cI, 400, .inl f_cells))] H → va_D A [(h, .inr (3, [.ref h_cells])), (h_cells, .inl (cI, 400, .inl f_cells))] → va_S A s.heap H locs → lv_has ls 5 [(0, .ref h), (1, .int v1), (2, .int v2), (3, .int v3), (4, .int v4)] → W p l e ({ frames := 3, cells := 0, slots := 0, locals := 69 } : Room) s m args below meth c H locs 0 0 (MQ below (va_Qi (fun (r : Int32) (_ : Unit) => K r) (fun u t => xE D A ((fun (_ : Unit) => [(h, .inr (3, [.ref h_cells])), (h_cells, .inl (cI, 400, .inl f_cells))]) u) t) A) args s 0 0 A) (F0 m 3 ls []) := by
  obtain ⟨hx, hb, hr, hml, hown, hts, hlocks, hK, hN⟩ := id C0
  intro n
  induction n with
  | zero => intro v1 v2 v3 v4 hk; exact hk.elim
  | succ n ih =>
    intro v1 v2 v3 v4 hk H locs ls hP hD hS hl
    rw [xp_X3_meantSo_3] at hk
    refine lv_iload hx hb dX3_meantSo_3 (lv_at hl 4 rfl) ?_
    refine lv_aload_n hx hb dX3_meantSo_5 rfl (lv_at hl 0 rfl) ?_
    refine x_joini (ws1 := fun (_ : Unit) => [(h, .inr (3, [.ref h_cells])), (h_cells, .inl (cI, 400, .inl f_cells))]) (x_runV (n0 := 0) (As := []) (rest := [.int v4]) C0 (xc_X3_takes l D cI cC cZ cL h h_cells H.size f_cells _ hk) gX3_meantSo_X3_takes rfl ⟨rfl, rfl⟩ (by decide +kernel) rfl ⟨by decide, by decide⟩ ⟨Nat.zero_le _, Nat.zero_le _⟩ hP hD [0, 1] rfl rfl (k := 0) rfl rfl rfl hl.1 rfl (Nat.le_of_ble_eq_true rfl) dX3_meantSo_6) hP hD hS hA [0, 1] [] [0, 1] rfl rfl rfl (by decide) (fun _ => rfl) rfl (fun r1 u1 H locs hk hP hD hS => ?_)
    refine lv_icmp_ge (tgt := 64) hx hb dX3_meantSo_9 (by decide) (fun c2 => ?_) (fun c2 => ?_)
    · have hk := hk.1 c2
      refine lv_iconst (v := (-1 : Int32)) hx hb dX3_meantSo_64 (by decide) ?_
      exact x_reti C0 () hk hP hD hS dX3_meantSo_65
    · have hk := hk.2 c2
      refine lv_aload_n hx hb dX3_meantSo_12 rfl (lv_at hl 0 rfl) ?_
      refine lv_iload hx hb dX3_meantSo_13 (lv_at hl 4 rfl) ?_
      refine lv_iconst (v := 0) hx hb dX3_meantSo_15 (by decide) ?_
      refine x_joini (ws1 := fun (_ : Unit) => [(h, .inr (3, [.ref h_cells])), (h_cells, .inl (cI, 400, .inl f_cells))]) (x_runV (n0 := 2) (As := [.int v4, .int 0]) (rest := []) C0 (xc_X3_of l D cI cC cZ cL h h_cells H.size f_cells v4 0 _ hk) gX3_meantSo_X3_of rfl ⟨rfl, rfl⟩ (by decide +kernel) rfl ⟨by decide, by decide⟩ ⟨Nat.zero_le _, Nat.zero_le _⟩ hP hD [0, 1] rfl rfl (k := 0) rfl rfl rfl hl.1 rfl (Nat.le_of_ble_eq_true rfl) dX3_meantSo_16) hP hD hS hA [0, 1] [] [0, 1] rfl rfl rfl (by decide) (fun _ => rfl) rfl (fun r3 u3 H locs hk hP hD hS => ?_)
      refine lv_iload_n hx hb dX3_meantSo_19 rfl (lv_at hl 1 rfl) ?_
      refine lv_icmp_ne (tgt := 58) hx hb dX3_meantSo_20 (by decide) (fun c4 => ?_) (fun c4 => ?_)
      · have hk := hk.1 c4
        refine lv_iinc (v := (v4 + 1)) (lv' := [(4, .int (v4 + 1)), (0, .ref h), (1, .int v1), (2, .int v2), (3, .int v3)]) hx hb dX3_meantSo_58 hl (k := 4) rfl rfl (by decide) rfl (fun ls hl => ?_)
        refine lv_goto (tgt := 3) hx hb dX3_meantSo_61 (by decide) ?_
        exact ih _ _ _ _ hk H locs ls hP hD hS (lv_sub hl [1, 2, 3, 4, 0] rfl)
      · have hk := hk.2 c4
        refine lv_aload_n hx hb dX3_meantSo_23 rfl (lv_at hl 0 rfl) ?_
        refine lv_iload hx hb dX3_meantSo_24 (lv_at hl 4 rfl) ?_
        refine lv_iconst (v := 1) hx hb dX3_meantSo_26 (by decide) ?_
        refine x_joini (ws1 := fun (_ : Unit) => [(h, .inr (3, [.ref h_cells])), (h_cells, .inl (cI, 400, .inl f_cells))]) (x_runV (n0 := 2) (As := [.int v4, .int 1]) (rest := []) C0 (xc_X3_of l D cI cC cZ cL h h_cells H.size f_cells v4 1 _ hk) gX3_meantSo_X3_of rfl ⟨rfl, rfl⟩ (by decide +kernel) rfl ⟨by decide, by decide⟩ ⟨Nat.zero_le _, Nat.zero_le _⟩ hP hD [0, 1] rfl rfl (k := 0) rfl rfl rfl hl.1 rfl (Nat.le_of_ble_eq_true rfl) dX3_meantSo_27) hP hD hS hA [0, 1] [] [0, 1] rfl rfl rfl (by decide) (fun _ => rfl) rfl (fun r5 u5 H locs hk hP hD hS => ?_)
        refine lv_iload_n hx hb dX3_meantSo_30 rfl (lv_at hl 2 rfl) ?_
        refine lv_icmp_ne (tgt := 58) hx hb dX3_meantSo_31 (by decide) (fun c6 => ?_) (fun c6 => ?_)
        · have hk := hk.1 c6
          refine lv_iinc (v := (v4 + 1)) (lv' := [(4, .int (v4 + 1)), (0, .ref h), (1, .int v1), (2, .int v2), (3, .int v3)]) hx hb dX3_meantSo_58 hl (k := 4) rfl rfl (by decide) rfl (fun ls hl => ?_)
          refine lv_goto (tgt := 3) hx hb dX3_meantSo_61 (by decide) ?_
          exact ih _ _ _ _ hk H locs ls hP hD hS (lv_sub hl [1, 2, 3, 4, 0] rfl)
        · have hk := hk.2 c6
          refine lv_aload_n hx hb dX3_meantSo_34 rfl (lv_at hl 0 rfl) ?_
          refine lv_iload hx hb dX3_meantSo_35 (lv_at hl 4 rfl) ?_
          refine lv_bipush (v := 15) hx hb dX3_meantSo_37 (by decide) ?_
          refine x_joini (ws1 := fun (_ : Unit) => [(h, .inr (3, [.ref h_cells])), (h_cells, .inl (cI, 400, .inl f_cells))]) (x_runV (n0 := 2) (As := [.int v4, .int 15]) (rest := []) C0 (xc_X3_of l D cI cC cZ cL h h_cells H.size f_cells v4 15 _ hk) gX3_meantSo_X3_of rfl ⟨rfl, rfl⟩ (by decide +kernel) rfl ⟨by decide, by decide⟩ ⟨Nat.zero_le _, Nat.zero_le _⟩ hP hD [0, 1] rfl rfl (k := 0) rfl rfl rfl hl.1 rfl (Nat.le_of_ble_eq_true rfl) dX3_meantSo_39) hP hD hS hA [0, 1] [] [0, 1] rfl rfl rfl (by decide) (fun _ => rfl) rfl (fun r7 u7 H locs hk hP hD hS => ?_)
          refine lv_if_ne (tgt := 58) hx hb dX3_meantSo_42 (by decide) (fun c8 => ?_) (fun c8 => ?_)
          · have hk := hk.1 c8
            refine lv_iinc (v := (v4 + 1)) (lv' := [(4, .int (v4 + 1)), (0, .ref h), (1, .int v1), (2, .int v2), (3, .int v3)]) hx hb dX3_meantSo_58 hl (k := 4) rfl rfl (by decide) rfl (fun ls hl => ?_)
            refine lv_goto (tgt := 3) hx hb dX3_meantSo_61 (by decide) ?_
            exact ih _ _ _ _ hk H locs ls hP hD hS (lv_sub hl [1, 2, 3, 4, 0] rfl)
          · have hk := hk.2 c8
            refine lv_aload_n hx hb dX3_meantSo_45 rfl (lv_at hl 0 rfl) ?_
            refine lv_iload hx hb dX3_meantSo_46 (lv_at hl 4 rfl) ?_
            refine x_joini (ws1 := fun (_ : Unit) => [(h, .inr (3, [.ref h_cells])), (h_cells, .inl (cI, 400, .inl f_cells))]) (x_runV (n0 := 1) (As := [.int v4]) (rest := []) C0 (xc_X3_rightNumber l D cI cC cZ cL h h_cells H.size f_cells v4 _ hk) gX3_meantSo_X3_rightNumber rfl ⟨rfl, rfl⟩ (by decide +kernel) rfl ⟨by decide, by decide⟩ ⟨Nat.zero_le _, Nat.zero_le _⟩ hP hD [0, 1] rfl rfl (k := 0) rfl rfl rfl hl.1 rfl (Nat.le_of_ble_eq_true rfl) dX3_meantSo_48) hP hD hS hA [0, 1] [] [0, 1] rfl rfl rfl (by decide) (fun _ => rfl) rfl (fun r9 u9 H locs hk hP hD hS => ?_)
            refine lv_iload_n hx hb dX3_meantSo_51 rfl (lv_at hl 3 rfl) ?_
            refine lv_icmp_ne (tgt := 58) hx hb dX3_meantSo_52 (by decide) (fun c10 => ?_) (fun c10 => ?_)
            · have hk := hk.1 c10
              refine lv_iinc (v := (v4 + 1)) (lv' := [(4, .int (v4 + 1)), (0, .ref h), (1, .int v1), (2, .int v2), (3, .int v3)]) hx hb dX3_meantSo_58 hl (k := 4) rfl rfl (by decide) rfl (fun ls hl => ?_)
              refine lv_goto (tgt := 3) hx hb dX3_meantSo_61 (by decide) ?_
              exact ih _ _ _ _ hk H locs ls hP hD hS (lv_sub hl [1, 2, 3, 4, 0] rfl)
            · have hk := hk.2 c10
              refine lv_iload hx hb dX3_meantSo_55 (lv_at hl 4 rfl) ?_
              exact x_reti C0 () hk hP hD hS dX3_meantSo_57
set_option maxHeartbeats 4000000 in
set_option maxRecDepth 100000 in
theorem xb_X3_meantSo_0 {p : Program} {l : Launch} {e : Env} {s : State} {m : MethodId} {args : Array Value} {below : List Frame} {meth : Method} {c : Code} {A : Nat → Prop} {D : va_G} {cI cC cZ cL : ClassId} {h h_cells : Nat}  {f_cells : Nat → Int32} {K : Int32 → Prop}  (C0 : xC p s m args meth c cX3_meantSo 5 (some .int) wsX3_meantSo RX3 D (xTY cI cC cZ cL)) (hA : ∀ q : Nat, s.heap.size ≤ q → A q)  : ∀ (x1 : Int32) (x2 : Int32) (x3 : Int32) , xp_X3_meantSo f_cells x1 x2 x3 K → ∀ (H : Heap) (locs : List Loc) (ls : Array Slot), va_P D vwCl [(h, .inr (3, [.ref h_cells])), (h_cells, .inl (cI, 400, .inl f_cells))] H → va_D A [(h, .inr (3, [.ref h_cells])), (h_cells, .inl (cI, 400, .inl f_cells))] → va_S A s.heap H locs → lv_has ls 5 [(0, .ref h), (1, .int x1), (2, .int x2), (3, .int x3)] → W p l e ({ frames := 3, cells := 0, slots := 0, locals := 69 } : Room) s m args below meth c H locs 0 0 (MQ below (va_Qi (fun (r : Int32) (_ : Unit) => K r) (fun u t => xE D A ((fun (_ : Unit) => [(h, .inr (3, [.ref h_cells])), (h_cells, .inl (cI, 400, .inl f_cells))]) u) t) A) args s 0 0 A) (F0 m 0 ls []) := by
  obtain ⟨hx, hb, hr, hml, hown, hts, hlocks, hK, hN⟩ := id C0
  intro x1 x2 x3 hk H locs ls hP hD hS hl
  rw [xp_X3_meantSo] at hk
  refine lv_iconst (v := 0) hx hb dX3_meantSo_0 (by decide) ?_
  refine lv_istore (lv' := [(4, .int 0), (0, .ref h), (1, .int x1), (2, .int x2), (3, .int x3)]) hx hb dX3_meantSo_1 hl (by decide) rfl (fun ls hl => ?_)
  obtain ⟨n9, hk⟩ := hk
  exact xb_X3_meantSo_3 C0 hA  n9 _ _ _ _ hk H locs ls hP hD hS (lv_sub hl [1, 2, 3, 4, 0] rfl)
theorem xc_X3_meantSo (l : Launch) (D : va_G) (cI cC cZ cL : ClassId) (h h_cells : Nat)  (sz : Nat) (f_cells : Nat → Int32) (x1 : Int32) (x2 : Int32) (x3 : Int32) (K : Int32 → Prop) (hk : xp_X3_meantSo f_cells x1 x2 x3 K) : XMi l yX3_meantSo wsX3_meantSo ({ frames := 3, cells := 0, slots := 0, locals := 69 } : Room) D (xTY cI cC cZ cL) [.ref h, .int x1, .int x2, .int x3] [(h, .inr (3, [.ref h_cells])), (h_cells, .inl (cI, 400, .inl f_cells))] sz (fun (r : Int32) (_ : Unit) => K r) (fun (_ : Unit) => [(h, .inr (3, [.ref h_cells])), (h_cells, .inl (cI, 400, .inl f_cells))]) :=
  x_enter (cc := cX3_meantSo) (maxL := 5) (ret := (some .int)) (own := RX3) (by decide) rfl rfl (Nat.le_of_ble_eq_true rfl) (fun p e s m below meth c ls C0 hA hP hD hS hl => xb_X3_meantSo_0 C0 hA _ _ _ hk s.heap [] ls hP hD hS hl)
set_option maxRecDepth 20000 in
theorem xin_X3_holds_X3 : ∀ w ∈ u_ws RX3 TX3 1, w ∈ wsX3_holds := by decide +kernel
set_option maxHeartbeats 4000000 in
set_option maxRecDepth 100000 in
theorem xb_X3_holds_0 {p : Program} {l : Launch} {e : Env} {s : State} {m : MethodId} {args : Array Value} {below : List Frame} {meth : Method} {c : Code} {A : Nat → Prop} {D : va_G} {cI cC cZ cL : ClassId} {h h_cells : Nat}  {f_cells : Nat → Int32} {K : Int32 → Prop}  (C0 : xC p s m args meth c cX3_holds 4 (some .boolean) wsX3_holds RX3 D (xTY cI cC cZ cL)) (hA : ∀ q : Nat, s.heap.size ≤ q → A q)  : ∀ (x1 : Int32) (x2 : Int32) (x3 : Int32) , xp_X3_holds f_cells x1 x2 x3 K → ∀ (H : Heap) (locs : List Loc) (ls : Array Slot), va_P D vwCl [(h, .inr (3, [.ref h_cells])), (h_cells, .inl (cI, 400, .inl f_cells))] H → va_D A [(h, .inr (3, [.ref h_cells])), (h_cells, .inl (cI, 400, .inl f_cells))] → va_S A s.heap H locs → lv_has ls 4 [(0, .ref h), (1, .int x1), (2, .int x2), (3, .int x3)] → W p l e ({ frames := 1, cells := 0, slots := 0, locals := 23 } : Room) s m args below meth c H locs 0 0 (MQ below (va_Qi (fun (r : Int32) (_ : Unit) => K r) (fun u t => xE D A ((fun (_ : Unit) => [(h, .inr (3, [.ref h_cells])), (h_cells, .inl (cI, 400, .inl f_cells))]) u) t) A) args s 0 0 A) (F0 m 0 ls []) := by
  obtain ⟨hx, hb, hr, hml, hown, hts, hlocks, hK, hN⟩ := id C0
  intro x1 x2 x3 hk H locs ls hP hD hS hl
  rw [xp_X3_holds] at hk
  refine lv_iload_n hx hb dX3_holds_0 rfl (lv_at hl 3 rfl) ?_
  refine lv_aload_n hx hb dX3_holds_1 rfl (lv_at hl 0 rfl) ?_
  refine lv_iload_n hx hb dX3_holds_2 rfl (lv_at hl 1 rfl) ?_
  refine lv_iload_n hx hb dX3_holds_3 rfl (lv_at hl 2 rfl) ?_
  refine x_joini (ws1 := fun (_ : Unit) => [(h, .inr (3, [.ref h_cells])), (h_cells, .inl (cI, 400, .inl f_cells))]) (x_runV (n0 := 2) (As := [.int x1, .int x2]) (rest := [.int x3]) C0 (xc_X3_of l D cI cC cZ cL h h_cells H.size f_cells x1 x2 _ hk) gX3_holds_X3_of rfl ⟨rfl, rfl⟩ (by decide +kernel) rfl ⟨by decide, by decide⟩ ⟨Nat.zero_le _, Nat.zero_le _⟩ hP hD [0, 1] rfl rfl (k := 0) rfl rfl rfl hl.1 rfl (Nat.le_of_ble_eq_true rfl) dX3_holds_4) hP hD hS hA [0, 1] [] [0, 1] rfl rfl rfl (by decide) (fun _ => rfl) rfl (fun r1 u1 H locs hk hP hD hS => ?_)
  refine lv_icmp_lt (tgt := 32) hx hb dX3_holds_7 (by decide) (fun c2 => ?_) (fun c2 => ?_)
  · have hk := hk.1 c2
    refine lv_iconst (v := 0) hx hb dX3_holds_32 (by decide) ?_
    exact x_retz rfl C0 () hk hP hD hS dX3_holds_33
  · have hk := hk.2 c2
    refine lv_iload_n hx hb dX3_holds_10 rfl (lv_at hl 3 rfl) ?_
    refine lv_aload_n hx hb dX3_holds_11 rfl (lv_at hl 0 rfl) ?_
    refine lv_iload_n hx hb dX3_holds_12 rfl (lv_at hl 1 rfl) ?_
    refine lv_iload_n hx hb dX3_holds_13 rfl (lv_at hl 2 rfl) ?_
    refine x_joini (ws1 := fun (_ : Unit) => [(h, .inr (3, [.ref h_cells])), (h_cells, .inl (cI, 400, .inl f_cells))]) (x_runV (n0 := 2) (As := [.int x1, .int x2]) (rest := [.int x3]) C0 (xc_X3_of l D cI cC cZ cL h h_cells H.size f_cells x1 x2 _ hk) gX3_holds_X3_of rfl ⟨rfl, rfl⟩ (by decide +kernel) rfl ⟨by decide, by decide⟩ ⟨Nat.zero_le _, Nat.zero_le _⟩ hP hD [0, 1] rfl rfl (k := 0) rfl rfl rfl hl.1 rfl (Nat.le_of_ble_eq_true rfl) dX3_holds_14) hP hD hS hA [0, 1] [] [0, 1] rfl rfl rfl (by decide) (fun _ => rfl) rfl (fun r3 u3 H locs hk hP hD hS => ?_)
    refine lv_aload_n hx hb dX3_holds_17 rfl (lv_at hl 0 rfl) ?_
    refine lv_iload_n hx hb dX3_holds_18 rfl (lv_at hl 1 rfl) ?_
    refine lv_bipush (v := 8) hx hb dX3_holds_19 (by decide) ?_
    refine x_joini (ws1 := fun (_ : Unit) => [(h, .inr (3, [.ref h_cells])), (h_cells, .inl (cI, 400, .inl f_cells))]) (x_runV (n0 := 2) (As := [.int x1, .int 8]) (rest := [.int r3, .int x3]) C0 (xc_X3_of l D cI cC cZ cL h h_cells H.size f_cells x1 8 _ hk) gX3_holds_X3_of rfl ⟨rfl, rfl⟩ (by decide +kernel) rfl ⟨by decide, by decide⟩ ⟨Nat.zero_le _, Nat.zero_le _⟩ hP hD [0, 1] rfl rfl (k := 0) rfl rfl rfl hl.1 rfl (Nat.le_of_ble_eq_true rfl) dX3_holds_21) hP hD hS hA [0, 1] [] [0, 1] rfl rfl rfl (by decide) (fun _ => rfl) rfl (fun r4 u4 H locs hk hP hD hS => ?_)
    refine lv_iadd hx hb dX3_holds_24 ?_
    refine lv_icmp_ge (tgt := 32) hx hb dX3_holds_25 (by decide) (fun c5 => ?_) (fun c5 => ?_)
    · have hk := hk.1 c5
      refine lv_iconst (v := 0) hx hb dX3_holds_32 (by decide) ?_
      exact x_retz rfl C0 () hk hP hD hS dX3_holds_33
    · have hk := hk.2 c5
      refine lv_iconst (v := 1) hx hb dX3_holds_28 (by decide) ?_
      refine lv_goto (tgt := 33) hx hb dX3_holds_29 (by decide) ?_
      exact x_retz rfl C0 () hk hP hD hS dX3_holds_33
theorem xc_X3_holds (l : Launch) (D : va_G) (cI cC cZ cL : ClassId) (h h_cells : Nat)  (sz : Nat) (f_cells : Nat → Int32) (x1 : Int32) (x2 : Int32) (x3 : Int32) (K : Int32 → Prop) (hk : xp_X3_holds f_cells x1 x2 x3 K) : XMi l yX3_holds wsX3_holds ({ frames := 1, cells := 0, slots := 0, locals := 23 } : Room) D (xTY cI cC cZ cL) [.ref h, .int x1, .int x2, .int x3] [(h, .inr (3, [.ref h_cells])), (h_cells, .inl (cI, 400, .inl f_cells))] sz (fun (r : Int32) (_ : Unit) => K r) (fun (_ : Unit) => [(h, .inr (3, [.ref h_cells])), (h_cells, .inl (cI, 400, .inl f_cells))]) :=
  x_enter (cc := cX3_holds) (maxL := 4) (ret := (some .boolean)) (own := RX3) (by decide) rfl rfl (Nat.le_of_ble_eq_true rfl) (fun p e s m below meth c ls C0 hA hP hD hS hl => xb_X3_holds_0 C0 hA _ _ _ hk s.heap [] ls hP hD hS hl)
set_option maxRecDepth 20000 in
theorem xin_X3_meetsOwn_X3 : ∀ w ∈ u_ws RX3 TX3 1, w ∈ wsX3_meetsOwn := by decide +kernel
set_option maxHeartbeats 4000000 in
set_option maxRecDepth 100000 in
theorem xb_X3_meetsOwn_0 {p : Program} {l : Launch} {e : Env} {s : State} {m : MethodId} {args : Array Value} {below : List Frame} {meth : Method} {c : Code} {A : Nat → Prop} {D : va_G} {cI cC cZ cL : ClassId} {h h_cells : Nat}  {f_cells : Nat → Int32} {K : Int32 → Prop}  (C0 : xC p s m args meth c cX3_meetsOwn 4 (some .boolean) wsX3_meetsOwn RX3 D (xTY cI cC cZ cL)) (hA : ∀ q : Nat, s.heap.size ≤ q → A q)  : ∀ (x1 : Int32) (x2 : Int32) , xp_X3_meetsOwn f_cells x1 x2 K → ∀ (H : Heap) (locs : List Loc) (ls : Array Slot), va_P D vwCl [(h, .inr (3, [.ref h_cells])), (h_cells, .inl (cI, 400, .inl f_cells))] H → va_D A [(h, .inr (3, [.ref h_cells])), (h_cells, .inl (cI, 400, .inl f_cells))] → va_S A s.heap H locs → lv_has ls 4 [(0, .ref h), (1, .int x1), (2, .int x2)] → W p l e ({ frames := 1, cells := 0, slots := 0, locals := 23 } : Room) s m args below meth c H locs 0 0 (MQ below (va_Qi (fun (r : Int32) (_ : Unit) => K r) (fun u t => xE D A ((fun (_ : Unit) => [(h, .inr (3, [.ref h_cells])), (h_cells, .inl (cI, 400, .inl f_cells))]) u) t) A) args s 0 0 A) (F0 m 0 ls []) := by
  obtain ⟨hx, hb, hr, hml, hown, hts, hlocks, hK, hN⟩ := id C0
  intro x1 x2 hk H locs ls hP hD hS hl
  rw [xp_X3_meetsOwn] at hk
  refine lv_aload_n hx hb dX3_meetsOwn_0 rfl (lv_at hl 0 rfl) ?_
  refine lv_iload_n hx hb dX3_meetsOwn_1 rfl (lv_at hl 1 rfl) ?_
  refine lv_bipush (v := 13) hx hb dX3_meetsOwn_2 (by decide) ?_
  refine x_joini (ws1 := fun (_ : Unit) => [(h, .inr (3, [.ref h_cells])), (h_cells, .inl (cI, 400, .inl f_cells))]) (x_runV (n0 := 2) (As := [.int x1, .int 13]) (rest := []) C0 (xc_X3_of l D cI cC cZ cL h h_cells H.size f_cells x1 13 _ hk) gX3_meetsOwn_X3_of rfl ⟨rfl, rfl⟩ (by decide +kernel) rfl ⟨by decide, by decide⟩ ⟨Nat.zero_le _, Nat.zero_le _⟩ hP hD [0, 1] rfl rfl (k := 0) rfl rfl rfl hl.1 rfl (Nat.le_of_ble_eq_true rfl) dX3_meetsOwn_4) hP hD hS hA [0, 1] [] [0, 1] rfl rfl rfl (by decide) (fun _ => rfl) rfl (fun r1 u1 H locs hk hP hD hS => ?_)
  refine lv_aload_n hx hb dX3_meetsOwn_7 rfl (lv_at hl 0 rfl) ?_
  refine lv_iload_n hx hb dX3_meetsOwn_8 rfl (lv_at hl 1 rfl) ?_
  refine lv_bipush (v := 12) hx hb dX3_meetsOwn_9 (by decide) ?_
  refine x_joini (ws1 := fun (_ : Unit) => [(h, .inr (3, [.ref h_cells])), (h_cells, .inl (cI, 400, .inl f_cells))]) (x_runV (n0 := 2) (As := [.int x1, .int 12]) (rest := [.int r1]) C0 (xc_X3_of l D cI cC cZ cL h h_cells H.size f_cells x1 12 _ hk) gX3_meetsOwn_X3_of rfl ⟨rfl, rfl⟩ (by decide +kernel) rfl ⟨by decide, by decide⟩ ⟨Nat.zero_le _, Nat.zero_le _⟩ hP hD [0, 1] rfl rfl (k := 0) rfl rfl rfl hl.1 rfl (Nat.le_of_ble_eq_true rfl) dX3_meetsOwn_11) hP hD hS hA [0, 1] [] [0, 1] rfl rfl rfl (by decide) (fun _ => rfl) rfl (fun r2 u2 H locs hk hP hD hS => ?_)
  refine lv_isub hx hb dX3_meetsOwn_14 ?_
  refine lv_iload_n hx hb dX3_meetsOwn_15 rfl (lv_at hl 2 rfl) ?_
  refine lv_iadd hx hb dX3_meetsOwn_16 ?_
  refine lv_istore_n (lv' := [(3, .int ((r1 - r2) + x2)), (0, .ref h), (1, .int x1), (2, .int x2)]) hx hb dX3_meetsOwn_17 rfl hl (by decide) rfl (fun ls hl => ?_)
  refine lv_iload_n hx hb dX3_meetsOwn_18 rfl (lv_at hl 0 rfl) ?_
  refine va_mabs hx hb (hml.trans hl.1.symm) hown (hts (.methodLink RX3 92 Lib.Math.abs.name) (by decide +kernel)) (hts (.static Lib.Math.abs.name) (by decide +kernel)) (hts (.initialized "java/lang/Math") (by decide +kernel)) (hts (.code Lib.Math.abs.name Lib.Math.abs.code 1 (some .int)) (by decide +kernel)) (Nat.le_of_ble_eq_true rfl) (Nat.le_of_ble_eq_true rfl) (Nat.zero_le _) (Nat.zero_le _) dX3_meetsOwn_19 ?_
  refine lv_aload_n hx hb dX3_meetsOwn_22 rfl (lv_at hl 1 rfl) ?_
  refine lv_iload_n hx hb dX3_meetsOwn_23 rfl (lv_at hl 2 rfl) ?_
  refine lv_bipush (v := 8) hx hb dX3_meetsOwn_24 (by decide) ?_
  refine x_joini (ws1 := fun (_ : Unit) => [(h, .inr (3, [.ref h_cells])), (h_cells, .inl (cI, 400, .inl f_cells))]) (x_runV (n0 := 2) (As := [.int x1, .int 8]) (rest := [.int (if 0 ≤ ((r1 - r2) + x2) then ((r1 - r2) + x2) else 0 - ((r1 - r2) + x2))]) C0 (xc_X3_of l D cI cC cZ cL h h_cells H.size f_cells x1 8 _ hk) gX3_meetsOwn_X3_of rfl ⟨rfl, rfl⟩ (by decide +kernel) rfl ⟨by decide, by decide⟩ ⟨Nat.zero_le _, Nat.zero_le _⟩ hP hD [0, 1] rfl rfl (k := 0) rfl rfl rfl hl.1 rfl (Nat.le_of_ble_eq_true rfl) dX3_meetsOwn_26) hP hD hS hA [0, 1] [] [0, 1] rfl rfl rfl (by decide) (fun _ => rfl) rfl (fun r3 u3 H locs hk hP hD hS => ?_)
  refine lv_icmp_ge (tgt := 36) hx hb dX3_meetsOwn_29 (by decide) (fun c4 => ?_) (fun c4 => ?_)
  · have hk := hk.1 c4
    refine lv_iconst (v := 0) hx hb dX3_meetsOwn_36 (by decide) ?_
    exact x_retz rfl C0 () hk hP hD hS dX3_meetsOwn_37
  · have hk := hk.2 c4
    refine lv_iconst (v := 1) hx hb dX3_meetsOwn_32 (by decide) ?_
    refine lv_goto (tgt := 37) hx hb dX3_meetsOwn_33 (by decide) ?_
    exact x_retz rfl C0 () hk hP hD hS dX3_meetsOwn_37
theorem xc_X3_meetsOwn (l : Launch) (D : va_G) (cI cC cZ cL : ClassId) (h h_cells : Nat)  (sz : Nat) (f_cells : Nat → Int32) (x1 : Int32) (x2 : Int32) (K : Int32 → Prop) (hk : xp_X3_meetsOwn f_cells x1 x2 K) : XMi l yX3_meetsOwn wsX3_meetsOwn ({ frames := 1, cells := 0, slots := 0, locals := 23 } : Room) D (xTY cI cC cZ cL) [.ref h, .int x1, .int x2] [(h, .inr (3, [.ref h_cells])), (h_cells, .inl (cI, 400, .inl f_cells))] sz (fun (r : Int32) (_ : Unit) => K r) (fun (_ : Unit) => [(h, .inr (3, [.ref h_cells])), (h_cells, .inl (cI, 400, .inl f_cells))]) :=
  x_enter (cc := cX3_meetsOwn) (maxL := 4) (ret := (some .boolean)) (own := RX3) (by decide) rfl rfl (Nat.le_of_ble_eq_true rfl) (fun p e s m below meth c ls C0 hA hP hD hS hl => xb_X3_meetsOwn_0 C0 hA _ _ hk s.heap [] ls hP hD hS hl)
set_option maxRecDepth 20000 in
theorem xin_X3_sounds_X3 : ∀ w ∈ u_ws RX3 TX3 1, w ∈ wsX3_sounds := by decide +kernel
set_option maxHeartbeats 4000000 in
set_option maxRecDepth 100000 in
theorem xb_X3_sounds_4 {p : Program} {l : Launch} {e : Env} {s : State} {m : MethodId} {args : Array Value} {below : List Frame} {meth : Method} {c : Code} {A : Nat → Prop} {D : va_G} {cI cC cZ cL : ClassId} {h h_cells : Nat}  {f_cells : Nat → Int32} {K : Int32 → Prop}  (C0 : xC p s m args meth c cX3_sounds 3 (some .int) wsX3_sounds RX3 D (xTY cI cC cZ cL)) (hA : ∀ q : Nat, s.heap.size ≤ q → A q)  : ∀ (n : Nat) (v1 : Int32) (v2 : Int32) , xp_X3_sounds_4 f_cells K n v1 v2 → ∀ (H : Heap) (locs : List Loc) (ls : Array Slot), va_P D vwCl [(h, .inr (3, [.ref h_cells])), (h_cells, .inl (cI, 400, .inl f_cells))] H → va_D A [(h, .inr (3, [.ref h_cells])), (h_cells, .inl (cI, 400, .inl f_cells))] → va_S A s.heap H locs → lv_has ls 3 [(0, .ref h), (1, .int v1), (2, .int v2)] → W p l e ({ frames := 2, cells := 0, slots := 0, locals := 44 } : Room) s m args below meth c H locs 0 0 (MQ below (va_Qi (fun (r : Int32) (_ : Unit) => K r) (fun u t => xE D A ((fun (_ : Unit) => [(h, .inr (3, [.ref h_cells])), (h_cells, .inl (cI, 400, .inl f_cells))]) u) t) A) args s 0 0 A) (F0 m 4 ls []) := by
  obtain ⟨hx, hb, hr, hml, hown, hts, hlocks, hK, hN⟩ := id C0
  intro n
  induction n with
  | zero => intro v1 v2 hk; exact hk.elim
  | succ n ih =>
    intro v1 v2 hk H locs ls hP hD hS hl
    rw [xp_X3_sounds_4] at hk
    refine lv_iload_n hx hb dX3_sounds_4 rfl (lv_at hl 2 rfl) ?_
    refine lv_aload_n hx hb dX3_sounds_5 rfl (lv_at hl 0 rfl) ?_
    refine x_joini (ws1 := fun (_ : Unit) => [(h, .inr (3, [.ref h_cells])), (h_cells, .inl (cI, 400, .inl f_cells))]) (x_runV (n0 := 0) (As := []) (rest := [.int v2]) C0 (xc_X3_takes l D cI cC cZ cL h h_cells H.size f_cells _ hk) gX3_sounds_X3_takes rfl ⟨rfl, rfl⟩ (by decide +kernel) rfl ⟨by decide, by decide⟩ ⟨Nat.zero_le _, Nat.zero_le _⟩ hP hD [0, 1] rfl rfl (k := 0) rfl rfl rfl hl.1 rfl (Nat.le_of_ble_eq_true rfl) dX3_sounds_6) hP hD hS hA [0, 1] [] [0, 1] rfl rfl rfl (by decide) (fun _ => rfl) rfl (fun r1 u1 H locs hk hP hD hS => ?_)
    refine lv_icmp_ge (tgt := 29) hx hb dX3_sounds_9 (by decide) (fun c2 => ?_) (fun c2 => ?_)
    · have hk := hk.1 c2
      refine lv_iload_n hx hb dX3_sounds_29 rfl (lv_at hl 1 rfl) ?_
      exact x_reti C0 () hk hP hD hS dX3_sounds_30
    · have hk := hk.2 c2
      refine lv_aload_n hx hb dX3_sounds_12 rfl (lv_at hl 0 rfl) ?_
      refine lv_iload_n hx hb dX3_sounds_13 rfl (lv_at hl 2 rfl) ?_
      refine x_joini (ws1 := fun (_ : Unit) => [(h, .inr (3, [.ref h_cells])), (h_cells, .inl (cI, 400, .inl f_cells))]) (x_runV (n0 := 1) (As := [.int v2]) (rest := []) C0 (xc_X3_hasSound l D cI cC cZ cL h h_cells H.size f_cells v2 _ hk) gX3_sounds_X3_hasSound rfl ⟨rfl, rfl⟩ (by decide +kernel) rfl ⟨by decide, by decide⟩ ⟨Nat.zero_le _, Nat.zero_le _⟩ hP hD [0, 1] rfl rfl (k := 0) rfl rfl rfl hl.1 rfl (Nat.le_of_ble_eq_true rfl) dX3_sounds_14) hP hD hS hA [0, 1] [] [0, 1] rfl rfl rfl (by decide) (fun _ => rfl) rfl (fun r3 u3 H locs hk hP hD hS => ?_)
      refine lv_if_eq (tgt := 23) hx hb dX3_sounds_17 (by decide) (fun c4 => ?_) (fun c4 => ?_)
      · have hk := hk.1 c4
        refine lv_iinc (v := (v2 + 1)) (lv' := [(2, .int (v2 + 1)), (0, .ref h), (1, .int v1)]) hx hb dX3_sounds_23 hl (k := 2) rfl rfl (by decide) rfl (fun ls hl => ?_)
        refine lv_goto (tgt := 4) hx hb dX3_sounds_26 (by decide) ?_
        exact ih _ _ hk H locs ls hP hD hS (lv_sub hl [1, 2, 0] rfl)
      · have hk := hk.2 c4
        refine lv_iinc (v := (v1 + 1)) (lv' := [(1, .int (v1 + 1)), (0, .ref h), (2, .int v2)]) hx hb dX3_sounds_20 hl (k := 1) rfl rfl (by decide) rfl (fun ls hl => ?_)
        refine lv_iinc (v := (v2 + 1)) (lv' := [(2, .int (v2 + 1)), (1, .int (v1 + 1)), (0, .ref h)]) hx hb dX3_sounds_23 hl (k := 2) rfl rfl (by decide) rfl (fun ls hl => ?_)
        refine lv_goto (tgt := 4) hx hb dX3_sounds_26 (by decide) ?_
        exact ih _ _ hk H locs ls hP hD hS (lv_sub hl [2, 1, 0] rfl)
set_option maxHeartbeats 4000000 in
set_option maxRecDepth 100000 in
theorem xb_X3_sounds_0 {p : Program} {l : Launch} {e : Env} {s : State} {m : MethodId} {args : Array Value} {below : List Frame} {meth : Method} {c : Code} {A : Nat → Prop} {D : va_G} {cI cC cZ cL : ClassId} {h h_cells : Nat}  {f_cells : Nat → Int32} {K : Int32 → Prop}  (C0 : xC p s m args meth c cX3_sounds 3 (some .int) wsX3_sounds RX3 D (xTY cI cC cZ cL)) (hA : ∀ q : Nat, s.heap.size ≤ q → A q)  : xp_X3_sounds f_cells K → ∀ (H : Heap) (locs : List Loc) (ls : Array Slot), va_P D vwCl [(h, .inr (3, [.ref h_cells])), (h_cells, .inl (cI, 400, .inl f_cells))] H → va_D A [(h, .inr (3, [.ref h_cells])), (h_cells, .inl (cI, 400, .inl f_cells))] → va_S A s.heap H locs → lv_has ls 3 [(0, .ref h)] → W p l e ({ frames := 2, cells := 0, slots := 0, locals := 44 } : Room) s m args below meth c H locs 0 0 (MQ below (va_Qi (fun (r : Int32) (_ : Unit) => K r) (fun u t => xE D A ((fun (_ : Unit) => [(h, .inr (3, [.ref h_cells])), (h_cells, .inl (cI, 400, .inl f_cells))]) u) t) A) args s 0 0 A) (F0 m 0 ls []) := by
  obtain ⟨hx, hb, hr, hml, hown, hts, hlocks, hK, hN⟩ := id C0
  intro  hk H locs ls hP hD hS hl
  rw [xp_X3_sounds] at hk
  refine lv_iconst (v := 0) hx hb dX3_sounds_0 (by decide) ?_
  refine lv_istore_n (lv' := [(1, .int 0), (0, .ref h)]) hx hb dX3_sounds_1 rfl hl (by decide) rfl (fun ls hl => ?_)
  refine lv_iconst (v := 0) hx hb dX3_sounds_2 (by decide) ?_
  refine lv_istore_n (lv' := [(2, .int 0), (1, .int 0), (0, .ref h)]) hx hb dX3_sounds_3 rfl hl (by decide) rfl (fun ls hl => ?_)
  obtain ⟨n9, hk⟩ := hk
  exact xb_X3_sounds_4 C0 hA  n9 _ _ hk H locs ls hP hD hS (lv_sub hl [2, 1, 0] rfl)
theorem xc_X3_sounds (l : Launch) (D : va_G) (cI cC cZ cL : ClassId) (h h_cells : Nat)  (sz : Nat) (f_cells : Nat → Int32)  (K : Int32 → Prop) (hk : xp_X3_sounds f_cells K) : XMi l yX3_sounds wsX3_sounds ({ frames := 2, cells := 0, slots := 0, locals := 44 } : Room) D (xTY cI cC cZ cL) [.ref h] [(h, .inr (3, [.ref h_cells])), (h_cells, .inl (cI, 400, .inl f_cells))] sz (fun (r : Int32) (_ : Unit) => K r) (fun (_ : Unit) => [(h, .inr (3, [.ref h_cells])), (h_cells, .inl (cI, 400, .inl f_cells))]) :=
  x_enter (cc := cX3_sounds) (maxL := 3) (ret := (some .int)) (own := RX3) (by decide) rfl rfl (Nat.le_of_ble_eq_true rfl) (fun p e s m below meth c ls C0 hA hP hD hS hl => xb_X3_sounds_0 C0 hA  hk s.heap [] ls hP hD hS hl)
set_option maxRecDepth 20000 in
theorem xin_X3_keptSounds_X3 : ∀ w ∈ u_ws RX3 TX3 1, w ∈ wsX3_keptSounds := by decide +kernel
set_option maxHeartbeats 4000000 in
set_option maxRecDepth 100000 in
theorem xb_X3_keptSounds_4 {p : Program} {l : Launch} {e : Env} {s : State} {m : MethodId} {args : Array Value} {below : List Frame} {meth : Method} {c : Code} {A : Nat → Prop} {D : va_G} {cI cC cZ cL : ClassId} {h h_cells : Nat}  {f_cells : Nat → Int32} {K : Int32 → Prop}  (C0 : xC p s m args meth c cX3_keptSounds 4 (some .int) wsX3_keptSounds RX3 D (xTY cI cC cZ cL)) (hA : ∀ q : Nat, s.heap.size ≤ q → A q)  : ∀ (n : Nat) (v1 : Int32) (v2 : Int32) (v3 : Int32) , xp_X3_keptSounds_4 f_cells K n v1 v2 v3 → ∀ (H : Heap) (locs : List Loc) (ls : Array Slot), va_P D vwCl [(h, .inr (3, [.ref h_cells])), (h_cells, .inl (cI, 400, .inl f_cells))] H → va_D A [(h, .inr (3, [.ref h_cells])), (h_cells, .inl (cI, 400, .inl f_cells))] → va_S A s.heap H locs → lv_has ls 4 [(0, .ref h), (1, .int v1), (2, .int v2), (3, .int v3)] → W p l e ({ frames := 3, cells := 0, slots := 0, locals := 78 } : Room) s m args below meth c H locs 0 0 (MQ below (va_Qi (fun (r : Int32) (_ : Unit) => K r) (fun u t => xE D A ((fun (_ : Unit) => [(h, .inr (3, [.ref h_cells])), (h_cells, .inl (cI, 400, .inl f_cells))]) u) t) A) args s 0 0 A) (F0 m 4 ls []) := by
  obtain ⟨hx, hb, hr, hml, hown, hts, hlocks, hK, hN⟩ := id C0
  intro n
  induction n with
  | zero => intro v1 v2 v3 hk; exact hk.elim
  | succ n ih =>
    intro v1 v2 v3 hk H locs ls hP hD hS hl
    rw [xp_X3_keptSounds_4] at hk
    refine lv_iload_n hx hb dX3_keptSounds_4 rfl (lv_at hl 3 rfl) ?_
    refine lv_aload_n hx hb dX3_keptSounds_5 rfl (lv_at hl 0 rfl) ?_
    refine x_joini (ws1 := fun (_ : Unit) => [(h, .inr (3, [.ref h_cells])), (h_cells, .inl (cI, 400, .inl f_cells))]) (x_runV (n0 := 0) (As := []) (rest := [.int v3]) C0 (xc_X3_takes l D cI cC cZ cL h h_cells H.size f_cells _ hk) gX3_keptSounds_X3_takes rfl ⟨rfl, rfl⟩ (by decide +kernel) rfl ⟨by decide, by decide⟩ ⟨Nat.zero_le _, Nat.zero_le _⟩ hP hD [0, 1] rfl rfl (k := 0) rfl rfl rfl hl.1 rfl (Nat.le_of_ble_eq_true rfl) dX3_keptSounds_6) hP hD hS hA [0, 1] [] [0, 1] rfl rfl rfl (by decide) (fun _ => rfl) rfl (fun r1 u1 H locs hk hP hD hS => ?_)
    refine lv_icmp_ge (tgt := 48) hx hb dX3_keptSounds_9 (by decide) (fun c2 => ?_) (fun c2 => ?_)
    · have hk := hk.1 c2
      refine lv_iload_n hx hb dX3_keptSounds_48 rfl (lv_at hl 2 rfl) ?_
      exact x_reti C0 () hk hP hD hS dX3_keptSounds_49
    · have hk := hk.2 c2
      refine lv_aload_n hx hb dX3_keptSounds_12 rfl (lv_at hl 0 rfl) ?_
      refine lv_iload_n hx hb dX3_keptSounds_13 rfl (lv_at hl 3 rfl) ?_
      refine x_joini (ws1 := fun (_ : Unit) => [(h, .inr (3, [.ref h_cells])), (h_cells, .inl (cI, 400, .inl f_cells))]) (x_runV (n0 := 1) (As := [.int v3]) (rest := []) C0 (xc_X3_hasSound l D cI cC cZ cL h h_cells H.size f_cells v3 _ hk) gX3_keptSounds_X3_hasSound rfl ⟨rfl, rfl⟩ (by decide +kernel) rfl ⟨by decide, by decide⟩ ⟨Nat.zero_le _, Nat.zero_le _⟩ hP hD [0, 1] rfl rfl (k := 0) rfl rfl rfl hl.1 rfl (Nat.le_of_ble_eq_true rfl) dX3_keptSounds_14) hP hD hS hA [0, 1] [] [0, 1] rfl rfl rfl (by decide) (fun _ => rfl) rfl (fun r3 u3 H locs hk hP hD hS => ?_)
      refine lv_if_eq (tgt := 42) hx hb dX3_keptSounds_17 (by decide) (fun c4 => ?_) (fun c4 => ?_)
      · have hk := hk.1 c4
        refine lv_iinc (v := (v3 + 1)) (lv' := [(3, .int (v3 + 1)), (0, .ref h), (1, .int v1), (2, .int v2)]) hx hb dX3_keptSounds_42 hl (k := 3) rfl rfl (by decide) rfl (fun ls hl => ?_)
        refine lv_goto (tgt := 4) hx hb dX3_keptSounds_45 (by decide) ?_
        exact ih _ _ _ hk H locs ls hP hD hS (lv_sub hl [1, 2, 3, 0] rfl)
      · have hk := hk.2 c4
        refine lv_aload_n hx hb dX3_keptSounds_20 rfl (lv_at hl 0 rfl) ?_
        refine lv_iload_n hx hb dX3_keptSounds_21 rfl (lv_at hl 3 rfl) ?_
        refine lv_iload_n hx hb dX3_keptSounds_22 rfl (lv_at hl 1 rfl) ?_
        refine x_joini (ws1 := fun (_ : Unit) => [(h, .inr (3, [.ref h_cells])), (h_cells, .inl (cI, 400, .inl f_cells))]) (x_runV (n0 := 2) (As := [.int v3, .int v1]) (rest := []) C0 (xc_X3_meetsOwn l D cI cC cZ cL h h_cells H.size f_cells v3 v1 _ hk) gX3_keptSounds_X3_meetsOwn rfl ⟨rfl, rfl⟩ (by decide +kernel) rfl ⟨by decide, by decide⟩ ⟨Nat.zero_le _, Nat.zero_le _⟩ hP hD [0, 1] rfl rfl (k := 0) rfl rfl rfl hl.1 rfl (Nat.le_of_ble_eq_true rfl) dX3_keptSounds_23) hP hD hS hA [0, 1] [] [0, 1] rfl rfl rfl (by decide) (fun _ => rfl) rfl (fun r5 u5 H locs hk hP hD hS => ?_)
        refine lv_if_eq (tgt := 42) hx hb dX3_keptSounds_26 (by decide) (fun c6 => ?_) (fun c6 => ?_)
        · have hk := hk.1 c6
          refine lv_iinc (v := (v3 + 1)) (lv' := [(3, .int (v3 + 1)), (0, .ref h), (1, .int v1), (2, .int v2)]) hx hb dX3_keptSounds_42 hl (k := 3) rfl rfl (by decide) rfl (fun ls hl => ?_)
          refine lv_goto (tgt := 4) hx hb dX3_keptSounds_45 (by decide) ?_
          exact ih _ _ _ hk H locs ls hP hD hS (lv_sub hl [1, 2, 3, 0] rfl)
        · have hk := hk.2 c6
          refine lv_aload_n hx hb dX3_keptSounds_29 rfl (lv_at hl 0 rfl) ?_
          refine lv_iload_n hx hb dX3_keptSounds_30 rfl (lv_at hl 3 rfl) ?_
          refine lv_iload_n hx hb dX3_keptSounds_31 rfl (lv_at hl 1 rfl) ?_
          refine x_joini (ws1 := fun (_ : Unit) => [(h, .inr (3, [.ref h_cells])), (h_cells, .inl (cI, 400, .inl f_cells))]) (x_runV (n0 := 2) (As := [.int v3, .int v1]) (rest := []) C0 (xc_X3_soundFor l D cI cC cZ cL h h_cells H.size f_cells v3 v1 _ hk) gX3_keptSounds_X3_soundFor rfl ⟨rfl, rfl⟩ (by decide +kernel) rfl ⟨by decide, by decide⟩ ⟨Nat.zero_le _, Nat.zero_le _⟩ hP hD [0, 1] rfl rfl (k := 0) rfl rfl rfl hl.1 rfl (Nat.le_of_ble_eq_true rfl) dX3_keptSounds_32) hP hD hS hA [0, 1] [] [0, 1] rfl rfl rfl (by decide) (fun _ => rfl) rfl (fun r7 u7 H locs hk hP hD hS => ?_)
          refine lv_iload_n hx hb dX3_keptSounds_35 rfl (lv_at hl 3 rfl) ?_
          refine lv_icmp_ne (tgt := 42) hx hb dX3_keptSounds_36 (by decide) (fun c8 => ?_) (fun c8 => ?_)
          · have hk := hk.1 c8
            refine lv_iinc (v := (v3 + 1)) (lv' := [(3, .int (v3 + 1)), (0, .ref h), (1, .int v1), (2, .int v2)]) hx hb dX3_keptSounds_42 hl (k := 3) rfl rfl (by decide) rfl (fun ls hl => ?_)
            refine lv_goto (tgt := 4) hx hb dX3_keptSounds_45 (by decide) ?_
            exact ih _ _ _ hk H locs ls hP hD hS (lv_sub hl [1, 2, 3, 0] rfl)
          · have hk := hk.2 c8
            refine lv_iinc (v := (v2 + 1)) (lv' := [(2, .int (v2 + 1)), (0, .ref h), (1, .int v1), (3, .int v3)]) hx hb dX3_keptSounds_39 hl (k := 2) rfl rfl (by decide) rfl (fun ls hl => ?_)
            refine lv_iinc (v := (v3 + 1)) (lv' := [(3, .int (v3 + 1)), (2, .int (v2 + 1)), (0, .ref h), (1, .int v1)]) hx hb dX3_keptSounds_42 hl (k := 3) rfl rfl (by decide) rfl (fun ls hl => ?_)
            refine lv_goto (tgt := 4) hx hb dX3_keptSounds_45 (by decide) ?_
            exact ih _ _ _ hk H locs ls hP hD hS (lv_sub hl [2, 3, 1, 0] rfl)
set_option maxHeartbeats 4000000 in
set_option maxRecDepth 100000 in
theorem xb_X3_keptSounds_0 {p : Program} {l : Launch} {e : Env} {s : State} {m : MethodId} {args : Array Value} {below : List Frame} {meth : Method} {c : Code} {A : Nat → Prop} {D : va_G} {cI cC cZ cL : ClassId} {h h_cells : Nat}  {f_cells : Nat → Int32} {K : Int32 → Prop}  (C0 : xC p s m args meth c cX3_keptSounds 4 (some .int) wsX3_keptSounds RX3 D (xTY cI cC cZ cL)) (hA : ∀ q : Nat, s.heap.size ≤ q → A q)  : ∀ (x1 : Int32) , xp_X3_keptSounds f_cells x1 K → ∀ (H : Heap) (locs : List Loc) (ls : Array Slot), va_P D vwCl [(h, .inr (3, [.ref h_cells])), (h_cells, .inl (cI, 400, .inl f_cells))] H → va_D A [(h, .inr (3, [.ref h_cells])), (h_cells, .inl (cI, 400, .inl f_cells))] → va_S A s.heap H locs → lv_has ls 4 [(0, .ref h), (1, .int x1)] → W p l e ({ frames := 3, cells := 0, slots := 0, locals := 78 } : Room) s m args below meth c H locs 0 0 (MQ below (va_Qi (fun (r : Int32) (_ : Unit) => K r) (fun u t => xE D A ((fun (_ : Unit) => [(h, .inr (3, [.ref h_cells])), (h_cells, .inl (cI, 400, .inl f_cells))]) u) t) A) args s 0 0 A) (F0 m 0 ls []) := by
  obtain ⟨hx, hb, hr, hml, hown, hts, hlocks, hK, hN⟩ := id C0
  intro x1 hk H locs ls hP hD hS hl
  rw [xp_X3_keptSounds] at hk
  refine lv_iconst (v := 0) hx hb dX3_keptSounds_0 (by decide) ?_
  refine lv_istore_n (lv' := [(2, .int 0), (0, .ref h), (1, .int x1)]) hx hb dX3_keptSounds_1 rfl hl (by decide) rfl (fun ls hl => ?_)
  refine lv_iconst (v := 0) hx hb dX3_keptSounds_2 (by decide) ?_
  refine lv_istore_n (lv' := [(3, .int 0), (2, .int 0), (0, .ref h), (1, .int x1)]) hx hb dX3_keptSounds_3 rfl hl (by decide) rfl (fun ls hl => ?_)
  obtain ⟨n9, hk⟩ := hk
  exact xb_X3_keptSounds_4 C0 hA  n9 _ _ _ hk H locs ls hP hD hS (lv_sub hl [2, 3, 1, 0] rfl)
theorem xc_X3_keptSounds (l : Launch) (D : va_G) (cI cC cZ cL : ClassId) (h h_cells : Nat)  (sz : Nat) (f_cells : Nat → Int32) (x1 : Int32) (K : Int32 → Prop) (hk : xp_X3_keptSounds f_cells x1 K) : XMi l yX3_keptSounds wsX3_keptSounds ({ frames := 3, cells := 0, slots := 0, locals := 78 } : Room) D (xTY cI cC cZ cL) [.ref h, .int x1] [(h, .inr (3, [.ref h_cells])), (h_cells, .inl (cI, 400, .inl f_cells))] sz (fun (r : Int32) (_ : Unit) => K r) (fun (_ : Unit) => [(h, .inr (3, [.ref h_cells])), (h_cells, .inl (cI, 400, .inl f_cells))]) :=
  x_enter (cc := cX3_keptSounds) (maxL := 4) (ret := (some .int)) (own := RX3) (by decide) rfl rfl (Nat.le_of_ble_eq_true rfl) (fun p e s m below meth c ls C0 hA hP hD hS hl => xb_X3_keptSounds_0 C0 hA _ hk s.heap [] ls hP hD hS hl)
set_option maxRecDepth 20000 in
theorem xin_X3_mean_X3 : ∀ w ∈ u_ws RX3 TX3 1, w ∈ wsX3_mean := by decide +kernel
set_option maxHeartbeats 4000000 in
set_option maxRecDepth 100000 in
theorem xb_X3_mean_0 {p : Program} {l : Launch} {e : Env} {s : State} {m : MethodId} {args : Array Value} {below : List Frame} {meth : Method} {c : Code} {A : Nat → Prop} {D : va_G} {cI cC cZ cL : ClassId} {h h_cells : Nat}   {K : Int32 → ((Nat → Int32)) → Prop}  (C0 : xC p s m args meth c cX3_mean 3 (some .boolean) wsX3_mean RX3 D (xTY cI cC cZ cL)) (hA : ∀ q : Nat, s.heap.size ≤ q → A q)  : ∀ (f_cells : Nat → Int32) (x1 : Int32) (x2 : Int32) , xp_X3_mean f_cells x1 x2 K → ∀ (H : Heap) (locs : List Loc) (ls : Array Slot), va_P D vwCl [(h, .inr (3, [.ref h_cells])), (h_cells, .inl (cI, 400, .inl f_cells))] H → va_D A [(h, .inr (3, [.ref h_cells])), (h_cells, .inl (cI, 400, .inl f_cells))] → va_S A s.heap H locs → lv_has ls 3 [(0, .ref h), (1, .int x1), (2, .int x2)] → W p l e ({ frames := 0, cells := 0, slots := 0, locals := 0 } : Room) s m args below meth c H locs 0 0 (MQ below (va_Qi (fun (r : Int32) (u : (Nat → Int32)) => K r u) (fun u t => xE D A ((fun (u : (Nat → Int32)) => [(h, .inr (3, [.ref h_cells])), (h_cells, .inl (cI, 400, .inl u))]) u) t) A) args s 0 0 A) (F0 m 0 ls []) := by
  obtain ⟨hx, hb, hr, hml, hown, hts, hlocks, hK, hN⟩ := id C0
  intro f_cells x1 x2 hk H locs ls hP hD hS hl
  rw [xp_X3_mean] at hk
  refine lv_aload_n hx hb dX3_mean_0 rfl (lv_at hl 0 rfl) ?_
  refine va_get (D := D) (ci := 3) (v := .ref h_cells) (C := RX3) (T := TX3) (N := 1) hx hb hts xin_X3_mean_X3 hown hK hP 0 rfl rfl 0 (by decide) (hts (.fieldLink RX3 9 "TakeLog$State" "cells" "[I") (by decide +kernel)) (fun _ h9 => h9) rfl dX3_mean_1 ?_
  refine lv_iconst (v := 1) hx hb dX3_mean_4 (by decide) ?_
  refine lv_iload_n hx hb dX3_mean_5 rfl (lv_at hl 1 rfl) ?_
  refine x_iast (k := 1) hx hb hK hP hD hS 1 0 rfl rfl (x_lit rfl (by decide) (by decide)) rfl dX3_mean_6 (fun H locs hP hD hS => ?_)
  have hP : va_P D vwCl [(h, .inr (3, [.ref h_cells])), (h_cells, .inl (cI, 400, .inl (upd f_cells 1 x1)))] H := hP
  have hD : va_D A [(h, .inr (3, [.ref h_cells])), (h_cells, .inl (cI, 400, .inl (upd f_cells 1 x1)))] := hD
  refine lv_aload_n hx hb dX3_mean_7 rfl (lv_at hl 0 rfl) ?_
  refine va_get (D := D) (ci := 3) (v := .ref h_cells) (C := RX3) (T := TX3) (N := 1) hx hb hts xin_X3_mean_X3 hown hK hP 0 rfl rfl 0 (by decide) (hts (.fieldLink RX3 9 "TakeLog$State" "cells" "[I") (by decide +kernel)) (fun _ h9 => h9) rfl dX3_mean_8 ?_
  refine lv_iconst (v := 2) hx hb dX3_mean_11 (by decide) ?_
  refine lv_iload_n hx hb dX3_mean_12 rfl (lv_at hl 2 rfl) ?_
  refine x_iast (k := 2) hx hb hK hP hD hS 1 0 rfl rfl (x_lit rfl (by decide) (by decide)) rfl dX3_mean_13 (fun H locs hP hD hS => ?_)
  have hP : va_P D vwCl [(h, .inr (3, [.ref h_cells])), (h_cells, .inl (cI, 400, .inl (upd (upd f_cells 1 x1) 2 x2)))] H := hP
  have hD : va_D A [(h, .inr (3, [.ref h_cells])), (h_cells, .inl (cI, 400, .inl (upd (upd f_cells 1 x1) 2 x2)))] := hD
  refine lv_iconst (v := 1) hx hb dX3_mean_14 (by decide) ?_
  exact x_retz rfl C0 (upd (upd f_cells 1 x1) 2 x2) hk hP hD hS dX3_mean_15
theorem xc_X3_mean (l : Launch) (D : va_G) (cI cC cZ cL : ClassId) (h h_cells : Nat)  (sz : Nat) (f_cells : Nat → Int32) (x1 : Int32) (x2 : Int32) (K : Int32 → ((Nat → Int32)) → Prop) (hk : xp_X3_mean f_cells x1 x2 K) : XMi l yX3_mean wsX3_mean ({ frames := 0, cells := 0, slots := 0, locals := 0 } : Room) D (xTY cI cC cZ cL) [.ref h, .int x1, .int x2] [(h, .inr (3, [.ref h_cells])), (h_cells, .inl (cI, 400, .inl f_cells))] sz (fun (r : Int32) (u : (Nat → Int32)) => K r u) (fun (u : (Nat → Int32)) => [(h, .inr (3, [.ref h_cells])), (h_cells, .inl (cI, 400, .inl u))]) :=
  x_enter (cc := cX3_mean) (maxL := 3) (ret := (some .boolean)) (own := RX3) (by decide) rfl rfl (Nat.le_of_ble_eq_true rfl) (fun p e s m below meth c ls C0 hA hP hD hS hl => xb_X3_mean_0 C0 hA _ _ _ hk s.heap [] ls hP hD hS hl)
set_option maxRecDepth 20000 in
theorem xin_X3_write_X3 : ∀ w ∈ u_ws RX3 TX3 1, w ∈ wsX3_write := by decide +kernel
set_option maxHeartbeats 4000000 in
set_option maxRecDepth 100000 in
theorem xb_X3_write_0 {p : Program} {l : Launch} {e : Env} {s : State} {m : MethodId} {args : Array Value} {below : List Frame} {meth : Method} {c : Code} {A : Nat → Prop} {D : va_G} {cI cC cZ cL : ClassId} {h h_cells : Nat}   {K : ((Nat → Int32)) → Prop}  (C0 : xC p s m args meth c cX3_write 4 none wsX3_write RX3 D (xTY cI cC cZ cL)) (hA : ∀ q : Nat, s.heap.size ≤ q → A q)  : ∀ (f_cells : Nat → Int32) (x1 : Int32) (x2 : Int32) (x3 : Int32) , xp_X3_write f_cells x1 x2 x3 K → ∀ (H : Heap) (locs : List Loc) (ls : Array Slot), va_P D vwCl [(h, .inr (3, [.ref h_cells])), (h_cells, .inl (cI, 400, .inl f_cells))] H → va_D A [(h, .inr (3, [.ref h_cells])), (h_cells, .inl (cI, 400, .inl f_cells))] → va_S A s.heap H locs → lv_has ls 4 [(0, .ref h), (1, .int x1), (2, .int x2), (3, .int x3)] → W p l e ({ frames := 0, cells := 0, slots := 0, locals := 0 } : Room) s m args below meth c H locs 0 0 (MQ below (va_Qv (fun (u : (Nat → Int32)) => K u) (fun u t => xE D A ((fun (u : (Nat → Int32)) => [(h, .inr (3, [.ref h_cells])), (h_cells, .inl (cI, 400, .inl u))]) u) t) A) args s 0 0 A) (F0 m 0 ls []) := by
  obtain ⟨hx, hb, hr, hml, hown, hts, hlocks, hK, hN⟩ := id C0
  intro f_cells x1 x2 x3 hk H locs ls hP hD hS hl
  rw [xp_X3_write] at hk
  refine lv_aload_n hx hb dX3_write_0 rfl (lv_at hl 0 rfl) ?_
  refine va_get (D := D) (ci := 3) (v := .ref h_cells) (C := RX3) (T := TX3) (N := 1) hx hb hts xin_X3_write_X3 hown hK hP 0 rfl rfl 0 (by decide) (hts (.fieldLink RX3 9 "TakeLog$State" "cells" "[I") (by decide +kernel)) (fun _ h9 => h9) rfl dX3_write_1 ?_
  refine lv_iconst (v := 3) hx hb dX3_write_4 (by decide) ?_
  refine lv_iload_n hx hb dX3_write_5 rfl (lv_at hl 1 rfl) ?_
  refine x_iast (k := 3) hx hb hK hP hD hS 1 0 rfl rfl (x_lit rfl (by decide) (by decide)) rfl dX3_write_6 (fun H locs hP hD hS => ?_)
  have hP : va_P D vwCl [(h, .inr (3, [.ref h_cells])), (h_cells, .inl (cI, 400, .inl (upd f_cells 3 x1)))] H := hP
  have hD : va_D A [(h, .inr (3, [.ref h_cells])), (h_cells, .inl (cI, 400, .inl (upd f_cells 3 x1)))] := hD
  refine lv_aload_n hx hb dX3_write_7 rfl (lv_at hl 0 rfl) ?_
  refine va_get (D := D) (ci := 3) (v := .ref h_cells) (C := RX3) (T := TX3) (N := 1) hx hb hts xin_X3_write_X3 hown hK hP 0 rfl rfl 0 (by decide) (hts (.fieldLink RX3 9 "TakeLog$State" "cells" "[I") (by decide +kernel)) (fun _ h9 => h9) rfl dX3_write_8 ?_
  refine lv_iconst (v := 4) hx hb dX3_write_11 (by decide) ?_
  refine lv_iload_n hx hb dX3_write_12 rfl (lv_at hl 2 rfl) ?_
  refine x_iast (k := 4) hx hb hK hP hD hS 1 0 rfl rfl (x_lit rfl (by decide) (by decide)) rfl dX3_write_13 (fun H locs hP hD hS => ?_)
  have hP : va_P D vwCl [(h, .inr (3, [.ref h_cells])), (h_cells, .inl (cI, 400, .inl (upd (upd f_cells 3 x1) 4 x2)))] H := hP
  have hD : va_D A [(h, .inr (3, [.ref h_cells])), (h_cells, .inl (cI, 400, .inl (upd (upd f_cells 3 x1) 4 x2)))] := hD
  refine lv_aload_n hx hb dX3_write_14 rfl (lv_at hl 0 rfl) ?_
  refine va_get (D := D) (ci := 3) (v := .ref h_cells) (C := RX3) (T := TX3) (N := 1) hx hb hts xin_X3_write_X3 hown hK hP 0 rfl rfl 0 (by decide) (hts (.fieldLink RX3 9 "TakeLog$State" "cells" "[I") (by decide +kernel)) (fun _ h9 => h9) rfl dX3_write_15 ?_
  refine lv_iconst (v := 5) hx hb dX3_write_18 (by decide) ?_
  refine lv_iload_n hx hb dX3_write_19 rfl (lv_at hl 3 rfl) ?_
  refine x_iast (k := 5) hx hb hK hP hD hS 1 0 rfl rfl (x_lit rfl (by decide) (by decide)) rfl dX3_write_20 (fun H locs hP hD hS => ?_)
  have hP : va_P D vwCl [(h, .inr (3, [.ref h_cells])), (h_cells, .inl (cI, 400, .inl (upd (upd (upd f_cells 3 x1) 4 x2) 5 x3)))] H := hP
  have hD : va_D A [(h, .inr (3, [.ref h_cells])), (h_cells, .inl (cI, 400, .inl (upd (upd (upd f_cells 3 x1) 4 x2) 5 x3)))] := hD
  exact x_retv C0 (upd (upd (upd f_cells 3 x1) 4 x2) 5 x3) hk hP hD hS dX3_write_21
theorem xc_X3_write (l : Launch) (D : va_G) (cI cC cZ cL : ClassId) (h h_cells : Nat)  (sz : Nat) (f_cells : Nat → Int32) (x1 : Int32) (x2 : Int32) (x3 : Int32) (K : ((Nat → Int32)) → Prop) (hk : xp_X3_write f_cells x1 x2 x3 K) : XMv l yX3_write wsX3_write ({ frames := 0, cells := 0, slots := 0, locals := 0 } : Room) D (xTY cI cC cZ cL) [.ref h, .int x1, .int x2, .int x3] [(h, .inr (3, [.ref h_cells])), (h_cells, .inl (cI, 400, .inl f_cells))] sz (fun (u : (Nat → Int32)) => K u) (fun (u : (Nat → Int32)) => [(h, .inr (3, [.ref h_cells])), (h_cells, .inl (cI, 400, .inl u))]) :=
  x_enter (cc := cX3_write) (maxL := 4) (ret := none) (own := RX3) (by decide) rfl rfl (Nat.le_of_ble_eq_true rfl) (fun p e s m below meth c ls C0 hA hP hD hS hl => xb_X3_write_0 C0 hA _ _ _ _ hk s.heap [] ls hP hD hS hl)
set_option maxRecDepth 20000 in
theorem xin_X3_writeRight_X3 : ∀ w ∈ u_ws RX3 TX3 1, w ∈ wsX3_writeRight := by decide +kernel
set_option maxHeartbeats 4000000 in
set_option maxRecDepth 100000 in
theorem xb_X3_writeRight_0 {p : Program} {l : Launch} {e : Env} {s : State} {m : MethodId} {args : Array Value} {below : List Frame} {meth : Method} {c : Code} {A : Nat → Prop} {D : va_G} {cI cC cZ cL : ClassId} {h h_cells : Nat}   {K : Int32 → ((Nat → Int32)) → Prop}  (C0 : xC p s m args meth c cX3_writeRight 1 (some .boolean) wsX3_writeRight RX3 D (xTY cI cC cZ cL)) (hA : ∀ q : Nat, s.heap.size ≤ q → A q)  : ∀ (f_cells : Nat → Int32) , xp_X3_writeRight f_cells K → ∀ (H : Heap) (locs : List Loc) (ls : Array Slot), va_P D vwCl [(h, .inr (3, [.ref h_cells])), (h_cells, .inl (cI, 400, .inl f_cells))] H → va_D A [(h, .inr (3, [.ref h_cells])), (h_cells, .inl (cI, 400, .inl f_cells))] → va_S A s.heap H locs → lv_has ls 1 [(0, .ref h)] → W p l e ({ frames := 3, cells := 0, slots := 0, locals := 68 } : Room) s m args below meth c H locs 0 0 (MQ below (va_Qi (fun (r : Int32) (u : (Nat → Int32)) => K r u) (fun u t => xE D A ((fun (u : (Nat → Int32)) => [(h, .inr (3, [.ref h_cells])), (h_cells, .inl (cI, 400, .inl u))]) u) t) A) args s 0 0 A) (F0 m 0 ls []) := by
  obtain ⟨hx, hb, hr, hml, hown, hts, hlocks, hK, hN⟩ := id C0
  intro f_cells hk H locs ls hP hD hS hl
  rw [xp_X3_writeRight] at hk
  refine lv_aload_n hx hb dX3_writeRight_0 rfl (lv_at hl 0 rfl) ?_
  refine lv_aload_n hx hb dX3_writeRight_1 rfl (lv_at hl 0 rfl) ?_
  refine va_get (D := D) (ci := 3) (v := .ref h_cells) (C := RX3) (T := TX3) (N := 1) hx hb hts xin_X3_writeRight_X3 hown hK hP 0 rfl rfl 0 (by decide) (hts (.fieldLink RX3 9 "TakeLog$State" "cells" "[I") (by decide +kernel)) (fun _ h9 => h9) rfl dX3_writeRight_2 ?_
  refine lv_iconst (v := 1) hx hb dX3_writeRight_5 (by decide) ?_
  refine x_iald (k := 1) hx hb hK hP 1 0 rfl rfl (x_lit rfl (by decide) (by decide)) rfl (v := (f_cells 1)) rfl dX3_writeRight_6 ?_
  refine lv_aload_n hx hb dX3_writeRight_7 rfl (lv_at hl 0 rfl) ?_
  refine va_get (D := D) (ci := 3) (v := .ref h_cells) (C := RX3) (T := TX3) (N := 1) hx hb hts xin_X3_writeRight_X3 hown hK hP 0 rfl rfl 0 (by decide) (hts (.fieldLink RX3 9 "TakeLog$State" "cells" "[I") (by decide +kernel)) (fun _ h9 => h9) rfl dX3_writeRight_8 ?_
  refine lv_iconst (v := 2) hx hb dX3_writeRight_11 (by decide) ?_
  refine x_iald (k := 2) hx hb hK hP 1 0 rfl rfl (x_lit rfl (by decide) (by decide)) rfl (v := (f_cells 2)) rfl dX3_writeRight_12 ?_
  refine lv_aload_n hx hb dX3_writeRight_13 rfl (lv_at hl 0 rfl) ?_
  refine x_joini (ws1 := fun (_ : Unit) => [(h, .inr (3, [.ref h_cells])), (h_cells, .inl (cI, 400, .inl f_cells))]) (x_runV (n0 := 0) (As := []) (rest := [.int (f_cells 2), .int (f_cells 1), .ref h]) C0 (xc_X3_nextNumber l D cI cC cZ cL h h_cells H.size f_cells _ hk) gX3_writeRight_X3_nextNumber rfl ⟨rfl, rfl⟩ (by decide +kernel) rfl ⟨by decide, by decide⟩ ⟨Nat.zero_le _, Nat.zero_le _⟩ hP hD [0, 1] rfl rfl (k := 0) rfl rfl rfl hl.1 rfl (Nat.le_of_ble_eq_true rfl) dX3_writeRight_14) hP hD hS hA [0, 1] [] [0, 1] rfl rfl rfl (by decide) (fun _ => rfl) rfl (fun r1 u1 H locs hk hP hD hS => ?_)
  refine x_joinv (ws1 := fun (u2 : (Nat → Int32)) => [(h, .inr (3, [.ref h_cells])), (h_cells, .inl (cI, 400, .inl u2))]) (x_runV (n0 := 3) (As := [.int (f_cells 1), .int (f_cells 2), .int r1]) (rest := []) C0 (xc_X3_write l D cI cC cZ cL h h_cells H.size f_cells (f_cells 1) (f_cells 2) r1 _ hk) gX3_writeRight_X3_write rfl ⟨rfl, rfl⟩ (by decide +kernel) rfl ⟨by decide, by decide⟩ ⟨Nat.zero_le _, Nat.zero_le _⟩ hP hD [0, 1] rfl rfl (k := 0) rfl rfl rfl hl.1 rfl (Nat.le_of_ble_eq_true rfl) dX3_writeRight_17) hP hD hS hA [0, 1] [] [0, 1] rfl rfl rfl (by decide) (fun _ => rfl) rfl (fun u2 H locs hk hP hD hS => ?_)
  refine lv_iconst (v := 1) hx hb dX3_writeRight_20 (by decide) ?_
  exact x_retz rfl C0 (u2) hk hP hD hS dX3_writeRight_21
theorem xc_X3_writeRight (l : Launch) (D : va_G) (cI cC cZ cL : ClassId) (h h_cells : Nat)  (sz : Nat) (f_cells : Nat → Int32)  (K : Int32 → ((Nat → Int32)) → Prop) (hk : xp_X3_writeRight f_cells K) : XMi l yX3_writeRight wsX3_writeRight ({ frames := 3, cells := 0, slots := 0, locals := 68 } : Room) D (xTY cI cC cZ cL) [.ref h] [(h, .inr (3, [.ref h_cells])), (h_cells, .inl (cI, 400, .inl f_cells))] sz (fun (r : Int32) (u : (Nat → Int32)) => K r u) (fun (u : (Nat → Int32)) => [(h, .inr (3, [.ref h_cells])), (h_cells, .inl (cI, 400, .inl u))]) :=
  x_enter (cc := cX3_writeRight) (maxL := 1) (ret := (some .boolean)) (own := RX3) (by decide) rfl rfl (Nat.le_of_ble_eq_true rfl) (fun p e s m below meth c ls C0 hA hP hD hS hl => xb_X3_writeRight_0 C0 hA _ hk s.heap [] ls hP hD hS hl)
set_option maxRecDepth 20000 in
theorem xin_X3_canFilm_X3 : ∀ w ∈ u_ws RX3 TX3 1, w ∈ wsX3_canFilm := by decide +kernel
set_option maxHeartbeats 4000000 in
set_option maxRecDepth 100000 in
theorem xb_X3_canFilm_0 {p : Program} {l : Launch} {e : Env} {s : State} {m : MethodId} {args : Array Value} {below : List Frame} {meth : Method} {c : Code} {A : Nat → Prop} {D : va_G} {cI cC cZ cL : ClassId} {h h_cells : Nat}  {f_cells : Nat → Int32} {K : Int32 → Prop}  (C0 : xC p s m args meth c cX3_canFilm 1 (some .boolean) wsX3_canFilm RX3 D (xTY cI cC cZ cL)) (hA : ∀ q : Nat, s.heap.size ≤ q → A q)  : xp_X3_canFilm f_cells K → ∀ (H : Heap) (locs : List Loc) (ls : Array Slot), va_P D vwCl [(h, .inr (3, [.ref h_cells])), (h_cells, .inl (cI, 400, .inl f_cells))] H → va_D A [(h, .inr (3, [.ref h_cells])), (h_cells, .inl (cI, 400, .inl f_cells))] → va_S A s.heap H locs → lv_has ls 1 [(0, .ref h)] → W p l e ({ frames := 2, cells := 0, slots := 0, locals := 42 } : Room) s m args below meth c H locs 0 0 (MQ below (va_Qi (fun (r : Int32) (_ : Unit) => K r) (fun u t => xE D A ((fun (_ : Unit) => [(h, .inr (3, [.ref h_cells])), (h_cells, .inl (cI, 400, .inl f_cells))]) u) t) A) args s 0 0 A) (F0 m 0 ls []) := by
  obtain ⟨hx, hb, hr, hml, hown, hts, hlocks, hK, hN⟩ := id C0
  intro  hk H locs ls hP hD hS hl
  rw [xp_X3_canFilm] at hk
  refine lv_aload_n hx hb dX3_canFilm_0 rfl (lv_at hl 0 rfl) ?_
  refine x_joini (ws1 := fun (_ : Unit) => [(h, .inr (3, [.ref h_cells])), (h_cells, .inl (cI, 400, .inl f_cells))]) (x_runV (n0 := 0) (As := []) (rest := []) C0 (xc_X3_takes l D cI cC cZ cL h h_cells H.size f_cells _ hk) gX3_canFilm_X3_takes rfl ⟨rfl, rfl⟩ (by decide +kernel) rfl ⟨by decide, by decide⟩ ⟨Nat.zero_le _, Nat.zero_le _⟩ hP hD [0, 1] rfl rfl (k := 0) rfl rfl rfl hl.1 rfl (Nat.le_of_ble_eq_true rfl) dX3_canFilm_1) hP hD hS hA [0, 1] [] [0, 1] rfl rfl rfl (by decide) (fun _ => rfl) rfl (fun r1 u1 H locs hk hP hD hS => ?_)
  refine lv_bipush (v := 24) hx hb dX3_canFilm_4 (by decide) ?_
  refine lv_icmp_ge (tgt := 20) hx hb dX3_canFilm_6 (by decide) (fun c2 => ?_) (fun c2 => ?_)
  · have hk := hk.1 c2
    refine lv_iconst (v := 0) hx hb dX3_canFilm_20 (by decide) ?_
    exact x_retz rfl C0 () hk hP hD hS dX3_canFilm_21
  · have hk := hk.2 c2
    refine lv_aload_n hx hb dX3_canFilm_9 rfl (lv_at hl 0 rfl) ?_
    refine x_joini (ws1 := fun (_ : Unit) => [(h, .inr (3, [.ref h_cells])), (h_cells, .inl (cI, 400, .inl f_cells))]) (x_runV (n0 := 0) (As := []) (rest := []) C0 (xc_X3_cameraLeft l D cI cC cZ cL h h_cells H.size f_cells _ hk) gX3_canFilm_X3_cameraLeft rfl ⟨rfl, rfl⟩ (by decide +kernel) rfl ⟨by decide, by decide⟩ ⟨Nat.zero_le _, Nat.zero_le _⟩ hP hD [0, 1] rfl rfl (k := 0) rfl rfl rfl hl.1 rfl (Nat.le_of_ble_eq_true rfl) dX3_canFilm_10) hP hD hS hA [0, 1] [] [0, 1] rfl rfl rfl (by decide) (fun _ => rfl) rfl (fun r3 u3 H locs hk hP hD hS => ?_)
    refine lv_if_le (tgt := 20) hx hb dX3_canFilm_13 (by decide) (fun c4 => ?_) (fun c4 => ?_)
    · have hk := hk.1 c4
      refine lv_iconst (v := 0) hx hb dX3_canFilm_20 (by decide) ?_
      exact x_retz rfl C0 () hk hP hD hS dX3_canFilm_21
    · have hk := hk.2 c4
      refine lv_iconst (v := 1) hx hb dX3_canFilm_16 (by decide) ?_
      refine lv_goto (tgt := 21) hx hb dX3_canFilm_17 (by decide) ?_
      exact x_retz rfl C0 () hk hP hD hS dX3_canFilm_21
theorem xc_X3_canFilm (l : Launch) (D : va_G) (cI cC cZ cL : ClassId) (h h_cells : Nat)  (sz : Nat) (f_cells : Nat → Int32)  (K : Int32 → Prop) (hk : xp_X3_canFilm f_cells K) : XMi l yX3_canFilm wsX3_canFilm ({ frames := 2, cells := 0, slots := 0, locals := 42 } : Room) D (xTY cI cC cZ cL) [.ref h] [(h, .inr (3, [.ref h_cells])), (h_cells, .inl (cI, 400, .inl f_cells))] sz (fun (r : Int32) (_ : Unit) => K r) (fun (_ : Unit) => [(h, .inr (3, [.ref h_cells])), (h_cells, .inl (cI, 400, .inl f_cells))]) :=
  x_enter (cc := cX3_canFilm) (maxL := 1) (ret := (some .boolean)) (own := RX3) (by decide) rfl rfl (Nat.le_of_ble_eq_true rfl) (fun p e s m below meth c ls C0 hA hP hD hS hl => xb_X3_canFilm_0 C0 hA  hk s.heap [] ls hP hD hS hl)
set_option maxRecDepth 20000 in
theorem xin_X3_latestFile_X3 : ∀ w ∈ u_ws RX3 TX3 1, w ∈ wsX3_latestFile := by decide +kernel
set_option maxHeartbeats 4000000 in
set_option maxRecDepth 100000 in
theorem xb_X3_latestFile_4 {p : Program} {l : Launch} {e : Env} {s : State} {m : MethodId} {args : Array Value} {below : List Frame} {meth : Method} {c : Code} {A : Nat → Prop} {D : va_G} {cI cC cZ cL : ClassId} {h h_cells : Nat}  {f_cells : Nat → Int32} {K : Int32 → Prop}  (C0 : xC p s m args meth c cX3_latestFile 3 (some .int) wsX3_latestFile RX3 D (xTY cI cC cZ cL)) (hA : ∀ q : Nat, s.heap.size ≤ q → A q)  : ∀ (n : Nat) (v1 : Int32) (v2 : Int32) , xp_X3_latestFile_4 f_cells K n v1 v2 → ∀ (H : Heap) (locs : List Loc) (ls : Array Slot), va_P D vwCl [(h, .inr (3, [.ref h_cells])), (h_cells, .inl (cI, 400, .inl f_cells))] H → va_D A [(h, .inr (3, [.ref h_cells])), (h_cells, .inl (cI, 400, .inl f_cells))] → va_S A s.heap H locs → lv_has ls 3 [(0, .ref h), (1, .int v1), (2, .int v2)] → W p l e ({ frames := 1, cells := 0, slots := 0, locals := 23 } : Room) s m args below meth c H locs 0 0 (MQ below (va_Qi (fun (r : Int32) (_ : Unit) => K r) (fun u t => xE D A ((fun (_ : Unit) => [(h, .inr (3, [.ref h_cells])), (h_cells, .inl (cI, 400, .inl f_cells))]) u) t) A) args s 0 0 A) (F0 m 4 ls []) := by
  obtain ⟨hx, hb, hr, hml, hown, hts, hlocks, hK, hN⟩ := id C0
  intro n
  induction n with
  | zero => intro v1 v2 hk; exact hk.elim
  | succ n ih =>
    intro v1 v2 hk H locs ls hP hD hS hl
    rw [xp_X3_latestFile_4] at hk
    refine lv_iload_n hx hb dX3_latestFile_4 rfl (lv_at hl 2 rfl) ?_
    refine lv_aload_n hx hb dX3_latestFile_5 rfl (lv_at hl 0 rfl) ?_
    refine x_joini (ws1 := fun (_ : Unit) => [(h, .inr (3, [.ref h_cells])), (h_cells, .inl (cI, 400, .inl f_cells))]) (x_runV (n0 := 0) (As := []) (rest := [.int v2]) C0 (xc_X3_takes l D cI cC cZ cL h h_cells H.size f_cells _ hk) gX3_latestFile_X3_takes rfl ⟨rfl, rfl⟩ (by decide +kernel) rfl ⟨by decide, by decide⟩ ⟨Nat.zero_le _, Nat.zero_le _⟩ hP hD [0, 1] rfl rfl (k := 0) rfl rfl rfl hl.1 rfl (Nat.le_of_ble_eq_true rfl) dX3_latestFile_6) hP hD hS hA [0, 1] [] [0, 1] rfl rfl rfl (by decide) (fun _ => rfl) rfl (fun r1 u1 H locs hk hP hD hS => ?_)
    refine lv_icmp_ge (tgt := 43) hx hb dX3_latestFile_9 (by decide) (fun c2 => ?_) (fun c2 => ?_)
    · have hk := hk.1 c2
      refine lv_iload_n hx hb dX3_latestFile_43 rfl (lv_at hl 1 rfl) ?_
      exact x_reti C0 () hk hP hD hS dX3_latestFile_44
    · have hk := hk.2 c2
      refine lv_aload_n hx hb dX3_latestFile_12 rfl (lv_at hl 0 rfl) ?_
      refine lv_iload_n hx hb dX3_latestFile_13 rfl (lv_at hl 2 rfl) ?_
      refine lv_bipush (v := 9) hx hb dX3_latestFile_14 (by decide) ?_
      refine x_joini (ws1 := fun (_ : Unit) => [(h, .inr (3, [.ref h_cells])), (h_cells, .inl (cI, 400, .inl f_cells))]) (x_runV (n0 := 2) (As := [.int v2, .int 9]) (rest := []) C0 (xc_X3_of l D cI cC cZ cL h h_cells H.size f_cells v2 9 _ hk) gX3_latestFile_X3_of rfl ⟨rfl, rfl⟩ (by decide +kernel) rfl ⟨by decide, by decide⟩ ⟨Nat.zero_le _, Nat.zero_le _⟩ hP hD [0, 1] rfl rfl (k := 0) rfl rfl rfl hl.1 rfl (Nat.le_of_ble_eq_true rfl) dX3_latestFile_16) hP hD hS hA [0, 1] [] [0, 1] rfl rfl rfl (by decide) (fun _ => rfl) rfl (fun r3 u3 H locs hk hP hD hS => ?_)
      refine lv_aload_n hx hb dX3_latestFile_19 rfl (lv_at hl 0 rfl) ?_
      refine va_get (D := D) (ci := 3) (v := .ref h_cells) (C := RX3) (T := TX3) (N := 1) hx hb hts xin_X3_latestFile_X3 hown hK hP 0 rfl rfl 0 (by decide) (hts (.fieldLink RX3 9 "TakeLog$State" "cells" "[I") (by decide +kernel)) (fun _ h9 => h9) rfl dX3_latestFile_20 ?_
      refine lv_bipush (v := 8) hx hb dX3_latestFile_23 (by decide) ?_
      refine x_iald (k := 8) hx hb hK hP 1 0 rfl rfl (x_lit rfl (by decide) (by decide)) rfl (v := (f_cells 8)) rfl dX3_latestFile_25 ?_
      refine lv_icmp_ne (tgt := 37) hx hb dX3_latestFile_26 (by decide) (fun c4 => ?_) (fun c4 => ?_)
      · have hk := hk.1 c4
        refine lv_iinc (v := (v2 + 1)) (lv' := [(2, .int (v2 + 1)), (0, .ref h), (1, .int v1)]) hx hb dX3_latestFile_37 hl (k := 2) rfl rfl (by decide) rfl (fun ls hl => ?_)
        refine lv_goto (tgt := 4) hx hb dX3_latestFile_40 (by decide) ?_
        exact ih _ _ hk H locs ls hP hD hS (lv_sub hl [1, 2, 0] rfl)
      · have hk := hk.2 c4
        refine lv_aload_n hx hb dX3_latestFile_29 rfl (lv_at hl 0 rfl) ?_
        refine lv_iload_n hx hb dX3_latestFile_30 rfl (lv_at hl 2 rfl) ?_
        refine lv_bipush (v := 11) hx hb dX3_latestFile_31 (by decide) ?_
        refine x_joini (ws1 := fun (_ : Unit) => [(h, .inr (3, [.ref h_cells])), (h_cells, .inl (cI, 400, .inl f_cells))]) (x_runV (n0 := 2) (As := [.int v2, .int 11]) (rest := []) C0 (xc_X3_of l D cI cC cZ cL h h_cells H.size f_cells v2 11 _ hk) gX3_latestFile_X3_of rfl ⟨rfl, rfl⟩ (by decide +kernel) rfl ⟨by decide, by decide⟩ ⟨Nat.zero_le _, Nat.zero_le _⟩ hP hD [0, 1] rfl rfl (k := 0) rfl rfl rfl hl.1 rfl (Nat.le_of_ble_eq_true rfl) dX3_latestFile_33) hP hD hS hA [0, 1] [] [0, 1] rfl rfl rfl (by decide) (fun _ => rfl) rfl (fun r5 u5 H locs hk hP hD hS => ?_)
        refine lv_istore_n (lv' := [(1, .int r5), (0, .ref h), (2, .int v2)]) hx hb dX3_latestFile_36 rfl hl (by decide) rfl (fun ls hl => ?_)
        refine lv_iinc (v := (v2 + 1)) (lv' := [(2, .int (v2 + 1)), (1, .int r5), (0, .ref h)]) hx hb dX3_latestFile_37 hl (k := 2) rfl rfl (by decide) rfl (fun ls hl => ?_)
        refine lv_goto (tgt := 4) hx hb dX3_latestFile_40 (by decide) ?_
        exact ih _ _ hk H locs ls hP hD hS (lv_sub hl [2, 1, 0] rfl)
set_option maxHeartbeats 4000000 in
set_option maxRecDepth 100000 in
theorem xb_X3_latestFile_0 {p : Program} {l : Launch} {e : Env} {s : State} {m : MethodId} {args : Array Value} {below : List Frame} {meth : Method} {c : Code} {A : Nat → Prop} {D : va_G} {cI cC cZ cL : ClassId} {h h_cells : Nat}  {f_cells : Nat → Int32} {K : Int32 → Prop}  (C0 : xC p s m args meth c cX3_latestFile 3 (some .int) wsX3_latestFile RX3 D (xTY cI cC cZ cL)) (hA : ∀ q : Nat, s.heap.size ≤ q → A q)  : xp_X3_latestFile f_cells K → ∀ (H : Heap) (locs : List Loc) (ls : Array Slot), va_P D vwCl [(h, .inr (3, [.ref h_cells])), (h_cells, .inl (cI, 400, .inl f_cells))] H → va_D A [(h, .inr (3, [.ref h_cells])), (h_cells, .inl (cI, 400, .inl f_cells))] → va_S A s.heap H locs → lv_has ls 3 [(0, .ref h)] → W p l e ({ frames := 1, cells := 0, slots := 0, locals := 23 } : Room) s m args below meth c H locs 0 0 (MQ below (va_Qi (fun (r : Int32) (_ : Unit) => K r) (fun u t => xE D A ((fun (_ : Unit) => [(h, .inr (3, [.ref h_cells])), (h_cells, .inl (cI, 400, .inl f_cells))]) u) t) A) args s 0 0 A) (F0 m 0 ls []) := by
  obtain ⟨hx, hb, hr, hml, hown, hts, hlocks, hK, hN⟩ := id C0
  intro  hk H locs ls hP hD hS hl
  rw [xp_X3_latestFile] at hk
  refine lv_iconst (v := 0) hx hb dX3_latestFile_0 (by decide) ?_
  refine lv_istore_n (lv' := [(1, .int 0), (0, .ref h)]) hx hb dX3_latestFile_1 rfl hl (by decide) rfl (fun ls hl => ?_)
  refine lv_iconst (v := 0) hx hb dX3_latestFile_2 (by decide) ?_
  refine lv_istore_n (lv' := [(2, .int 0), (1, .int 0), (0, .ref h)]) hx hb dX3_latestFile_3 rfl hl (by decide) rfl (fun ls hl => ?_)
  obtain ⟨n9, hk⟩ := hk
  exact xb_X3_latestFile_4 C0 hA  n9 _ _ hk H locs ls hP hD hS (lv_sub hl [2, 1, 0] rfl)
theorem xc_X3_latestFile (l : Launch) (D : va_G) (cI cC cZ cL : ClassId) (h h_cells : Nat)  (sz : Nat) (f_cells : Nat → Int32)  (K : Int32 → Prop) (hk : xp_X3_latestFile f_cells K) : XMi l yX3_latestFile wsX3_latestFile ({ frames := 1, cells := 0, slots := 0, locals := 23 } : Room) D (xTY cI cC cZ cL) [.ref h] [(h, .inr (3, [.ref h_cells])), (h_cells, .inl (cI, 400, .inl f_cells))] sz (fun (r : Int32) (_ : Unit) => K r) (fun (_ : Unit) => [(h, .inr (3, [.ref h_cells])), (h_cells, .inl (cI, 400, .inl f_cells))]) :=
  x_enter (cc := cX3_latestFile) (maxL := 3) (ret := (some .int)) (own := RX3) (by decide) rfl rfl (Nat.le_of_ble_eq_true rfl) (fun p e s m below meth c ls C0 hA hP hD hS hl => xb_X3_latestFile_0 C0 hA  hk s.heap [] ls hP hD hS hl)
set_option maxRecDepth 20000 in
theorem xin_X3_record_X3 : ∀ w ∈ u_ws RX3 TX3 1, w ∈ wsX3_record := by decide +kernel
set_option maxHeartbeats 4000000 in
set_option maxRecDepth 100000 in
theorem xb_X3_record_62 {p : Program} {l : Launch} {e : Env} {s : State} {m : MethodId} {args : Array Value} {below : List Frame} {meth : Method} {c : Code} {A : Nat → Prop} {D : va_G} {cI cC cZ cL : ClassId} {h h_cells : Nat}   {K : ((Nat → Int32)) → Prop}  (C0 : xC p s m args meth c cX3_record 3 none wsX3_record RX3 D (xTY cI cC cZ cL)) (hA : ∀ q : Nat, s.heap.size ≤ q → A q)  : ∀ (f_cells : Nat → Int32) (v1 : Int32) (v2 : Int32) (t0 : Int32) (t2 : Int32) , xp_X3_record_62 K f_cells v1 v2 t0 t2 → ∀ (H : Heap) (locs : List Loc) (ls : Array Slot), va_P D vwCl [(h, .inr (3, [.ref h_cells])), (h_cells, .inl (cI, 400, .inl f_cells))] H → va_D A [(h, .inr (3, [.ref h_cells])), (h_cells, .inl (cI, 400, .inl f_cells))] → va_S A s.heap H locs → lv_has ls 3 [(0, .ref h), (1, .int v1), (2, .int v2)] → W p l e ({ frames := 2, cells := 0, slots := 0, locals := 45 } : Room) s m args below meth c H locs 0 0 (MQ below (va_Qv (fun (u : (Nat → Int32)) => K u) (fun u t => xE D A ((fun (u : (Nat → Int32)) => [(h, .inr (3, [.ref h_cells])), (h_cells, .inl (cI, 400, .inl u))]) u) t) A) args s 0 0 A) (F0 m 62 ls [.int t0, .int 10, .int t2, .ref h]) := by
  obtain ⟨hx, hb, hr, hml, hown, hts, hlocks, hK, hN⟩ := id C0
  intro f_cells v1 v2 t0 t2 hk H locs ls hP hD hS hl
  rw [xp_X3_record_62] at hk
  refine x_joinv (ws1 := fun (u1 : (Nat → Int32)) => [(h, .inr (3, [.ref h_cells])), (h_cells, .inl (cI, 400, .inl u1))]) (x_runV (n0 := 3) (As := [.int t2, .int 10, .int t0]) (rest := []) C0 (xc_X3_put l D cI cC cZ cL h h_cells H.size f_cells t2 10 t0 _ hk) gX3_record_X3_put rfl ⟨rfl, rfl⟩ (by decide +kernel) rfl ⟨by decide, by decide⟩ ⟨Nat.zero_le _, Nat.zero_le _⟩ hP hD [0, 1] rfl rfl (k := 0) rfl rfl rfl hl.1 rfl (Nat.le_of_ble_eq_true rfl) dX3_record_62) hP hD hS hA [0, 1] [] [0, 1] rfl rfl rfl (by decide) (fun _ => rfl) rfl (fun u1 H locs hk hP hD hS => ?_)
  refine lv_iload_n hx hb dX3_record_65 rfl (lv_at hl 2 rfl) ?_
  refine lv_if_eq (tgt := 86) hx hb dX3_record_66 (by decide) (fun c2 => ?_) (fun c2 => ?_)
  · have hk := hk.1 c2
    exact x_retv C0 (u1) hk hP hD hS dX3_record_86
  · have hk := hk.2 c2
    refine lv_aload_n hx hb dX3_record_69 rfl (lv_at hl 0 rfl) ?_
    refine va_get (D := D) (ci := 3) (v := .ref h_cells) (C := RX3) (T := TX3) (N := 1) hx hb hts xin_X3_record_X3 hown hK hP 0 rfl rfl 0 (by decide) (hts (.fieldLink RX3 9 "TakeLog$State" "cells" "[I") (by decide +kernel)) (fun _ h9 => h9) rfl dX3_record_70 ?_
    refine lv_bipush (v := 9) hx hb dX3_record_73 (by decide) ?_
    refine lv_dup2_11 hx hb dX3_record_75 rfl rfl ?_
    refine x_iald (k := 9) hx hb hK hP 1 0 rfl rfl (x_lit rfl (by decide) (by decide)) rfl (v := (u1 9)) rfl dX3_record_76 ?_
    refine lv_aload_n hx hb dX3_record_77 rfl (lv_at hl 0 rfl) ?_
    refine lv_iload_n hx hb dX3_record_78 rfl (lv_at hl 1 rfl) ?_
    refine lv_bipush (v := 8) hx hb dX3_record_79 (by decide) ?_
    refine x_joini (ws1 := fun (_ : Unit) => [(h, .inr (3, [.ref h_cells])), (h_cells, .inl (cI, 400, .inl u1))]) (x_runV (n0 := 2) (As := [.int v1, .int 8]) (rest := [.int (u1 9), .int 9, .ref h_cells]) C0 (xc_X3_of l D cI cC cZ cL h h_cells H.size u1 v1 8 _ hk) gX3_record_X3_of rfl ⟨rfl, rfl⟩ (by decide +kernel) rfl ⟨by decide, by decide⟩ ⟨Nat.zero_le _, Nat.zero_le _⟩ hP hD [0, 1] rfl rfl (k := 0) rfl rfl rfl hl.1 rfl (Nat.le_of_ble_eq_true rfl) dX3_record_81) hP hD hS hA [0, 1] [] [0, 1] rfl rfl rfl (by decide) (fun _ => rfl) rfl (fun r3 u3 H locs hk hP hD hS => ?_)
    refine lv_iadd hx hb dX3_record_84 ?_
    refine x_iast (k := 9) hx hb hK hP hD hS 1 0 rfl rfl (x_lit rfl (by decide) (by decide)) rfl dX3_record_85 (fun H locs hP hD hS => ?_)
    have hP : va_P D vwCl [(h, .inr (3, [.ref h_cells])), (h_cells, .inl (cI, 400, .inl (upd u1 9 ((u1 9) + r3))))] H := hP
    have hD : va_D A [(h, .inr (3, [.ref h_cells])), (h_cells, .inl (cI, 400, .inl (upd u1 9 ((u1 9) + r3))))] := hD
    exact x_retv C0 (upd u1 9 ((u1 9) + r3)) hk hP hD hS dX3_record_86
set_option maxHeartbeats 4000000 in
set_option maxRecDepth 100000 in
theorem xb_X3_record_40 {p : Program} {l : Launch} {e : Env} {s : State} {m : MethodId} {args : Array Value} {below : List Frame} {meth : Method} {c : Code} {A : Nat → Prop} {D : va_G} {cI cC cZ cL : ClassId} {h h_cells : Nat}   {K : ((Nat → Int32)) → Prop}  (C0 : xC p s m args meth c cX3_record 3 none wsX3_record RX3 D (xTY cI cC cZ cL)) (hA : ∀ q : Nat, s.heap.size ≤ q → A q)  : ∀ (f_cells : Nat → Int32) (v1 : Int32) (v2 : Int32) (t0 : Int32) (t2 : Int32) , xp_X3_record_40 K f_cells v1 v2 t0 t2 → ∀ (H : Heap) (locs : List Loc) (ls : Array Slot), va_P D vwCl [(h, .inr (3, [.ref h_cells])), (h_cells, .inl (cI, 400, .inl f_cells))] H → va_D A [(h, .inr (3, [.ref h_cells])), (h_cells, .inl (cI, 400, .inl f_cells))] → va_S A s.heap H locs → lv_has ls 3 [(0, .ref h), (1, .int v1), (2, .int v2)] → W p l e ({ frames := 2, cells := 0, slots := 0, locals := 45 } : Room) s m args below meth c H locs 0 0 (MQ below (va_Qv (fun (u : (Nat → Int32)) => K u) (fun u t => xE D A ((fun (u : (Nat → Int32)) => [(h, .inr (3, [.ref h_cells])), (h_cells, .inl (cI, 400, .inl u))]) u) t) A) args s 0 0 A) (F0 m 40 ls [.int t0, .int 9, .int t2, .ref h]) := by
  obtain ⟨hx, hb, hr, hml, hown, hts, hlocks, hK, hN⟩ := id C0
  intro f_cells v1 v2 t0 t2 hk H locs ls hP hD hS hl
  rw [xp_X3_record_40] at hk
  refine x_joinv (ws1 := fun (u1 : (Nat → Int32)) => [(h, .inr (3, [.ref h_cells])), (h_cells, .inl (cI, 400, .inl u1))]) (x_runV (n0 := 3) (As := [.int t2, .int 9, .int t0]) (rest := []) C0 (xc_X3_put l D cI cC cZ cL h h_cells H.size f_cells t2 9 t0 _ hk) gX3_record_X3_put rfl ⟨rfl, rfl⟩ (by decide +kernel) rfl ⟨by decide, by decide⟩ ⟨Nat.zero_le _, Nat.zero_le _⟩ hP hD [0, 1] rfl rfl (k := 0) rfl rfl rfl hl.1 rfl (Nat.le_of_ble_eq_true rfl) dX3_record_40) hP hD hS hA [0, 1] [] [0, 1] rfl rfl rfl (by decide) (fun _ => rfl) rfl (fun u1 H locs hk hP hD hS => ?_)
  refine lv_aload_n hx hb dX3_record_43 rfl (lv_at hl 0 rfl) ?_
  refine lv_iload_n hx hb dX3_record_44 rfl (lv_at hl 1 rfl) ?_
  refine lv_bipush (v := 10) hx hb dX3_record_45 (by decide) ?_
  refine lv_iload_n hx hb dX3_record_47 rfl (lv_at hl 2 rfl) ?_
  refine lv_if_eq (tgt := 61) hx hb dX3_record_48 (by decide) (fun c2 => ?_) (fun c2 => ?_)
  · have hk := hk.1 c2
    refine lv_iconst (v := (-1 : Int32)) hx hb dX3_record_61 (by decide) ?_
    exact xb_X3_record_62 C0 hA  _ _ _ _ _ hk H locs ls hP hD hS (lv_sub hl [0, 1, 2] rfl)
  · have hk := hk.2 c2
    refine lv_aload_n hx hb dX3_record_51 rfl (lv_at hl 0 rfl) ?_
    refine va_get (D := D) (ci := 3) (v := .ref h_cells) (C := RX3) (T := TX3) (N := 1) hx hb hts xin_X3_record_X3 hown hK hP 0 rfl rfl 0 (by decide) (hts (.fieldLink RX3 9 "TakeLog$State" "cells" "[I") (by decide +kernel)) (fun _ h9 => h9) rfl dX3_record_52 ?_
    refine lv_bipush (v := 9) hx hb dX3_record_55 (by decide) ?_
    refine x_iald (k := 9) hx hb hK hP 1 0 rfl rfl (x_lit rfl (by decide) (by decide)) rfl (v := (u1 9)) rfl dX3_record_57 ?_
    refine lv_goto (tgt := 62) hx hb dX3_record_58 (by decide) ?_
    exact xb_X3_record_62 C0 hA  _ _ _ _ _ hk H locs ls hP hD hS (lv_sub hl [0, 1, 2] rfl)
set_option maxHeartbeats 4000000 in
set_option maxRecDepth 100000 in
theorem xb_X3_record_18 {p : Program} {l : Launch} {e : Env} {s : State} {m : MethodId} {args : Array Value} {below : List Frame} {meth : Method} {c : Code} {A : Nat → Prop} {D : va_G} {cI cC cZ cL : ClassId} {h h_cells : Nat}   {K : ((Nat → Int32)) → Prop}  (C0 : xC p s m args meth c cX3_record 3 none wsX3_record RX3 D (xTY cI cC cZ cL)) (hA : ∀ q : Nat, s.heap.size ≤ q → A q)  : ∀ (f_cells : Nat → Int32) (v1 : Int32) (v2 : Int32) (t0 : Int32) (t2 : Int32) , xp_X3_record_18 K f_cells v1 v2 t0 t2 → ∀ (H : Heap) (locs : List Loc) (ls : Array Slot), va_P D vwCl [(h, .inr (3, [.ref h_cells])), (h_cells, .inl (cI, 400, .inl f_cells))] H → va_D A [(h, .inr (3, [.ref h_cells])), (h_cells, .inl (cI, 400, .inl f_cells))] → va_S A s.heap H locs → lv_has ls 3 [(0, .ref h), (1, .int v1), (2, .int v2)] → W p l e ({ frames := 2, cells := 0, slots := 0, locals := 45 } : Room) s m args below meth c H locs 0 0 (MQ below (va_Qv (fun (u : (Nat → Int32)) => K u) (fun u t => xE D A ((fun (u : (Nat → Int32)) => [(h, .inr (3, [.ref h_cells])), (h_cells, .inl (cI, 400, .inl u))]) u) t) A) args s 0 0 A) (F0 m 18 ls [.int t0, .int 11, .int t2, .ref h]) := by
  obtain ⟨hx, hb, hr, hml, hown, hts, hlocks, hK, hN⟩ := id C0
  intro f_cells v1 v2 t0 t2 hk H locs ls hP hD hS hl
  rw [xp_X3_record_18] at hk
  refine x_joinv (ws1 := fun (u1 : (Nat → Int32)) => [(h, .inr (3, [.ref h_cells])), (h_cells, .inl (cI, 400, .inl u1))]) (x_runV (n0 := 3) (As := [.int t2, .int 11, .int t0]) (rest := []) C0 (xc_X3_put l D cI cC cZ cL h h_cells H.size f_cells t2 11 t0 _ hk) gX3_record_X3_put rfl ⟨rfl, rfl⟩ (by decide +kernel) rfl ⟨by decide, by decide⟩ ⟨Nat.zero_le _, Nat.zero_le _⟩ hP hD [0, 1] rfl rfl (k := 0) rfl rfl rfl hl.1 rfl (Nat.le_of_ble_eq_true rfl) dX3_record_18) hP hD hS hA [0, 1] [] [0, 1] rfl rfl rfl (by decide) (fun _ => rfl) rfl (fun u1 H locs hk hP hD hS => ?_)
  refine lv_aload_n hx hb dX3_record_21 rfl (lv_at hl 0 rfl) ?_
  refine lv_iload_n hx hb dX3_record_22 rfl (lv_at hl 1 rfl) ?_
  refine lv_bipush (v := 9) hx hb dX3_record_23 (by decide) ?_
  refine lv_iload_n hx hb dX3_record_25 rfl (lv_at hl 2 rfl) ?_
  refine lv_if_eq (tgt := 39) hx hb dX3_record_26 (by decide) (fun c2 => ?_) (fun c2 => ?_)
  · have hk := hk.1 c2
    refine lv_iconst (v := (-1 : Int32)) hx hb dX3_record_39 (by decide) ?_
    exact xb_X3_record_40 C0 hA  _ _ _ _ _ hk H locs ls hP hD hS (lv_sub hl [0, 1, 2] rfl)
  · have hk := hk.2 c2
    refine lv_aload_n hx hb dX3_record_29 rfl (lv_at hl 0 rfl) ?_
    refine va_get (D := D) (ci := 3) (v := .ref h_cells) (C := RX3) (T := TX3) (N := 1) hx hb hts xin_X3_record_X3 hown hK hP 0 rfl rfl 0 (by decide) (hts (.fieldLink RX3 9 "TakeLog$State" "cells" "[I") (by decide +kernel)) (fun _ h9 => h9) rfl dX3_record_30 ?_
    refine lv_bipush (v := 8) hx hb dX3_record_33 (by decide) ?_
    refine x_iald (k := 8) hx hb hK hP 1 0 rfl rfl (x_lit rfl (by decide) (by decide)) rfl (v := (u1 8)) rfl dX3_record_35 ?_
    refine lv_goto (tgt := 40) hx hb dX3_record_36 (by decide) ?_
    exact xb_X3_record_40 C0 hA  _ _ _ _ _ hk H locs ls hP hD hS (lv_sub hl [0, 1, 2] rfl)
set_option maxHeartbeats 4000000 in
set_option maxRecDepth 100000 in
theorem xb_X3_record_0 {p : Program} {l : Launch} {e : Env} {s : State} {m : MethodId} {args : Array Value} {below : List Frame} {meth : Method} {c : Code} {A : Nat → Prop} {D : va_G} {cI cC cZ cL : ClassId} {h h_cells : Nat}   {K : ((Nat → Int32)) → Prop}  (C0 : xC p s m args meth c cX3_record 3 none wsX3_record RX3 D (xTY cI cC cZ cL)) (hA : ∀ q : Nat, s.heap.size ≤ q → A q)  : ∀ (f_cells : Nat → Int32) (x1 : Int32) (x2 : Int32) , xp_X3_record f_cells x1 x2 K → ∀ (H : Heap) (locs : List Loc) (ls : Array Slot), va_P D vwCl [(h, .inr (3, [.ref h_cells])), (h_cells, .inl (cI, 400, .inl f_cells))] H → va_D A [(h, .inr (3, [.ref h_cells])), (h_cells, .inl (cI, 400, .inl f_cells))] → va_S A s.heap H locs → lv_has ls 3 [(0, .ref h), (1, .int x1), (2, .int x2)] → W p l e ({ frames := 2, cells := 0, slots := 0, locals := 45 } : Room) s m args below meth c H locs 0 0 (MQ below (va_Qv (fun (u : (Nat → Int32)) => K u) (fun u t => xE D A ((fun (u : (Nat → Int32)) => [(h, .inr (3, [.ref h_cells])), (h_cells, .inl (cI, 400, .inl u))]) u) t) A) args s 0 0 A) (F0 m 0 ls []) := by
  obtain ⟨hx, hb, hr, hml, hown, hts, hlocks, hK, hN⟩ := id C0
  intro f_cells x1 x2 hk H locs ls hP hD hS hl
  rw [xp_X3_record] at hk
  refine lv_aload_n hx hb dX3_record_0 rfl (lv_at hl 0 rfl) ?_
  refine lv_iload_n hx hb dX3_record_1 rfl (lv_at hl 1 rfl) ?_
  refine lv_bipush (v := 11) hx hb dX3_record_2 (by decide) ?_
  refine lv_iload_n hx hb dX3_record_4 rfl (lv_at hl 2 rfl) ?_
  refine lv_if_eq (tgt := 17) hx hb dX3_record_5 (by decide) (fun c1 => ?_) (fun c1 => ?_)
  · have hk := hk.1 c1
    refine lv_iconst (v := (-1 : Int32)) hx hb dX3_record_17 (by decide) ?_
    exact xb_X3_record_18 C0 hA  _ _ _ _ _ hk H locs ls hP hD hS (lv_sub hl [0, 1, 2] rfl)
  · have hk := hk.2 c1
    refine lv_aload_n hx hb dX3_record_8 rfl (lv_at hl 0 rfl) ?_
    refine x_joini (ws1 := fun (_ : Unit) => [(h, .inr (3, [.ref h_cells])), (h_cells, .inl (cI, 400, .inl f_cells))]) (x_runV (n0 := 0) (As := []) (rest := [.int 11, .int x1, .ref h]) C0 (xc_X3_latestFile l D cI cC cZ cL h h_cells H.size f_cells _ hk) gX3_record_X3_latestFile rfl ⟨rfl, rfl⟩ (by decide +kernel) rfl ⟨by decide, by decide⟩ ⟨Nat.zero_le _, Nat.zero_le _⟩ hP hD [0, 1] rfl rfl (k := 0) rfl rfl rfl hl.1 rfl (Nat.le_of_ble_eq_true rfl) dX3_record_9) hP hD hS hA [0, 1] [] [0, 1] rfl rfl rfl (by decide) (fun _ => rfl) rfl (fun r2 u2 H locs hk hP hD hS => ?_)
    refine lv_iconst (v := 1) hx hb dX3_record_12 (by decide) ?_
    refine lv_iadd hx hb dX3_record_13 ?_
    refine lv_goto (tgt := 18) hx hb dX3_record_14 (by decide) ?_
    exact xb_X3_record_18 C0 hA  _ _ _ _ _ hk H locs ls hP hD hS (lv_sub hl [0, 1, 2] rfl)
theorem xc_X3_record (l : Launch) (D : va_G) (cI cC cZ cL : ClassId) (h h_cells : Nat)  (sz : Nat) (f_cells : Nat → Int32) (x1 : Int32) (x2 : Int32) (K : ((Nat → Int32)) → Prop) (hk : xp_X3_record f_cells x1 x2 K) : XMv l yX3_record wsX3_record ({ frames := 2, cells := 0, slots := 0, locals := 45 } : Room) D (xTY cI cC cZ cL) [.ref h, .int x1, .int x2] [(h, .inr (3, [.ref h_cells])), (h_cells, .inl (cI, 400, .inl f_cells))] sz (fun (u : (Nat → Int32)) => K u) (fun (u : (Nat → Int32)) => [(h, .inr (3, [.ref h_cells])), (h_cells, .inl (cI, 400, .inl u))]) :=
  x_enter (cc := cX3_record) (maxL := 3) (ret := none) (own := RX3) (by decide) rfl rfl (Nat.le_of_ble_eq_true rfl) (fun p e s m below meth c ls C0 hA hP hD hS hl => xb_X3_record_0 C0 hA _ _ _ hk s.heap [] ls hP hD hS hl)
set_option maxRecDepth 20000 in
theorem xin_X3_film_X3 : ∀ w ∈ u_ws RX3 TX3 1, w ∈ wsX3_film := by decide +kernel
set_option maxHeartbeats 4000000 in
set_option maxRecDepth 100000 in
theorem xb_X3_film_193 {p : Program} {l : Launch} {e : Env} {s : State} {m : MethodId} {args : Array Value} {below : List Frame} {meth : Method} {c : Code} {A : Nat → Prop} {D : va_G} {cI cC cZ cL : ClassId} {h h_cells : Nat}   {K : Int32 → ((Nat → Int32)) → Prop}  (C0 : xC p s m args meth c cX3_film 5 (some .int) wsX3_film RX3 D (xTY cI cC cZ cL)) (hA : ∀ q : Nat, s.heap.size ≤ q → A q)  : ∀ (f_cells : Nat → Int32) (v3 : Int32) (v4 : Int32) (t0 : Int32) (t1 : Int32) , xp_X3_film_193 K f_cells v3 v4 t0 t1 → ∀ (H : Heap) (locs : List Loc) (ls : Array Slot), va_P D vwCl [(h, .inr (3, [.ref h_cells])), (h_cells, .inl (cI, 400, .inl f_cells))] H → va_D A [(h, .inr (3, [.ref h_cells])), (h_cells, .inl (cI, 400, .inl f_cells))] → va_S A s.heap H locs → lv_has ls 5 [(0, .ref h), (3, .int v3), (4, .int v4)] → W p l e ({ frames := 3, cells := 0, slots := 0, locals := 67 } : Room) s m args below meth c H locs 0 0 (MQ below (va_Qi (fun (r : Int32) (u : (Nat → Int32)) => K r u) (fun u t => xE D A ((fun (u : (Nat → Int32)) => [(h, .inr (3, [.ref h_cells])), (h_cells, .inl (cI, 400, .inl u))]) u) t) A) args s 0 0 A) (F0 m 193 ls [.int t0, .int t1, .ref h]) := by
  obtain ⟨hx, hb, hr, hml, hown, hts, hlocks, hK, hN⟩ := id C0
  intro f_cells v3 v4 t0 t1 hk H locs ls hP hD hS hl
  rw [xp_X3_film_193] at hk
  refine x_joinv (ws1 := fun (u1 : (Nat → Int32)) => [(h, .inr (3, [.ref h_cells])), (h_cells, .inl (cI, 400, .inl u1))]) (x_runV (n0 := 2) (As := [.int t1, .int t0]) (rest := []) C0 (xc_X3_record l D cI cC cZ cL h h_cells H.size f_cells t1 t0 _ hk) gX3_film_X3_record rfl ⟨rfl, rfl⟩ (by decide +kernel) rfl ⟨by decide, by decide⟩ ⟨Nat.zero_le _, Nat.zero_le _⟩ hP hD [0, 1] rfl rfl (k := 0) rfl rfl rfl hl.1 rfl (Nat.le_of_ble_eq_true rfl) dX3_film_193) hP hD hS hA [0, 1] [] [0, 1] rfl rfl rfl (by decide) (fun _ => rfl) rfl (fun u1 H locs hk hP hD hS => ?_)
  refine lv_aload_n hx hb dX3_film_196 rfl (lv_at hl 0 rfl) ?_
  refine va_get (D := D) (ci := 3) (v := .ref h_cells) (C := RX3) (T := TX3) (N := 1) hx hb hts xin_X3_film_X3 hown hK hP 0 rfl rfl 0 (by decide) (hts (.fieldLink RX3 9 "TakeLog$State" "cells" "[I") (by decide +kernel)) (fun _ h9 => h9) rfl dX3_film_197 ?_
  refine lv_bipush (v := 7) hx hb dX3_film_200 (by decide) ?_
  refine lv_dup2_11 hx hb dX3_film_202 rfl rfl ?_
  refine x_iald (k := 7) hx hb hK hP 1 0 rfl rfl (x_lit rfl (by decide) (by decide)) rfl (v := (u1 7)) rfl dX3_film_203 ?_
  refine lv_iload hx hb dX3_film_204 (lv_at hl 2 rfl) ?_
  refine lv_iadd hx hb dX3_film_206 ?_
  refine x_iast (k := 7) hx hb hK hP hD hS 1 0 rfl rfl (x_lit rfl (by decide) (by decide)) rfl dX3_film_207 (fun H locs hP hD hS => ?_)
  have hP : va_P D vwCl [(h, .inr (3, [.ref h_cells])), (h_cells, .inl (cI, 400, .inl (upd u1 7 ((u1 7) + v4))))] H := hP
  have hD : va_D A [(h, .inr (3, [.ref h_cells])), (h_cells, .inl (cI, 400, .inl (upd u1 7 ((u1 7) + v4))))] := hD
  refine lv_aload_n hx hb dX3_film_208 rfl (lv_at hl 0 rfl) ?_
  refine va_get (D := D) (ci := 3) (v := .ref h_cells) (C := RX3) (T := TX3) (N := 1) hx hb hts xin_X3_film_X3 hown hK hP 0 rfl rfl 0 (by decide) (hts (.fieldLink RX3 9 "TakeLog$State" "cells" "[I") (by decide +kernel)) (fun _ h9 => h9) rfl dX3_film_209 ?_
  refine lv_bipush (v := 10) hx hb dX3_film_212 (by decide) ?_
  refine lv_dup2_11 hx hb dX3_film_214 rfl rfl ?_
  refine x_iald (k := 10) hx hb hK hP 1 0 rfl rfl (x_lit rfl (by decide) (by decide)) rfl (v := (u1 10)) rfl dX3_film_215 ?_
  refine lv_iload hx hb dX3_film_216 (lv_at hl 2 rfl) ?_
  refine lv_aload_n hx hb dX3_film_218 rfl (lv_at hl 0 rfl) ?_
  refine lv_iconst (v := 2) hx hb dX3_film_219 (by decide) ?_
  refine x_joini (ws1 := fun (_ : Unit) => [(h, .inr (3, [.ref h_cells])), (h_cells, .inl (cI, 400, .inl (upd u1 7 ((u1 7) + v4))))]) (x_runV (n0 := 1) (As := [.int 2]) (rest := [.int v4, .int (u1 10), .int 10, .ref h_cells]) C0 (xc_X3_chosen l D cI cC cZ cL h h_cells H.size (upd u1 7 ((u1 7) + v4)) 2 _ hk) gX3_film_X3_chosen rfl ⟨rfl, rfl⟩ (by decide +kernel) rfl ⟨by decide, by decide⟩ ⟨Nat.zero_le _, Nat.zero_le _⟩ hP hD [0, 1] rfl rfl (k := 0) rfl rfl rfl hl.1 rfl (Nat.le_of_ble_eq_true rfl) dX3_film_220) hP hD hS hA [0, 1] [] [0, 1] rfl rfl rfl (by decide) (fun _ => rfl) rfl (fun r2 u2 H locs hk hP hD hS => ?_)
  refine lv_iadd hx hb dX3_film_223 ?_
  refine lv_iadd hx hb dX3_film_224 ?_
  refine x_iast (k := 10) hx hb hK hP hD hS 1 0 rfl rfl (x_lit rfl (by decide) (by decide)) rfl dX3_film_225 (fun H locs hP hD hS => ?_)
  have hP : va_P D vwCl [(h, .inr (3, [.ref h_cells])), (h_cells, .inl (cI, 400, .inl (upd (upd u1 7 ((u1 7) + v4)) 10 ((u1 10) + (v4 + r2)))))] H := hP
  have hD : va_D A [(h, .inr (3, [.ref h_cells])), (h_cells, .inl (cI, 400, .inl (upd (upd u1 7 ((u1 7) + v4)) 10 ((u1 10) + (v4 + r2)))))] := hD
  refine lv_aload_n hx hb dX3_film_226 rfl (lv_at hl 0 rfl) ?_
  refine va_get (D := D) (ci := 3) (v := .ref h_cells) (C := RX3) (T := TX3) (N := 1) hx hb hts xin_X3_film_X3 hown hK hP 0 rfl rfl 0 (by decide) (hts (.fieldLink RX3 9 "TakeLog$State" "cells" "[I") (by decide +kernel)) (fun _ h9 => h9) rfl dX3_film_227 ?_
  refine lv_iconst (v := 0) hx hb dX3_film_230 (by decide) ?_
  refine lv_iload_n hx hb dX3_film_231 rfl (lv_at hl 1 rfl) ?_
  refine lv_iconst (v := 1) hx hb dX3_film_232 (by decide) ?_
  refine lv_iadd hx hb dX3_film_233 ?_
  refine x_iast (k := 0) hx hb hK hP hD hS 1 0 rfl rfl (x_lit rfl (by decide) (by decide)) rfl dX3_film_234 (fun H locs hP hD hS => ?_)
  have hP : va_P D vwCl [(h, .inr (3, [.ref h_cells])), (h_cells, .inl (cI, 400, .inl (upd (upd (upd u1 7 ((u1 7) + v4)) 10 ((u1 10) + (v4 + r2))) 0 (v3 + 1))))] H := hP
  have hD : va_D A [(h, .inr (3, [.ref h_cells])), (h_cells, .inl (cI, 400, .inl (upd (upd (upd u1 7 ((u1 7) + v4)) 10 ((u1 10) + (v4 + r2))) 0 (v3 + 1))))] := hD
  refine lv_aload_n hx hb dX3_film_235 rfl (lv_at hl 0 rfl) ?_
  refine lv_iconst (v := 3) hx hb dX3_film_236 (by decide) ?_
  refine x_joini (ws1 := fun (_ : Unit) => [(h, .inr (3, [.ref h_cells])), (h_cells, .inl (cI, 400, .inl (upd (upd (upd u1 7 ((u1 7) + v4)) 10 ((u1 10) + (v4 + r2))) 0 (v3 + 1))))]) (x_runV (n0 := 1) (As := [.int 3]) (rest := []) C0 (xc_X3_chosen l D cI cC cZ cL h h_cells H.size (upd (upd (upd u1 7 ((u1 7) + v4)) 10 ((u1 10) + (v4 + r2))) 0 (v3 + 1)) 3 _ hk) gX3_film_X3_chosen rfl ⟨rfl, rfl⟩ (by decide +kernel) rfl ⟨by decide, by decide⟩ ⟨Nat.zero_le _, Nat.zero_le _⟩ hP hD [0, 1] rfl rfl (k := 0) rfl rfl rfl hl.1 rfl (Nat.le_of_ble_eq_true rfl) dX3_film_237) hP hD hS hA [0, 1] [] [0, 1] rfl rfl rfl (by decide) (fun _ => rfl) rfl (fun r3 u3 H locs hk hP hD hS => ?_)
  refine lv_iconst (v := 1) hx hb dX3_film_240 (by decide) ?_
  refine lv_icmp_ne (tgt := 263) hx hb dX3_film_241 (by decide) (fun c4 => ?_) (fun c4 => ?_)
  · have hk := hk.1 c4
    refine lv_iload hx hb dX3_film_263 (lv_at hl 2 rfl) ?_
    exact x_reti C0 (upd (upd (upd u1 7 ((u1 7) + v4)) 10 ((u1 10) + (v4 + r2))) 0 (v3 + 1)) hk hP hD hS dX3_film_265
  · have hk := hk.2 c4
    refine lv_aload_n hx hb dX3_film_244 rfl (lv_at hl 0 rfl) ?_
    refine va_get (D := D) (ci := 3) (v := .ref h_cells) (C := RX3) (T := TX3) (N := 1) hx hb hts xin_X3_film_X3 hown hK hP 0 rfl rfl 0 (by decide) (hts (.fieldLink RX3 9 "TakeLog$State" "cells" "[I") (by decide +kernel)) (fun _ h9 => h9) rfl dX3_film_245 ?_
    refine lv_iconst (v := 5) hx hb dX3_film_248 (by decide) ?_
    refine lv_bipush (v := 99) hx hb dX3_film_249 (by decide) ?_
    refine lv_aload_n hx hb dX3_film_251 rfl (lv_at hl 0 rfl) ?_
    refine va_get (D := D) (ci := 3) (v := .ref h_cells) (C := RX3) (T := TX3) (N := 1) hx hb hts xin_X3_film_X3 hown hK hP 0 rfl rfl 0 (by decide) (hts (.fieldLink RX3 9 "TakeLog$State" "cells" "[I") (by decide +kernel)) (fun _ h9 => h9) rfl dX3_film_252 ?_
    refine lv_iconst (v := 5) hx hb dX3_film_255 (by decide) ?_
    refine x_iald (k := 5) hx hb hK hP 1 0 rfl rfl (x_lit rfl (by decide) (by decide)) rfl (v := (u1 5)) rfl dX3_film_256 ?_
    refine lv_iconst (v := 1) hx hb dX3_film_257 (by decide) ?_
    refine lv_iadd hx hb dX3_film_258 ?_
    refine va_mmin hx hb (hml.trans hl.1.symm) hown (hts (.methodLink RX3 120 Lib.Math.min.name) (by decide +kernel)) (hts (.static Lib.Math.min.name) (by decide +kernel)) (hts (.initialized "java/lang/Math") (by decide +kernel)) (hts (.code Lib.Math.min.name Lib.Math.min.code 2 (some .int)) (by decide +kernel)) (by decide) (Nat.le_of_ble_eq_true rfl) (Nat.zero_le _) (Nat.zero_le _) dX3_film_259 ?_
    refine x_iast (k := 5) hx hb hK hP hD hS 1 0 rfl rfl (x_lit rfl (by decide) (by decide)) rfl dX3_film_262 (fun H locs hP hD hS => ?_)
    have hP : va_P D vwCl [(h, .inr (3, [.ref h_cells])), (h_cells, .inl (cI, 400, .inl (upd (upd (upd (upd u1 7 ((u1 7) + v4)) 10 ((u1 10) + (v4 + r2))) 0 (v3 + 1)) 5 (if ((u1 5) + 1) < 99 then ((u1 5) + 1) else 99))))] H := hP
    have hD : va_D A [(h, .inr (3, [.ref h_cells])), (h_cells, .inl (cI, 400, .inl (upd (upd (upd (upd u1 7 ((u1 7) + v4)) 10 ((u1 10) + (v4 + r2))) 0 (v3 + 1)) 5 (if ((u1 5) + 1) < 99 then ((u1 5) + 1) else 99))))] := hD
    refine lv_iload hx hb dX3_film_263 (lv_at hl 2 rfl) ?_
    exact x_reti C0 (upd (upd (upd (upd u1 7 ((u1 7) + v4)) 10 ((u1 10) + (v4 + r2))) 0 (v3 + 1)) 5 (if ((u1 5) + 1) < 99 then ((u1 5) + 1) else 99)) hk hP hD hS dX3_film_265
set_option maxHeartbeats 4000000 in
set_option maxRecDepth 100000 in
theorem xb_X3_film_0 {p : Program} {l : Launch} {e : Env} {s : State} {m : MethodId} {args : Array Value} {below : List Frame} {meth : Method} {c : Code} {A : Nat → Prop} {D : va_G} {cI cC cZ cL : ClassId} {h h_cells : Nat}   {K : Int32 → ((Nat → Int32)) → Prop}  (C0 : xC p s m args meth c cX3_film 5 (some .int) wsX3_film RX3 D (xTY cI cC cZ cL)) (hA : ∀ q : Nat, s.heap.size ≤ q → A q)  : ∀ (f_cells : Nat → Int32) (x1 : Int32) (x2 : Int32) , xp_X3_film f_cells x1 x2 K → ∀ (H : Heap) (locs : List Loc) (ls : Array Slot), va_P D vwCl [(h, .inr (3, [.ref h_cells])), (h_cells, .inl (cI, 400, .inl f_cells))] H → va_D A [(h, .inr (3, [.ref h_cells])), (h_cells, .inl (cI, 400, .inl f_cells))] → va_S A s.heap H locs → lv_has ls 5 [(0, .ref h), (1, .int x1), (2, .int x2)] → W p l e ({ frames := 3, cells := 0, slots := 0, locals := 67 } : Room) s m args below meth c H locs 0 0 (MQ below (va_Qi (fun (r : Int32) (u : (Nat → Int32)) => K r u) (fun u t => xE D A ((fun (u : (Nat → Int32)) => [(h, .inr (3, [.ref h_cells])), (h_cells, .inl (cI, 400, .inl u))]) u) t) A) args s 0 0 A) (F0 m 0 ls []) := by
  obtain ⟨hx, hb, hr, hml, hown, hts, hlocks, hK, hN⟩ := id C0
  intro f_cells x1 x2 hk H locs ls hP hD hS hl
  rw [xp_X3_film] at hk
  refine lv_aload_n hx hb dX3_film_0 rfl (lv_at hl 0 rfl) ?_
  refine x_joini (ws1 := fun (_ : Unit) => [(h, .inr (3, [.ref h_cells])), (h_cells, .inl (cI, 400, .inl f_cells))]) (x_runV (n0 := 0) (As := []) (rest := []) C0 (xc_X3_takes l D cI cC cZ cL h h_cells H.size f_cells _ hk) gX3_film_X3_takes rfl ⟨rfl, rfl⟩ (by decide +kernel) rfl ⟨by decide, by decide⟩ ⟨Nat.zero_le _, Nat.zero_le _⟩ hP hD [0, 1] rfl rfl (k := 0) rfl rfl rfl hl.1 rfl (Nat.le_of_ble_eq_true rfl) dX3_film_1) hP hD hS hA [0, 1] [] [0, 1] rfl rfl rfl (by decide) (fun _ => rfl) rfl (fun r1 u1 H locs hk hP hD hS => ?_)
  refine lv_istore_n (lv' := [(3, .int r1), (0, .ref h), (1, .int x1), (2, .int x2)]) hx hb dX3_film_4 rfl hl (by decide) rfl (fun ls hl => ?_)
  refine lv_iload_n hx hb dX3_film_5 rfl (lv_at hl 2 rfl) ?_
  refine lv_aload_n hx hb dX3_film_6 rfl (lv_at hl 1 rfl) ?_
  refine x_joini (ws1 := fun (_ : Unit) => [(h, .inr (3, [.ref h_cells])), (h_cells, .inl (cI, 400, .inl f_cells))]) (x_runV (n0 := 0) (As := []) (rest := [.int x1]) C0 (xc_X3_cameraLeft l D cI cC cZ cL h h_cells H.size f_cells _ hk) gX3_film_X3_cameraLeft rfl ⟨rfl, rfl⟩ (by decide +kernel) rfl ⟨by decide, by decide⟩ ⟨Nat.zero_le _, Nat.zero_le _⟩ hP hD [0, 1] rfl rfl (k := 0) rfl rfl rfl hl.1 rfl (Nat.le_of_ble_eq_true rfl) dX3_film_7) hP hD hS hA [0, 1] [] [0, 1] rfl rfl rfl (by decide) (fun _ => rfl) rfl (fun r2 u2 H locs hk hP hD hS => ?_)
  refine va_mmin hx hb (hml.trans hl.1.symm) hown (hts (.methodLink RX3 120 Lib.Math.min.name) (by decide +kernel)) (hts (.static Lib.Math.min.name) (by decide +kernel)) (hts (.initialized "java/lang/Math") (by decide +kernel)) (hts (.code Lib.Math.min.name Lib.Math.min.code 2 (some .int)) (by decide +kernel)) (by decide) (Nat.le_of_ble_eq_true rfl) (Nat.zero_le _) (Nat.zero_le _) dX3_film_10 ?_
  refine lv_istore (lv' := [(4, .int (if r2 < x1 then r2 else x1)), (3, .int r1), (0, .ref h), (1, .int x1), (2, .int x2)]) hx hb dX3_film_13 hl (by decide) rfl (fun ls hl => ?_)
  refine lv_aload_n hx hb dX3_film_15 rfl (lv_at hl 2 rfl) ?_
  refine lv_iload_n hx hb dX3_film_16 rfl (lv_at hl 1 rfl) ?_
  refine lv_iconst (v := 0) hx hb dX3_film_17 (by decide) ?_
  refine lv_aload_n hx hb dX3_film_18 rfl (lv_at hl 2 rfl) ?_
  refine va_get (D := D) (ci := 3) (v := .ref h_cells) (C := RX3) (T := TX3) (N := 1) hx hb hts xin_X3_film_X3 hown hK hP 0 rfl rfl 0 (by decide) (hts (.fieldLink RX3 9 "TakeLog$State" "cells" "[I") (by decide +kernel)) (fun _ h9 => h9) rfl dX3_film_19 ?_
  refine lv_iconst (v := 1) hx hb dX3_film_22 (by decide) ?_
  refine x_iald (k := 1) hx hb hK hP 1 0 rfl rfl (x_lit rfl (by decide) (by decide)) rfl (v := (f_cells 1)) rfl dX3_film_23 ?_
  refine x_joinv (ws1 := fun (u3 : (Nat → Int32)) => [(h, .inr (3, [.ref h_cells])), (h_cells, .inl (cI, 400, .inl u3))]) (x_runV (n0 := 3) (As := [.int r1, .int 0, .int (f_cells 1)]) (rest := []) C0 (xc_X3_put l D cI cC cZ cL h h_cells H.size f_cells r1 0 (f_cells 1) _ hk) gX3_film_X3_put rfl ⟨rfl, rfl⟩ (by decide +kernel) rfl ⟨by decide, by decide⟩ ⟨Nat.zero_le _, Nat.zero_le _⟩ hP hD [0, 1] rfl rfl (k := 0) rfl rfl rfl hl.1 rfl (Nat.le_of_ble_eq_true rfl) dX3_film_24) hP hD hS hA [0, 1] [] [0, 1] rfl rfl rfl (by decide) (fun _ => rfl) rfl (fun u3 H locs hk hP hD hS => ?_)
  refine lv_aload_n hx hb dX3_film_27 rfl (lv_at hl 2 rfl) ?_
  refine lv_iload_n hx hb dX3_film_28 rfl (lv_at hl 1 rfl) ?_
  refine lv_iconst (v := 1) hx hb dX3_film_29 (by decide) ?_
  refine lv_aload_n hx hb dX3_film_30 rfl (lv_at hl 2 rfl) ?_
  refine va_get (D := D) (ci := 3) (v := .ref h_cells) (C := RX3) (T := TX3) (N := 1) hx hb hts xin_X3_film_X3 hown hK hP 0 rfl rfl 0 (by decide) (hts (.fieldLink RX3 9 "TakeLog$State" "cells" "[I") (by decide +kernel)) (fun _ h9 => h9) rfl dX3_film_31 ?_
  refine lv_iconst (v := 2) hx hb dX3_film_34 (by decide) ?_
  refine x_iald (k := 2) hx hb hK hP 1 0 rfl rfl (x_lit rfl (by decide) (by decide)) rfl (v := (u3 2)) rfl dX3_film_35 ?_
  refine x_joinv (ws1 := fun (u4 : (Nat → Int32)) => [(h, .inr (3, [.ref h_cells])), (h_cells, .inl (cI, 400, .inl u4))]) (x_runV (n0 := 3) (As := [.int r1, .int 1, .int (u3 2)]) (rest := []) C0 (xc_X3_put l D cI cC cZ cL h h_cells H.size u3 r1 1 (u3 2) _ hk) gX3_film_X3_put rfl ⟨rfl, rfl⟩ (by decide +kernel) rfl ⟨by decide, by decide⟩ ⟨Nat.zero_le _, Nat.zero_le _⟩ hP hD [0, 1] rfl rfl (k := 0) rfl rfl rfl hl.1 rfl (Nat.le_of_ble_eq_true rfl) dX3_film_36) hP hD hS hA [0, 1] [] [0, 1] rfl rfl rfl (by decide) (fun _ => rfl) rfl (fun u4 H locs hk hP hD hS => ?_)
  refine lv_aload_n hx hb dX3_film_39 rfl (lv_at hl 2 rfl) ?_
  refine lv_iload_n hx hb dX3_film_40 rfl (lv_at hl 1 rfl) ?_
  refine lv_iconst (v := 3) hx hb dX3_film_41 (by decide) ?_
  refine lv_aload_n hx hb dX3_film_42 rfl (lv_at hl 2 rfl) ?_
  refine va_get (D := D) (ci := 3) (v := .ref h_cells) (C := RX3) (T := TX3) (N := 1) hx hb hts xin_X3_film_X3 hown hK hP 0 rfl rfl 0 (by decide) (hts (.fieldLink RX3 9 "TakeLog$State" "cells" "[I") (by decide +kernel)) (fun _ h9 => h9) rfl dX3_film_43 ?_
  refine lv_iconst (v := 3) hx hb dX3_film_46 (by decide) ?_
  refine x_iald (k := 3) hx hb hK hP 1 0 rfl rfl (x_lit rfl (by decide) (by decide)) rfl (v := (u4 3)) rfl dX3_film_47 ?_
  refine x_joinv (ws1 := fun (u5 : (Nat → Int32)) => [(h, .inr (3, [.ref h_cells])), (h_cells, .inl (cI, 400, .inl u5))]) (x_runV (n0 := 3) (As := [.int r1, .int 3, .int (u4 3)]) (rest := []) C0 (xc_X3_put l D cI cC cZ cL h h_cells H.size u4 r1 3 (u4 3) _ hk) gX3_film_X3_put rfl ⟨rfl, rfl⟩ (by decide +kernel) rfl ⟨by decide, by decide⟩ ⟨Nat.zero_le _, Nat.zero_le _⟩ hP hD [0, 1] rfl rfl (k := 0) rfl rfl rfl hl.1 rfl (Nat.le_of_ble_eq_true rfl) dX3_film_48) hP hD hS hA [0, 1] [] [0, 1] rfl rfl rfl (by decide) (fun _ => rfl) rfl (fun u5 H locs hk hP hD hS => ?_)
  refine lv_aload_n hx hb dX3_film_51 rfl (lv_at hl 2 rfl) ?_
  refine lv_iload_n hx hb dX3_film_52 rfl (lv_at hl 1 rfl) ?_
  refine lv_iconst (v := 4) hx hb dX3_film_53 (by decide) ?_
  refine lv_aload_n hx hb dX3_film_54 rfl (lv_at hl 2 rfl) ?_
  refine va_get (D := D) (ci := 3) (v := .ref h_cells) (C := RX3) (T := TX3) (N := 1) hx hb hts xin_X3_film_X3 hown hK hP 0 rfl rfl 0 (by decide) (hts (.fieldLink RX3 9 "TakeLog$State" "cells" "[I") (by decide +kernel)) (fun _ h9 => h9) rfl dX3_film_55 ?_
  refine lv_iconst (v := 4) hx hb dX3_film_58 (by decide) ?_
  refine x_iald (k := 4) hx hb hK hP 1 0 rfl rfl (x_lit rfl (by decide) (by decide)) rfl (v := (u5 4)) rfl dX3_film_59 ?_
  refine x_joinv (ws1 := fun (u6 : (Nat → Int32)) => [(h, .inr (3, [.ref h_cells])), (h_cells, .inl (cI, 400, .inl u6))]) (x_runV (n0 := 3) (As := [.int r1, .int 4, .int (u5 4)]) (rest := []) C0 (xc_X3_put l D cI cC cZ cL h h_cells H.size u5 r1 4 (u5 4) _ hk) gX3_film_X3_put rfl ⟨rfl, rfl⟩ (by decide +kernel) rfl ⟨by decide, by decide⟩ ⟨Nat.zero_le _, Nat.zero_le _⟩ hP hD [0, 1] rfl rfl (k := 0) rfl rfl rfl hl.1 rfl (Nat.le_of_ble_eq_true rfl) dX3_film_60) hP hD hS hA [0, 1] [] [0, 1] rfl rfl rfl (by decide) (fun _ => rfl) rfl (fun u6 H locs hk hP hD hS => ?_)
  refine lv_aload_n hx hb dX3_film_63 rfl (lv_at hl 2 rfl) ?_
  refine lv_iload_n hx hb dX3_film_64 rfl (lv_at hl 1 rfl) ?_
  refine lv_iconst (v := 5) hx hb dX3_film_65 (by decide) ?_
  refine lv_aload_n hx hb dX3_film_66 rfl (lv_at hl 2 rfl) ?_
  refine va_get (D := D) (ci := 3) (v := .ref h_cells) (C := RX3) (T := TX3) (N := 1) hx hb hts xin_X3_film_X3 hown hK hP 0 rfl rfl 0 (by decide) (hts (.fieldLink RX3 9 "TakeLog$State" "cells" "[I") (by decide +kernel)) (fun _ h9 => h9) rfl dX3_film_67 ?_
  refine lv_iconst (v := 5) hx hb dX3_film_70 (by decide) ?_
  refine x_iald (k := 5) hx hb hK hP 1 0 rfl rfl (x_lit rfl (by decide) (by decide)) rfl (v := (u6 5)) rfl dX3_film_71 ?_
  refine x_joinv (ws1 := fun (u7 : (Nat → Int32)) => [(h, .inr (3, [.ref h_cells])), (h_cells, .inl (cI, 400, .inl u7))]) (x_runV (n0 := 3) (As := [.int r1, .int 5, .int (u6 5)]) (rest := []) C0 (xc_X3_put l D cI cC cZ cL h h_cells H.size u6 r1 5 (u6 5) _ hk) gX3_film_X3_put rfl ⟨rfl, rfl⟩ (by decide +kernel) rfl ⟨by decide, by decide⟩ ⟨Nat.zero_le _, Nat.zero_le _⟩ hP hD [0, 1] rfl rfl (k := 0) rfl rfl rfl hl.1 rfl (Nat.le_of_ble_eq_true rfl) dX3_film_72) hP hD hS hA [0, 1] [] [0, 1] rfl rfl rfl (by decide) (fun _ => rfl) rfl (fun u7 H locs hk hP hD hS => ?_)
  refine lv_aload_n hx hb dX3_film_75 rfl (lv_at hl 2 rfl) ?_
  refine lv_iload_n hx hb dX3_film_76 rfl (lv_at hl 1 rfl) ?_
  refine lv_bipush (v := 6) hx hb dX3_film_77 (by decide) ?_
  refine lv_aload_n hx hb dX3_film_79 rfl (lv_at hl 2 rfl) ?_
  refine va_get (D := D) (ci := 3) (v := .ref h_cells) (C := RX3) (T := TX3) (N := 1) hx hb hts xin_X3_film_X3 hown hK hP 0 rfl rfl 0 (by decide) (hts (.fieldLink RX3 9 "TakeLog$State" "cells" "[I") (by decide +kernel)) (fun _ h9 => h9) rfl dX3_film_80 ?_
  refine lv_bipush (v := 6) hx hb dX3_film_83 (by decide) ?_
  refine x_iald (k := 6) hx hb hK hP 1 0 rfl rfl (x_lit rfl (by decide) (by decide)) rfl (v := (u7 6)) rfl dX3_film_85 ?_
  refine x_joinv (ws1 := fun (u8 : (Nat → Int32)) => [(h, .inr (3, [.ref h_cells])), (h_cells, .inl (cI, 400, .inl u8))]) (x_runV (n0 := 3) (As := [.int r1, .int 6, .int (u7 6)]) (rest := []) C0 (xc_X3_put l D cI cC cZ cL h h_cells H.size u7 r1 6 (u7 6) _ hk) gX3_film_X3_put rfl ⟨rfl, rfl⟩ (by decide +kernel) rfl ⟨by decide, by decide⟩ ⟨Nat.zero_le _, Nat.zero_le _⟩ hP hD [0, 1] rfl rfl (k := 0) rfl rfl rfl hl.1 rfl (Nat.le_of_ble_eq_true rfl) dX3_film_86) hP hD hS hA [0, 1] [] [0, 1] rfl rfl rfl (by decide) (fun _ => rfl) rfl (fun u8 H locs hk hP hD hS => ?_)
  refine lv_aload_n hx hb dX3_film_89 rfl (lv_at hl 2 rfl) ?_
  refine lv_iload_n hx hb dX3_film_90 rfl (lv_at hl 1 rfl) ?_
  refine lv_bipush (v := 7) hx hb dX3_film_91 (by decide) ?_
  refine lv_aload_n hx hb dX3_film_93 rfl (lv_at hl 2 rfl) ?_
  refine va_get (D := D) (ci := 3) (v := .ref h_cells) (C := RX3) (T := TX3) (N := 1) hx hb hts xin_X3_film_X3 hown hK hP 0 rfl rfl 0 (by decide) (hts (.fieldLink RX3 9 "TakeLog$State" "cells" "[I") (by decide +kernel)) (fun _ h9 => h9) rfl dX3_film_94 ?_
  refine lv_bipush (v := 7) hx hb dX3_film_97 (by decide) ?_
  refine x_iald (k := 7) hx hb hK hP 1 0 rfl rfl (x_lit rfl (by decide) (by decide)) rfl (v := (u8 7)) rfl dX3_film_99 ?_
  refine x_joinv (ws1 := fun (u9 : (Nat → Int32)) => [(h, .inr (3, [.ref h_cells])), (h_cells, .inl (cI, 400, .inl u9))]) (x_runV (n0 := 3) (As := [.int r1, .int 7, .int (u8 7)]) (rest := []) C0 (xc_X3_put l D cI cC cZ cL h h_cells H.size u8 r1 7 (u8 7) _ hk) gX3_film_X3_put rfl ⟨rfl, rfl⟩ (by decide +kernel) rfl ⟨by decide, by decide⟩ ⟨Nat.zero_le _, Nat.zero_le _⟩ hP hD [0, 1] rfl rfl (k := 0) rfl rfl rfl hl.1 rfl (Nat.le_of_ble_eq_true rfl) dX3_film_100) hP hD hS hA [0, 1] [] [0, 1] rfl rfl rfl (by decide) (fun _ => rfl) rfl (fun u9 H locs hk hP hD hS => ?_)
  refine lv_aload_n hx hb dX3_film_103 rfl (lv_at hl 2 rfl) ?_
  refine lv_iload_n hx hb dX3_film_104 rfl (lv_at hl 1 rfl) ?_
  refine lv_bipush (v := 8) hx hb dX3_film_105 (by decide) ?_
  refine lv_iload hx hb dX3_film_107 (lv_at hl 0 rfl) ?_
  refine x_joinv (ws1 := fun (u10 : (Nat → Int32)) => [(h, .inr (3, [.ref h_cells])), (h_cells, .inl (cI, 400, .inl u10))]) (x_runV (n0 := 3) (As := [.int r1, .int 8, .int (if r2 < x1 then r2 else x1)]) (rest := []) C0 (xc_X3_put l D cI cC cZ cL h h_cells H.size u9 r1 8 (if r2 < x1 then r2 else x1) _ hk) gX3_film_X3_put rfl ⟨rfl, rfl⟩ (by decide +kernel) rfl ⟨by decide, by decide⟩ ⟨Nat.zero_le _, Nat.zero_le _⟩ hP hD [0, 1] rfl rfl (k := 0) rfl rfl rfl hl.1 rfl (Nat.le_of_ble_eq_true rfl) dX3_film_109) hP hD hS hA [0, 1] [] [0, 1] rfl rfl rfl (by decide) (fun _ => rfl) rfl (fun u10 H locs hk hP hD hS => ?_)
  refine lv_aload_n hx hb dX3_film_112 rfl (lv_at hl 2 rfl) ?_
  refine lv_iload_n hx hb dX3_film_113 rfl (lv_at hl 1 rfl) ?_
  refine lv_bipush (v := 12) hx hb dX3_film_114 (by decide) ?_
  refine lv_aload_n hx hb dX3_film_116 rfl (lv_at hl 2 rfl) ?_
  refine va_get (D := D) (ci := 3) (v := .ref h_cells) (C := RX3) (T := TX3) (N := 1) hx hb hts xin_X3_film_X3 hown hK hP 0 rfl rfl 0 (by decide) (hts (.fieldLink RX3 9 "TakeLog$State" "cells" "[I") (by decide +kernel)) (fun _ h9 => h9) rfl dX3_film_117 ?_
  refine lv_bipush (v := 10) hx hb dX3_film_120 (by decide) ?_
  refine x_iald (k := 10) hx hb hK hP 1 0 rfl rfl (x_lit rfl (by decide) (by decide)) rfl (v := (u10 10)) rfl dX3_film_122 ?_
  refine x_joinv (ws1 := fun (u11 : (Nat → Int32)) => [(h, .inr (3, [.ref h_cells])), (h_cells, .inl (cI, 400, .inl u11))]) (x_runV (n0 := 3) (As := [.int r1, .int 12, .int (u10 10)]) (rest := []) C0 (xc_X3_put l D cI cC cZ cL h h_cells H.size u10 r1 12 (u10 10) _ hk) gX3_film_X3_put rfl ⟨rfl, rfl⟩ (by decide +kernel) rfl ⟨by decide, by decide⟩ ⟨Nat.zero_le _, Nat.zero_le _⟩ hP hD [0, 1] rfl rfl (k := 0) rfl rfl rfl hl.1 rfl (Nat.le_of_ble_eq_true rfl) dX3_film_123) hP hD hS hA [0, 1] [] [0, 1] rfl rfl rfl (by decide) (fun _ => rfl) rfl (fun u11 H locs hk hP hD hS => ?_)
  refine lv_aload_n hx hb dX3_film_126 rfl (lv_at hl 2 rfl) ?_
  refine lv_iload_n hx hb dX3_film_127 rfl (lv_at hl 1 rfl) ?_
  refine lv_bipush (v := 13) hx hb dX3_film_128 (by decide) ?_
  refine lv_aload_n hx hb dX3_film_130 rfl (lv_at hl 2 rfl) ?_
  refine va_get (D := D) (ci := 3) (v := .ref h_cells) (C := RX3) (T := TX3) (N := 1) hx hb hts xin_X3_film_X3 hown hK hP 0 rfl rfl 0 (by decide) (hts (.fieldLink RX3 9 "TakeLog$State" "cells" "[I") (by decide +kernel)) (fun _ h9 => h9) rfl dX3_film_131 ?_
  refine lv_bipush (v := 10) hx hb dX3_film_134 (by decide) ?_
  refine x_iald (k := 10) hx hb hK hP 1 0 rfl rfl (x_lit rfl (by decide) (by decide)) rfl (v := (u11 10)) rfl dX3_film_136 ?_
  refine lv_aload_n hx hb dX3_film_137 rfl (lv_at hl 2 rfl) ?_
  refine va_get (D := D) (ci := 3) (v := .ref h_cells) (C := RX3) (T := TX3) (N := 1) hx hb hts xin_X3_film_X3 hown hK hP 0 rfl rfl 0 (by decide) (hts (.fieldLink RX3 9 "TakeLog$State" "cells" "[I") (by decide +kernel)) (fun _ h9 => h9) rfl dX3_film_138 ?_
  refine lv_bipush (v := 11) hx hb dX3_film_141 (by decide) ?_
  refine x_iald (k := 11) hx hb hK hP 1 0 rfl rfl (x_lit rfl (by decide) (by decide)) rfl (v := (u11 11)) rfl dX3_film_143 ?_
  refine lv_iadd hx hb dX3_film_144 ?_
  refine x_joinv (ws1 := fun (u12 : (Nat → Int32)) => [(h, .inr (3, [.ref h_cells])), (h_cells, .inl (cI, 400, .inl u12))]) (x_runV (n0 := 3) (As := [.int r1, .int 13, .int ((u11 10) + (u11 11))]) (rest := []) C0 (xc_X3_put l D cI cC cZ cL h h_cells H.size u11 r1 13 ((u11 10) + (u11 11)) _ hk) gX3_film_X3_put rfl ⟨rfl, rfl⟩ (by decide +kernel) rfl ⟨by decide, by decide⟩ ⟨Nat.zero_le _, Nat.zero_le _⟩ hP hD [0, 1] rfl rfl (k := 0) rfl rfl rfl hl.1 rfl (Nat.le_of_ble_eq_true rfl) dX3_film_145) hP hD hS hA [0, 1] [] [0, 1] rfl rfl rfl (by decide) (fun _ => rfl) rfl (fun u12 H locs hk hP hD hS => ?_)
  refine lv_aload_n hx hb dX3_film_148 rfl (lv_at hl 2 rfl) ?_
  refine lv_iload_n hx hb dX3_film_149 rfl (lv_at hl 1 rfl) ?_
  refine lv_bipush (v := 14) hx hb dX3_film_150 (by decide) ?_
  refine lv_iconst (v := 0) hx hb dX3_film_152 (by decide) ?_
  refine x_joinv (ws1 := fun (u13 : (Nat → Int32)) => [(h, .inr (3, [.ref h_cells])), (h_cells, .inl (cI, 400, .inl u13))]) (x_runV (n0 := 3) (As := [.int r1, .int 14, .int 0]) (rest := []) C0 (xc_X3_put l D cI cC cZ cL h h_cells H.size u12 r1 14 0 _ hk) gX3_film_X3_put rfl ⟨rfl, rfl⟩ (by decide +kernel) rfl ⟨by decide, by decide⟩ ⟨Nat.zero_le _, Nat.zero_le _⟩ hP hD [0, 1] rfl rfl (k := 0) rfl rfl rfl hl.1 rfl (Nat.le_of_ble_eq_true rfl) dX3_film_153) hP hD hS hA [0, 1] [] [0, 1] rfl rfl rfl (by decide) (fun _ => rfl) rfl (fun u13 H locs hk hP hD hS => ?_)
  refine lv_aload_n hx hb dX3_film_156 rfl (lv_at hl 2 rfl) ?_
  refine lv_iload_n hx hb dX3_film_157 rfl (lv_at hl 1 rfl) ?_
  refine lv_bipush (v := 15) hx hb dX3_film_158 (by decide) ?_
  refine lv_iconst (v := 0) hx hb dX3_film_160 (by decide) ?_
  refine x_joinv (ws1 := fun (u14 : (Nat → Int32)) => [(h, .inr (3, [.ref h_cells])), (h_cells, .inl (cI, 400, .inl u14))]) (x_runV (n0 := 3) (As := [.int r1, .int 15, .int 0]) (rest := []) C0 (xc_X3_put l D cI cC cZ cL h h_cells H.size u13 r1 15 0 _ hk) gX3_film_X3_put rfl ⟨rfl, rfl⟩ (by decide +kernel) rfl ⟨by decide, by decide⟩ ⟨Nat.zero_le _, Nat.zero_le _⟩ hP hD [0, 1] rfl rfl (k := 0) rfl rfl rfl hl.1 rfl (Nat.le_of_ble_eq_true rfl) dX3_film_161) hP hD hS hA [0, 1] [] [0, 1] rfl rfl rfl (by decide) (fun _ => rfl) rfl (fun u14 H locs hk hP hD hS => ?_)
  refine lv_aload_n hx hb dX3_film_164 rfl (lv_at hl 2 rfl) ?_
  refine lv_iload_n hx hb dX3_film_165 rfl (lv_at hl 1 rfl) ?_
  refine lv_iload_n hx hb dX3_film_166 rfl (lv_at hl 4 rfl) ?_
  refine lv_if_eq (tgt := 192) hx hb dX3_film_167 (by decide) (fun c15 => ?_) (fun c15 => ?_)
  · have hk := hk.1 c15
    refine lv_iconst (v := 0) hx hb dX3_film_192 (by decide) ?_
    exact xb_X3_film_193 C0 hA  _ _ _ _ _ hk H locs ls hP hD hS (lv_sub hl [2, 1, 0] rfl)
  · have hk := hk.2 c15
    refine lv_aload_n hx hb dX3_film_170 rfl (lv_at hl 2 rfl) ?_
    refine lv_iconst (v := 1) hx hb dX3_film_171 (by decide) ?_
    refine x_joini (ws1 := fun (_ : Unit) => [(h, .inr (3, [.ref h_cells])), (h_cells, .inl (cI, 400, .inl u14))]) (x_runV (n0 := 1) (As := [.int 1]) (rest := [.int r1, .ref h]) C0 (xc_X3_chosen l D cI cC cZ cL h h_cells H.size u14 1 _ hk) gX3_film_X3_chosen rfl ⟨rfl, rfl⟩ (by decide +kernel) rfl ⟨by decide, by decide⟩ ⟨Nat.zero_le _, Nat.zero_le _⟩ hP hD [0, 1] rfl rfl (k := 0) rfl rfl rfl hl.1 rfl (Nat.le_of_ble_eq_true rfl) dX3_film_172) hP hD hS hA [0, 1] [] [0, 1] rfl rfl rfl (by decide) (fun _ => rfl) rfl (fun r16 u16 H locs hk hP hD hS => ?_)
    refine lv_aload_n hx hb dX3_film_175 rfl (lv_at hl 2 rfl) ?_
    refine va_get (D := D) (ci := 3) (v := .ref h_cells) (C := RX3) (T := TX3) (N := 1) hx hb hts xin_X3_film_X3 hown hK hP 0 rfl rfl 0 (by decide) (hts (.fieldLink RX3 9 "TakeLog$State" "cells" "[I") (by decide +kernel)) (fun _ h9 => h9) rfl dX3_film_176 ?_
    refine lv_bipush (v := 9) hx hb dX3_film_179 (by decide) ?_
    refine x_iald (k := 9) hx hb hK hP 1 0 rfl rfl (x_lit rfl (by decide) (by decide)) rfl (v := (u14 9)) rfl dX3_film_181 ?_
    refine lv_isub hx hb dX3_film_182 ?_
    refine lv_iload hx hb dX3_film_183 (lv_at hl 0 rfl) ?_
    refine lv_icmp_lt (tgt := 192) hx hb dX3_film_185 (by decide) (fun c17 => ?_) (fun c17 => ?_)
    · have hk := hk.1 c17
      refine lv_iconst (v := 0) hx hb dX3_film_192 (by decide) ?_
      exact xb_X3_film_193 C0 hA  _ _ _ _ _ hk H locs ls hP hD hS (lv_sub hl [2, 1, 0] rfl)
    · have hk := hk.2 c17
      refine lv_iconst (v := 1) hx hb dX3_film_188 (by decide) ?_
      refine lv_goto (tgt := 193) hx hb dX3_film_189 (by decide) ?_
      exact xb_X3_film_193 C0 hA  _ _ _ _ _ hk H locs ls hP hD hS (lv_sub hl [2, 1, 0] rfl)
theorem xc_X3_film (l : Launch) (D : va_G) (cI cC cZ cL : ClassId) (h h_cells : Nat)  (sz : Nat) (f_cells : Nat → Int32) (x1 : Int32) (x2 : Int32) (K : Int32 → ((Nat → Int32)) → Prop) (hk : xp_X3_film f_cells x1 x2 K) : XMi l yX3_film wsX3_film ({ frames := 3, cells := 0, slots := 0, locals := 67 } : Room) D (xTY cI cC cZ cL) [.ref h, .int x1, .int x2] [(h, .inr (3, [.ref h_cells])), (h_cells, .inl (cI, 400, .inl f_cells))] sz (fun (r : Int32) (u : (Nat → Int32)) => K r u) (fun (u : (Nat → Int32)) => [(h, .inr (3, [.ref h_cells])), (h_cells, .inl (cI, 400, .inl u))]) :=
  x_enter (cc := cX3_film) (maxL := 5) (ret := (some .int)) (own := RX3) (by decide) rfl rfl (Nat.le_of_ble_eq_true rfl) (fun p e s m below meth c ls C0 hA hP hD hS hl => xb_X3_film_0 C0 hA _ _ _ hk s.heap [] ls hP hD hS hl)
set_option maxRecDepth 20000 in
theorem xin_X3_tryToFilm_X3 : ∀ w ∈ u_ws RX3 TX3 1, w ∈ wsX3_tryToFilm := by decide +kernel
set_option maxHeartbeats 4000000 in
set_option maxRecDepth 100000 in
theorem xb_X3_tryToFilm_0 {p : Program} {l : Launch} {e : Env} {s : State} {m : MethodId} {args : Array Value} {below : List Frame} {meth : Method} {c : Code} {A : Nat → Prop} {D : va_G} {cI cC cZ cL : ClassId} {h h_cells : Nat}   {K : Int32 → ((Nat → Int32)) → Prop}  (C0 : xC p s m args meth c cX3_tryToFilm 3 (some .boolean) wsX3_tryToFilm RX3 D (xTY cI cC cZ cL)) (hA : ∀ q : Nat, s.heap.size ≤ q → A q)  : ∀ (f_cells : Nat → Int32) (x1 : Int32) (x2 : Int32) , xp_X3_tryToFilm f_cells x1 x2 K → ∀ (H : Heap) (locs : List Loc) (ls : Array Slot), va_P D vwCl [(h, .inr (3, [.ref h_cells])), (h_cells, .inl (cI, 400, .inl f_cells))] H → va_D A [(h, .inr (3, [.ref h_cells])), (h_cells, .inl (cI, 400, .inl f_cells))] → va_S A s.heap H locs → lv_has ls 3 [(0, .ref h), (1, .int x1), (2, .int x2)] → W p l e ({ frames := 4, cells := 0, slots := 0, locals := 91 } : Room) s m args below meth c H locs 0 0 (MQ below (va_Qi (fun (r : Int32) (u : (Nat → Int32)) => K r u) (fun u t => xE D A ((fun (u : (Nat → Int32)) => [(h, .inr (3, [.ref h_cells])), (h_cells, .inl (cI, 400, .inl u))]) u) t) A) args s 0 0 A) (F0 m 0 ls []) := by
  obtain ⟨hx, hb, hr, hml, hown, hts, hlocks, hK, hN⟩ := id C0
  intro f_cells x1 x2 hk H locs ls hP hD hS hl
  rw [xp_X3_tryToFilm] at hk
  refine lv_iload_n hx hb dX3_tryToFilm_0 rfl (lv_at hl 1 rfl) ?_
  refine x_joini (ws1 := fun (_ : Unit) => [(h, .inr (3, [.ref h_cells])), (h_cells, .inl (cI, 400, .inl f_cells))]) (x_runN (n0 := 1) (As := [.int x1]) (rest := []) C0 (xc_X4_isLength l D cI cC cZ cL  H.size x1 _ hk) gX3_tryToFilm_X4_isLength_n109 rfl ⟨rfl, rfl⟩ hN.2.2.2.2.2.1 (by decide +kernel) (by decide +kernel) (by decide +kernel) rfl ⟨by decide, by decide⟩ ⟨Nat.zero_le _, Nat.zero_le _⟩ hP hD [] rfl rfl hl.1 rfl (Nat.le_of_ble_eq_true rfl) dX3_tryToFilm_1) hP hD hS hA [] [0, 1] [0, 1] rfl rfl rfl (by decide) (fun _ => rfl) rfl (fun r1 u1 H locs hk hP hD hS => ?_)
  refine lv_if_eq (tgt := 14) hx hb dX3_tryToFilm_4 (by decide) (fun c2 => ?_) (fun c2 => ?_)
  · have hk := hk.1 c2
    refine lv_iconst (v := 0) hx hb dX3_tryToFilm_14 (by decide) ?_
    exact x_retz rfl C0 (f_cells) hk hP hD hS dX3_tryToFilm_15
  · have hk := hk.2 c2
    refine lv_aload_n hx hb dX3_tryToFilm_7 rfl (lv_at hl 0 rfl) ?_
    refine x_joini (ws1 := fun (_ : Unit) => [(h, .inr (3, [.ref h_cells])), (h_cells, .inl (cI, 400, .inl f_cells))]) (x_runV (n0 := 0) (As := []) (rest := []) C0 (xc_X3_canFilm l D cI cC cZ cL h h_cells H.size f_cells _ hk) gX3_tryToFilm_X3_canFilm rfl ⟨rfl, rfl⟩ (by decide +kernel) rfl ⟨by decide, by decide⟩ ⟨Nat.zero_le _, Nat.zero_le _⟩ hP hD [0, 1] rfl rfl (k := 0) rfl rfl rfl hl.1 rfl (Nat.le_of_ble_eq_true rfl) dX3_tryToFilm_8) hP hD hS hA [0, 1] [] [0, 1] rfl rfl rfl (by decide) (fun _ => rfl) rfl (fun r3 u3 H locs hk hP hD hS => ?_)
    refine lv_if_ne (tgt := 16) hx hb dX3_tryToFilm_11 (by decide) (fun c4 => ?_) (fun c4 => ?_)
    · have hk := hk.1 c4
      refine lv_aload_n hx hb dX3_tryToFilm_16 rfl (lv_at hl 0 rfl) ?_
      refine lv_iload_n hx hb dX3_tryToFilm_17 rfl (lv_at hl 1 rfl) ?_
      refine lv_iload_n hx hb dX3_tryToFilm_18 rfl (lv_at hl 2 rfl) ?_
      refine x_joini (ws1 := fun (u5 : (Nat → Int32)) => [(h, .inr (3, [.ref h_cells])), (h_cells, .inl (cI, 400, .inl u5))]) (x_runV (n0 := 2) (As := [.int x1, .int x2]) (rest := []) C0 (xc_X3_film l D cI cC cZ cL h h_cells H.size f_cells x1 x2 _ hk) gX3_tryToFilm_X3_film rfl ⟨rfl, rfl⟩ (by decide +kernel) rfl ⟨by decide, by decide⟩ ⟨Nat.zero_le _, Nat.zero_le _⟩ hP hD [0, 1] rfl rfl (k := 0) rfl rfl rfl hl.1 rfl (Nat.le_of_ble_eq_true rfl) dX3_tryToFilm_19) hP hD hS hA [0, 1] [] [0, 1] rfl rfl rfl (by decide) (fun _ => rfl) rfl (fun r5 u5 H locs hk hP hD hS => ?_)
      refine lv_pop hx hb dX3_tryToFilm_22 rfl ?_
      refine lv_iconst (v := 1) hx hb dX3_tryToFilm_23 (by decide) ?_
      exact x_retz rfl C0 (u5) hk hP hD hS dX3_tryToFilm_24
    · have hk := hk.2 c4
      refine lv_iconst (v := 0) hx hb dX3_tryToFilm_14 (by decide) ?_
      exact x_retz rfl C0 (f_cells) hk hP hD hS dX3_tryToFilm_15
theorem xc_X3_tryToFilm (l : Launch) (D : va_G) (cI cC cZ cL : ClassId) (h h_cells : Nat)  (sz : Nat) (f_cells : Nat → Int32) (x1 : Int32) (x2 : Int32) (K : Int32 → ((Nat → Int32)) → Prop) (hk : xp_X3_tryToFilm f_cells x1 x2 K) : XMi l yX3_tryToFilm wsX3_tryToFilm ({ frames := 4, cells := 0, slots := 0, locals := 91 } : Room) D (xTY cI cC cZ cL) [.ref h, .int x1, .int x2] [(h, .inr (3, [.ref h_cells])), (h_cells, .inl (cI, 400, .inl f_cells))] sz (fun (r : Int32) (u : (Nat → Int32)) => K r u) (fun (u : (Nat → Int32)) => [(h, .inr (3, [.ref h_cells])), (h_cells, .inl (cI, 400, .inl u))]) :=
  x_enter (cc := cX3_tryToFilm) (maxL := 3) (ret := (some .boolean)) (own := RX3) (by decide) rfl rfl (Nat.le_of_ble_eq_true rfl) (fun p e s m below meth c ls C0 hA hP hD hS hl => xb_X3_tryToFilm_0 C0 hA _ _ _ hk s.heap [] ls hP hD hS hl)
set_option maxRecDepth 20000 in
theorem xin_X3_loadCamera_X3 : ∀ w ∈ u_ws RX3 TX3 1, w ∈ wsX3_loadCamera := by decide +kernel
set_option maxHeartbeats 4000000 in
set_option maxRecDepth 100000 in
theorem xb_X3_loadCamera_0 {p : Program} {l : Launch} {e : Env} {s : State} {m : MethodId} {args : Array Value} {below : List Frame} {meth : Method} {c : Code} {A : Nat → Prop} {D : va_G} {cI cC cZ cL : ClassId} {h h_cells : Nat}   {K : Int32 → ((Nat → Int32)) → Prop}  (C0 : xC p s m args meth c cX3_loadCamera 1 (some .int) wsX3_loadCamera RX3 D (xTY cI cC cZ cL)) (hA : ∀ q : Nat, s.heap.size ≤ q → A q)  : ∀ (f_cells : Nat → Int32) , xp_X3_loadCamera f_cells K → ∀ (H : Heap) (locs : List Loc) (ls : Array Slot), va_P D vwCl [(h, .inr (3, [.ref h_cells])), (h_cells, .inl (cI, 400, .inl f_cells))] H → va_D A [(h, .inr (3, [.ref h_cells])), (h_cells, .inl (cI, 400, .inl f_cells))] → va_S A s.heap H locs → lv_has ls 1 [(0, .ref h)] → W p l e ({ frames := 0, cells := 0, slots := 0, locals := 0 } : Room) s m args below meth c H locs 0 0 (MQ below (va_Qi (fun (r : Int32) (u : (Nat → Int32)) => K r u) (fun u t => xE D A ((fun (u : (Nat → Int32)) => [(h, .inr (3, [.ref h_cells])), (h_cells, .inl (cI, 400, .inl u))]) u) t) A) args s 0 0 A) (F0 m 0 ls []) := by
  obtain ⟨hx, hb, hr, hml, hown, hts, hlocks, hK, hN⟩ := id C0
  intro f_cells hk H locs ls hP hD hS hl
  rw [xp_X3_loadCamera] at hk
  refine lv_aload_n hx hb dX3_loadCamera_0 rfl (lv_at hl 0 rfl) ?_
  refine va_get (D := D) (ci := 3) (v := .ref h_cells) (C := RX3) (T := TX3) (N := 1) hx hb hts xin_X3_loadCamera_X3 hown hK hP 0 rfl rfl 0 (by decide) (hts (.fieldLink RX3 9 "TakeLog$State" "cells" "[I") (by decide +kernel)) (fun _ h9 => h9) rfl dX3_loadCamera_1 ?_
  refine lv_bipush (v := 6) hx hb dX3_loadCamera_4 (by decide) ?_
  refine lv_dup2_11 hx hb dX3_loadCamera_6 rfl rfl ?_
  refine x_iald (k := 6) hx hb hK hP 1 0 rfl rfl (x_lit rfl (by decide) (by decide)) rfl (v := (f_cells 6)) rfl dX3_loadCamera_7 ?_
  refine lv_iconst (v := 1) hx hb dX3_loadCamera_8 (by decide) ?_
  refine lv_iadd hx hb dX3_loadCamera_9 ?_
  refine x_iast (k := 6) hx hb hK hP hD hS 1 0 rfl rfl (x_lit rfl (by decide) (by decide)) rfl dX3_loadCamera_10 (fun H locs hP hD hS => ?_)
  have hP : va_P D vwCl [(h, .inr (3, [.ref h_cells])), (h_cells, .inl (cI, 400, .inl (upd f_cells 6 ((f_cells 6) + 1))))] H := hP
  have hD : va_D A [(h, .inr (3, [.ref h_cells])), (h_cells, .inl (cI, 400, .inl (upd f_cells 6 ((f_cells 6) + 1))))] := hD
  refine lv_aload_n hx hb dX3_loadCamera_11 rfl (lv_at hl 0 rfl) ?_
  refine va_get (D := D) (ci := 3) (v := .ref h_cells) (C := RX3) (T := TX3) (N := 1) hx hb hts xin_X3_loadCamera_X3 hown hK hP 0 rfl rfl 0 (by decide) (hts (.fieldLink RX3 9 "TakeLog$State" "cells" "[I") (by decide +kernel)) (fun _ h9 => h9) rfl dX3_loadCamera_12 ?_
  refine lv_bipush (v := 7) hx hb dX3_loadCamera_15 (by decide) ?_
  refine lv_iconst (v := 0) hx hb dX3_loadCamera_17 (by decide) ?_
  refine x_iast (k := 7) hx hb hK hP hD hS 1 0 rfl rfl (x_lit rfl (by decide) (by decide)) rfl dX3_loadCamera_18 (fun H locs hP hD hS => ?_)
  have hP : va_P D vwCl [(h, .inr (3, [.ref h_cells])), (h_cells, .inl (cI, 400, .inl (upd (upd f_cells 6 ((f_cells 6) + 1)) 7 0)))] H := hP
  have hD : va_D A [(h, .inr (3, [.ref h_cells])), (h_cells, .inl (cI, 400, .inl (upd (upd f_cells 6 ((f_cells 6) + 1)) 7 0)))] := hD
  refine lv_aload_n hx hb dX3_loadCamera_19 rfl (lv_at hl 0 rfl) ?_
  refine va_get (D := D) (ci := 3) (v := .ref h_cells) (C := RX3) (T := TX3) (N := 1) hx hb hts xin_X3_loadCamera_X3 hown hK hP 0 rfl rfl 0 (by decide) (hts (.fieldLink RX3 9 "TakeLog$State" "cells" "[I") (by decide +kernel)) (fun _ h9 => h9) rfl dX3_loadCamera_20 ?_
  refine lv_bipush (v := 6) hx hb dX3_loadCamera_23 (by decide) ?_
  refine x_iald (k := 6) hx hb hK hP 1 0 rfl rfl (x_lit rfl (by decide) (by decide)) rfl (v := ((f_cells 6) + 1)) rfl dX3_loadCamera_25 ?_
  exact x_reti C0 (upd (upd f_cells 6 ((f_cells 6) + 1)) 7 0) hk hP hD hS dX3_loadCamera_26
theorem xc_X3_loadCamera (l : Launch) (D : va_G) (cI cC cZ cL : ClassId) (h h_cells : Nat)  (sz : Nat) (f_cells : Nat → Int32)  (K : Int32 → ((Nat → Int32)) → Prop) (hk : xp_X3_loadCamera f_cells K) : XMi l yX3_loadCamera wsX3_loadCamera ({ frames := 0, cells := 0, slots := 0, locals := 0 } : Room) D (xTY cI cC cZ cL) [.ref h] [(h, .inr (3, [.ref h_cells])), (h_cells, .inl (cI, 400, .inl f_cells))] sz (fun (r : Int32) (u : (Nat → Int32)) => K r u) (fun (u : (Nat → Int32)) => [(h, .inr (3, [.ref h_cells])), (h_cells, .inl (cI, 400, .inl u))]) :=
  x_enter (cc := cX3_loadCamera) (maxL := 1) (ret := (some .int)) (own := RX3) (by decide) rfl rfl (Nat.le_of_ble_eq_true rfl) (fun p e s m below meth c ls C0 hA hP hD hS hl => xb_X3_loadCamera_0 C0 hA _ hk s.heap [] ls hP hD hS hl)
set_option maxRecDepth 20000 in
theorem xin_X3_loadSound_X3 : ∀ w ∈ u_ws RX3 TX3 1, w ∈ wsX3_loadSound := by decide +kernel
set_option maxHeartbeats 4000000 in
set_option maxRecDepth 100000 in
theorem xb_X3_loadSound_0 {p : Program} {l : Launch} {e : Env} {s : State} {m : MethodId} {args : Array Value} {below : List Frame} {meth : Method} {c : Code} {A : Nat → Prop} {D : va_G} {cI cC cZ cL : ClassId} {h h_cells : Nat}   {K : Int32 → ((Nat → Int32)) → Prop}  (C0 : xC p s m args meth c cX3_loadSound 1 (some .int) wsX3_loadSound RX3 D (xTY cI cC cZ cL)) (hA : ∀ q : Nat, s.heap.size ≤ q → A q)  : ∀ (f_cells : Nat → Int32) , xp_X3_loadSound f_cells K → ∀ (H : Heap) (locs : List Loc) (ls : Array Slot), va_P D vwCl [(h, .inr (3, [.ref h_cells])), (h_cells, .inl (cI, 400, .inl f_cells))] H → va_D A [(h, .inr (3, [.ref h_cells])), (h_cells, .inl (cI, 400, .inl f_cells))] → va_S A s.heap H locs → lv_has ls 1 [(0, .ref h)] → W p l e ({ frames := 0, cells := 0, slots := 0, locals := 0 } : Room) s m args below meth c H locs 0 0 (MQ below (va_Qi (fun (r : Int32) (u : (Nat → Int32)) => K r u) (fun u t => xE D A ((fun (u : (Nat → Int32)) => [(h, .inr (3, [.ref h_cells])), (h_cells, .inl (cI, 400, .inl u))]) u) t) A) args s 0 0 A) (F0 m 0 ls []) := by
  obtain ⟨hx, hb, hr, hml, hown, hts, hlocks, hK, hN⟩ := id C0
  intro f_cells hk H locs ls hP hD hS hl
  rw [xp_X3_loadSound] at hk
  refine lv_aload_n hx hb dX3_loadSound_0 rfl (lv_at hl 0 rfl) ?_
  refine va_get (D := D) (ci := 3) (v := .ref h_cells) (C := RX3) (T := TX3) (N := 1) hx hb hts xin_X3_loadSound_X3 hown hK hP 0 rfl rfl 0 (by decide) (hts (.fieldLink RX3 9 "TakeLog$State" "cells" "[I") (by decide +kernel)) (fun _ h9 => h9) rfl dX3_loadSound_1 ?_
  refine lv_bipush (v := 8) hx hb dX3_loadSound_4 (by decide) ?_
  refine lv_dup2_11 hx hb dX3_loadSound_6 rfl rfl ?_
  refine x_iald (k := 8) hx hb hK hP 1 0 rfl rfl (x_lit rfl (by decide) (by decide)) rfl (v := (f_cells 8)) rfl dX3_loadSound_7 ?_
  refine lv_iconst (v := 1) hx hb dX3_loadSound_8 (by decide) ?_
  refine lv_iadd hx hb dX3_loadSound_9 ?_
  refine x_iast (k := 8) hx hb hK hP hD hS 1 0 rfl rfl (x_lit rfl (by decide) (by decide)) rfl dX3_loadSound_10 (fun H locs hP hD hS => ?_)
  have hP : va_P D vwCl [(h, .inr (3, [.ref h_cells])), (h_cells, .inl (cI, 400, .inl (upd f_cells 8 ((f_cells 8) + 1))))] H := hP
  have hD : va_D A [(h, .inr (3, [.ref h_cells])), (h_cells, .inl (cI, 400, .inl (upd f_cells 8 ((f_cells 8) + 1))))] := hD
  refine lv_aload_n hx hb dX3_loadSound_11 rfl (lv_at hl 0 rfl) ?_
  refine va_get (D := D) (ci := 3) (v := .ref h_cells) (C := RX3) (T := TX3) (N := 1) hx hb hts xin_X3_loadSound_X3 hown hK hP 0 rfl rfl 0 (by decide) (hts (.fieldLink RX3 9 "TakeLog$State" "cells" "[I") (by decide +kernel)) (fun _ h9 => h9) rfl dX3_loadSound_12 ?_
  refine lv_bipush (v := 9) hx hb dX3_loadSound_15 (by decide) ?_
  refine lv_iconst (v := 0) hx hb dX3_loadSound_17 (by decide) ?_
  refine x_iast (k := 9) hx hb hK hP hD hS 1 0 rfl rfl (x_lit rfl (by decide) (by decide)) rfl dX3_loadSound_18 (fun H locs hP hD hS => ?_)
  have hP : va_P D vwCl [(h, .inr (3, [.ref h_cells])), (h_cells, .inl (cI, 400, .inl (upd (upd f_cells 8 ((f_cells 8) + 1)) 9 0)))] H := hP
  have hD : va_D A [(h, .inr (3, [.ref h_cells])), (h_cells, .inl (cI, 400, .inl (upd (upd f_cells 8 ((f_cells 8) + 1)) 9 0)))] := hD
  refine lv_aload_n hx hb dX3_loadSound_19 rfl (lv_at hl 0 rfl) ?_
  refine va_get (D := D) (ci := 3) (v := .ref h_cells) (C := RX3) (T := TX3) (N := 1) hx hb hts xin_X3_loadSound_X3 hown hK hP 0 rfl rfl 0 (by decide) (hts (.fieldLink RX3 9 "TakeLog$State" "cells" "[I") (by decide +kernel)) (fun _ h9 => h9) rfl dX3_loadSound_20 ?_
  refine lv_bipush (v := 8) hx hb dX3_loadSound_23 (by decide) ?_
  refine x_iald (k := 8) hx hb hK hP 1 0 rfl rfl (x_lit rfl (by decide) (by decide)) rfl (v := ((f_cells 8) + 1)) rfl dX3_loadSound_25 ?_
  exact x_reti C0 (upd (upd f_cells 8 ((f_cells 8) + 1)) 9 0) hk hP hD hS dX3_loadSound_26
theorem xc_X3_loadSound (l : Launch) (D : va_G) (cI cC cZ cL : ClassId) (h h_cells : Nat)  (sz : Nat) (f_cells : Nat → Int32)  (K : Int32 → ((Nat → Int32)) → Prop) (hk : xp_X3_loadSound f_cells K) : XMi l yX3_loadSound wsX3_loadSound ({ frames := 0, cells := 0, slots := 0, locals := 0 } : Room) D (xTY cI cC cZ cL) [.ref h] [(h, .inr (3, [.ref h_cells])), (h_cells, .inl (cI, 400, .inl f_cells))] sz (fun (r : Int32) (u : (Nat → Int32)) => K r u) (fun (u : (Nat → Int32)) => [(h, .inr (3, [.ref h_cells])), (h_cells, .inl (cI, 400, .inl u))]) :=
  x_enter (cc := cX3_loadSound) (maxL := 1) (ret := (some .int)) (own := RX3) (by decide) rfl rfl (Nat.le_of_ble_eq_true rfl) (fun p e s m below meth c ls C0 hA hP hD hS hl => xb_X3_loadSound_0 C0 hA _ hk s.heap [] ls hP hD hS hl)
set_option maxRecDepth 20000 in
theorem xin_X3_mark_X3 : ∀ w ∈ u_ws RX3 TX3 1, w ∈ wsX3_mark := by decide +kernel
set_option maxHeartbeats 4000000 in
set_option maxRecDepth 100000 in
theorem xb_X3_mark_22 {p : Program} {l : Launch} {e : Env} {s : State} {m : MethodId} {args : Array Value} {below : List Frame} {meth : Method} {c : Code} {A : Nat → Prop} {D : va_G} {cI cC cZ cL : ClassId} {h h_cells : Nat}   {K : Int32 → ((Nat → Int32)) → Prop}  (C0 : xC p s m args meth c cX3_mark 4 (some .boolean) wsX3_mark RX3 D (xTY cI cC cZ cL)) (hA : ∀ q : Nat, s.heap.size ≤ q → A q)  : ∀ (f_cells : Nat → Int32) (t0 : Int32) (t1 : Int32) (t2 : Int32) , xp_X3_mark_22 K f_cells t0 t1 t2 → ∀ (H : Heap) (locs : List Loc) (ls : Array Slot), va_P D vwCl [(h, .inr (3, [.ref h_cells])), (h_cells, .inl (cI, 400, .inl f_cells))] H → va_D A [(h, .inr (3, [.ref h_cells])), (h_cells, .inl (cI, 400, .inl f_cells))] → va_S A s.heap H locs → lv_has ls 4 [] → W p l e ({ frames := 1, cells := 0, slots := 0, locals := 24 } : Room) s m args below meth c H locs 0 0 (MQ below (va_Qi (fun (r : Int32) (u : (Nat → Int32)) => K r u) (fun u t => xE D A ((fun (u : (Nat → Int32)) => [(h, .inr (3, [.ref h_cells])), (h_cells, .inl (cI, 400, .inl u))]) u) t) A) args s 0 0 A) (F0 m 22 ls [.int t0, .int t1, .int t2, .ref h]) := by
  obtain ⟨hx, hb, hr, hml, hown, hts, hlocks, hK, hN⟩ := id C0
  intro f_cells t0 t1 t2 hk H locs ls hP hD hS hl
  rw [xp_X3_mark_22] at hk
  refine x_joinv (ws1 := fun (u1 : (Nat → Int32)) => [(h, .inr (3, [.ref h_cells])), (h_cells, .inl (cI, 400, .inl u1))]) (x_runV (n0 := 3) (As := [.int t2, .int t1, .int t0]) (rest := []) C0 (xc_X3_put l D cI cC cZ cL h h_cells H.size f_cells t2 t1 t0 _ hk) gX3_mark_X3_put rfl ⟨rfl, rfl⟩ (by decide +kernel) rfl ⟨by decide, by decide⟩ ⟨Nat.zero_le _, Nat.zero_le _⟩ hP hD [0, 1] rfl rfl (k := 0) rfl rfl rfl hl.1 rfl (Nat.le_of_ble_eq_true rfl) dX3_mark_22) hP hD hS hA [0, 1] [] [0, 1] rfl rfl rfl (by decide) (fun _ => rfl) rfl (fun u1 H locs hk hP hD hS => ?_)
  refine lv_iconst (v := 1) hx hb dX3_mark_25 (by decide) ?_
  exact x_retz rfl C0 (u1) hk hP hD hS dX3_mark_26
set_option maxHeartbeats 4000000 in
set_option maxRecDepth 100000 in
theorem xb_X3_mark_0 {p : Program} {l : Launch} {e : Env} {s : State} {m : MethodId} {args : Array Value} {below : List Frame} {meth : Method} {c : Code} {A : Nat → Prop} {D : va_G} {cI cC cZ cL : ClassId} {h h_cells : Nat}   {K : Int32 → ((Nat → Int32)) → Prop}  (C0 : xC p s m args meth c cX3_mark 4 (some .boolean) wsX3_mark RX3 D (xTY cI cC cZ cL)) (hA : ∀ q : Nat, s.heap.size ≤ q → A q)  : ∀ (f_cells : Nat → Int32) (x1 : Int32) (x2 : Int32) (x3 : Int32) , xp_X3_mark f_cells x1 x2 x3 K → ∀ (H : Heap) (locs : List Loc) (ls : Array Slot), va_P D vwCl [(h, .inr (3, [.ref h_cells])), (h_cells, .inl (cI, 400, .inl f_cells))] H → va_D A [(h, .inr (3, [.ref h_cells])), (h_cells, .inl (cI, 400, .inl f_cells))] → va_S A s.heap H locs → lv_has ls 4 [(0, .ref h), (1, .int x1), (2, .int x2), (3, .int x3)] → W p l e ({ frames := 1, cells := 0, slots := 0, locals := 24 } : Room) s m args below meth c H locs 0 0 (MQ below (va_Qi (fun (r : Int32) (u : (Nat → Int32)) => K r u) (fun u t => xE D A ((fun (u : (Nat → Int32)) => [(h, .inr (3, [.ref h_cells])), (h_cells, .inl (cI, 400, .inl u))]) u) t) A) args s 0 0 A) (F0 m 0 ls []) := by
  obtain ⟨hx, hb, hr, hml, hown, hts, hlocks, hK, hN⟩ := id C0
  intro f_cells x1 x2 x3 hk H locs ls hP hD hS hl
  rw [xp_X3_mark] at hk
  refine lv_aload_n hx hb dX3_mark_0 rfl (lv_at hl 0 rfl) ?_
  refine lv_iload_n hx hb dX3_mark_1 rfl (lv_at hl 1 rfl) ?_
  refine x_joini (ws1 := fun (_ : Unit) => [(h, .inr (3, [.ref h_cells])), (h_cells, .inl (cI, 400, .inl f_cells))]) (x_runV (n0 := 1) (As := [.int x1]) (rest := []) C0 (xc_X3_hasTake l D cI cC cZ cL h h_cells H.size f_cells x1 _ hk) gX3_mark_X3_hasTake rfl ⟨rfl, rfl⟩ (by decide +kernel) rfl ⟨by decide, by decide⟩ ⟨Nat.zero_le _, Nat.zero_le _⟩ hP hD [0, 1] rfl rfl (k := 0) rfl rfl rfl hl.1 rfl (Nat.le_of_ble_eq_true rfl) dX3_mark_2) hP hD hS hA [0, 1] [] [0, 1] rfl rfl rfl (by decide) (fun _ => rfl) rfl (fun r1 u1 H locs hk hP hD hS => ?_)
  refine lv_if_ne (tgt := 10) hx hb dX3_mark_5 (by decide) (fun c2 => ?_) (fun c2 => ?_)
  · have hk := hk.1 c2
    refine lv_aload_n hx hb dX3_mark_10 rfl (lv_at hl 0 rfl) ?_
    refine lv_iload_n hx hb dX3_mark_11 rfl (lv_at hl 1 rfl) ?_
    refine lv_iload_n hx hb dX3_mark_12 rfl (lv_at hl 2 rfl) ?_
    refine lv_iload_n hx hb dX3_mark_13 rfl (lv_at hl 3 rfl) ?_
    refine lv_if_eq (tgt := 21) hx hb dX3_mark_14 (by decide) (fun c3 => ?_) (fun c3 => ?_)
    · have hk := hk.1 c3
      refine lv_iconst (v := 0) hx hb dX3_mark_21 (by decide) ?_
      exact xb_X3_mark_22 C0 hA  _ _ _ _ hk H locs ls hP hD hS (lv_sub hl [] rfl)
    · have hk := hk.2 c3
      refine lv_iconst (v := 1) hx hb dX3_mark_17 (by decide) ?_
      refine lv_goto (tgt := 22) hx hb dX3_mark_18 (by decide) ?_
      exact xb_X3_mark_22 C0 hA  _ _ _ _ hk H locs ls hP hD hS (lv_sub hl [] rfl)
  · have hk := hk.2 c2
    refine lv_iconst (v := 0) hx hb dX3_mark_8 (by decide) ?_
    exact x_retz rfl C0 (f_cells) hk hP hD hS dX3_mark_9
theorem xc_X3_mark (l : Launch) (D : va_G) (cI cC cZ cL : ClassId) (h h_cells : Nat)  (sz : Nat) (f_cells : Nat → Int32) (x1 : Int32) (x2 : Int32) (x3 : Int32) (K : Int32 → ((Nat → Int32)) → Prop) (hk : xp_X3_mark f_cells x1 x2 x3 K) : XMi l yX3_mark wsX3_mark ({ frames := 1, cells := 0, slots := 0, locals := 24 } : Room) D (xTY cI cC cZ cL) [.ref h, .int x1, .int x2, .int x3] [(h, .inr (3, [.ref h_cells])), (h_cells, .inl (cI, 400, .inl f_cells))] sz (fun (r : Int32) (u : (Nat → Int32)) => K r u) (fun (u : (Nat → Int32)) => [(h, .inr (3, [.ref h_cells])), (h_cells, .inl (cI, 400, .inl u))]) :=
  x_enter (cc := cX3_mark) (maxL := 4) (ret := (some .boolean)) (own := RX3) (by decide) rfl rfl (Nat.le_of_ble_eq_true rfl) (fun p e s m below meth c ls C0 hA hP hD hS hl => xb_X3_mark_0 C0 hA _ _ _ _ hk s.heap [] ls hP hD hS hl)
set_option maxRecDepth 20000 in
theorem xin_X3_putRight_X3 : ∀ w ∈ u_ws RX3 TX3 1, w ∈ wsX3_putRight := by decide +kernel
set_option maxHeartbeats 4000000 in
set_option maxRecDepth 100000 in
theorem xb_X3_putRight_0 {p : Program} {l : Launch} {e : Env} {s : State} {m : MethodId} {args : Array Value} {below : List Frame} {meth : Method} {c : Code} {A : Nat → Prop} {D : va_G} {cI cC cZ cL : ClassId} {h h_cells : Nat}   {K : Int32 → ((Nat → Int32)) → Prop}  (C0 : xC p s m args meth c cX3_putRight 2 (some .boolean) wsX3_putRight RX3 D (xTY cI cC cZ cL)) (hA : ∀ q : Nat, s.heap.size ≤ q → A q)  : ∀ (f_cells : Nat → Int32) (x1 : Int32) , xp_X3_putRight f_cells x1 K → ∀ (H : Heap) (locs : List Loc) (ls : Array Slot), va_P D vwCl [(h, .inr (3, [.ref h_cells])), (h_cells, .inl (cI, 400, .inl f_cells))] H → va_D A [(h, .inr (3, [.ref h_cells])), (h_cells, .inl (cI, 400, .inl f_cells))] → va_S A s.heap H locs → lv_has ls 2 [(0, .ref h), (1, .int x1)] → W p l e ({ frames := 4, cells := 0, slots := 0, locals := 90 } : Room) s m args below meth c H locs 0 0 (MQ below (va_Qi (fun (r : Int32) (u : (Nat → Int32)) => K r u) (fun u t => xE D A ((fun (u : (Nat → Int32)) => [(h, .inr (3, [.ref h_cells])), (h_cells, .inl (cI, 400, .inl u))]) u) t) A) args s 0 0 A) (F0 m 0 ls []) := by
  obtain ⟨hx, hb, hr, hml, hown, hts, hlocks, hK, hN⟩ := id C0
  intro f_cells x1 hk H locs ls hP hD hS hl
  rw [xp_X3_putRight] at hk
  refine lv_aload_n hx hb dX3_putRight_0 rfl (lv_at hl 0 rfl) ?_
  refine lv_iload_n hx hb dX3_putRight_1 rfl (lv_at hl 1 rfl) ?_
  refine x_joini (ws1 := fun (_ : Unit) => [(h, .inr (3, [.ref h_cells])), (h_cells, .inl (cI, 400, .inl f_cells))]) (x_runV (n0 := 1) (As := [.int x1]) (rest := []) C0 (xc_X3_hasTake l D cI cC cZ cL h h_cells H.size f_cells x1 _ hk) gX3_putRight_X3_hasTake rfl ⟨rfl, rfl⟩ (by decide +kernel) rfl ⟨by decide, by decide⟩ ⟨Nat.zero_le _, Nat.zero_le _⟩ hP hD [0, 1] rfl rfl (k := 0) rfl rfl rfl hl.1 rfl (Nat.le_of_ble_eq_true rfl) dX3_putRight_2) hP hD hS hA [0, 1] [] [0, 1] rfl rfl rfl (by decide) (fun _ => rfl) rfl (fun r1 u1 H locs hk hP hD hS => ?_)
  refine lv_if_eq (tgt := 16) hx hb dX3_putRight_5 (by decide) (fun c2 => ?_) (fun c2 => ?_)
  · have hk := hk.1 c2
    refine lv_iconst (v := 0) hx hb dX3_putRight_16 (by decide) ?_
    exact x_retz rfl C0 (f_cells) hk hP hD hS dX3_putRight_17
  · have hk := hk.2 c2
    refine lv_aload_n hx hb dX3_putRight_8 rfl (lv_at hl 0 rfl) ?_
    refine lv_iload_n hx hb dX3_putRight_9 rfl (lv_at hl 1 rfl) ?_
    refine x_joini (ws1 := fun (_ : Unit) => [(h, .inr (3, [.ref h_cells])), (h_cells, .inl (cI, 400, .inl f_cells))]) (x_runV (n0 := 1) (As := [.int x1]) (rest := []) C0 (xc_X3_isRight l D cI cC cZ cL h h_cells H.size f_cells x1 _ hk) gX3_putRight_X3_isRight rfl ⟨rfl, rfl⟩ (by decide +kernel) rfl ⟨by decide, by decide⟩ ⟨Nat.zero_le _, Nat.zero_le _⟩ hP hD [0, 1] rfl rfl (k := 0) rfl rfl rfl hl.1 rfl (Nat.le_of_ble_eq_true rfl) dX3_putRight_10) hP hD hS hA [0, 1] [] [0, 1] rfl rfl rfl (by decide) (fun _ => rfl) rfl (fun r3 u3 H locs hk hP hD hS => ?_)
    refine lv_if_eq (tgt := 18) hx hb dX3_putRight_13 (by decide) (fun c4 => ?_) (fun c4 => ?_)
    · have hk := hk.1 c4
      refine lv_aload_n hx hb dX3_putRight_18 rfl (lv_at hl 0 rfl) ?_
      refine lv_iload_n hx hb dX3_putRight_19 rfl (lv_at hl 1 rfl) ?_
      refine lv_iconst (v := 3) hx hb dX3_putRight_20 (by decide) ?_
      refine lv_aload_n hx hb dX3_putRight_21 rfl (lv_at hl 0 rfl) ?_
      refine lv_iload_n hx hb dX3_putRight_22 rfl (lv_at hl 1 rfl) ?_
      refine lv_iconst (v := 0) hx hb dX3_putRight_23 (by decide) ?_
      refine x_joini (ws1 := fun (_ : Unit) => [(h, .inr (3, [.ref h_cells])), (h_cells, .inl (cI, 400, .inl f_cells))]) (x_runV (n0 := 2) (As := [.int x1, .int 0]) (rest := [.int 3, .int x1, .ref h]) C0 (xc_X3_of l D cI cC cZ cL h h_cells H.size f_cells x1 0 _ hk) gX3_putRight_X3_of rfl ⟨rfl, rfl⟩ (by decide +kernel) rfl ⟨by decide, by decide⟩ ⟨Nat.zero_le _, Nat.zero_le _⟩ hP hD [0, 1] rfl rfl (k := 0) rfl rfl rfl hl.1 rfl (Nat.le_of_ble_eq_true rfl) dX3_putRight_24) hP hD hS hA [0, 1] [] [0, 1] rfl rfl rfl (by decide) (fun _ => rfl) rfl (fun r5 u5 H locs hk hP hD hS => ?_)
      refine x_joinv (ws1 := fun (u6 : (Nat → Int32)) => [(h, .inr (3, [.ref h_cells])), (h_cells, .inl (cI, 400, .inl u6))]) (x_runV (n0 := 3) (As := [.int x1, .int 3, .int r5]) (rest := []) C0 (xc_X3_put l D cI cC cZ cL h h_cells H.size f_cells x1 3 r5 _ hk) gX3_putRight_X3_put rfl ⟨rfl, rfl⟩ (by decide +kernel) rfl ⟨by decide, by decide⟩ ⟨Nat.zero_le _, Nat.zero_le _⟩ hP hD [0, 1] rfl rfl (k := 0) rfl rfl rfl hl.1 rfl (Nat.le_of_ble_eq_true rfl) dX3_putRight_27) hP hD hS hA [0, 1] [] [0, 1] rfl rfl rfl (by decide) (fun _ => rfl) rfl (fun u6 H locs hk hP hD hS => ?_)
      refine lv_aload_n hx hb dX3_putRight_30 rfl (lv_at hl 0 rfl) ?_
      refine lv_iload_n hx hb dX3_putRight_31 rfl (lv_at hl 1 rfl) ?_
      refine lv_iconst (v := 4) hx hb dX3_putRight_32 (by decide) ?_
      refine lv_aload_n hx hb dX3_putRight_33 rfl (lv_at hl 0 rfl) ?_
      refine lv_iload_n hx hb dX3_putRight_34 rfl (lv_at hl 1 rfl) ?_
      refine lv_iconst (v := 1) hx hb dX3_putRight_35 (by decide) ?_
      refine x_joini (ws1 := fun (_ : Unit) => [(h, .inr (3, [.ref h_cells])), (h_cells, .inl (cI, 400, .inl u6))]) (x_runV (n0 := 2) (As := [.int x1, .int 1]) (rest := [.int 4, .int x1, .ref h]) C0 (xc_X3_of l D cI cC cZ cL h h_cells H.size u6 x1 1 _ hk) gX3_putRight_X3_of rfl ⟨rfl, rfl⟩ (by decide +kernel) rfl ⟨by decide, by decide⟩ ⟨Nat.zero_le _, Nat.zero_le _⟩ hP hD [0, 1] rfl rfl (k := 0) rfl rfl rfl hl.1 rfl (Nat.le_of_ble_eq_true rfl) dX3_putRight_36) hP hD hS hA [0, 1] [] [0, 1] rfl rfl rfl (by decide) (fun _ => rfl) rfl (fun r7 u7 H locs hk hP hD hS => ?_)
      refine x_joinv (ws1 := fun (u8 : (Nat → Int32)) => [(h, .inr (3, [.ref h_cells])), (h_cells, .inl (cI, 400, .inl u8))]) (x_runV (n0 := 3) (As := [.int x1, .int 4, .int r7]) (rest := []) C0 (xc_X3_put l D cI cC cZ cL h h_cells H.size u6 x1 4 r7 _ hk) gX3_putRight_X3_put rfl ⟨rfl, rfl⟩ (by decide +kernel) rfl ⟨by decide, by decide⟩ ⟨Nat.zero_le _, Nat.zero_le _⟩ hP hD [0, 1] rfl rfl (k := 0) rfl rfl rfl hl.1 rfl (Nat.le_of_ble_eq_true rfl) dX3_putRight_39) hP hD hS hA [0, 1] [] [0, 1] rfl rfl rfl (by decide) (fun _ => rfl) rfl (fun u8 H locs hk hP hD hS => ?_)
      refine lv_aload_n hx hb dX3_putRight_42 rfl (lv_at hl 0 rfl) ?_
      refine lv_iload_n hx hb dX3_putRight_43 rfl (lv_at hl 1 rfl) ?_
      refine lv_iconst (v := 5) hx hb dX3_putRight_44 (by decide) ?_
      refine lv_aload_n hx hb dX3_putRight_45 rfl (lv_at hl 0 rfl) ?_
      refine lv_iload_n hx hb dX3_putRight_46 rfl (lv_at hl 1 rfl) ?_
      refine x_joini (ws1 := fun (_ : Unit) => [(h, .inr (3, [.ref h_cells])), (h_cells, .inl (cI, 400, .inl u8))]) (x_runV (n0 := 1) (As := [.int x1]) (rest := [.int 5, .int x1, .ref h]) C0 (xc_X3_rightNumber l D cI cC cZ cL h h_cells H.size u8 x1 _ hk) gX3_putRight_X3_rightNumber rfl ⟨rfl, rfl⟩ (by decide +kernel) rfl ⟨by decide, by decide⟩ ⟨Nat.zero_le _, Nat.zero_le _⟩ hP hD [0, 1] rfl rfl (k := 0) rfl rfl rfl hl.1 rfl (Nat.le_of_ble_eq_true rfl) dX3_putRight_47) hP hD hS hA [0, 1] [] [0, 1] rfl rfl rfl (by decide) (fun _ => rfl) rfl (fun r9 u9 H locs hk hP hD hS => ?_)
      refine x_joinv (ws1 := fun (u10 : (Nat → Int32)) => [(h, .inr (3, [.ref h_cells])), (h_cells, .inl (cI, 400, .inl u10))]) (x_runV (n0 := 3) (As := [.int x1, .int 5, .int r9]) (rest := []) C0 (xc_X3_put l D cI cC cZ cL h h_cells H.size u8 x1 5 r9 _ hk) gX3_putRight_X3_put rfl ⟨rfl, rfl⟩ (by decide +kernel) rfl ⟨by decide, by decide⟩ ⟨Nat.zero_le _, Nat.zero_le _⟩ hP hD [0, 1] rfl rfl (k := 0) rfl rfl rfl hl.1 rfl (Nat.le_of_ble_eq_true rfl) dX3_putRight_50) hP hD hS hA [0, 1] [] [0, 1] rfl rfl rfl (by decide) (fun _ => rfl) rfl (fun u10 H locs hk hP hD hS => ?_)
      refine lv_iconst (v := 1) hx hb dX3_putRight_53 (by decide) ?_
      exact x_retz rfl C0 (u10) hk hP hD hS dX3_putRight_54
    · have hk := hk.2 c4
      refine lv_iconst (v := 0) hx hb dX3_putRight_16 (by decide) ?_
      exact x_retz rfl C0 (f_cells) hk hP hD hS dX3_putRight_17
theorem xc_X3_putRight (l : Launch) (D : va_G) (cI cC cZ cL : ClassId) (h h_cells : Nat)  (sz : Nat) (f_cells : Nat → Int32) (x1 : Int32) (K : Int32 → ((Nat → Int32)) → Prop) (hk : xp_X3_putRight f_cells x1 K) : XMi l yX3_putRight wsX3_putRight ({ frames := 4, cells := 0, slots := 0, locals := 90 } : Room) D (xTY cI cC cZ cL) [.ref h, .int x1] [(h, .inr (3, [.ref h_cells])), (h_cells, .inl (cI, 400, .inl f_cells))] sz (fun (r : Int32) (u : (Nat → Int32)) => K r u) (fun (u : (Nat → Int32)) => [(h, .inr (3, [.ref h_cells])), (h_cells, .inl (cI, 400, .inl u))]) :=
  x_enter (cc := cX3_putRight) (maxL := 2) (ret := (some .boolean)) (own := RX3) (by decide) rfl rfl (Nat.le_of_ble_eq_true rfl) (fun p e s m below meth c ls C0 hA hP hD hS hl => xb_X3_putRight_0 C0 hA _ _ hk s.heap [] ls hP hD hS hl)
set_option maxRecDepth 20000 in
theorem xin_X3_setOff_X3 : ∀ w ∈ u_ws RX3 TX3 1, w ∈ wsX3_setOff := by decide +kernel
set_option maxHeartbeats 4000000 in
set_option maxRecDepth 100000 in
theorem xb_X3_setOff_0 {p : Program} {l : Launch} {e : Env} {s : State} {m : MethodId} {args : Array Value} {below : List Frame} {meth : Method} {c : Code} {A : Nat → Prop} {D : va_G} {cI cC cZ cL : ClassId} {h h_cells : Nat}   {K : Int32 → ((Nat → Int32)) → Prop}  (C0 : xC p s m args meth c cX3_setOff 3 (some .int) wsX3_setOff RX3 D (xTY cI cC cZ cL)) (hA : ∀ q : Nat, s.heap.size ≤ q → A q)  : ∀ (f_cells : Nat → Int32) (x1 : Int32) , xp_X3_setOff f_cells x1 K → ∀ (H : Heap) (locs : List Loc) (ls : Array Slot), va_P D vwCl [(h, .inr (3, [.ref h_cells])), (h_cells, .inl (cI, 400, .inl f_cells))] H → va_D A [(h, .inr (3, [.ref h_cells])), (h_cells, .inl (cI, 400, .inl f_cells))] → va_S A s.heap H locs → lv_has ls 3 [(0, .ref h), (1, .int x1)] → W p l e ({ frames := 0, cells := 0, slots := 0, locals := 0 } : Room) s m args below meth c H locs 0 0 (MQ below (va_Qi (fun (r : Int32) (u : (Nat → Int32)) => K r u) (fun u t => xE D A ((fun (u : (Nat → Int32)) => [(h, .inr (3, [.ref h_cells])), (h_cells, .inl (cI, 400, .inl u))]) u) t) A) args s 0 0 A) (F0 m 0 ls []) := by
  obtain ⟨hx, hb, hr, hml, hown, hts, hlocks, hK, hN⟩ := id C0
  intro f_cells x1 hk H locs ls hP hD hS hl
  rw [xp_X3_setOff] at hk
  refine lv_aload_n hx hb dX3_setOff_0 rfl (lv_at hl 0 rfl) ?_
  refine va_get (D := D) (ci := 3) (v := .ref h_cells) (C := RX3) (T := TX3) (N := 1) hx hb hts xin_X3_setOff_X3 hown hK hP 0 rfl rfl 0 (by decide) (hts (.fieldLink RX3 9 "TakeLog$State" "cells" "[I") (by decide +kernel)) (fun _ h9 => h9) rfl dX3_setOff_1 ?_
  refine lv_bipush (v := 11) hx hb dX3_setOff_4 (by decide) ?_
  refine x_iald (k := 11) hx hb hK hP 1 0 rfl rfl (x_lit rfl (by decide) (by decide)) rfl (v := (f_cells 11)) rfl dX3_setOff_6 ?_
  refine lv_istore_n (lv' := [(2, .int (f_cells 11)), (0, .ref h), (1, .int x1)]) hx hb dX3_setOff_7 rfl hl (by decide) rfl (fun ls hl => ?_)
  refine lv_aload_n hx hb dX3_setOff_8 rfl (lv_at hl 1 rfl) ?_
  refine va_get (D := D) (ci := 3) (v := .ref h_cells) (C := RX3) (T := TX3) (N := 1) hx hb hts xin_X3_setOff_X3 hown hK hP 0 rfl rfl 0 (by decide) (hts (.fieldLink RX3 9 "TakeLog$State" "cells" "[I") (by decide +kernel)) (fun _ h9 => h9) rfl dX3_setOff_9 ?_
  refine lv_bipush (v := 11) hx hb dX3_setOff_12 (by decide) ?_
  refine lv_iload_n hx hb dX3_setOff_14 rfl (lv_at hl 2 rfl) ?_
  refine x_iast (k := 11) hx hb hK hP hD hS 1 0 rfl rfl (x_lit rfl (by decide) (by decide)) rfl dX3_setOff_15 (fun H locs hP hD hS => ?_)
  have hP : va_P D vwCl [(h, .inr (3, [.ref h_cells])), (h_cells, .inl (cI, 400, .inl (upd f_cells 11 x1)))] H := hP
  have hD : va_D A [(h, .inr (3, [.ref h_cells])), (h_cells, .inl (cI, 400, .inl (upd f_cells 11 x1)))] := hD
  refine lv_iload_n hx hb dX3_setOff_16 rfl (lv_at hl 0 rfl) ?_
  exact x_reti C0 (upd f_cells 11 x1) hk hP hD hS dX3_setOff_17
theorem xc_X3_setOff (l : Launch) (D : va_G) (cI cC cZ cL : ClassId) (h h_cells : Nat)  (sz : Nat) (f_cells : Nat → Int32) (x1 : Int32) (K : Int32 → ((Nat → Int32)) → Prop) (hk : xp_X3_setOff f_cells x1 K) : XMi l yX3_setOff wsX3_setOff ({ frames := 0, cells := 0, slots := 0, locals := 0 } : Room) D (xTY cI cC cZ cL) [.ref h, .int x1] [(h, .inr (3, [.ref h_cells])), (h_cells, .inl (cI, 400, .inl f_cells))] sz (fun (r : Int32) (u : (Nat → Int32)) => K r u) (fun (u : (Nat → Int32)) => [(h, .inr (3, [.ref h_cells])), (h_cells, .inl (cI, 400, .inl u))]) :=
  x_enter (cc := cX3_setOff) (maxL := 3) (ret := (some .int)) (own := RX3) (by decide) rfl rfl (Nat.le_of_ble_eq_true rfl) (fun p e s m below meth c ls C0 hA hP hD hS hl => xb_X3_setOff_0 C0 hA _ _ hk s.heap [] ls hP hD hS hl)
set_option maxRecDepth 20000 in
theorem xin_X3_choose_X3 : ∀ w ∈ u_ws RX3 TX3 1, w ∈ wsX3_choose := by decide +kernel
set_option maxHeartbeats 4000000 in
set_option maxRecDepth 100000 in
theorem xb_X3_choose_0 {p : Program} {l : Launch} {e : Env} {s : State} {m : MethodId} {args : Array Value} {below : List Frame} {meth : Method} {c : Code} {A : Nat → Prop} {D : va_G} {cI cC cZ cL : ClassId} {h h_cells : Nat}   {K : Int32 → ((Nat → Int32)) → Prop}  (C0 : xC p s m args meth c cX3_choose 5 (some .int) wsX3_choose RX3 D (xTY cI cC cZ cL)) (hA : ∀ q : Nat, s.heap.size ≤ q → A q)  : ∀ (f_cells : Nat → Int32) (x1 : Int32) (x2 : Int32) , xp_X3_choose f_cells x1 x2 K → ∀ (H : Heap) (locs : List Loc) (ls : Array Slot), va_P D vwCl [(h, .inr (3, [.ref h_cells])), (h_cells, .inl (cI, 400, .inl f_cells))] H → va_D A [(h, .inr (3, [.ref h_cells])), (h_cells, .inl (cI, 400, .inl f_cells))] → va_S A s.heap H locs → lv_has ls 5 [(0, .ref h), (1, .int x1), (2, .int x2)] → W p l e ({ frames := 1, cells := 0, slots := 0, locals := 22 } : Room) s m args below meth c H locs 0 0 (MQ below (va_Qi (fun (r : Int32) (u : (Nat → Int32)) => K r u) (fun u t => xE D A ((fun (u : (Nat → Int32)) => [(h, .inr (3, [.ref h_cells])), (h_cells, .inl (cI, 400, .inl u))]) u) t) A) args s 0 0 A) (F0 m 0 ls []) := by
  obtain ⟨hx, hb, hr, hml, hown, hts, hlocks, hK, hN⟩ := id C0
  intro f_cells x1 x2 hk H locs ls hP hD hS hl
  rw [xp_X3_choose] at hk
  refine lv_aload_n hx hb dX3_choose_0 rfl (lv_at hl 0 rfl) ?_
  refine lv_iload_n hx hb dX3_choose_1 rfl (lv_at hl 1 rfl) ?_
  refine x_joini (ws1 := fun (_ : Unit) => [(h, .inr (3, [.ref h_cells])), (h_cells, .inl (cI, 400, .inl f_cells))]) (x_runV (n0 := 1) (As := [.int x1]) (rest := []) C0 (xc_X3_chosen l D cI cC cZ cL h h_cells H.size f_cells x1 _ hk) gX3_choose_X3_chosen rfl ⟨rfl, rfl⟩ (by decide +kernel) rfl ⟨by decide, by decide⟩ ⟨Nat.zero_le _, Nat.zero_le _⟩ hP hD [0, 1] rfl rfl (k := 0) rfl rfl rfl hl.1 rfl (Nat.le_of_ble_eq_true rfl) dX3_choose_2) hP hD hS hA [0, 1] [] [0, 1] rfl rfl rfl (by decide) (fun _ => rfl) rfl (fun r1 u1 H locs hk hP hD hS => ?_)
  refine lv_istore_n (lv' := [(3, .int r1), (0, .ref h), (1, .int x1), (2, .int x2)]) hx hb dX3_choose_5 rfl hl (by decide) rfl (fun ls hl => ?_)
  refine lv_bipush (v := 12) hx hb dX3_choose_6 (by decide) ?_
  refine lv_iload_n hx hb dX3_choose_8 rfl (lv_at hl 2 rfl) ?_
  refine lv_iadd hx hb dX3_choose_9 ?_
  refine lv_istore (lv' := [(4, .int (12 + x1)), (3, .int r1), (0, .ref h), (1, .int x1), (2, .int x2)]) hx hb dX3_choose_10 hl (by decide) rfl (fun ls hl => ?_)
  refine lv_iload hx hb dX3_choose_12 (lv_at hl 0 rfl) ?_
  refine lv_bipush (v := 12) hx hb dX3_choose_14 (by decide) ?_
  refine lv_icmp_lt (tgt := 34) hx hb dX3_choose_16 (by decide) (fun c2 => ?_) (fun c2 => ?_)
  · have hk := hk.1 c2
    refine lv_iload_n hx hb dX3_choose_34 rfl (lv_at hl 1 rfl) ?_
    exact x_reti C0 (f_cells) hk hP hD hS dX3_choose_35
  · have hk := hk.2 c2
    refine lv_iload hx hb dX3_choose_19 (lv_at hl 0 rfl) ?_
    refine lv_bipush (v := 15) hx hb dX3_choose_21 (by decide) ?_
    refine lv_icmp_gt (tgt := 34) hx hb dX3_choose_23 (by decide) (fun c3 => ?_) (fun c3 => ?_)
    · have hk := hk.1 c3
      refine lv_iload_n hx hb dX3_choose_34 rfl (lv_at hl 1 rfl) ?_
      exact x_reti C0 (f_cells) hk hP hD hS dX3_choose_35
    · have hk := hk.2 c3
      refine lv_aload_n hx hb dX3_choose_26 rfl (lv_at hl 2 rfl) ?_
      refine va_get (D := D) (ci := 3) (v := .ref h_cells) (C := RX3) (T := TX3) (N := 1) hx hb hts xin_X3_choose_X3 hown hK hP 0 rfl rfl 0 (by decide) (hts (.fieldLink RX3 9 "TakeLog$State" "cells" "[I") (by decide +kernel)) (fun _ h9 => h9) rfl dX3_choose_27 ?_
      refine lv_iload hx hb dX3_choose_30 (lv_at hl 0 rfl) ?_
      refine lv_iload_n hx hb dX3_choose_32 rfl (lv_at hl 4 rfl) ?_
      refine x_iast hx hb hK hP hD hS 1 0 rfl rfl hk.1 rfl dX3_choose_33 (fun H locs hP hD hS => ?_)
      have hk := hk.2
      have hP : va_P D vwCl [(h, .inr (3, [.ref h_cells])), (h_cells, .inl (cI, 400, .inl (upd f_cells ((12 + x1).toNatClampNeg) x2)))] H := hP
      have hD : va_D A [(h, .inr (3, [.ref h_cells])), (h_cells, .inl (cI, 400, .inl (upd f_cells ((12 + x1).toNatClampNeg) x2)))] := hD
      refine lv_iload_n hx hb dX3_choose_34 rfl (lv_at hl 1 rfl) ?_
      exact x_reti C0 (upd f_cells ((12 + x1).toNatClampNeg) x2) hk hP hD hS dX3_choose_35
theorem xc_X3_choose (l : Launch) (D : va_G) (cI cC cZ cL : ClassId) (h h_cells : Nat)  (sz : Nat) (f_cells : Nat → Int32) (x1 : Int32) (x2 : Int32) (K : Int32 → ((Nat → Int32)) → Prop) (hk : xp_X3_choose f_cells x1 x2 K) : XMi l yX3_choose wsX3_choose ({ frames := 1, cells := 0, slots := 0, locals := 22 } : Room) D (xTY cI cC cZ cL) [.ref h, .int x1, .int x2] [(h, .inr (3, [.ref h_cells])), (h_cells, .inl (cI, 400, .inl f_cells))] sz (fun (r : Int32) (u : (Nat → Int32)) => K r u) (fun (u : (Nat → Int32)) => [(h, .inr (3, [.ref h_cells])), (h_cells, .inl (cI, 400, .inl u))]) :=
  x_enter (cc := cX3_choose) (maxL := 5) (ret := (some .int)) (own := RX3) (by decide) rfl rfl (Nat.le_of_ble_eq_true rfl) (fun p e s m below meth c ls C0 hA hP hD hS hl => xb_X3_choose_0 C0 hA _ _ _ hk s.heap [] ls hP hD hS hl)
