set_option maxHeartbeats 4000000 in
set_option maxRecDepth 100000 in
theorem xb_X5_turn_160 {p : Program} {l : Launch} {e : Env} {s : State} {m : MethodId} {args : Array Value} {below : List Frame} {meth : Method} {c : Code} {A : Nat → Prop} {D : va_G} {cI cC cZ cL : ClassId} {g1 : Nat}   {K : ((Nat → Int32)) → Prop}  (C0 : xC p s m args meth c cX5_turn 4 none wsX5_turn RX5 D (xTY cI cC cZ cL)) (hA : ∀ q : Nat, s.heap.size ≤ q → A q)  : ∀ (f_p1 : Nat → Int32) (t0 : Int32) (t1 : Int32) , xp_X5_turn_160 K f_p1 t0 t1 → ∀ (H : Heap) (locs : List Loc) (ls : Array Slot), va_P D vwCl [(g1, .inl (cI, 377, .inl f_p1))] H → va_D A [(g1, .inl (cI, 377, .inl f_p1))] → va_S A s.heap H locs → lv_has ls 4 [] → W p l e ({ frames := 6, cells := 0, slots := 0, locals := 134 } : Room) s m args below meth c H locs 0 0 (MQ below (va_Qv (fun (u : (Nat → Int32)) => K u) (fun u t => xE D A ((fun (u : (Nat → Int32)) => [(g1, .inl (cI, 377, .inl u))]) u) t) A) args s 0 0 A) (F0 m 160 ls [.int t0, .int t1, .ref g1]) := by
  obtain ⟨hx, hb, hr, hml, hown, hts, hlocks, hK, hN⟩ := id C0
  intro f_p1 t0 t1 hk H locs ls hP hD hS hl
  rw [xp_X5_turn_160] at hk
  refine lv_iconst (v := 1) hx hb dX5_turn_160 (by decide) ?_
  refine x_joini (ws1 := fun (u1 : (Nat → Int32)) => [(g1, .inl (cI, 377, .inl u1))]) (x_runO (n0 := 4) (As := [.ref g1, .int t1, .int t0, .int 1]) (rest := []) C0 (xc_X5_markOn l D cI cC cZ cL g1 H.size f_p1 t1 t0 1 _ hk) gX5_turn_X5_markOn rfl ⟨rfl, rfl⟩ (by decide +kernel) rfl ⟨by decide, by decide⟩ ⟨Nat.zero_le _, Nat.zero_le _⟩ hP hD [0] rfl rfl hl.1 rfl (Nat.le_of_ble_eq_true rfl) dX5_turn_161) hP hD hS hA [0] [] [0] rfl rfl rfl (by decide) (fun _ => rfl) rfl (fun r1 u1 H locs hk hP hD hS => ?_)
  refine lv_pop hx hb dX5_turn_164 rfl ?_
  refine lv_goto (tgt := 232) hx hb dX5_turn_165 (by decide) ?_
  exact x_retv C0 (u1) hk hP hD hS dX5_turn_232
set_option maxHeartbeats 4000000 in
set_option maxRecDepth 100000 in
theorem xb_X5_turn_228 {p : Program} {l : Launch} {e : Env} {s : State} {m : MethodId} {args : Array Value} {below : List Frame} {meth : Method} {c : Code} {A : Nat → Prop} {D : va_G} {cI cC cZ cL : ClassId} {g1 : Nat}   {K : ((Nat → Int32)) → Prop}  (C0 : xC p s m args meth c cX5_turn 4 none wsX5_turn RX5 D (xTY cI cC cZ cL)) (hA : ∀ q : Nat, s.heap.size ≤ q → A q)  : ∀ (f_p1 : Nat → Int32) (t0 : Int32) (t1 : Int32) , xp_X5_turn_228 K f_p1 t0 t1 → ∀ (H : Heap) (locs : List Loc) (ls : Array Slot), va_P D vwCl [(g1, .inl (cI, 377, .inl f_p1))] H → va_D A [(g1, .inl (cI, 377, .inl f_p1))] → va_S A s.heap H locs → lv_has ls 4 [] → W p l e ({ frames := 6, cells := 0, slots := 0, locals := 134 } : Room) s m args below meth c H locs 0 0 (MQ below (va_Qv (fun (u : (Nat → Int32)) => K u) (fun u t => xE D A ((fun (u : (Nat → Int32)) => [(g1, .inl (cI, 377, .inl u))]) u) t) A) args s 0 0 A) (F0 m 228 ls [.int t0, .int t1, .ref g1]) := by
  obtain ⟨hx, hb, hr, hml, hown, hts, hlocks, hK, hN⟩ := id C0
  intro f_p1 t0 t1 hk H locs ls hP hD hS hl
  rw [xp_X5_turn_228] at hk
  refine x_joini (ws1 := fun (u1 : (Nat → Int32)) => [(g1, .inl (cI, 377, .inl u1))]) (x_runO (n0 := 3) (As := [.ref g1, .int t1, .int t0]) (rest := []) C0 (xc_X5_shootOn l D cI cC cZ cL g1 H.size f_p1 t1 t0 _ hk) gX5_turn_X5_shootOn rfl ⟨rfl, rfl⟩ (by decide +kernel) rfl ⟨by decide, by decide⟩ ⟨Nat.zero_le _, Nat.zero_le _⟩ hP hD [0] rfl rfl hl.1 rfl (Nat.le_of_ble_eq_true rfl) dX5_turn_228) hP hD hS hA [0] [] [0] rfl rfl rfl (by decide) (fun _ => rfl) rfl (fun r1 u1 H locs hk hP hD hS => ?_)
  refine lv_pop hx hb dX5_turn_231 rfl ?_
  exact x_retv C0 (u1) hk hP hD hS dX5_turn_232
set_option maxHeartbeats 4000000 in
set_option maxRecDepth 100000 in
theorem xb_X5_turn_0 {p : Program} {l : Launch} {e : Env} {s : State} {m : MethodId} {args : Array Value} {below : List Frame} {meth : Method} {c : Code} {A : Nat → Prop} {D : va_G} {cI cC cZ cL : ClassId} {g1 : Nat}   {K : ((Nat → Int32)) → Prop}  (C0 : xC p s m args meth c cX5_turn 4 none wsX5_turn RX5 D (xTY cI cC cZ cL)) (hA : ∀ q : Nat, s.heap.size ≤ q → A q)  : ∀ (f_p1 : Nat → Int32) (x2 : Int32) , xp_X5_turn f_p1 x2 K → ∀ (H : Heap) (locs : List Loc) (ls : Array Slot), va_P D vwCl [(g1, .inl (cI, 377, .inl f_p1))] H → va_D A [(g1, .inl (cI, 377, .inl f_p1))] → va_S A s.heap H locs → lv_has ls 4 [(0, .ref g1), (1, .int x2)] → W p l e ({ frames := 6, cells := 0, slots := 0, locals := 134 } : Room) s m args below meth c H locs 0 0 (MQ below (va_Qv (fun (u : (Nat → Int32)) => K u) (fun u t => xE D A ((fun (u : (Nat → Int32)) => [(g1, .inl (cI, 377, .inl u))]) u) t) A) args s 0 0 A) (F0 m 0 ls []) := by
  obtain ⟨hx, hb, hr, hml, hown, hts, hlocks, hK, hN⟩ := id C0
  intro f_p1 x2 hk H locs ls hP hD hS hl
  rw [xp_X5_turn] at hk
  refine lv_iload_n hx hb dX5_turn_0 rfl (lv_at hl 1 rfl) ?_
  refine lv_bipush (v := 16) hx hb dX5_turn_1 (by decide) ?_
  refine lv_idiv hx hb dX5_turn_3 (by decide) ?_
  refine lv_istore_n (lv' := [(2, .int (x2 / 16)), (0, .ref g1), (1, .int x2)]) hx hb dX5_turn_4 rfl hl (by decide) rfl (fun ls hl => ?_)
  refine lv_iload_n hx hb dX5_turn_5 rfl (lv_at hl 0 rfl) ?_
  refine lv_bipush (v := 24) hx hb dX5_turn_6 (by decide) ?_
  refine lv_irem hx hb dX5_turn_8 (by decide) ?_
  refine lv_istore_n (lv' := [(3, .int ((x2 / 16) - (x2 / 16) / 24 * 24)), (2, .int (x2 / 16)), (0, .ref g1), (1, .int x2)]) hx hb dX5_turn_9 rfl hl (by decide) rfl (fun ls hl => ?_)
  refine lv_iload_n hx hb dX5_turn_10 rfl (lv_at hl 3 rfl) ?_
  refine lv_bipush (v := 16) hx hb dX5_turn_11 (by decide) ?_
  refine lv_irem hx hb dX5_turn_13 (by decide) ?_
  by_cases c2 : (x2 - x2 / 16 * 16) = 0
  · have hk := hk.1 c2
    refine lv_tableIn (x := (x2 - x2 / 16 * 16)) (off := 50) (tgt := 64) hx hb dX5_turn_14 (by rw [c2]; decide) (by rw [c2]; decide) (by rw [c2]; rfl) (by decide) ?_
    refine lv_aload_n hx hb dX5_turn_64 rfl (lv_at hl 2 rfl) ?_
    refine lv_iconst (v := 1) hx hb dX5_turn_65 (by decide) ?_
    refine lv_iload_n hx hb dX5_turn_66 rfl (lv_at hl 1 rfl) ?_
    refine lv_iconst (v := 4) hx hb dX5_turn_67 (by decide) ?_
    refine lv_irem hx hb dX5_turn_68 (by decide) ?_
    refine lv_iadd hx hb dX5_turn_69 ?_
    refine lv_iload_n hx hb dX5_turn_70 rfl (lv_at hl 3 rfl) ?_
    refine lv_bipush (v := 64) hx hb dX5_turn_71 (by decide) ?_
    refine lv_idiv hx hb dX5_turn_73 (by decide) ?_
    refine lv_iconst (v := 3) hx hb dX5_turn_74 (by decide) ?_
    refine lv_irem hx hb dX5_turn_75 (by decide) ?_
    refine x_joini (ws1 := fun (u3 : (Nat → Int32)) => [(g1, .inl (cI, 377, .inl u3))]) (x_runO (n0 := 3) (As := [.ref g1, .int (1 + ((x2 / 16) - (x2 / 16) / 4 * 4)), .int ((x2 / 64) - (x2 / 64) / 3 * 3)]) (rest := []) C0 (xc_X5_callOn l D cI cC cZ cL g1 H.size f_p1 (1 + ((x2 / 16) - (x2 / 16) / 4 * 4)) ((x2 / 64) - (x2 / 64) / 3 * 3) _ hk) gX5_turn_X5_callOn rfl ⟨rfl, rfl⟩ (by decide +kernel) rfl ⟨by decide, by decide⟩ ⟨Nat.zero_le _, Nat.zero_le _⟩ hP hD [0] rfl rfl hl.1 rfl (Nat.le_of_ble_eq_true rfl) dX5_turn_76) hP hD hS hA [0] [] [0] rfl rfl rfl (by decide) (fun _ => rfl) rfl (fun r3 u3 H locs hk hP hD hS => ?_)
    refine lv_pop hx hb dX5_turn_79 rfl ?_
    refine lv_goto (tgt := 232) hx hb dX5_turn_80 (by decide) ?_
    exact x_retv C0 (u3) hk hP hD hS dX5_turn_232
  have hk := hk.2 c2
  by_cases c4 : (x2 - x2 / 16 * 16) = 1
  · have hk := hk.1 c4
    refine lv_tableIn (x := (x2 - x2 / 16 * 16)) (off := 69) (tgt := 83) hx hb dX5_turn_14 (by rw [c4]; decide) (by rw [c4]; decide) (by rw [c4]; rfl) (by decide) ?_
    refine lv_aload_n hx hb dX5_turn_83 rfl (lv_at hl 2 rfl) ?_
    refine x_joini (ws1 := fun (u5 : (Nat → Int32)) => [(g1, .inl (cI, 377, .inl u5))]) (x_runO (n0 := 1) (As := [.ref g1]) (rest := []) C0 (xc_X5_rightOn l D cI cC cZ cL g1 H.size f_p1 _ hk) gX5_turn_X5_rightOn rfl ⟨rfl, rfl⟩ (by decide +kernel) rfl ⟨by decide, by decide⟩ ⟨Nat.zero_le _, Nat.zero_le _⟩ hP hD [0] rfl rfl hl.1 rfl (Nat.le_of_ble_eq_true rfl) dX5_turn_84) hP hD hS hA [0] [] [0] rfl rfl rfl (by decide) (fun _ => rfl) rfl (fun r5 u5 H locs hk hP hD hS => ?_)
    refine lv_pop hx hb dX5_turn_87 rfl ?_
    refine lv_goto (tgt := 232) hx hb dX5_turn_88 (by decide) ?_
    exact x_retv C0 (u5) hk hP hD hS dX5_turn_232
  have hk := hk.2 c4
  by_cases c6 : (x2 - x2 / 16 * 16) = 2
  · have hk := hk.1 c6
    refine lv_tableIn (x := (x2 - x2 / 16 * 16)) (off := 77) (tgt := 91) hx hb dX5_turn_14 (by rw [c6]; decide) (by rw [c6]; decide) (by rw [c6]; rfl) (by decide) ?_
    refine lv_aload_n hx hb dX5_turn_91 rfl (lv_at hl 2 rfl) ?_
    refine lv_iconst (v := 1) hx hb dX5_turn_92 (by decide) ?_
    refine lv_iload_n hx hb dX5_turn_93 rfl (lv_at hl 1 rfl) ?_
    refine lv_iconst (v := 4) hx hb dX5_turn_94 (by decide) ?_
    refine lv_irem hx hb dX5_turn_95 (by decide) ?_
    refine lv_iadd hx hb dX5_turn_96 ?_
    refine lv_iload_n hx hb dX5_turn_97 rfl (lv_at hl 3 rfl) ?_
    refine lv_bipush (v := 64) hx hb dX5_turn_98 (by decide) ?_
    refine lv_idiv hx hb dX5_turn_100 (by decide) ?_
    refine lv_iconst (v := 3) hx hb dX5_turn_101 (by decide) ?_
    refine lv_irem hx hb dX5_turn_102 (by decide) ?_
    refine lv_iconst (v := 1) hx hb dX5_turn_103 (by decide) ?_
    refine lv_iload_n hx hb dX5_turn_104 rfl (lv_at hl 3 rfl) ?_
    refine lv_sipush (v := 256) hx hb dX5_turn_105 (by decide) ?_
    refine lv_idiv hx hb dX5_turn_108 (by decide) ?_
    refine lv_iconst (v := 5) hx hb dX5_turn_109 (by decide) ?_
    refine lv_irem hx hb dX5_turn_110 (by decide) ?_
    refine lv_iadd hx hb dX5_turn_111 ?_
    refine x_joini (ws1 := fun (u7 : (Nat → Int32)) => [(g1, .inl (cI, 377, .inl u7))]) (x_runO (n0 := 4) (As := [.ref g1, .int (1 + ((x2 / 16) - (x2 / 16) / 4 * 4)), .int ((x2 / 64) - (x2 / 64) / 3 * 3), .int (1 + ((x2 / 256) - (x2 / 256) / 5 * 5))]) (rest := []) C0 (xc_X5_boardOn l D cI cC cZ cL g1 H.size f_p1 (1 + ((x2 / 16) - (x2 / 16) / 4 * 4)) ((x2 / 64) - (x2 / 64) / 3 * 3) (1 + ((x2 / 256) - (x2 / 256) / 5 * 5)) _ hk) gX5_turn_X5_boardOn rfl ⟨rfl, rfl⟩ (by decide +kernel) rfl ⟨by decide, by decide⟩ ⟨Nat.zero_le _, Nat.zero_le _⟩ hP hD [0] rfl rfl hl.1 rfl (Nat.le_of_ble_eq_true rfl) dX5_turn_112) hP hD hS hA [0] [] [0] rfl rfl rfl (by decide) (fun _ => rfl) rfl (fun r7 u7 H locs hk hP hD hS => ?_)
    refine lv_pop hx hb dX5_turn_115 rfl ?_
    refine lv_goto (tgt := 232) hx hb dX5_turn_116 (by decide) ?_
    exact x_retv C0 (u7) hk hP hD hS dX5_turn_232
  have hk := hk.2 c6
  by_cases c8 : (x2 - x2 / 16 * 16) = 3
  · have hk := hk.1 c8
    refine lv_tableIn (x := (x2 - x2 / 16 * 16)) (off := 105) (tgt := 119) hx hb dX5_turn_14 (by rw [c8]; decide) (by rw [c8]; decide) (by rw [c8]; rfl) (by decide) ?_
    refine lv_aload_n hx hb dX5_turn_119 rfl (lv_at hl 2 rfl) ?_
    refine x_joini (ws1 := fun (u9 : (Nat → Int32)) => [(g1, .inl (cI, 377, .inl u9))]) (x_runO (n0 := 1) (As := [.ref g1]) (rest := []) C0 (xc_X5_newCameraOn l D cI cC cZ cL g1 H.size f_p1 _ hk) gX5_turn_X5_newCameraOn rfl ⟨rfl, rfl⟩ (by decide +kernel) rfl ⟨by decide, by decide⟩ ⟨Nat.zero_le _, Nat.zero_le _⟩ hP hD [0] rfl rfl hl.1 rfl (Nat.le_of_ble_eq_true rfl) dX5_turn_120) hP hD hS hA [0] [] [0] rfl rfl rfl (by decide) (fun _ => rfl) rfl (fun r9 u9 H locs hk hP hD hS => ?_)
    refine lv_pop hx hb dX5_turn_123 rfl ?_
    refine lv_goto (tgt := 232) hx hb dX5_turn_124 (by decide) ?_
    exact x_retv C0 (u9) hk hP hD hS dX5_turn_232
  have hk := hk.2 c8
  by_cases c10 : (x2 - x2 / 16 * 16) = 4
  · have hk := hk.1 c10
    refine lv_tableIn (x := (x2 - x2 / 16 * 16)) (off := 113) (tgt := 127) hx hb dX5_turn_14 (by rw [c10]; decide) (by rw [c10]; decide) (by rw [c10]; rfl) (by decide) ?_
    refine lv_aload_n hx hb dX5_turn_127 rfl (lv_at hl 2 rfl) ?_
    refine x_joini (ws1 := fun (u11 : (Nat → Int32)) => [(g1, .inl (cI, 377, .inl u11))]) (x_runO (n0 := 1) (As := [.ref g1]) (rest := []) C0 (xc_X5_newSoundOn l D cI cC cZ cL g1 H.size f_p1 _ hk) gX5_turn_X5_newSoundOn rfl ⟨rfl, rfl⟩ (by decide +kernel) rfl ⟨by decide, by decide⟩ ⟨Nat.zero_le _, Nat.zero_le _⟩ hP hD [0] rfl rfl hl.1 rfl (Nat.le_of_ble_eq_true rfl) dX5_turn_128) hP hD hS hA [0] [] [0] rfl rfl rfl (by decide) (fun _ => rfl) rfl (fun r11 u11 H locs hk hP hD hS => ?_)
    refine lv_pop hx hb dX5_turn_131 rfl ?_
    refine lv_goto (tgt := 232) hx hb dX5_turn_132 (by decide) ?_
    exact x_retv C0 (u11) hk hP hD hS dX5_turn_232
  have hk := hk.2 c10
  by_cases c12 : (x2 - x2 / 16 * 16) = 5
  · have hk := hk.1 c12
    refine lv_tableIn (x := (x2 - x2 / 16 * 16)) (off := 121) (tgt := 135) hx hb dX5_turn_14 (by rw [c12]; decide) (by rw [c12]; decide) (by rw [c12]; rfl) (by decide) ?_
    refine lv_aload_n hx hb dX5_turn_135 rfl (lv_at hl 2 rfl) ?_
    refine lv_iload_n hx hb dX5_turn_136 rfl (lv_at hl 0 rfl) ?_
    refine x_joini (ws1 := fun (_ : Unit) => [(g1, .inl (cI, 377, .inl f_p1))]) (x_runO (n0 := 2) (As := [.ref g1, .int ((x2 / 16) - (x2 / 16) / 24 * 24)]) (rest := []) C0 (xc_X5_isTake l D cI cC cZ cL g1 H.size f_p1 ((x2 / 16) - (x2 / 16) / 24 * 24) _ hk) gX5_turn_X5_isTake rfl ⟨rfl, rfl⟩ (by decide +kernel) rfl ⟨by decide, by decide⟩ ⟨Nat.zero_le _, Nat.zero_le _⟩ hP hD [0] rfl rfl hl.1 rfl (Nat.le_of_ble_eq_true rfl) dX5_turn_137) hP hD hS hA [0] [] [0] rfl rfl rfl (by decide) (fun _ => rfl) rfl (fun r13 u13 H locs hk hP hD hS => ?_)
    refine lv_if_eq (tgt := 232) hx hb dX5_turn_140 (by decide) (fun c14 => ?_) (fun c14 => ?_)
    · have hk := hk.1 c14
      exact x_retv C0 (f_p1) hk hP hD hS dX5_turn_232
    · have hk := hk.2 c14
      refine lv_aload_n hx hb dX5_turn_143 rfl (lv_at hl 2 rfl) ?_
      refine lv_iload_n hx hb dX5_turn_144 rfl (lv_at hl 0 rfl) ?_
      refine lv_iload_n hx hb dX5_turn_145 rfl (lv_at hl 3 rfl) ?_
      refine lv_bipush (v := 16) hx hb dX5_turn_146 (by decide) ?_
      refine lv_irem hx hb dX5_turn_148 (by decide) ?_
      refine lv_iconst (v := 5) hx hb dX5_turn_149 (by decide) ?_
      refine lv_icmp_ne (tgt := 158) hx hb dX5_turn_150 (by decide) (fun c15 => ?_) (fun c15 => ?_)
      · have hk := hk.1 c15
        refine lv_bipush (v := 13) hx hb dX5_turn_158 (by decide) ?_
        exact xb_X5_turn_160 C0 hA  _ _ _ hk H locs ls hP hD hS (lv_sub hl [] rfl)
      · have hk := hk.2 c15
        refine lv_bipush (v := 14) hx hb dX5_turn_153 (by decide) ?_
        refine lv_goto (tgt := 160) hx hb dX5_turn_155 (by decide) ?_
        exact xb_X5_turn_160 C0 hA  _ _ _ hk H locs ls hP hD hS (lv_sub hl [] rfl)
  have hk := hk.2 c12
  by_cases c16 : (x2 - x2 / 16 * 16) = 6
  · have hk := hk.1 c16
    refine lv_tableIn (x := (x2 - x2 / 16 * 16)) (off := 121) (tgt := 135) hx hb dX5_turn_14 (by rw [c16]; decide) (by rw [c16]; decide) (by rw [c16]; rfl) (by decide) ?_
    refine lv_aload_n hx hb dX5_turn_135 rfl (lv_at hl 2 rfl) ?_
    refine lv_iload_n hx hb dX5_turn_136 rfl (lv_at hl 0 rfl) ?_
    refine x_joini (ws1 := fun (_ : Unit) => [(g1, .inl (cI, 377, .inl f_p1))]) (x_runO (n0 := 2) (As := [.ref g1, .int ((x2 / 16) - (x2 / 16) / 24 * 24)]) (rest := []) C0 (xc_X5_isTake l D cI cC cZ cL g1 H.size f_p1 ((x2 / 16) - (x2 / 16) / 24 * 24) _ hk) gX5_turn_X5_isTake rfl ⟨rfl, rfl⟩ (by decide +kernel) rfl ⟨by decide, by decide⟩ ⟨Nat.zero_le _, Nat.zero_le _⟩ hP hD [0] rfl rfl hl.1 rfl (Nat.le_of_ble_eq_true rfl) dX5_turn_137) hP hD hS hA [0] [] [0] rfl rfl rfl (by decide) (fun _ => rfl) rfl (fun r17 u17 H locs hk hP hD hS => ?_)
    refine lv_if_eq (tgt := 232) hx hb dX5_turn_140 (by decide) (fun c18 => ?_) (fun c18 => ?_)
    · have hk := hk.1 c18
      exact x_retv C0 (f_p1) hk hP hD hS dX5_turn_232
    · have hk := hk.2 c18
      refine lv_aload_n hx hb dX5_turn_143 rfl (lv_at hl 2 rfl) ?_
      refine lv_iload_n hx hb dX5_turn_144 rfl (lv_at hl 0 rfl) ?_
      refine lv_iload_n hx hb dX5_turn_145 rfl (lv_at hl 3 rfl) ?_
      refine lv_bipush (v := 16) hx hb dX5_turn_146 (by decide) ?_
      refine lv_irem hx hb dX5_turn_148 (by decide) ?_
      refine lv_iconst (v := 5) hx hb dX5_turn_149 (by decide) ?_
      refine lv_icmp_ne (tgt := 158) hx hb dX5_turn_150 (by decide) (fun c19 => ?_) (fun c19 => ?_)
      · have hk := hk.1 c19
        refine lv_bipush (v := 13) hx hb dX5_turn_158 (by decide) ?_
        exact xb_X5_turn_160 C0 hA  _ _ _ hk H locs ls hP hD hS (lv_sub hl [] rfl)
      · have hk := hk.2 c19
        refine lv_bipush (v := 14) hx hb dX5_turn_153 (by decide) ?_
        refine lv_goto (tgt := 160) hx hb dX5_turn_155 (by decide) ?_
        exact xb_X5_turn_160 C0 hA  _ _ _ hk H locs ls hP hD hS (lv_sub hl [] rfl)
  have hk := hk.2 c16
  by_cases c20 : (x2 - x2 / 16 * 16) = 7
  · have hk := hk.1 c20
    refine lv_tableIn (x := (x2 - x2 / 16 * 16)) (off := 154) (tgt := 168) hx hb dX5_turn_14 (by rw [c20]; decide) (by rw [c20]; decide) (by rw [c20]; rfl) (by decide) ?_
    refine lv_aload_n hx hb dX5_turn_168 rfl (lv_at hl 2 rfl) ?_
    refine lv_bipush (v := 11) hx hb dX5_turn_169 (by decide) ?_
    refine lv_iload_n hx hb dX5_turn_171 rfl (lv_at hl 1 rfl) ?_
    refine lv_sipush (v := 199) hx hb dX5_turn_172 (by decide) ?_
    refine lv_irem hx hb dX5_turn_175 (by decide) ?_
    refine lv_bipush (v := 99) hx hb dX5_turn_176 (by decide) ?_
    refine lv_isub hx hb dX5_turn_178 ?_
    refine x_iast (k := 11) hx hb hK hP hD hS 0 0 rfl rfl (x_lit rfl (by decide) (by decide)) rfl dX5_turn_179 (fun H locs hP hD hS => ?_)
    have hP : va_P D vwCl [(g1, .inl (cI, 377, .inl (upd f_p1 11 (((x2 / 16) - (x2 / 16) / 199 * 199) - 99))))] H := hP
    have hD : va_D A [(g1, .inl (cI, 377, .inl (upd f_p1 11 (((x2 / 16) - (x2 / 16) / 199 * 199) - 99))))] := hD
    refine lv_goto (tgt := 232) hx hb dX5_turn_180 (by decide) ?_
    exact x_retv C0 (upd f_p1 11 (((x2 / 16) - (x2 / 16) / 199 * 199) - 99)) hk hP hD hS dX5_turn_232
  have hk := hk.2 c20
  by_cases c21 : (x2 - x2 / 16 * 16) = 8
  · have hk := hk.1 c21
    refine lv_tableIn (x := (x2 - x2 / 16 * 16)) (off := 169) (tgt := 183) hx hb dX5_turn_14 (by rw [c21]; decide) (by rw [c21]; decide) (by rw [c21]; rfl) (by decide) ?_
    refine lv_aload_n hx hb dX5_turn_183 rfl (lv_at hl 2 rfl) ?_
    refine lv_iload_n hx hb dX5_turn_184 rfl (lv_at hl 0 rfl) ?_
    refine x_joini (ws1 := fun (_ : Unit) => [(g1, .inl (cI, 377, .inl f_p1))]) (x_runO (n0 := 2) (As := [.ref g1, .int ((x2 / 16) - (x2 / 16) / 24 * 24)]) (rest := []) C0 (xc_X5_isTake l D cI cC cZ cL g1 H.size f_p1 ((x2 / 16) - (x2 / 16) / 24 * 24) _ hk) gX5_turn_X5_isTake rfl ⟨rfl, rfl⟩ (by decide +kernel) rfl ⟨by decide, by decide⟩ ⟨Nat.zero_le _, Nat.zero_le _⟩ hP hD [0] rfl rfl hl.1 rfl (Nat.le_of_ble_eq_true rfl) dX5_turn_185) hP hD hS hA [0] [] [0] rfl rfl rfl (by decide) (fun _ => rfl) rfl (fun r22 u22 H locs hk hP hD hS => ?_)
    refine lv_if_eq (tgt := 232) hx hb dX5_turn_188 (by decide) (fun c23 => ?_) (fun c23 => ?_)
    · have hk := hk.1 c23
      exact x_retv C0 (f_p1) hk hP hD hS dX5_turn_232
    · have hk := hk.2 c23
      refine lv_aload_n hx hb dX5_turn_191 rfl (lv_at hl 2 rfl) ?_
      refine lv_iload_n hx hb dX5_turn_192 rfl (lv_at hl 0 rfl) ?_
      refine x_joini (ws1 := fun (u24 : (Nat → Int32)) => [(g1, .inl (cI, 377, .inl u24))]) (x_runO (n0 := 2) (As := [.ref g1, .int ((x2 / 16) - (x2 / 16) / 24 * 24)]) (rest := []) C0 (xc_X5_fixOn l D cI cC cZ cL g1 H.size f_p1 ((x2 / 16) - (x2 / 16) / 24 * 24) _ hk) gX5_turn_X5_fixOn rfl ⟨rfl, rfl⟩ (by decide +kernel) rfl ⟨by decide, by decide⟩ ⟨Nat.zero_le _, Nat.zero_le _⟩ hP hD [0] rfl rfl hl.1 rfl (Nat.le_of_ble_eq_true rfl) dX5_turn_193) hP hD hS hA [0] [] [0] rfl rfl rfl (by decide) (fun _ => rfl) rfl (fun r24 u24 H locs hk hP hD hS => ?_)
      refine lv_pop hx hb dX5_turn_196 rfl ?_
      refine lv_goto (tgt := 232) hx hb dX5_turn_197 (by decide) ?_
      exact x_retv C0 (u24) hk hP hD hS dX5_turn_232
  have hk := hk.2 c21
  have ec2 := x_ne c2 (k := 0) rfl
  have ec4 := x_ne c4 (k := 1) rfl
  have ec6 := x_ne c6 (k := 2) rfl
  have ec8 := x_ne c8 (k := 3) rfl
  have ec10 := x_ne c10 (k := 4) rfl
  have ec12 := x_ne c12 (k := 5) rfl
  have ec16 := x_ne c16 (k := 6) rfl
  have ec20 := x_ne c20 (k := 7) rfl
  have ec21 := x_ne c21 (k := 8) rfl
  refine lv_tableOut (x := (x2 - x2 / 16 * 16)) (tgt := 200) hx hb dX5_turn_14 (by omega) (by decide) ?_
  refine lv_aload_n hx hb dX5_turn_200 rfl (lv_at hl 2 rfl) ?_
  refine x_joini (ws1 := fun (_ : Unit) => [(g1, .inl (cI, 377, .inl f_p1))]) (x_runO (n0 := 1) (As := [.ref g1]) (rest := []) C0 (xc_X5_canShoot l D cI cC cZ cL g1 H.size f_p1 _ hk) gX5_turn_X5_canShoot rfl ⟨rfl, rfl⟩ (by decide +kernel) rfl ⟨by decide, by decide⟩ ⟨Nat.zero_le _, Nat.zero_le _⟩ hP hD [0] rfl rfl hl.1 rfl (Nat.le_of_ble_eq_true rfl) dX5_turn_201) hP hD hS hA [0] [] [0] rfl rfl rfl (by decide) (fun _ => rfl) rfl (fun r25 u25 H locs hk hP hD hS => ?_)
  refine lv_if_eq (tgt := 232) hx hb dX5_turn_204 (by decide) (fun c26 => ?_) (fun c26 => ?_)
  · have hk := hk.1 c26
    exact x_retv C0 (f_p1) hk hP hD hS dX5_turn_232
  · have hk := hk.2 c26
    refine lv_aload_n hx hb dX5_turn_207 rfl (lv_at hl 2 rfl) ?_
    refine lv_iconst (v := 1) hx hb dX5_turn_208 (by decide) ?_
    refine lv_iload_n hx hb dX5_turn_209 rfl (lv_at hl 3 rfl) ?_
    refine lv_bipush (v := 32) hx hb dX5_turn_210 (by decide) ?_
    refine lv_idiv hx hb dX5_turn_212 (by decide) ?_
    refine lv_bipush (v := 120) hx hb dX5_turn_213 (by decide) ?_
    refine lv_irem hx hb dX5_turn_215 (by decide) ?_
    refine lv_iadd hx hb dX5_turn_216 ?_
    refine lv_iload_n hx hb dX5_turn_217 rfl (lv_at hl 1 rfl) ?_
    refine lv_iconst (v := 2) hx hb dX5_turn_218 (by decide) ?_
    refine lv_irem hx hb dX5_turn_219 (by decide) ?_
    refine lv_if_ne (tgt := 227) hx hb dX5_turn_220 (by decide) (fun c27 => ?_) (fun c27 => ?_)
    · have hk := hk.1 c27
      refine lv_iconst (v := 0) hx hb dX5_turn_227 (by decide) ?_
      exact xb_X5_turn_228 C0 hA  _ _ _ hk H locs ls hP hD hS (lv_sub hl [] rfl)
    · have hk := hk.2 c27
      refine lv_iconst (v := 1) hx hb dX5_turn_223 (by decide) ?_
      refine lv_goto (tgt := 228) hx hb dX5_turn_224 (by decide) ?_
      exact xb_X5_turn_228 C0 hA  _ _ _ hk H locs ls hP hD hS (lv_sub hl [] rfl)
theorem xc_X5_turn (l : Launch) (D : va_G) (cI cC cZ cL : ClassId) (g1 : Nat)  (sz : Nat) (f_p1 : Nat → Int32) (x2 : Int32) (K : ((Nat → Int32)) → Prop) (hk : xp_X5_turn f_p1 x2 K) : XMv l yX5_turn wsX5_turn ({ frames := 6, cells := 0, slots := 0, locals := 134 } : Room) D (xTY cI cC cZ cL) [.ref g1, .int x2] [(g1, .inl (cI, 377, .inl f_p1))] sz (fun (u : (Nat → Int32)) => K u) (fun (u : (Nat → Int32)) => [(g1, .inl (cI, 377, .inl u))]) :=
  x_enter (cc := cX5_turn) (maxL := 4) (ret := none) (own := RX5) (by decide) rfl rfl (Nat.le_of_ble_eq_true rfl) (fun p e s m below meth c ls C0 hA hP hD hS hl => xb_X5_turn_0 C0 hA _ _ hk s.heap [] ls hP hD hS hl)
set_option maxRecDepth 20000 in
theorem xin_X5_simulate_X5 : ∀ w ∈ u_ws RX5 TX5 13, w ∈ wsX5_simulate := by decide +kernel
set_option maxHeartbeats 4000000 in
set_option maxRecDepth 100000 in
theorem xb_X5_simulate_45 {p : Program} {l : Launch} {e : Env} {s : State} {m : MethodId} {args : Array Value} {below : List Frame} {meth : Method} {c : Code} {A : Nat → Prop} {D : va_G} {cI cC cZ cL : ClassId} {h h_text h_now h_trial h_diary h_kept h_isKept h_line : Nat}  {f_size : Int32} {f_acts : Int32} {f_length : Int32} {f_spot : Int32} {f_out : Int32} {f_now : Nat → Int32} {K : Int32 → (Int32 × (Nat → Int32)) → Prop}  (C0 : xC p s m args meth c cX5_simulate 7 (some .int) wsX5_simulate RX5 D (xTY cI cC cZ cL)) (hA : ∀ q : Nat, s.heap.size ≤ q → A q)  : ∀ (n : Nat) (f_refusal : Int32) (f_trial : Nat → Int32) (v3 : Int32) (v4 : Int64) (v6 : Int32) , xp_X5_simulate_45 f_now K n f_refusal f_trial v3 v4 v6 → ∀ (H : Heap) (locs : List Loc) (ls : Array Slot), va_P D vwCl [(h, .inr (5, [.int f_refusal, .ref h_text, .int f_size, .ref h_now, .ref h_trial, .ref h_diary, .int f_acts, .ref h_kept, .ref h_isKept, .ref h_line, .int f_length, .int f_spot, .int f_out])), (h_now, .inl (cI, 377, .inl f_now)), (h_trial, .inl (cI, 377, .inl f_trial))] H → va_D A [(h, .inr (5, [.int f_refusal, .ref h_text, .int f_size, .ref h_now, .ref h_trial, .ref h_diary, .int f_acts, .ref h_kept, .ref h_isKept, .ref h_line, .int f_length, .int f_spot, .int f_out])), (h_now, .inl (cI, 377, .inl f_now)), (h_trial, .inl (cI, 377, .inl f_trial))] → va_S A s.heap H locs → lv_has ls 7 [(0, .ref h), (3, .int v3), (4, .long v4), (6, .int v6)] → W p l e ({ frames := 7, cells := 0, slots := 0, locals := 157 } : Room) s m args below meth c H locs 0 0 (MQ below (va_Qi (fun (r : Int32) (u : Int32 × (Nat → Int32)) => K r u) (fun u t => xE D A ((fun (u : Int32 × (Nat → Int32)) => [(h, .inr (5, [.int u.1, .ref h_text, .int f_size, .ref h_now, .ref h_trial, .ref h_diary, .int f_acts, .ref h_kept, .ref h_isKept, .ref h_line, .int f_length, .int f_spot, .int f_out])), (h_now, .inl (cI, 377, .inl f_now)), (h_trial, .inl (cI, 377, .inl u.2))]) u) t) A) args s 0 0 A) (F0 m 45 ls []) := by
  obtain ⟨hx, hb, hr, hml, hown, hts, hlocks, hK, hN⟩ := id C0
  intro n
  induction n with
  | zero => intro f_refusal f_trial v3 v4 v6 hk; exact hk.elim
  | succ n ih =>
    intro f_refusal f_trial v3 v4 v6 hk H locs ls hP hD hS hl
    rw [xp_X5_simulate_45] at hk
    refine lv_iload hx hb dX5_simulate_45 (lv_at hl 3 rfl) ?_
    refine lv_iload_n hx hb dX5_simulate_47 rfl (lv_at hl 1 rfl) ?_
    refine lv_icmp_ge (tgt := 82) hx hb dX5_simulate_48 (by decide) (fun c1 => ?_) (fun c1 => ?_)
    · have hk := hk.1 c1
      refine lv_sipush (v := 1000) hx hb dX5_simulate_82 (by decide) ?_
      refine lv_aload_n hx hb dX5_simulate_85 rfl (lv_at hl 0 rfl) ?_
      refine va_get (D := D) (ci := 5) (v := .ref h_trial) (C := RX5) (T := TX5) (N := 13) hx hb hts xin_X5_simulate_X5 hown hK hP 0 rfl rfl 4 (by decide) (hts (.fieldLink RX5 16 "TakeLogModel" "trial" "[I") (by decide +kernel)) (fun _ h9 => h9) rfl dX5_simulate_86 ?_
      refine x_joini (ws1 := fun (_ : Unit) => [(h, .inr (5, [.int f_refusal, .ref h_text, .int f_size, .ref h_now, .ref h_trial, .ref h_diary, .int f_acts, .ref h_kept, .ref h_isKept, .ref h_line, .int f_length, .int f_spot, .int f_out])), (h_now, .inl (cI, 377, .inl f_now)), (h_trial, .inl (cI, 377, .inl f_trial))]) (x_runO (n0 := 1) (As := [.ref h_trial]) (rest := [.int 1000]) C0 (xc_X5_wrong l D cI cC cZ cL h_trial H.size f_trial _ hk) gX5_simulate_X5_wrong rfl ⟨rfl, rfl⟩ (by decide +kernel) rfl ⟨by decide, by decide⟩ ⟨Nat.zero_le _, Nat.zero_le _⟩ hP hD [2] rfl rfl hl.1 rfl (Nat.le_of_ble_eq_true rfl) dX5_simulate_89) hP hD hS hA [2] [0, 1] [0, 1, 2] rfl rfl rfl (by decide) (fun _ => rfl) rfl (fun r2 u2 H locs hk hP hD hS => ?_)
      refine lv_imul hx hb dX5_simulate_92 ?_
      refine lv_aload_n hx hb dX5_simulate_93 rfl (lv_at hl 0 rfl) ?_
      refine va_get (D := D) (ci := 5) (v := .ref h_trial) (C := RX5) (T := TX5) (N := 13) hx hb hts xin_X5_simulate_X5 hown hK hP 0 rfl rfl 4 (by decide) (hts (.fieldLink RX5 16 "TakeLogModel" "trial" "[I") (by decide +kernel)) (fun _ h9 => h9) rfl dX5_simulate_94 ?_
      refine x_joini (ws1 := fun (_ : Unit) => [(h, .inr (5, [.int f_refusal, .ref h_text, .int f_size, .ref h_now, .ref h_trial, .ref h_diary, .int f_acts, .ref h_kept, .ref h_isKept, .ref h_line, .int f_length, .int f_spot, .int f_out])), (h_now, .inl (cI, 377, .inl f_now)), (h_trial, .inl (cI, 377, .inl f_trial))]) (x_runO (n0 := 1) (As := [.ref h_trial]) (rest := [.int (1000 * r2)]) C0 (xc_X5_astray l D cI cC cZ cL h_trial H.size f_trial _ hk) gX5_simulate_X5_astray rfl ⟨rfl, rfl⟩ (by decide +kernel) rfl ⟨by decide, by decide⟩ ⟨Nat.zero_le _, Nat.zero_le _⟩ hP hD [2] rfl rfl hl.1 rfl (Nat.le_of_ble_eq_true rfl) dX5_simulate_97) hP hD hS hA [2] [0, 1] [0, 1, 2] rfl rfl rfl (by decide) (fun _ => rfl) rfl (fun r3 u3 H locs hk hP hD hS => ?_)
      refine lv_iadd hx hb dX5_simulate_100 ?_
      exact x_reti C0 (f_refusal, f_trial) hk hP hD hS dX5_simulate_101
    · have hk := hk.2 c1
      refine lv_lload hx hb dX5_simulate_51 (lv_at hl 2 rfl) ?_
      refine lv_ldc2 (own := RX5) hx hb hown (hts (.constantLong RX5 223 (6364136223846793005)) (by decide +kernel)) dX5_simulate_53 ?_
      refine lv_lmul hx hb dX5_simulate_56 ?_
      refine lv_ldc2 (own := RX5) hx hb hown (hts (.constantLong RX5 225 (1442695040888963407)) (by decide +kernel)) dX5_simulate_57 ?_
      refine lv_ladd hx hb dX5_simulate_60 ?_
      refine lv_lstore (lv' := [(4, .long ((v4 * 6364136223846793005) + 1442695040888963407)), (0, .ref h), (3, .int v3), (6, .int v6)]) hx hb dX5_simulate_61 hl (by decide) rfl (fun ls hl => ?_)
      refine lv_aload_n hx hb dX5_simulate_63 rfl (lv_at hl 1 rfl) ?_
      refine va_get (D := D) (ci := 5) (v := .ref h_trial) (C := RX5) (T := TX5) (N := 13) hx hb hts xin_X5_simulate_X5 hown hK hP 0 rfl rfl 4 (by decide) (hts (.fieldLink RX5 16 "TakeLogModel" "trial" "[I") (by decide +kernel)) (fun _ h9 => h9) rfl dX5_simulate_64 ?_
      refine lv_lload hx hb dX5_simulate_67 (lv_at hl 0 rfl) ?_
      refine lv_bipush (v := 33) hx hb dX5_simulate_69 (by decide) ?_
      refine lv_lushr hx hb dX5_simulate_71 rfl ?_
      refine lv_l2i hx hb dX5_simulate_72 rfl ?_
      refine x_joinv (ws1 := fun (u4 : (Nat → Int32)) => [(h, .inr (5, [.int f_refusal, .ref h_text, .int f_size, .ref h_now, .ref h_trial, .ref h_diary, .int f_acts, .ref h_kept, .ref h_isKept, .ref h_line, .int f_length, .int f_spot, .int f_out])), (h_now, .inl (cI, 377, .inl f_now)), (h_trial, .inl (cI, 377, .inl u4))]) (x_runO (n0 := 2) (As := [.ref h_trial, .int (((((v4 * 6364136223846793005) + 1442695040888963407).toUInt64 >>> ((33 : Int32).toInt64.toUInt64 &&& Int64.toUInt64 63)).toInt64).toInt32)]) (rest := []) C0 (xc_X5_turn l D cI cC cZ cL h_trial H.size f_trial (((((v4 * 6364136223846793005) + 1442695040888963407).toUInt64 >>> ((33 : Int32).toInt64.toUInt64 &&& Int64.toUInt64 63)).toInt64).toInt32) _ hk) gX5_simulate_X5_turn rfl ⟨rfl, rfl⟩ (by decide +kernel) rfl ⟨by decide, by decide⟩ ⟨Nat.zero_le _, Nat.zero_le _⟩ hP hD [2] rfl rfl hl.1 rfl (Nat.le_of_ble_eq_true rfl) dX5_simulate_73) hP hD hS hA [2] [0, 1] [0, 1, 2] rfl rfl rfl (by decide) (fun _ => rfl) rfl (fun u4 H locs hk hP hD hS => ?_)
      refine lv_iinc (v := (v6 + 1)) (lv' := [(6, .int (v6 + 1)), (4, .long ((v4 * 6364136223846793005) + 1442695040888963407)), (0, .ref h), (3, .int v3)]) hx hb dX5_simulate_76 hl (k := 3) rfl rfl (by decide) rfl (fun ls hl => ?_)
      refine lv_goto (tgt := 45) hx hb dX5_simulate_79 (by decide) ?_
      exact ih _ _ _ _ _ hk H locs ls hP hD hS (lv_sub hl [2, 3, 1, 0] rfl)
set_option maxHeartbeats 4000000 in
set_option maxRecDepth 100000 in
theorem xb_X5_simulate_18 {p : Program} {l : Launch} {e : Env} {s : State} {m : MethodId} {args : Array Value} {below : List Frame} {meth : Method} {c : Code} {A : Nat → Prop} {D : va_G} {cI cC cZ cL : ClassId} {h h_text h_now h_trial h_diary h_kept h_isKept h_line : Nat}  {f_size : Int32} {f_acts : Int32} {f_length : Int32} {f_spot : Int32} {f_out : Int32} {f_now : Nat → Int32} {K : Int32 → (Int32 × (Nat → Int32)) → Prop}  (C0 : xC p s m args meth c cX5_simulate 7 (some .int) wsX5_simulate RX5 D (xTY cI cC cZ cL)) (hA : ∀ q : Nat, s.heap.size ≤ q → A q)  : ∀ (f_refusal : Int32) (f_trial : Nat → Int32) (v1 : Int64) (v3 : Int32) (t0 : Int32) , xp_X5_simulate_18 f_now K f_refusal f_trial v1 v3 t0 → ∀ (H : Heap) (locs : List Loc) (ls : Array Slot), va_P D vwCl [(h, .inr (5, [.int f_refusal, .ref h_text, .int f_size, .ref h_now, .ref h_trial, .ref h_diary, .int f_acts, .ref h_kept, .ref h_isKept, .ref h_line, .int f_length, .int f_spot, .int f_out])), (h_now, .inl (cI, 377, .inl f_now)), (h_trial, .inl (cI, 377, .inl f_trial))] H → va_D A [(h, .inr (5, [.int f_refusal, .ref h_text, .int f_size, .ref h_now, .ref h_trial, .ref h_diary, .int f_acts, .ref h_kept, .ref h_isKept, .ref h_line, .int f_length, .int f_spot, .int f_out])), (h_now, .inl (cI, 377, .inl f_now)), (h_trial, .inl (cI, 377, .inl f_trial))] → va_S A s.heap H locs → lv_has ls 7 [(0, .ref h), (1, .long v1), (3, .int v3)] → W p l e ({ frames := 7, cells := 0, slots := 0, locals := 157 } : Room) s m args below meth c H locs 0 0 (MQ below (va_Qi (fun (r : Int32) (u : Int32 × (Nat → Int32)) => K r u) (fun u t => xE D A ((fun (u : Int32 × (Nat → Int32)) => [(h, .inr (5, [.int u.1, .ref h_text, .int f_size, .ref h_now, .ref h_trial, .ref h_diary, .int f_acts, .ref h_kept, .ref h_isKept, .ref h_line, .int f_length, .int f_spot, .int f_out])), (h_now, .inl (cI, 377, .inl f_now)), (h_trial, .inl (cI, 377, .inl u.2))]) u) t) A) args s 0 0 A) (F0 m 18 ls [.int t0, .ref h]) := by
  obtain ⟨hx, hb, hr, hml, hown, hts, hlocks, hK, hN⟩ := id C0
  intro f_refusal f_trial v1 v3 t0 hk H locs ls hP hD hS hl
  rw [xp_X5_simulate_18] at hk
  refine x_joini (ws1 := fun (u1 : Int32) => [(h, .inr (5, [.int u1, .ref h_text, .int f_size, .ref h_now, .ref h_trial, .ref h_diary, .int f_acts, .ref h_kept, .ref h_isKept, .ref h_line, .int f_length, .int f_spot, .int f_out])), (h_now, .inl (cI, 377, .inl f_now)), (h_trial, .inl (cI, 377, .inl f_trial))]) (x_runV (n0 := 1) (As := [.int t0]) (rest := []) C0 (xc_X5_refused l D cI cC cZ cL h h_text h_now h_trial h_diary h_kept h_isKept h_line H.size f_refusal f_size f_acts f_length f_spot f_out t0 _ hk) gX5_simulate_X5_refused rfl ⟨rfl, rfl⟩ (by decide +kernel) rfl ⟨by decide, by decide⟩ ⟨Nat.zero_le _, Nat.zero_le _⟩ hP hD [0] rfl rfl (k := 0) rfl rfl rfl hl.1 rfl (Nat.le_of_ble_eq_true rfl) dX5_simulate_18) hP hD hS hA [0] [1, 2] [2, 0, 1] rfl rfl rfl (by decide) (fun _ => rfl) rfl (fun r1 u1 H locs hk hP hD hS => ?_)
  refine lv_if_eq (tgt := 26) hx hb dX5_simulate_21 (by decide) (fun c2 => ?_) (fun c2 => ?_)
  · have hk := hk.1 c2
    refine lv_aload_n hx hb dX5_simulate_26 rfl (lv_at hl 0 rfl) ?_
    refine va_get (D := D) (ci := 5) (v := .ref h_now) (C := RX5) (T := TX5) (N := 13) hx hb hts xin_X5_simulate_X5 hown hK hP 0 rfl rfl 3 (by decide) (hts (.fieldLink RX5 13 "TakeLogModel" "now" "[I") (by decide +kernel)) (fun _ h9 => h9) rfl dX5_simulate_27 ?_
    refine lv_iconst (v := 0) hx hb dX5_simulate_30 (by decide) ?_
    refine lv_aload_n hx hb dX5_simulate_31 rfl (lv_at hl 0 rfl) ?_
    refine va_get (D := D) (ci := 5) (v := .ref h_trial) (C := RX5) (T := TX5) (N := 13) hx hb hts xin_X5_simulate_X5 hown hK hP 0 rfl rfl 4 (by decide) (hts (.fieldLink RX5 16 "TakeLogModel" "trial" "[I") (by decide +kernel)) (fun _ h9 => h9) rfl dX5_simulate_32 ?_
    refine lv_iconst (v := 0) hx hb dX5_simulate_35 (by decide) ?_
    refine x_joinv (ws1 := fun (u3 : (Nat → Int32)) => [(h, .inr (5, [.int u1, .ref h_text, .int f_size, .ref h_now, .ref h_trial, .ref h_diary, .int f_acts, .ref h_kept, .ref h_isKept, .ref h_line, .int f_length, .int f_spot, .int f_out])), (h_now, .inl (cI, 377, .inl f_now)), (h_trial, .inl (cI, 377, .inl u3))]) (x_runO (n0 := 4) (As := [.ref h_now, .int 0, .ref h_trial, .int 0]) (rest := []) C0 (xc_X5_copyState l D cI cC cZ cL h_now h_trial 377 377 H.size f_now f_trial 0 0 _ hk) gX5_simulate_X5_copyState rfl ⟨rfl, rfl⟩ (by decide +kernel) rfl ⟨by decide, by decide⟩ ⟨Nat.zero_le _, Nat.zero_le _⟩ hP hD [1, 2] rfl rfl hl.1 rfl (Nat.le_of_ble_eq_true rfl) dX5_simulate_36) hP hD hS hA [1, 2] [0] [0, 1, 2] rfl rfl rfl (by decide) (fun _ => rfl) rfl (fun u3 H locs hk hP hD hS => ?_)
    refine lv_lload_n hx hb dX5_simulate_39 rfl (lv_at hl 1 rfl) ?_
    refine lv_lstore (lv' := [(4, .long v1), (0, .ref h), (1, .long v1), (3, .int v3)]) hx hb dX5_simulate_40 hl (by decide) rfl (fun ls hl => ?_)
    refine lv_iconst (v := 0) hx hb dX5_simulate_42 (by decide) ?_
    refine lv_istore (lv' := [(6, .int 0), (4, .long v1), (0, .ref h), (1, .long v1), (3, .int v3)]) hx hb dX5_simulate_43 hl (by decide) rfl (fun ls hl => ?_)
    obtain ⟨n9, hk⟩ := hk
    exact xb_X5_simulate_45 C0 hA  n9 _ _ _ _ _ hk H locs ls hP hD hS (lv_sub hl [2, 4, 1, 0] rfl)
  · have hk := hk.2 c2
    refine lv_iconst (v := 0) hx hb dX5_simulate_24 (by decide) ?_
    exact x_reti C0 (u1, f_trial) hk hP hD hS dX5_simulate_25
set_option maxHeartbeats 4000000 in
set_option maxRecDepth 100000 in
theorem xb_X5_simulate_0 {p : Program} {l : Launch} {e : Env} {s : State} {m : MethodId} {args : Array Value} {below : List Frame} {meth : Method} {c : Code} {A : Nat → Prop} {D : va_G} {cI cC cZ cL : ClassId} {h h_text h_now h_trial h_diary h_kept h_isKept h_line : Nat}  {f_size : Int32} {f_acts : Int32} {f_length : Int32} {f_spot : Int32} {f_out : Int32} {f_now : Nat → Int32} {K : Int32 → (Int32 × (Nat → Int32)) → Prop}  (C0 : xC p s m args meth c cX5_simulate 7 (some .int) wsX5_simulate RX5 D (xTY cI cC cZ cL)) (hA : ∀ q : Nat, s.heap.size ≤ q → A q)  : ∀ (f_refusal : Int32) (f_trial : Nat → Int32) (x1 : Int64) (x2 : Int32) , xp_X5_simulate f_now f_refusal f_trial x1 x2 K → ∀ (H : Heap) (locs : List Loc) (ls : Array Slot), va_P D vwCl [(h, .inr (5, [.int f_refusal, .ref h_text, .int f_size, .ref h_now, .ref h_trial, .ref h_diary, .int f_acts, .ref h_kept, .ref h_isKept, .ref h_line, .int f_length, .int f_spot, .int f_out])), (h_now, .inl (cI, 377, .inl f_now)), (h_trial, .inl (cI, 377, .inl f_trial))] H → va_D A [(h, .inr (5, [.int f_refusal, .ref h_text, .int f_size, .ref h_now, .ref h_trial, .ref h_diary, .int f_acts, .ref h_kept, .ref h_isKept, .ref h_line, .int f_length, .int f_spot, .int f_out])), (h_now, .inl (cI, 377, .inl f_now)), (h_trial, .inl (cI, 377, .inl f_trial))] → va_S A s.heap H locs → lv_has ls 7 [(0, .ref h), (1, .long x1), (3, .int x2)] → W p l e ({ frames := 7, cells := 0, slots := 0, locals := 157 } : Room) s m args below meth c H locs 0 0 (MQ below (va_Qi (fun (r : Int32) (u : Int32 × (Nat → Int32)) => K r u) (fun u t => xE D A ((fun (u : Int32 × (Nat → Int32)) => [(h, .inr (5, [.int u.1, .ref h_text, .int f_size, .ref h_now, .ref h_trial, .ref h_diary, .int f_acts, .ref h_kept, .ref h_isKept, .ref h_line, .int f_length, .int f_spot, .int f_out])), (h_now, .inl (cI, 377, .inl f_now)), (h_trial, .inl (cI, 377, .inl u.2))]) u) t) A) args s 0 0 A) (F0 m 0 ls []) := by
  obtain ⟨hx, hb, hr, hml, hown, hts, hlocks, hK, hN⟩ := id C0
  intro f_refusal f_trial x1 x2 hk H locs ls hP hD hS hl
  rw [xp_X5_simulate] at hk
  refine lv_aload_n hx hb dX5_simulate_0 rfl (lv_at hl 0 rfl) ?_
  refine lv_iload_n hx hb dX5_simulate_1 rfl (lv_at hl 2 rfl) ?_
  refine lv_i2l hx hb dX5_simulate_2 rfl ?_
  refine lv_lconst (v := 1) hx hb dX5_simulate_3 (by decide) ?_
  refine lv_ldc2 (own := RX5) hx hb hown (hts (.constantLong RX5 221 (80)) (by decide +kernel)) dX5_simulate_4 ?_
  refine x_joini (ws1 := fun (_ : Unit) => [(h, .inr (5, [.int f_refusal, .ref h_text, .int f_size, .ref h_now, .ref h_trial, .ref h_diary, .int f_acts, .ref h_kept, .ref h_isKept, .ref h_line, .int f_length, .int f_spot, .int f_out])), (h_now, .inl (cI, 377, .inl f_now)), (h_trial, .inl (cI, 377, .inl f_trial))]) (x_runO (n0 := 3) (As := [.long x2.toInt64, .long 1, .long 80]) (rest := [.ref h]) C0 (xc_X5_in l D cI cC cZ cL  H.size x2.toInt64 1 80 _ hk) gX5_simulate_X5_in rfl ⟨rfl, rfl⟩ (by decide +kernel) rfl ⟨by decide, by decide⟩ ⟨Nat.zero_le _, Nat.zero_le _⟩ hP hD [] rfl rfl hl.1 rfl (Nat.le_of_ble_eq_true rfl) dX5_simulate_7) hP hD hS hA [] [0, 1, 2] [0, 1, 2] rfl rfl rfl (by decide) (fun _ => rfl) rfl (fun r1 u1 H locs hk hP hD hS => ?_)
  refine lv_if_eq (tgt := 17) hx hb dX5_simulate_10 (by decide) (fun c2 => ?_) (fun c2 => ?_)
  · have hk := hk.1 c2
    refine lv_iconst (v := 1) hx hb dX5_simulate_17 (by decide) ?_
    exact xb_X5_simulate_18 C0 hA  _ _ _ _ _ hk H locs ls hP hD hS (lv_sub hl [0, 1, 2] rfl)
  · have hk := hk.2 c2
    refine lv_iconst (v := 0) hx hb dX5_simulate_13 (by decide) ?_
    refine lv_goto (tgt := 18) hx hb dX5_simulate_14 (by decide) ?_
    exact xb_X5_simulate_18 C0 hA  _ _ _ _ _ hk H locs ls hP hD hS (lv_sub hl [0, 1, 2] rfl)
theorem xc_X5_simulate (l : Launch) (D : va_G) (cI cC cZ cL : ClassId) (h h_text h_now h_trial h_diary h_kept h_isKept h_line : Nat)  (sz : Nat) (f_refusal : Int32) (f_size : Int32) (f_acts : Int32) (f_length : Int32) (f_spot : Int32) (f_out : Int32) (f_now : Nat → Int32) (f_trial : Nat → Int32) (x1 : Int64) (x2 : Int32) (K : Int32 → (Int32 × (Nat → Int32)) → Prop) (hk : xp_X5_simulate f_now f_refusal f_trial x1 x2 K) : XMi l yX5_simulate wsX5_simulate ({ frames := 7, cells := 0, slots := 0, locals := 157 } : Room) D (xTY cI cC cZ cL) [.ref h, .long x1, .int x2] [(h, .inr (5, [.int f_refusal, .ref h_text, .int f_size, .ref h_now, .ref h_trial, .ref h_diary, .int f_acts, .ref h_kept, .ref h_isKept, .ref h_line, .int f_length, .int f_spot, .int f_out])), (h_now, .inl (cI, 377, .inl f_now)), (h_trial, .inl (cI, 377, .inl f_trial))] sz (fun (r : Int32) (u : Int32 × (Nat → Int32)) => K r u) (fun (u : Int32 × (Nat → Int32)) => [(h, .inr (5, [.int u.1, .ref h_text, .int f_size, .ref h_now, .ref h_trial, .ref h_diary, .int f_acts, .ref h_kept, .ref h_isKept, .ref h_line, .int f_length, .int f_spot, .int f_out])), (h_now, .inl (cI, 377, .inl f_now)), (h_trial, .inl (cI, 377, .inl u.2))]) :=
  x_enter (cc := cX5_simulate) (maxL := 7) (ret := (some .int)) (own := RX5) (by decide) rfl rfl (Nat.le_of_ble_eq_true rfl) (fun p e s m below meth c ls C0 hA hP hD hS hl => xb_X5_simulate_0 C0 hA _ _ _ _ hk s.heap [] ls hP hD hS hl)
set_option maxRecDepth 20000 in
theorem xin_X5_save_X5 : ∀ w ∈ u_ws RX5 TX5 13, w ∈ wsX5_save := by decide +kernel
set_option maxHeartbeats 4000000 in
set_option maxRecDepth 100000 in
theorem xb_X5_save_16 {p : Program} {l : Launch} {e : Env} {s : State} {m : MethodId} {args : Array Value} {below : List Frame} {meth : Method} {c : Code} {A : Nat → Prop} {D : va_G} {cI cC cZ cL : ClassId} {h h_text h_now h_trial h_diary h_kept h_isKept h_line : Nat}  {f_size : Int32} {f_acts : Int32} {f_length : Int32} {f_spot : Int32} {f_out : Int32} {f_now : Nat → Int32} {K : Int32 → (Int32 × (Nat → Int32) × (Nat → Int32)) → Prop}  (C0 : xC p s m args meth c cX5_save 2 (some .int) wsX5_save RX5 D (xTY cI cC cZ cL)) (hA : ∀ q : Nat, s.heap.size ≤ q → A q)  : ∀ (f_refusal : Int32) (f_kept : Nat → Int32) (f_isKept : Nat → Int32) (v1 : Int32) (t0 : Int32) , xp_X5_save_16 f_now K f_refusal f_kept f_isKept v1 t0 → ∀ (H : Heap) (locs : List Loc) (ls : Array Slot), va_P D vwCl [(h, .inr (5, [.int f_refusal, .ref h_text, .int f_size, .ref h_now, .ref h_trial, .ref h_diary, .int f_acts, .ref h_kept, .ref h_isKept, .ref h_line, .int f_length, .int f_spot, .int f_out])), (h_now, .inl (cI, 377, .inl f_now)), (h_kept, .inl (cI, 754, .inl f_kept)), (h_isKept, .inl (cZ, 2, .inl f_isKept))] H → va_D A [(h, .inr (5, [.int f_refusal, .ref h_text, .int f_size, .ref h_now, .ref h_trial, .ref h_diary, .int f_acts, .ref h_kept, .ref h_isKept, .ref h_line, .int f_length, .int f_spot, .int f_out])), (h_now, .inl (cI, 377, .inl f_now)), (h_kept, .inl (cI, 754, .inl f_kept)), (h_isKept, .inl (cZ, 2, .inl f_isKept))] → va_S A s.heap H locs → lv_has ls 2 [(0, .ref h), (1, .int v1)] → W p l e ({ frames := 1, cells := 0, slots := 0, locals := 25 } : Room) s m args below meth c H locs 0 0 (MQ below (va_Qi (fun (r : Int32) (u : Int32 × (Nat → Int32) × (Nat → Int32)) => K r u) (fun u t => xE D A ((fun (u : Int32 × (Nat → Int32) × (Nat → Int32)) => [(h, .inr (5, [.int u.1, .ref h_text, .int f_size, .ref h_now, .ref h_trial, .ref h_diary, .int f_acts, .ref h_kept, .ref h_isKept, .ref h_line, .int f_length, .int f_spot, .int f_out])), (h_now, .inl (cI, 377, .inl f_now)), (h_kept, .inl (cI, 754, .inl u.2.1)), (h_isKept, .inl (cZ, 2, .inl u.2.2))]) u) t) A) args s 0 0 A) (F0 m 16 ls [.int t0, .ref h]) := by
  obtain ⟨hx, hb, hr, hml, hown, hts, hlocks, hK, hN⟩ := id C0
  intro f_refusal f_kept f_isKept v1 t0 hk H locs ls hP hD hS hl
  rw [xp_X5_save_16] at hk
  refine x_joini (ws1 := fun (u1 : Int32) => [(h, .inr (5, [.int u1, .ref h_text, .int f_size, .ref h_now, .ref h_trial, .ref h_diary, .int f_acts, .ref h_kept, .ref h_isKept, .ref h_line, .int f_length, .int f_spot, .int f_out])), (h_now, .inl (cI, 377, .inl f_now)), (h_kept, .inl (cI, 754, .inl f_kept)), (h_isKept, .inl (cZ, 2, .inl f_isKept))]) (x_runV (n0 := 1) (As := [.int t0]) (rest := []) C0 (xc_X5_refused l D cI cC cZ cL h h_text h_now h_trial h_diary h_kept h_isKept h_line H.size f_refusal f_size f_acts f_length f_spot f_out t0 _ hk) gX5_save_X5_refused rfl ⟨rfl, rfl⟩ (by decide +kernel) rfl ⟨by decide, by decide⟩ ⟨Nat.zero_le _, Nat.zero_le _⟩ hP hD [0] rfl rfl (k := 0) rfl rfl rfl hl.1 rfl (Nat.le_of_ble_eq_true rfl) dX5_save_16) hP hD hS hA [0] [1, 2, 3] [3, 0, 1, 2] rfl rfl rfl (by decide) (fun _ => rfl) rfl (fun r1 u1 H locs hk hP hD hS => ?_)
  refine lv_if_eq (tgt := 24) hx hb dX5_save_19 (by decide) (fun c2 => ?_) (fun c2 => ?_)
  · have hk := hk.1 c2
    refine lv_aload_n hx hb dX5_save_24 rfl (lv_at hl 0 rfl) ?_
    refine va_get (D := D) (ci := 5) (v := .ref h_now) (C := RX5) (T := TX5) (N := 13) hx hb hts xin_X5_save_X5 hown hK hP 0 rfl rfl 3 (by decide) (hts (.fieldLink RX5 13 "TakeLogModel" "now" "[I") (by decide +kernel)) (fun _ h9 => h9) rfl dX5_save_25 ?_
    refine lv_iconst (v := 0) hx hb dX5_save_28 (by decide) ?_
    refine lv_aload_n hx hb dX5_save_29 rfl (lv_at hl 0 rfl) ?_
    refine va_get (D := D) (ci := 5) (v := .ref h_kept) (C := RX5) (T := TX5) (N := 13) hx hb hts xin_X5_save_X5 hown hK hP 0 rfl rfl 7 (by decide) (hts (.fieldLink RX5 22 "TakeLogModel" "kept" "[I") (by decide +kernel)) (fun _ h9 => h9) rfl dX5_save_30 ?_
    refine lv_sipush (v := 377) hx hb dX5_save_33 (by decide) ?_
    refine lv_iload_n hx hb dX5_save_36 rfl (lv_at hl 1 rfl) ?_
    refine lv_imul hx hb dX5_save_37 ?_
    refine x_joinv (ws1 := fun (u3 : (Nat → Int32)) => [(h, .inr (5, [.int u1, .ref h_text, .int f_size, .ref h_now, .ref h_trial, .ref h_diary, .int f_acts, .ref h_kept, .ref h_isKept, .ref h_line, .int f_length, .int f_spot, .int f_out])), (h_now, .inl (cI, 377, .inl f_now)), (h_kept, .inl (cI, 754, .inl u3)), (h_isKept, .inl (cZ, 2, .inl f_isKept))]) (x_runO (n0 := 4) (As := [.ref h_now, .int 0, .ref h_kept, .int (377 * v1)]) (rest := []) C0 (xc_X5_copyState l D cI cC cZ cL h_now h_kept 377 754 H.size f_now f_kept 0 (377 * v1) _ hk) gX5_save_X5_copyState rfl ⟨rfl, rfl⟩ (by decide +kernel) rfl ⟨by decide, by decide⟩ ⟨Nat.zero_le _, Nat.zero_le _⟩ hP hD [1, 2] rfl rfl hl.1 rfl (Nat.le_of_ble_eq_true rfl) dX5_save_38) hP hD hS hA [1, 2] [0, 3] [0, 2, 3, 1] rfl rfl rfl (by decide) (fun _ => rfl) rfl (fun u3 H locs hk hP hD hS => ?_)
    refine lv_aload_n hx hb dX5_save_41 rfl (lv_at hl 0 rfl) ?_
    refine va_get (D := D) (ci := 5) (v := .ref h_isKept) (C := RX5) (T := TX5) (N := 13) hx hb hts xin_X5_save_X5 hown hK hP 0 rfl rfl 8 (by decide) (hts (.fieldLink RX5 25 "TakeLogModel" "isKept" "[Z") (by decide +kernel)) (fun _ h9 => h9) rfl dX5_save_42 ?_
    refine lv_iload_n hx hb dX5_save_45 rfl (lv_at hl 1 rfl) ?_
    refine lv_iconst (v := 1) hx hb dX5_save_46 (by decide) ?_
    refine x_zast hx hb hK hP hD hS 3 2 rfl rfl hk.1 rfl dX5_save_47 (fun H locs hP hD hS => ?_)
    have hk := hk.2
    have hP : va_P D vwCl [(h, .inr (5, [.int u1, .ref h_text, .int f_size, .ref h_now, .ref h_trial, .ref h_diary, .int f_acts, .ref h_kept, .ref h_isKept, .ref h_line, .int f_length, .int f_spot, .int f_out])), (h_now, .inl (cI, 377, .inl f_now)), (h_kept, .inl (cI, 754, .inl u3)), (h_isKept, .inl (cZ, 2, .inl (upd f_isKept v1.toNatClampNeg (vp_nar .boolean 1))))] H := hP
    have hD : va_D A [(h, .inr (5, [.int u1, .ref h_text, .int f_size, .ref h_now, .ref h_trial, .ref h_diary, .int f_acts, .ref h_kept, .ref h_isKept, .ref h_line, .int f_length, .int f_spot, .int f_out])), (h_now, .inl (cI, 377, .inl f_now)), (h_kept, .inl (cI, 754, .inl u3)), (h_isKept, .inl (cZ, 2, .inl (upd f_isKept v1.toNatClampNeg (vp_nar .boolean 1))))] := hD
    refine lv_aload_n hx hb dX5_save_48 rfl (lv_at hl 0 rfl) ?_
    refine va_get (D := D) (ci := 5) (v := .ref h_now) (C := RX5) (T := TX5) (N := 13) hx hb hts xin_X5_save_X5 hown hK hP 0 rfl rfl 3 (by decide) (hts (.fieldLink RX5 13 "TakeLogModel" "now" "[I") (by decide +kernel)) (fun _ h9 => h9) rfl dX5_save_49 ?_
    refine lv_iconst (v := 0) hx hb dX5_save_52 (by decide) ?_
    refine x_iald (k := 0) hx hb hK hP 1 0 rfl rfl (x_lit rfl (by decide) (by decide)) rfl (v := (f_now 0)) rfl dX5_save_53 ?_
    exact x_reti C0 (u1, u3, upd f_isKept v1.toNatClampNeg (vp_nar .boolean 1)) hk hP hD hS dX5_save_54
  · have hk := hk.2 c2
    refine lv_iconst (v := 0) hx hb dX5_save_22 (by decide) ?_
    exact x_reti C0 (u1, f_kept, f_isKept) hk hP hD hS dX5_save_23
set_option maxHeartbeats 4000000 in
set_option maxRecDepth 100000 in
theorem xb_X5_save_0 {p : Program} {l : Launch} {e : Env} {s : State} {m : MethodId} {args : Array Value} {below : List Frame} {meth : Method} {c : Code} {A : Nat → Prop} {D : va_G} {cI cC cZ cL : ClassId} {h h_text h_now h_trial h_diary h_kept h_isKept h_line : Nat}  {f_size : Int32} {f_acts : Int32} {f_length : Int32} {f_spot : Int32} {f_out : Int32} {f_now : Nat → Int32} {K : Int32 → (Int32 × (Nat → Int32) × (Nat → Int32)) → Prop}  (C0 : xC p s m args meth c cX5_save 2 (some .int) wsX5_save RX5 D (xTY cI cC cZ cL)) (hA : ∀ q : Nat, s.heap.size ≤ q → A q)  : ∀ (f_refusal : Int32) (f_kept : Nat → Int32) (f_isKept : Nat → Int32) (x1 : Int32) , xp_X5_save f_now f_refusal f_kept f_isKept x1 K → ∀ (H : Heap) (locs : List Loc) (ls : Array Slot), va_P D vwCl [(h, .inr (5, [.int f_refusal, .ref h_text, .int f_size, .ref h_now, .ref h_trial, .ref h_diary, .int f_acts, .ref h_kept, .ref h_isKept, .ref h_line, .int f_length, .int f_spot, .int f_out])), (h_now, .inl (cI, 377, .inl f_now)), (h_kept, .inl (cI, 754, .inl f_kept)), (h_isKept, .inl (cZ, 2, .inl f_isKept))] H → va_D A [(h, .inr (5, [.int f_refusal, .ref h_text, .int f_size, .ref h_now, .ref h_trial, .ref h_diary, .int f_acts, .ref h_kept, .ref h_isKept, .ref h_line, .int f_length, .int f_spot, .int f_out])), (h_now, .inl (cI, 377, .inl f_now)), (h_kept, .inl (cI, 754, .inl f_kept)), (h_isKept, .inl (cZ, 2, .inl f_isKept))] → va_S A s.heap H locs → lv_has ls 2 [(0, .ref h), (1, .int x1)] → W p l e ({ frames := 1, cells := 0, slots := 0, locals := 25 } : Room) s m args below meth c H locs 0 0 (MQ below (va_Qi (fun (r : Int32) (u : Int32 × (Nat → Int32) × (Nat → Int32)) => K r u) (fun u t => xE D A ((fun (u : Int32 × (Nat → Int32) × (Nat → Int32)) => [(h, .inr (5, [.int u.1, .ref h_text, .int f_size, .ref h_now, .ref h_trial, .ref h_diary, .int f_acts, .ref h_kept, .ref h_isKept, .ref h_line, .int f_length, .int f_spot, .int f_out])), (h_now, .inl (cI, 377, .inl f_now)), (h_kept, .inl (cI, 754, .inl u.2.1)), (h_isKept, .inl (cZ, 2, .inl u.2.2))]) u) t) A) args s 0 0 A) (F0 m 0 ls []) := by
  obtain ⟨hx, hb, hr, hml, hown, hts, hlocks, hK, hN⟩ := id C0
  intro f_refusal f_kept f_isKept x1 hk H locs ls hP hD hS hl
  rw [xp_X5_save] at hk
  refine lv_aload_n hx hb dX5_save_0 rfl (lv_at hl 0 rfl) ?_
  refine lv_iload_n hx hb dX5_save_1 rfl (lv_at hl 1 rfl) ?_
  refine lv_i2l hx hb dX5_save_2 rfl ?_
  refine lv_lconst (v := 0) hx hb dX5_save_3 (by decide) ?_
  refine lv_lconst (v := 1) hx hb dX5_save_4 (by decide) ?_
  refine x_joini (ws1 := fun (_ : Unit) => [(h, .inr (5, [.int f_refusal, .ref h_text, .int f_size, .ref h_now, .ref h_trial, .ref h_diary, .int f_acts, .ref h_kept, .ref h_isKept, .ref h_line, .int f_length, .int f_spot, .int f_out])), (h_now, .inl (cI, 377, .inl f_now)), (h_kept, .inl (cI, 754, .inl f_kept)), (h_isKept, .inl (cZ, 2, .inl f_isKept))]) (x_runO (n0 := 3) (As := [.long x1.toInt64, .long 0, .long 1]) (rest := [.ref h]) C0 (xc_X5_in l D cI cC cZ cL  H.size x1.toInt64 0 1 _ hk) gX5_save_X5_in rfl ⟨rfl, rfl⟩ (by decide +kernel) rfl ⟨by decide, by decide⟩ ⟨Nat.zero_le _, Nat.zero_le _⟩ hP hD [] rfl rfl hl.1 rfl (Nat.le_of_ble_eq_true rfl) dX5_save_5) hP hD hS hA [] [0, 1, 2, 3] [0, 1, 2, 3] rfl rfl rfl (by decide) (fun _ => rfl) rfl (fun r1 u1 H locs hk hP hD hS => ?_)
  refine lv_if_eq (tgt := 15) hx hb dX5_save_8 (by decide) (fun c2 => ?_) (fun c2 => ?_)
  · have hk := hk.1 c2
    refine lv_iconst (v := 1) hx hb dX5_save_15 (by decide) ?_
    exact xb_X5_save_16 C0 hA  _ _ _ _ _ hk H locs ls hP hD hS (lv_sub hl [0, 1] rfl)
  · have hk := hk.2 c2
    refine lv_iconst (v := 0) hx hb dX5_save_11 (by decide) ?_
    refine lv_goto (tgt := 16) hx hb dX5_save_12 (by decide) ?_
    exact xb_X5_save_16 C0 hA  _ _ _ _ _ hk H locs ls hP hD hS (lv_sub hl [0, 1] rfl)
theorem xc_X5_save (l : Launch) (D : va_G) (cI cC cZ cL : ClassId) (h h_text h_now h_trial h_diary h_kept h_isKept h_line : Nat)  (sz : Nat) (f_refusal : Int32) (f_size : Int32) (f_acts : Int32) (f_length : Int32) (f_spot : Int32) (f_out : Int32) (f_now : Nat → Int32) (f_kept : Nat → Int32) (f_isKept : Nat → Int32) (x1 : Int32) (K : Int32 → (Int32 × (Nat → Int32) × (Nat → Int32)) → Prop) (hk : xp_X5_save f_now f_refusal f_kept f_isKept x1 K) : XMi l yX5_save wsX5_save ({ frames := 1, cells := 0, slots := 0, locals := 25 } : Room) D (xTY cI cC cZ cL) [.ref h, .int x1] [(h, .inr (5, [.int f_refusal, .ref h_text, .int f_size, .ref h_now, .ref h_trial, .ref h_diary, .int f_acts, .ref h_kept, .ref h_isKept, .ref h_line, .int f_length, .int f_spot, .int f_out])), (h_now, .inl (cI, 377, .inl f_now)), (h_kept, .inl (cI, 754, .inl f_kept)), (h_isKept, .inl (cZ, 2, .inl f_isKept))] sz (fun (r : Int32) (u : Int32 × (Nat → Int32) × (Nat → Int32)) => K r u) (fun (u : Int32 × (Nat → Int32) × (Nat → Int32)) => [(h, .inr (5, [.int u.1, .ref h_text, .int f_size, .ref h_now, .ref h_trial, .ref h_diary, .int f_acts, .ref h_kept, .ref h_isKept, .ref h_line, .int f_length, .int f_spot, .int f_out])), (h_now, .inl (cI, 377, .inl f_now)), (h_kept, .inl (cI, 754, .inl u.2.1)), (h_isKept, .inl (cZ, 2, .inl u.2.2))]) :=
  x_enter (cc := cX5_save) (maxL := 2) (ret := (some .int)) (own := RX5) (by decide) rfl rfl (Nat.le_of_ble_eq_true rfl) (fun p e s m below meth c ls C0 hA hP hD hS hl => xb_X5_save_0 C0 hA _ _ _ _ hk s.heap [] ls hP hD hS hl)
set_option maxRecDepth 20000 in
theorem xin_X5_restore_X5 : ∀ w ∈ u_ws RX5 TX5 13, w ∈ wsX5_restore := by decide +kernel
set_option maxHeartbeats 4000000 in
set_option maxRecDepth 100000 in
theorem xb_X5_restore_29 {p : Program} {l : Launch} {e : Env} {s : State} {m : MethodId} {args : Array Value} {below : List Frame} {meth : Method} {c : Code} {A : Nat → Prop} {D : va_G} {cI cC cZ cL : ClassId} {h h_text h_now h_trial h_diary h_kept h_isKept h_line : Nat}  {f_size : Int32} {f_length : Int32} {f_spot : Int32} {f_out : Int32} {f_kept : Nat → Int32} {f_isKept : Nat → Int32} {K : Int32 → (Int32 × (Nat → Int32) × Int32) → Prop}  (C0 : xC p s m args meth c cX5_restore 2 (some .int) wsX5_restore RX5 D (xTY cI cC cZ cL)) (hA : ∀ q : Nat, s.heap.size ≤ q → A q)  : ∀ (f_refusal : Int32) (f_now : Nat → Int32) (f_acts : Int32) (v1 : Int32) (t0 : Int32) , xp_X5_restore_29 f_kept f_isKept K f_refusal f_now f_acts v1 t0 → ∀ (H : Heap) (locs : List Loc) (ls : Array Slot), va_P D vwCl [(h, .inr (5, [.int f_refusal, .ref h_text, .int f_size, .ref h_now, .ref h_trial, .ref h_diary, .int f_acts, .ref h_kept, .ref h_isKept, .ref h_line, .int f_length, .int f_spot, .int f_out])), (h_now, .inl (cI, 377, .inl f_now)), (h_kept, .inl (cI, 754, .inl f_kept)), (h_isKept, .inl (cZ, 2, .inl f_isKept))] H → va_D A [(h, .inr (5, [.int f_refusal, .ref h_text, .int f_size, .ref h_now, .ref h_trial, .ref h_diary, .int f_acts, .ref h_kept, .ref h_isKept, .ref h_line, .int f_length, .int f_spot, .int f_out])), (h_now, .inl (cI, 377, .inl f_now)), (h_kept, .inl (cI, 754, .inl f_kept)), (h_isKept, .inl (cZ, 2, .inl f_isKept))] → va_S A s.heap H locs → lv_has ls 2 [(0, .ref h), (1, .int v1)] → W p l e ({ frames := 1, cells := 0, slots := 0, locals := 25 } : Room) s m args below meth c H locs 0 0 (MQ below (va_Qi (fun (r : Int32) (u : Int32 × (Nat → Int32) × Int32) => K r u) (fun u t => xE D A ((fun (u : Int32 × (Nat → Int32) × Int32) => [(h, .inr (5, [.int u.1, .ref h_text, .int f_size, .ref h_now, .ref h_trial, .ref h_diary, .int u.2.2, .ref h_kept, .ref h_isKept, .ref h_line, .int f_length, .int f_spot, .int f_out])), (h_now, .inl (cI, 377, .inl u.2.1)), (h_kept, .inl (cI, 754, .inl f_kept)), (h_isKept, .inl (cZ, 2, .inl f_isKept))]) u) t) A) args s 0 0 A) (F0 m 29 ls [.int t0, .ref h]) := by
  obtain ⟨hx, hb, hr, hml, hown, hts, hlocks, hK, hN⟩ := id C0
  intro f_refusal f_now f_acts v1 t0 hk H locs ls hP hD hS hl
  rw [xp_X5_restore_29] at hk
  refine x_joini (ws1 := fun (u1 : Int32) => [(h, .inr (5, [.int u1, .ref h_text, .int f_size, .ref h_now, .ref h_trial, .ref h_diary, .int f_acts, .ref h_kept, .ref h_isKept, .ref h_line, .int f_length, .int f_spot, .int f_out])), (h_now, .inl (cI, 377, .inl f_now)), (h_kept, .inl (cI, 754, .inl f_kept)), (h_isKept, .inl (cZ, 2, .inl f_isKept))]) (x_runV (n0 := 1) (As := [.int t0]) (rest := []) C0 (xc_X5_refused l D cI cC cZ cL h h_text h_now h_trial h_diary h_kept h_isKept h_line H.size f_refusal f_size f_acts f_length f_spot f_out t0 _ hk) gX5_restore_X5_refused rfl ⟨rfl, rfl⟩ (by decide +kernel) rfl ⟨by decide, by decide⟩ ⟨Nat.zero_le _, Nat.zero_le _⟩ hP hD [0] rfl rfl (k := 0) rfl rfl rfl hl.1 rfl (Nat.le_of_ble_eq_true rfl) dX5_restore_29) hP hD hS hA [0] [1, 2, 3] [3, 0, 1, 2] rfl rfl rfl (by decide) (fun _ => rfl) rfl (fun r1 u1 H locs hk hP hD hS => ?_)
  refine lv_if_eq (tgt := 37) hx hb dX5_restore_32 (by decide) (fun c2 => ?_) (fun c2 => ?_)
  · have hk := hk.1 c2
    refine lv_aload_n hx hb dX5_restore_37 rfl (lv_at hl 0 rfl) ?_
    refine va_get (D := D) (ci := 5) (v := .ref h_kept) (C := RX5) (T := TX5) (N := 13) hx hb hts xin_X5_restore_X5 hown hK hP 0 rfl rfl 7 (by decide) (hts (.fieldLink RX5 22 "TakeLogModel" "kept" "[I") (by decide +kernel)) (fun _ h9 => h9) rfl dX5_restore_38 ?_
    refine lv_sipush (v := 377) hx hb dX5_restore_41 (by decide) ?_
    refine lv_iload_n hx hb dX5_restore_44 rfl (lv_at hl 1 rfl) ?_
    refine lv_imul hx hb dX5_restore_45 ?_
    refine lv_aload_n hx hb dX5_restore_46 rfl (lv_at hl 0 rfl) ?_
    refine va_get (D := D) (ci := 5) (v := .ref h_now) (C := RX5) (T := TX5) (N := 13) hx hb hts xin_X5_restore_X5 hown hK hP 0 rfl rfl 3 (by decide) (hts (.fieldLink RX5 13 "TakeLogModel" "now" "[I") (by decide +kernel)) (fun _ h9 => h9) rfl dX5_restore_47 ?_
    refine lv_iconst (v := 0) hx hb dX5_restore_50 (by decide) ?_
    refine x_joinv (ws1 := fun (u3 : (Nat → Int32)) => [(h, .inr (5, [.int u1, .ref h_text, .int f_size, .ref h_now, .ref h_trial, .ref h_diary, .int f_acts, .ref h_kept, .ref h_isKept, .ref h_line, .int f_length, .int f_spot, .int f_out])), (h_now, .inl (cI, 377, .inl u3)), (h_kept, .inl (cI, 754, .inl f_kept)), (h_isKept, .inl (cZ, 2, .inl f_isKept))]) (x_runO (n0 := 4) (As := [.ref h_kept, .int (377 * v1), .ref h_now, .int 0]) (rest := []) C0 (xc_X5_copyState l D cI cC cZ cL h_kept h_now 754 377 H.size f_kept f_now (377 * v1) 0 _ hk) gX5_restore_X5_copyState rfl ⟨rfl, rfl⟩ (by decide +kernel) rfl ⟨by decide, by decide⟩ ⟨Nat.zero_le _, Nat.zero_le _⟩ hP hD [2, 1] rfl rfl hl.1 rfl (Nat.le_of_ble_eq_true rfl) dX5_restore_51) hP hD hS hA [2, 1] [0, 3] [0, 3, 2, 1] rfl rfl rfl (by decide) (fun _ => rfl) rfl (fun u3 H locs hk hP hD hS => ?_)
    refine lv_aload_n hx hb dX5_restore_54 rfl (lv_at hl 0 rfl) ?_
    refine lv_iconst (v := 0) hx hb dX5_restore_55 (by decide) ?_
    refine va_put (D := D) (ci := 5) (v := .int 0) (ty := .int) (C := RX5) (T := TX5) (N := 13) hx hb hts xin_X5_restore_X5 tyX5 tyX5_ok nmX5 hown hK hP hD hS 0 rfl rfl 6 (by decide) (hts (.fieldLink RX5 164 "TakeLogModel" "acts" "I") (by decide +kernel)) (fun _ h9 => h9) rfl (by decide +kernel) rfl rfl (Nat.le_of_ble_eq_true rfl) dX5_restore_56 (fun H locs hP hD hS => ?_)
    have hP : va_P D vwCl [(h, .inr (5, [.int u1, .ref h_text, .int f_size, .ref h_now, .ref h_trial, .ref h_diary, .int 0, .ref h_kept, .ref h_isKept, .ref h_line, .int f_length, .int f_spot, .int f_out])), (h_now, .inl (cI, 377, .inl u3)), (h_kept, .inl (cI, 754, .inl f_kept)), (h_isKept, .inl (cZ, 2, .inl f_isKept))] H := hP
    have hD : va_D A [(h, .inr (5, [.int u1, .ref h_text, .int f_size, .ref h_now, .ref h_trial, .ref h_diary, .int 0, .ref h_kept, .ref h_isKept, .ref h_line, .int f_length, .int f_spot, .int f_out])), (h_now, .inl (cI, 377, .inl u3)), (h_kept, .inl (cI, 754, .inl f_kept)), (h_isKept, .inl (cZ, 2, .inl f_isKept))] := hD
    refine lv_aload_n hx hb dX5_restore_59 rfl (lv_at hl 0 rfl) ?_
    refine va_get (D := D) (ci := 5) (v := .ref h_now) (C := RX5) (T := TX5) (N := 13) hx hb hts xin_X5_restore_X5 hown hK hP 0 rfl rfl 3 (by decide) (hts (.fieldLink RX5 13 "TakeLogModel" "now" "[I") (by decide +kernel)) (fun _ h9 => h9) rfl dX5_restore_60 ?_
    refine lv_iconst (v := 0) hx hb dX5_restore_63 (by decide) ?_
    refine x_iald (k := 0) hx hb hK hP 1 0 rfl rfl (x_lit rfl (by decide) (by decide)) rfl (v := (u3 0)) rfl dX5_restore_64 ?_
    exact x_reti C0 (u1, u3, 0) hk hP hD hS dX5_restore_65
  · have hk := hk.2 c2
    refine lv_iconst (v := 0) hx hb dX5_restore_35 (by decide) ?_
    exact x_reti C0 (u1, f_now, f_acts) hk hP hD hS dX5_restore_36
set_option maxHeartbeats 4000000 in
set_option maxRecDepth 100000 in
theorem xb_X5_restore_0 {p : Program} {l : Launch} {e : Env} {s : State} {m : MethodId} {args : Array Value} {below : List Frame} {meth : Method} {c : Code} {A : Nat → Prop} {D : va_G} {cI cC cZ cL : ClassId} {h h_text h_now h_trial h_diary h_kept h_isKept h_line : Nat}  {f_size : Int32} {f_length : Int32} {f_spot : Int32} {f_out : Int32} {f_kept : Nat → Int32} {f_isKept : Nat → Int32} {K : Int32 → (Int32 × (Nat → Int32) × Int32) → Prop}  (C0 : xC p s m args meth c cX5_restore 2 (some .int) wsX5_restore RX5 D (xTY cI cC cZ cL)) (hA : ∀ q : Nat, s.heap.size ≤ q → A q)  : ∀ (f_refusal : Int32) (f_now : Nat → Int32) (f_acts : Int32) (x1 : Int32) , xp_X5_restore f_kept f_isKept f_refusal f_now f_acts x1 K → ∀ (H : Heap) (locs : List Loc) (ls : Array Slot), va_P D vwCl [(h, .inr (5, [.int f_refusal, .ref h_text, .int f_size, .ref h_now, .ref h_trial, .ref h_diary, .int f_acts, .ref h_kept, .ref h_isKept, .ref h_line, .int f_length, .int f_spot, .int f_out])), (h_now, .inl (cI, 377, .inl f_now)), (h_kept, .inl (cI, 754, .inl f_kept)), (h_isKept, .inl (cZ, 2, .inl f_isKept))] H → va_D A [(h, .inr (5, [.int f_refusal, .ref h_text, .int f_size, .ref h_now, .ref h_trial, .ref h_diary, .int f_acts, .ref h_kept, .ref h_isKept, .ref h_line, .int f_length, .int f_spot, .int f_out])), (h_now, .inl (cI, 377, .inl f_now)), (h_kept, .inl (cI, 754, .inl f_kept)), (h_isKept, .inl (cZ, 2, .inl f_isKept))] → va_S A s.heap H locs → lv_has ls 2 [(0, .ref h), (1, .int x1)] → W p l e ({ frames := 1, cells := 0, slots := 0, locals := 25 } : Room) s m args below meth c H locs 0 0 (MQ below (va_Qi (fun (r : Int32) (u : Int32 × (Nat → Int32) × Int32) => K r u) (fun u t => xE D A ((fun (u : Int32 × (Nat → Int32) × Int32) => [(h, .inr (5, [.int u.1, .ref h_text, .int f_size, .ref h_now, .ref h_trial, .ref h_diary, .int u.2.2, .ref h_kept, .ref h_isKept, .ref h_line, .int f_length, .int f_spot, .int f_out])), (h_now, .inl (cI, 377, .inl u.2.1)), (h_kept, .inl (cI, 754, .inl f_kept)), (h_isKept, .inl (cZ, 2, .inl f_isKept))]) u) t) A) args s 0 0 A) (F0 m 0 ls []) := by
  obtain ⟨hx, hb, hr, hml, hown, hts, hlocks, hK, hN⟩ := id C0
  intro f_refusal f_now f_acts x1 hk H locs ls hP hD hS hl
  rw [xp_X5_restore] at hk
  refine lv_aload_n hx hb dX5_restore_0 rfl (lv_at hl 0 rfl) ?_
  refine lv_iload_n hx hb dX5_restore_1 rfl (lv_at hl 1 rfl) ?_
  refine lv_i2l hx hb dX5_restore_2 rfl ?_
  refine lv_lconst (v := 0) hx hb dX5_restore_3 (by decide) ?_
  refine lv_lconst (v := 1) hx hb dX5_restore_4 (by decide) ?_
  refine x_joini (ws1 := fun (_ : Unit) => [(h, .inr (5, [.int f_refusal, .ref h_text, .int f_size, .ref h_now, .ref h_trial, .ref h_diary, .int f_acts, .ref h_kept, .ref h_isKept, .ref h_line, .int f_length, .int f_spot, .int f_out])), (h_now, .inl (cI, 377, .inl f_now)), (h_kept, .inl (cI, 754, .inl f_kept)), (h_isKept, .inl (cZ, 2, .inl f_isKept))]) (x_runO (n0 := 3) (As := [.long x1.toInt64, .long 0, .long 1]) (rest := [.ref h]) C0 (xc_X5_in l D cI cC cZ cL  H.size x1.toInt64 0 1 _ hk) gX5_restore_X5_in rfl ⟨rfl, rfl⟩ (by decide +kernel) rfl ⟨by decide, by decide⟩ ⟨Nat.zero_le _, Nat.zero_le _⟩ hP hD [] rfl rfl hl.1 rfl (Nat.le_of_ble_eq_true rfl) dX5_restore_5) hP hD hS hA [] [0, 1, 2, 3] [0, 1, 2, 3] rfl rfl rfl (by decide) (fun _ => rfl) rfl (fun r1 u1 H locs hk hP hD hS => ?_)
  refine lv_if_ne (tgt := 15) hx hb dX5_restore_8 (by decide) (fun c2 => ?_) (fun c2 => ?_)
  · have hk := hk.1 c2
    refine lv_aload_n hx hb dX5_restore_15 rfl (lv_at hl 0 rfl) ?_
    refine va_get (D := D) (ci := 5) (v := .ref h_isKept) (C := RX5) (T := TX5) (N := 13) hx hb hts xin_X5_restore_X5 hown hK hP 0 rfl rfl 8 (by decide) (hts (.fieldLink RX5 25 "TakeLogModel" "isKept" "[Z") (by decide +kernel)) (fun _ h9 => h9) rfl dX5_restore_16 ?_
    refine lv_iload_n hx hb dX5_restore_19 rfl (lv_at hl 1 rfl) ?_
    refine x_zald hx hb hK hP 3 2 rfl rfl hk.1 rfl rfl dX5_restore_20 ?_
    have hk := hk.2
    refine lv_if_ne (tgt := 28) hx hb dX5_restore_21 (by decide) (fun c3 => ?_) (fun c3 => ?_)
    · have hk := hk.1 c3
      refine lv_iconst (v := 0) hx hb dX5_restore_28 (by decide) ?_
      exact xb_X5_restore_29 C0 hA  _ _ _ _ _ hk H locs ls hP hD hS (lv_sub hl [0, 1] rfl)
    · have hk := hk.2 c3
      refine lv_iconst (v := 2) hx hb dX5_restore_24 (by decide) ?_
      refine lv_goto (tgt := 29) hx hb dX5_restore_25 (by decide) ?_
      exact xb_X5_restore_29 C0 hA  _ _ _ _ _ hk H locs ls hP hD hS (lv_sub hl [0, 1] rfl)
  · have hk := hk.2 c2
    refine lv_iconst (v := 1) hx hb dX5_restore_11 (by decide) ?_
    refine lv_goto (tgt := 29) hx hb dX5_restore_12 (by decide) ?_
    exact xb_X5_restore_29 C0 hA  _ _ _ _ _ hk H locs ls hP hD hS (lv_sub hl [0, 1] rfl)
theorem xc_X5_restore (l : Launch) (D : va_G) (cI cC cZ cL : ClassId) (h h_text h_now h_trial h_diary h_kept h_isKept h_line : Nat)  (sz : Nat) (f_refusal : Int32) (f_size : Int32) (f_acts : Int32) (f_length : Int32) (f_spot : Int32) (f_out : Int32) (f_now : Nat → Int32) (f_kept : Nat → Int32) (f_isKept : Nat → Int32) (x1 : Int32) (K : Int32 → (Int32 × (Nat → Int32) × Int32) → Prop) (hk : xp_X5_restore f_kept f_isKept f_refusal f_now f_acts x1 K) : XMi l yX5_restore wsX5_restore ({ frames := 1, cells := 0, slots := 0, locals := 25 } : Room) D (xTY cI cC cZ cL) [.ref h, .int x1] [(h, .inr (5, [.int f_refusal, .ref h_text, .int f_size, .ref h_now, .ref h_trial, .ref h_diary, .int f_acts, .ref h_kept, .ref h_isKept, .ref h_line, .int f_length, .int f_spot, .int f_out])), (h_now, .inl (cI, 377, .inl f_now)), (h_kept, .inl (cI, 754, .inl f_kept)), (h_isKept, .inl (cZ, 2, .inl f_isKept))] sz (fun (r : Int32) (u : Int32 × (Nat → Int32) × Int32) => K r u) (fun (u : Int32 × (Nat → Int32) × Int32) => [(h, .inr (5, [.int u.1, .ref h_text, .int f_size, .ref h_now, .ref h_trial, .ref h_diary, .int u.2.2, .ref h_kept, .ref h_isKept, .ref h_line, .int f_length, .int f_spot, .int f_out])), (h_now, .inl (cI, 377, .inl u.2.1)), (h_kept, .inl (cI, 754, .inl f_kept)), (h_isKept, .inl (cZ, 2, .inl f_isKept))]) :=
  x_enter (cc := cX5_restore) (maxL := 2) (ret := (some .int)) (own := RX5) (by decide) rfl rfl (Nat.le_of_ble_eq_true rfl) (fun p e s m below meth c ls C0 hA hP hD hS hl => xb_X5_restore_0 C0 hA _ _ _ _ hk s.heap [] ls hP hD hS hl)
