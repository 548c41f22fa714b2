/-! ===== the law's cases ===== -/
theorem chr_x {x : Int32} (h : 0 ≤ x ∧ x ≤ 255) : rg 0 255 x ∧ vp_nar .char ((x.toUInt32 % 65536).toInt32) = x := by
  have o : (255 : Int32).toInt = 255 := rfl
  have z : (0 : Int32).toInt = 0 := rfl
  have r : rg 0 255 x := by rw [Int32.le_iff_toInt_le, Int32.le_iff_toInt_le, o, z] at h; exact h
  obtain ⟨e, hb⟩ := rg_nv r
  have hb' : x.toNatClampNeg < 65536 := by omega
  refine ⟨r, ?_⟩
  generalize x.toNatClampNeg = j at *
  subst e
  rw [cast_c hb', nar_c hb']
theorem uL0 {f : Nat → Int64} {x : Int64} : vp_updL f 0 x 0 = x := pk_uLs
theorem r_188 {xs : Nat → Int32} {L : Nat} {X : SX → SM → (Nat → Int64) → Int32 → Prop} {sx : SX} {sm : SM} {out : Nat → Int64} {v4 : Int32} {B : Int} (hR : RR B sx sm) (hB : B < 900000) (h1 : vp_in (v4 + 1) L) (hX : ∀ sx' sm' out', RR (B + 1) sx' sm' → X sx' sm' out' (v4 + 5)) : xp_L_law_188 xs L X sx sm out v4 := by
  obtain ⟨⟨n, S⟩, ⟨k, hk, e1, e2, hT, he⟩, hD, hK⟩ := hR
  have S' := S.mono (B' := B + 1) (by omega)
  have D' := hD.mono (B' := B + 1) (by omega)
  have K' := hK.mono (B' := B + 1) (by omega)
  unfold xp_L_law_188 xp_L_append xp_X4_append xp_X4_append_11 xp_X5_append xp_X5_append_31
  generalize xs (v4 + 1).toNatClampNeg = x
  refine ⟨h1, ?_⟩
  by_cases hx : 0 ≤ x ∧ x ≤ 255
  · refine ⟨fun c => absurd c (Int32.not_lt.mpr hx.1), fun _ => ⟨fun _ => ?_, fun c => absurd hx.2 c⟩⟩
    obtain ⟨rx, cx⟩ := chr_x hx
    unfold xp_X0_isFull
    rw [e1, e2]
    refine ⟨fun c => ⟨fun _ => ?_, fun q => absurd rfl q⟩, fun c => ⟨fun q => absurd q (by decide), fun _ => ?_⟩⟩
    · have k120 : k < 120 := (nI_ltI (b := 120) (by omega) (by omega)).mp c
      have vi : vp_in (nI k) 120 := vp_in_nI k120 (by omega)
      unfold xp_X0_add
      refine ⟨fun q => absurd q (nI_ge (b := 120) k120 (by omega)), fun _ => ⟨vi, h1, m_inI (lo := 0) (hi := 255) rfl rfl ?_⟩⟩
      rw [if_pos hx, cx, nI_clamp (by omega), nI_1]
      refine ⟨fun _ => ⟨fun _ => m_ref0 ⟨fun _ => ⟨vi, c_ok rfl (uL0 (f := out)) (hX _ _ _ ⟨⟨n, S'⟩, ⟨k + 1, by omega, rfl, rfl, fun j hj => ?_, fun j hj => ?_⟩, D', K'⟩)⟩, fun q => absurd rfl q⟩, fun q => absurd (nI_inj (b := 120) (by omega) (by omega) q) (by omega)⟩, fun q => absurd q (by decide)⟩
      · show rg 0 255 (upd sx.2.2.2.2.2.1 k x j)
        by_cases q : j = k
        · subst q; rw [pk_us]; exact rx
        · rw [pk_un q]; exact hT j (by omega)
      · show upd sx.2.2.2.2.2.1 k x j = upd sm.2.1 k x j
        by_cases q : j = k
        · subst q; rw [pk_us, pk_us]
        · rw [pk_un q, pk_un q]; exact he j (by omega)
    · have k120 : k = 120 := by
        rcases Nat.lt_or_ge k 120 with q | q
        · exact absurd (nI_lt (b := 120) q (by omega)) c
        · omega
      subst k120
      refine Or.inr ⟨rfl, h1, m_inI (lo := 0) (hi := 255) rfl rfl ?_⟩
      rw [if_pos hx]
      refine ⟨fun _ => ⟨fun q => absurd rfl q, fun _ => m_ref2 ⟨fun q => absurd q (by decide), fun _ => c_th rfl (by decide) ?_⟩⟩, fun q => absurd q (by decide)⟩
      exact hX _ _ _ ⟨⟨n, S'⟩, ⟨120, by omega, rfl, rfl, hT, he⟩, D', K'⟩
  · refine ⟨fun c => Or.inl ⟨rfl, h1, m_inI (lo := 0) (hi := 255) rfl rfl ?_⟩, fun c => ⟨fun c1 => absurd ⟨Int32.not_lt.mp c, c1⟩ hx, fun c1 => Or.inl ⟨rfl, h1, m_inI (lo := 0) (hi := 255) rfl rfl ?_⟩⟩⟩
    all_goals
      rw [if_neg hx]
      refine ⟨fun q => absurd rfl q, fun _ => m_ref1 ⟨fun q => absurd q (by decide), fun _ => c_th rfl (by decide) ?_⟩⟩
      exact hX _ _ _ ⟨⟨n, S'⟩, ⟨k, hk, e1, e2, hT, he⟩, D', K'⟩
theorem r_244 {xs : Nat → Int32} {L : Nat} {X : SX → SM → (Nat → Int64) → Int32 → Prop} {sx : SX} {sm : SM} {out : Nat → Int64} {v4 : Int32} {B : Int} (hR : RR B sx sm) (hB : B < 900000) (hX : ∀ sx' sm' out', RR (B + 1) sx' sm' → X sx' sm' out' (v4 + 5)) : xp_L_law_244 xs L X sx sm out v4 := by
  obtain ⟨⟨n, S⟩, ⟨k, hk, e1, e2, hT, he⟩, hD, hK⟩ := hR
  exact c_eq (e1.trans e2.symm) (hX _ _ _ ⟨⟨n, S.mono (by omega)⟩, ⟨0, by omega, rfl, rfl, fun j hj => absurd hj (by omega), fun j hj => absurd hj (by omega)⟩, hD.mono (by omega), hK.mono (by omega)⟩)
theorem r_257 {xs : Nat → Int32} {L : Nat} {X : SX → SM → (Nat → Int64) → Int32 → Prop} {sx : SX} {sm : SM} {out : Nat → Int64} {v4 : Int32} {B : Int} (hR : RR B sx sm) (hB : B < 900000) (hX : ∀ sx' sm' out', RR (B + 1) sx' sm' → X sx' sm' out' (v4 + 5)) : xp_L_law_257 xs L X sx sm out v4 := by
  obtain ⟨⟨n, S⟩, ⟨k, hk, e1, e2, hT, he⟩, hD, hK⟩ := hR
  have hT' : chR sm.2.1 k := fun j hj => by rw [← he j hj]; exact hT j hj
  unfold xp_L_law_257 xp_X4_errorPosition xp_X5_errorPosition
  rw [e1, e2]
  refine e_firstError hk hT (fun c s l m => m_readText hk hT' (fun r' hr ms => c_eq ?_ (hX _ _ _ ⟨⟨n, S.mono (by omega)⟩, ⟨k, hk, rfl, rfl, hT, he⟩, hD.mono (by omega), hK.mono (by omega)⟩)))
  rw [rtx_congr he]
theorem r_270 {xs : Nat → Int32} {L : Nat} {X : SX → SM → (Nat → Int64) → Int32 → Prop} {sx : SX} {sm : SM} {out : Nat → Int64} {v4 : Int32} {B : Int} (hR : RR B sx sm) (hB : B < 900000) (hB2 : 121 ≤ B) (hX : ∀ sx' sm' out', RR (B + 1) sx' sm' → X sx' sm' out' (v4 + 5)) : xp_L_law_270 xs L X sx sm out v4 := by
  obtain ⟨⟨n, S⟩, ⟨k, hk, e1, e2, hT, he⟩, hD, hK⟩ := hR
  have hT' : chR sm.2.1 k := fun j hj => by rw [← he j hj]; exact hT j hj
  unfold xp_L_law_270 xp_L_load xp_X4_load xp_X5_load xp_X4_forget
  rw [e1, e2]
  refine e_firstError hk hT (fun c s l m => ⟨fun g => ?_, fun g => ⟨rfl, ?_⟩⟩)
  · refine e_reset (fun a0 ha0 => e_obeyText hk hT ha0 ?_ (fun a' t c s l m ha' => ?_))
    · unfold rtx at g
      split at g
      · rename_i q; exact q
      · exact absurd g (by decide)
    · refine m_readText hk hT' (fun r' hr ms => ⟨fun q => absurd (by rw [← rtx_congr he]; exact g) q, fun _ => ?_⟩)
      unfold xp_X5_load_18
      refine m_ref0 ⟨fun _ => m_copy (p := 0) (q := 0) rfl rfl (by omega) (by omega) (by omega) (by omega) (fun u h3 h4 => ?_), fun q => absurd rfl q⟩
      refine c_ok rfl (by rw [rtx_congr he]; exact uL0 (f := out)) (hX _ _ _ ⟨⟨(rtx sm.2.1 k).2.2.2.1, ?_⟩, ⟨k, hk, rfl, rfl, hT, he⟩, rd_0, fun i hi => ?_⟩)
      · have ms' := (ms.rs (a := a') (by rw [ha', hr, rtx_congr he])).mono (B' := B + 1) (by omega)
        have h3' : ∀ j, j < 377 → u j = r' j := fun j hj => by have := h3 j hj; rwa [Nat.zero_add] at this
        exact rs_copy ms' rfl h3'
      · have z : vp_nar .boolean 0 = 0 := rfl
        have e : ∀ f : Nat → Int32, upd (upd f 0 (vp_nar .boolean 0)) 1 (vp_nar .boolean 0) i = 0 := by
          intro f
          rw [z]
          by_cases q : i = 1
          · subst q; exact pk_us
          · rw [pk_un q]
            have : i = 0 := by omega
            subst this; exact pk_us
        refine ⟨(e _).trans (e _).symm, fun q => absurd (e _) q⟩
  · refine m_readText hk hT' (fun r' hr ms => ⟨fun _ => ?_, fun q => absurd (by rw [rtx_congr he]; exact q) g⟩)
    unfold xp_X5_load_18
    refine m_ref1 ⟨fun q => absurd q (by decide), fun _ => c_th rfl (by decide) (hX _ _ _ ⟨⟨n, S.mono (by omega)⟩, ⟨k, hk, rfl, rfl, hT, he⟩, hD.mono (by omega), hK.mono (by omega)⟩)⟩
