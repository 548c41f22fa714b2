/-! ===== the law's cases: actions ===== -/
theorem n0_h {V : Nat → Nat → Int32} {w : Nat} {x : Int32} (h : w ≠ 0) : vu V 0 w x 0 0 = V 0 0 := vu_n (by omega)
theorem r_438 {xs : Nat → Int32} {L : Nat} {X : SX → SM → (Nat → Int64) → Int32 → Prop} {sx : SX} {sm : SM} {out : Nat → Int64} {v4 : Int32} {B : Int} (hR : RR B sx sm) (hB : B < 900000) (h1 : vp_in (v4 + 1) L) (h2 : vp_in (v4 + 2) L) (hX : ∀ sx' sm' out', RR (B + 1) sx' sm' → X sx' sm' out' (v4 + 5)) : xp_L_law_438 xs L X sx sm out v4 := by
  obtain ⟨⟨n, S⟩, hT, hD, hK⟩ := hR
  have S' := S.mono (B' := B + 1) (by omega)
  have D' := hD.mono (B' := B + 1) (by omega)
  have K' := hK.mono (B' := B + 1) (by omega)
  have ms := S.ms
  have h24 := S.n24
  unfold xp_L_law_438 xp_L_line xp_X4_line xp_X5_line
  generalize xs (v4 + 1).toNatClampNeg = y
  generalize xs (v4 + 2).toNatClampNeg = x
  refine ⟨h1, h2, e_hasTake S.n0 h24 (fun i hi hy => ⟨fun _ => ⟨fun hx => ?_, fun hx => ?_⟩, fun q => absurd q (by decide)⟩) (fun g => ⟨fun q => absurd rfl q, fun _ => ?_⟩)⟩
  · have nx : ¬ x < 0 := Int32.not_lt.mpr hx
    refine e_line S.2.1 hi (by omega) hy (fun f1 n1 hf => e_signAt hf (by have := l_len6 S.2.1 hi (by omega); omega) nx ?_)
    refine ⟨h1, h2, m_isTake ms.n0 h24 (fun i' hi' hy' => ⟨fun _ => ⟨fun q => absurd q nx, fun _ => ?_⟩, fun q => absurd q (by decide)⟩) (fun g => absurd g ?_)⟩
    · refine m_line ms.inv hi (by omega) hy nx (fun f2 n2 hf2 => c_ok rfl (by rw [S.1]; exact uL0 (f := out)) (hX _ _ _ ⟨⟨n, S'⟩, hT, D', K'⟩))
    · have q := ix_nI (x := y) (by omega) hy
      exact fun g => ix_no h24 g ⟨q.1, by rw [q.2]; exact hi⟩
  · refine Or.inr ⟨rfl, h1, h2, m_isTake ms.n0 h24 (fun i' hi' hy' => ⟨fun _ => ⟨fun _ => ?_, fun q => absurd (Int32.not_lt.mp q) hx⟩, fun q => absurd q (by decide)⟩) (fun g => absurd g ?_)⟩
    · unfold xp_X5_line_25
      exact m_ref2 ⟨fun q => absurd q (by decide), fun _ => c_th rfl (by decide) (hX _ _ _ ⟨⟨n, S'⟩, hT, D', K'⟩)⟩
    · have q := ix_nI (x := y) (by omega) hy
      exact fun g => ix_no h24 g ⟨q.1, by rw [q.2]; exact hi⟩
  · refine Or.inl ⟨rfl, h1, h2, m_isTake ms.n0 h24 (fun i hi hy => ?_) (fun _ => ⟨fun q => absurd rfl q, fun _ => ?_⟩)⟩
    · have q := ix_nI (x := y) (by omega) hy
      exact absurd ⟨q.1, by rw [q.2]; exact hi⟩ (ix_no h24 g)
    · unfold xp_X5_line_25
      exact m_ref1 ⟨fun q => absurd q (by decide), fun _ => c_th rfl (by decide) (hX _ _ _ ⟨⟨n, S'⟩, hT, D', K'⟩)⟩
theorem r_506 {xs : Nat → Int32} {L : Nat} {X : SX → SM → (Nat → Int64) → Int32 → Prop} {sx : SX} {sm : SM} {out : Nat → Int64} {v4 : Int32} {B : Int} (hR : RR B sx sm) (hB : B < 900000) (h1 : vp_in (v4 + 1) L) (hX : ∀ sx' sm' out', RR (B + 1) sx' sm' → X sx' sm' out' (v4 + 5)) : xp_L_law_506 xs L X sx sm out v4 := by
  obtain ⟨⟨n, S⟩, hT, hD, hK⟩ := hR
  have S' := S.mono (B' := B + 1) (by omega)
  have D' := hD.mono (B' := B + 1) (by omega)
  have K' := hK.mono (B' := B + 1) (by omega)
  unfold xp_L_law_506 xp_L_setting xp_X4_setting xp_X4_setting_9 xp_X5_setting xp_X5_setting_18
  generalize xs (v4 + 1).toNatClampNeg = x
  refine ⟨h1, ?_⟩
  have z : (0 : Int32).toInt = 0 := rfl
  have o : (3 : Int32).toInt = 3 := rfl
  by_cases hx : 0 ≤ x ∧ x ≤ 3
  · obtain ⟨e, hb⟩ := rg_nv ((i_le z o).mp hx)
    generalize x.toNatClampNeg = w at *
    have hw : w < 4 := by omega
    refine ⟨fun c => absurd c (Int32.not_lt.mpr hx.1), fun _ => ⟨fun _ => e_chosen hw e ⟨h1, m_inI (lo := 0) (hi := 3) rfl rfl ?_⟩, fun c => absurd hx.2 c⟩⟩
    have e13 : 13 + x = nI (13 + w) := by rw [e, show (13 : Int32) = nI 13 from rfl, nI_add]
    rw [if_pos hx, e13, nI_clamp (by omega)]
    refine ⟨fun q => absurd q (by decide), fun _ => m_ref0 ⟨fun _ => ⟨vp_in_nI (by omega) (by omega), c_ok rfl ?_ (hX _ _ _ ⟨⟨n, S'⟩, hT, D', K'⟩)⟩, fun q => absurd rfl q⟩⟩
    rw [S.1, vm_s _ (by omega) (by omega), show 12 + w + 1 = 13 + w by omega]; exact uL0 (f := out)
  · refine ⟨fun c => ⟨rfl, h1, m_inI (lo := 0) (hi := 3) rfl rfl ?_⟩, fun c => ⟨fun c1 => absurd ⟨Int32.not_lt.mp c, c1⟩ hx, fun c1 => ⟨rfl, h1, m_inI (lo := 0) (hi := 3) rfl rfl ?_⟩⟩⟩
    all_goals
      rw [if_neg hx]
      exact ⟨fun _ => m_ref1 ⟨fun q => absurd q (by decide), fun _ => c_th rfl (by decide) (hX _ _ _ ⟨⟨n, S'⟩, hT, D', K'⟩)⟩, fun q => absurd rfl q⟩
theorem su_rg {s l : Int32} (h : (1 ≤ s ∧ s ≤ 99) ∧ (0 ≤ l ∧ l ≤ 25)) : rg 1 99 s ∧ rg 0 25 l :=
  ⟨(i_le (L := 1) (H := 99) rfl rfl).mp h.1, (i_le (L := 0) (H := 25) rfl rfl).mp h.2⟩
theorem r_562 {xs : Nat → Int32} {L : Nat} {X : SX → SM → (Nat → Int64) → Int32 → Prop} {sx : SX} {sm : SM} {out : Nat → Int64} {v4 : Int32} {B : Int} (hR : RR B sx sm) (hB : B < 900000) (h1 : vp_in (v4 + 1) L) (h2 : vp_in (v4 + 2) L) (hX : ∀ sx' sm' out', RR (B + 1) sx' sm' → X sx' sm' out' (v4 + 5)) : xp_L_law_562 xs L X sx sm out v4 := by
  obtain ⟨⟨n, S⟩, hT, hD, hK⟩ := hR
  have S' := S.mono (B' := B + 1) (by omega)
  have D' := hD.mono (B' := B + 1) (by omega)
  have K' := hK.mono (B' := B + 1) (by omega)
  have ms := S.ms
  have h24 := S.n24
  obtain ⟨c, o, hc, o14, er, eo, ea, hrow⟩ := hD
  unfold xp_L_law_562 xp_L_call xp_X4_call xp_X5_call xp_X5_call_14
  generalize xs (v4 + 1).toNatClampNeg = y
  generalize xs (v4 + 2).toNatClampNeg = x
  refine ⟨h1, h2, e_isSetup ?_⟩
  by_cases g : (1 ≤ y ∧ y ≤ 99) ∧ (0 ≤ x ∧ x ≤ 25)
  · rw [if_pos g]
    refine ⟨fun _ => e_remember er eo hc o14 (fun past' c' o' hp => e_mean (fun a' ha => e_nextNumber (n := n) (by rw [ha]; unfold aMean; rw [n0_h (by omega), n0_h (by omega)]; exact S.n0) h24 ⟨h1, h2, m_isSetup ?_⟩)), fun q => absurd q (by decide)⟩
    rw [if_pos g]
    refine ⟨fun q => absurd q (by decide), fun _ => m_ref0 ⟨fun _ => m_remember ea hc (fun d' c'' hm => m_callOn ms.n0 h24 (fun r' hr hf => c_ok rfl ?_ (hX _ _ _ ⟨⟨n, rs_mean S' (su_rg g).1 (su_rg g).2 ha hr hf⟩, hT, (rd_step o14 hrow hp hm S).mono (by omega), K'⟩))), fun q => absurd rfl q⟩⟩
    rw [ha, S.1]; exact uL0 (f := out)
  · rw [if_neg g]
    refine ⟨fun q => absurd rfl q, fun _ => ⟨rfl, h1, h2, m_isSetup ?_⟩⟩
    rw [if_neg g]
    exact ⟨fun _ => m_ref1 ⟨fun q => absurd q (by decide), fun _ => c_th rfl (by decide) (hX _ _ _ ⟨⟨n, S'⟩, hT, D', K'⟩)⟩, fun q => absurd rfl q⟩
theorem w0_at {V : Nat → Nat → Int32} {s l t : Int32} {w : Nat} (h3 : w ≠ 3) (h4 : w ≠ 4) (h5 : w ≠ 5) : aWrite V s l t 0 w = V 0 w := by unfold aWrite; rw [vu_n (by omega), vu_n (by omega), vu_n (by omega)]
theorem w3_at {V : Nat → Nat → Int32} {s l t : Int32} : aWrite V s l t 0 3 = s ∧ aWrite V s l t 0 4 = l ∧ aWrite V s l t 0 5 = t := by
  unfold aWrite
  exact ⟨by rw [vu_n (by omega), vu_n (by omega), vu_s], by rw [vu_n (by omega), vu_s], by rw [vu_s]⟩
theorem r_630 {xs : Nat → Int32} {L : Nat} {X : SX → SM → (Nat → Int64) → Int32 → Prop} {sx : SX} {sm : SM} {out : Nat → Int64} {v4 : Int32} {B : Int} (hR : RR B sx sm) (hB : B < 900000) (h1 : vp_in (v4 + 1) L) (h2 : vp_in (v4 + 2) L) (h3 : vp_in (v4 + 3) L) (hX : ∀ sx' sm' out', RR (B + 1) sx' sm' → X sx' sm' out' (v4 + 5)) : xp_L_law_630 xs L X sx sm out v4 := by
  obtain ⟨⟨n, S⟩, hT, hD, hK⟩ := hR
  have S' := S.mono (B' := B + 1) (by omega)
  have D' := hD.mono (B' := B + 1) (by omega)
  have K' := hK.mono (B' := B + 1) (by omega)
  have ms := S.ms
  have h24 := S.n24
  obtain ⟨c, o, hc, o14, er, eo, ea, hrow⟩ := hD
  unfold xp_L_law_630 xp_L_board xp_X4_board xp_X4_board_19 xp_X5_board xp_X5_board_26
  generalize xs (v4 + 1).toNatClampNeg = y
  generalize xs (v4 + 2).toNatClampNeg = x
  generalize xs (v4 + 3).toNatClampNeg = t
  refine ⟨h1, h2, h3, e_isSetup ?_⟩
  by_cases g : (1 ≤ y ∧ y ≤ 99) ∧ (0 ≤ x ∧ x ≤ 25)
  · rw [if_pos g]
    refine ⟨fun q => absurd q (by decide), fun _ => ?_⟩
    by_cases gt : 1 ≤ t ∧ t ≤ 99
    · refine ⟨fun q => absurd q (Int32.not_lt.mpr gt.1), fun _ => ⟨fun _ => e_remember er eo hc o14 (fun past' c' o' hp => e_write (fun a' ha => e_boardIsRight (n := n) (by rw [ha, w0_at (by omega) (by omega) (by omega)]; exact S.n0) h24 ?_)), fun q => absurd gt.2 q⟩⟩
      have ev : (vw a' 0 3 = vw a' 0 1 ∧ vw a' 0 4 = vw a' 0 2 ∧ vw a' 0 5 = nI (nno (vw a') n)) ↔ (y = vm sm.2.2.2.1 0 1 ∧ x = vm sm.2.2.2.1 0 2 ∧ t = nI (nno (vm sm.2.2.2.1) n)) := by
        obtain ⟨q3, q4, q5⟩ := w3_at (V := vw sx.1) (s := y) (l := x) (t := t)
        rw [ha, q3, q4, q5, w0_at (by omega) (by omega) (by omega), w0_at (by omega) (by omega) (by omega), nno_w, S.1]
      by_cases gb : (y = vm sm.2.2.2.1 0 1 ∧ x = vm sm.2.2.2.1 0 2 ∧ t = nI (nno (vm sm.2.2.2.1) n))
      · rw [if_pos (ev.mpr gb)]
        refine ⟨fun q => absurd q (by decide), fun _ => ⟨h1, h2, h3, m_isSetup ?_⟩⟩
        rw [if_pos g]
        refine ⟨fun q => absurd q (by decide), fun _ => m_inI (lo := 1) (hi := 99) rfl rfl ?_⟩
        rw [if_pos gt]
        refine ⟨fun q => absurd q (by decide), fun _ => m_ref0 ⟨fun _ => m_remember ea hc (fun d' c'' hm => m_boardOn ms.n0 h24 (fun r' hr hf _ => c_ok rfl ?_ (hX _ _ _ ⟨⟨n, rs_write S' (su_rg g).1 (su_rg g).2 ((i_le (L := 1) (H := 99) rfl rfl).mp gt) ha hr hf⟩, hT, (rd_step o14 hrow hp hm S).mono (by omega), K'⟩))), fun q => absurd rfl q⟩⟩
        rw [if_pos gb]; exact uL0 (f := out)
      · rw [if_neg (fun q => gb (ev.mp q))]
        refine ⟨fun _ => ⟨h1, h2, h3, m_isSetup ?_⟩, fun q => absurd rfl q⟩
        rw [if_pos g]
        refine ⟨fun q => absurd q (by decide), fun _ => m_inI (lo := 1) (hi := 99) rfl rfl ?_⟩
        rw [if_pos gt]
        refine ⟨fun q => absurd q (by decide), fun _ => m_ref0 ⟨fun _ => m_remember ea hc (fun d' c'' hm => m_boardOn ms.n0 h24 (fun r' hr hf _ => c_ok rfl ?_ (hX _ _ _ ⟨⟨n, rs_write S' (su_rg g).1 (su_rg g).2 ((i_le (L := 1) (H := 99) rfl rfl).mp gt) ha hr hf⟩, hT, (rd_step o14 hrow hp hm S).mono (by omega), K'⟩))), fun q => absurd rfl q⟩⟩
        rw [if_neg gb]; exact uL0 (f := out)
    · refine ⟨fun q => ⟨rfl, h1, h2, h3, m_isSetup ?_⟩, fun q => ⟨fun q1 => absurd ⟨Int32.not_lt.mp q, q1⟩ gt, fun q1 => ⟨rfl, h1, h2, h3, m_isSetup ?_⟩⟩⟩
      all_goals
        rw [if_pos g]
        refine ⟨fun q => absurd q (by decide), fun _ => m_inI (lo := 1) (hi := 99) rfl rfl ?_⟩
        rw [if_neg gt]
        exact ⟨fun _ => m_ref1 ⟨fun q => absurd q (by decide), fun _ => c_th rfl (by decide) (hX _ _ _ ⟨⟨n, S'⟩, hT, D', K'⟩)⟩, fun q => absurd rfl q⟩
  · rw [if_neg g]
    refine ⟨fun _ => ⟨rfl, h1, h2, h3, m_isSetup ?_⟩, fun q => absurd rfl q⟩
    rw [if_neg g]
    exact ⟨fun _ => m_ref1 ⟨fun q => absurd q (by decide), fun _ => c_th rfl (by decide) (hX _ _ _ ⟨⟨n, S'⟩, hT, D', K'⟩)⟩, fun q => absurd rfl q⟩
theorem r_710 {xs : Nat → Int32} {L : Nat} {X : SX → SM → (Nat → Int64) → Int32 → Prop} {sx : SX} {sm : SM} {out : Nat → Int64} {v4 : Int32} {B : Int} (hR : RR B sx sm) (hB : B < 900000) (hX : ∀ sx' sm' out', RR (B + 1) sx' sm' → X sx' sm' out' (v4 + 5)) : xp_L_law_710 xs L X sx sm out v4 := by
  obtain ⟨⟨n, S⟩, hT, hD, hK⟩ := hR
  have S' := S.mono (B' := B + 1) (by omega)
  have K' := hK.mono (B' := B + 1) (by omega)
  have ms := S.ms
  have h24 := S.n24
  obtain ⟨c, o, hc, o14, er, eo, ea, hrow⟩ := hD
  unfold xp_L_law_710 xp_X4_right xp_X5_right
  have s1 : rg 1 99 (vw sx.1 0 1) := S.2.1.2.2.1 1
  have s2 : rg 0 25 (vw sx.1 0 2) := S.2.1.2.2.1 2
  refine e_remember er eo hc o14 (fun past' c' o' hp => e_writeRight S.n0 h24 (fun a' ha => e_nextNumber (n := n) (by rw [ha, w0_at (by omega) (by omega) (by omega)]; exact S.n0) h24 ?_))
  refine m_remember ea hc (fun d' c'' hm => m_rightOn ms.n0 h24 (fun r' hr hf => c_eq ?_ (hX _ _ _ ⟨⟨n, rs_write S' s1 s2 (nno_rg h24) ha (by rw [hr, S.1]) hf⟩, hT, (rd_step o14 hrow hp hm S).mono (by omega), K'⟩)))
  rw [ha, nno_w, S.1]
theorem r_807 {xs : Nat → Int32} {L : Nat} {X : SX → SM → (Nat → Int64) → Int32 → Prop} {sx : SX} {sm : SM} {out : Nat → Int64} {v4 : Int32} {B : Int} (hR : RR B sx sm) (hB : B < 900000) (hX : ∀ sx' sm' out', RR (B + 1) sx' sm' → X sx' sm' out' (v4 + 5)) : xp_L_law_807 xs L X sx sm out v4 := by
  obtain ⟨⟨n, S⟩, hT, hD, hK⟩ := hR
  have K' := hK.mono (B' := B + 1) (by omega)
  obtain ⟨c, o, hc, o14, er, eo, ea, hrow⟩ := hD
  unfold xp_L_law_807 xp_X4_newCamera xp_X5_newCamera
  exact e_remember er eo hc o14 (fun past' c' o' hp => e_loadCamera (fun a' ha => m_remember ea hc (fun d' c'' hm => m_newCameraOn (fun r' hr hf => c_eq (by rw [S.1]) (hX _ _ _ ⟨⟨n, rs_cam S (by omega) ha hr hf⟩, hT, (rd_step o14 hrow hp hm S).mono (by omega), K'⟩)))))
theorem r_820 {xs : Nat → Int32} {L : Nat} {X : SX → SM → (Nat → Int64) → Int32 → Prop} {sx : SX} {sm : SM} {out : Nat → Int64} {v4 : Int32} {B : Int} (hR : RR B sx sm) (hB : B < 900000) (hX : ∀ sx' sm' out', RR (B + 1) sx' sm' → X sx' sm' out' (v4 + 5)) : xp_L_law_820 xs L X sx sm out v4 := by
  obtain ⟨⟨n, S⟩, hT, hD, hK⟩ := hR
  have K' := hK.mono (B' := B + 1) (by omega)
  obtain ⟨c, o, hc, o14, er, eo, ea, hrow⟩ := hD
  unfold xp_L_law_820 xp_X4_newSound xp_X5_newSound
  exact e_remember er eo hc o14 (fun past' c' o' hp => e_loadSound (fun a' ha => m_remember ea hc (fun d' c'' hm => m_newSoundOn (fun r' hr hf => c_eq (by rw [S.1]) (hX _ _ _ ⟨⟨n, rs_snd S (by omega) ha hr hf⟩, hT, (rd_step o14 hrow hp hm S).mono (by omega), K'⟩)))))
