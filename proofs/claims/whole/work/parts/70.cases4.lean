/-! ===== the law's cases: more actions ===== -/
theorem film_rs {B : Int} {n : Nat} {a r a' r' : Nat → Int32} {sec snd : Int32} (S : RS B n a r) (hB : B < 1000000) (h24 : n < 24) (h1 : 1 ≤ sec ∧ sec ≤ 120) (hl : (0 : Int32) < vw a 0 12 - vw a 0 7) (ha : vw a' = vfilm (vw a) n (vlen (vw a) sec) (vhas (vw a) (vlen (vw a) sec) snd)) (hr : vm r' = vfilm (vm r) n (vlen (vm r) sec) (vhas (vm r) (vlen (vm r) sec) snd)) (hf : r' 12 = if vhas (vm r) (vlen (vm r) sec) snd = true then r 12 + 1 else r 12) : RS B (n + 1) a' r' := by
  have vl := vlen_rg S.2.1 h1.1 h1.2 hl
  rw [← S.1] at hf
  refine rs_film S h24 hB vl.1 vl.2 (fun g => vhas_rg S.2.1 g) ha (by rw [hr, S.1]) hf
theorem r_723 {xs : Nat → Int32} {L : Nat} {X : SX → SM → (Nat → Int64) → Int32 → Prop} {sx : SX} {sm : SM} {out : Nat → Int64} {v4 : Int32} {B : Int} (hR : RR B sx sm) (hB : B < 900000) (h1 : vp_in (v4 + 1) L) (h2 : vp_in (v4 + 2) L) (hX : ∀ sx' sm' out', RR (B + 1) sx' sm' → X sx' sm' out' (v4 + 5)) : xp_L_law_723 xs L X sx sm out v4 := by
  obtain ⟨⟨n, S⟩, hT, hD, hK⟩ := hR
  have S' := S.mono (B' := B + 1) (by omega)
  have D' := hD.mono (B' := B + 1) (by omega)
  have K' := hK.mono (B' := B + 1) (by omega)
  have ms := S.ms
  have h24 := S.n24
  obtain ⟨c, o, hc, o14, er, eo, ea, hrow⟩ := hD
  unfold xp_L_law_723 xp_L_law_744 xp_L_law_771 xp_L_shoot xp_X4_shoot xp_X5_shoot xp_X5_shoot_32
  generalize xs (v4 + 1).toNatClampNeg = y
  generalize xs (v4 + 2).toNatClampNeg = x
  have go : ∀ b : Int32, (x = 0 → b = 0) → (¬ x = 0 → b = 1) → xp_L_law_744 (fun j => if j = (v4 + 1).toNatClampNeg then y else x) L X sx sm out v4 b y → True := fun _ _ _ _ => trivial
  refine ⟨h1, h2, ⟨fun gx => ?_, fun gx => ?_⟩⟩
  all_goals
    refine e_isLength ?_
    by_cases g : 1 ≤ y ∧ y ≤ 120
    · rw [if_pos g]
      refine ⟨fun _ => e_canFilm S.n0 h24 ?_, fun q => absurd q (by decide)⟩
      by_cases d : n < 24 ∧ (0 : Int32) < vw sx.1 0 12 - vw sx.1 0 7
      · rw [if_pos d]
        refine ⟨fun _ => e_remember er eo hc o14 (fun past' c' o' hp => e_film S.n0 d.1 (fun a' ha => ⟨h1, h2, ⟨fun gx' => ?_, fun gx' => ?_⟩⟩)), fun q => absurd q (by decide)⟩
        all_goals first
          | exact absurd gx gx'
          | exact absurd gx' gx
          | (refine m_inI (lo := 1) (hi := 120) rfl rfl ?_
             rw [if_pos g]
             refine ⟨fun _ => m_canShoot ms.n0 h24 ?_, fun q => absurd q (by decide)⟩
             rw [← S.1, if_pos d]
             refine ⟨fun q => absurd q (by decide), fun _ => m_ref0 ⟨fun _ => m_remember ea hc (fun d' c'' hm => m_shootOn ms.n0 d.1 ms.f12 (rg_mono (by omega) (by omega) (show rg 1 99 (vm sm.2.2.2.1 0 5) from ms.inv.2.2.1 5)) (fun r' hr hf => c_ok rfl (by rw [S.1]; exact uL0 (f := out)) (hX _ _ _ ⟨⟨n + 1, film_rs S' (by omega) d.1 g d.2 ha hr hf⟩, hT, (rd_step o14 hrow hp hm S).mono (by omega), K'⟩))), fun q => absurd rfl q⟩⟩)
      · rw [if_neg d]
        refine ⟨fun q => absurd rfl q, fun _ => Or.inr ⟨rfl, h1, h2, ⟨fun gx' => ?_, fun gx' => ?_⟩⟩⟩
        all_goals
          refine m_inI (lo := 1) (hi := 120) rfl rfl ?_
          rw [if_pos g]
          refine ⟨fun _ => m_canShoot ms.n0 h24 ?_, fun q => absurd q (by decide)⟩
          rw [← S.1, if_neg d]
          exact ⟨fun _ => m_ref2 ⟨fun q => absurd q (by decide), fun _ => c_th rfl (by decide) (hX _ _ _ ⟨⟨n, S'⟩, hT, D', K'⟩)⟩, fun q => absurd rfl q⟩
    · rw [if_neg g]
      refine ⟨fun q => absurd rfl q, fun _ => Or.inl ⟨rfl, h1, h2, ⟨fun gx' => ?_, fun gx' => ?_⟩⟩⟩
      all_goals
        refine m_inI (lo := 1) (hi := 120) rfl rfl ?_
        rw [if_neg g]
        exact ⟨fun q => absurd rfl q, fun _ => m_ref1 ⟨fun q => absurd q (by decide), fun _ => c_th rfl (by decide) (hX _ _ _ ⟨⟨n, S'⟩, hT, D', K'⟩)⟩⟩
theorem b01r {b : Int32} : rg 0 1 (if b = 0 then (0 : Int32) else 1) := by split <;> exact ⟨by decide, by decide⟩
theorem r_833 {xs : Nat → Int32} {L : Nat} {X : SX → SM → (Nat → Int64) → Int32 → Prop} {sx : SX} {sm : SM} {out : Nat → Int64} {v4 : Int32} {B : Int} (hR : RR B sx sm) (hB : B < 900000) (h1 : vp_in (v4 + 1) L) (h2 : vp_in (v4 + 2) L) (hX : ∀ sx' sm' out', RR (B + 1) sx' sm' → X sx' sm' out' (v4 + 5)) : xp_L_law_833 xs L X sx sm out v4 := by
  obtain ⟨⟨n, S⟩, hT, hD, hK⟩ := hR
  have S' := S.mono (B' := B + 1) (by omega)
  have D' := hD.mono (B' := B + 1) (by omega)
  have K' := hK.mono (B' := B + 1) (by omega)
  have ms := S.ms
  have h24 := S.n24
  obtain ⟨c, o, hc, o14, er, eo, ea, hrow⟩ := hD
  unfold xp_L_law_833 xp_L_law_854 xp_L_law_881 xp_L_circle xp_X4_circle xp_X5_circle xp_X5_circle_17
  generalize xs (v4 + 1).toNatClampNeg = y
  generalize xs (v4 + 2).toNatClampNeg = x
  refine ⟨h1, h2, ⟨fun gx => ?_, fun gx => ?_⟩⟩
  all_goals
    refine e_hasTake S.n0 h24 (fun i hi hy => ⟨fun _ => e_remember er eo hc o14 (fun past' c' o' hp => e_mark S.n0 h24 (w := 14) (by omega) (by omega) rfl (fun i' hi' hy' a' ha => ?_) (fun g => absurd ⟨(ix_nI (x := y) (by omega) hy).1, by rw [(ix_nI (x := y) (by omega) hy).2]; exact hi⟩ (ix_no h24 g))), fun q => absurd q (by decide)⟩) (fun g => ⟨fun q => absurd rfl q, fun _ => ⟨rfl, h1, h2, ⟨fun gx' => ?_, fun gx' => ?_⟩⟩⟩)
  all_goals first
    | (refine m_isTake ms.n0 h24 (fun i hi hy => absurd ⟨(ix_nI (x := y) (by omega) hy).1, by rw [(ix_nI (x := y) (by omega) hy).2]; exact hi⟩ (ix_no h24 g)) (fun _ => ⟨fun _ => m_ref1 ⟨fun q => absurd q (by decide), fun _ => c_th rfl (by decide) (hX _ _ _ ⟨⟨n, S'⟩, hT, D', K'⟩)⟩, fun q => absurd rfl q⟩))
    | (refine e_marked (n := n) (by rw [ha]; unfold aMark; rw [vu_n (by omega)]; exact S.n0) h24 (w := 14) (by omega) (by omega) rfl ⟨h1, h2, ⟨fun gx' => ?_, fun gx' => ?_⟩⟩
       all_goals first
         | exact absurd gx gx'
         | exact absurd gx' gx
         | (refine m_isTake ms.n0 h24 (fun _ _ _ => ⟨fun q => absurd q (by decide), fun _ => m_ref0 ⟨fun _ => m_remember ea hc (fun d' c'' hm => m_markOn (z := 13) (w := 14) ms.n0 h24 hi' hy' rfl rfl (Or.inl rfl) (fun r' hr hf => c_ok rfl (by rw [ha, S.1]; exact uL0 (f := out)) (hX _ _ _ ⟨⟨n, rs_mark (i := i') (w := 14) S' (Or.inl rfl) b01r ha hr hf⟩, hT, (rd_step o14 hrow hp hm S).mono (by omega), K'⟩))), fun q => absurd rfl q⟩⟩) (fun g => absurd ⟨(ix_nI (x := y) (by omega) hy').1, by rw [(ix_nI (x := y) (by omega) hy').2]; exact hi'⟩ (ix_no h24 g))))
theorem r_917 {xs : Nat → Int32} {L : Nat} {X : SX → SM → (Nat → Int64) → Int32 → Prop} {sx : SX} {sm : SM} {out : Nat → Int64} {v4 : Int32} {B : Int} (hR : RR B sx sm) (hB : B < 900000) (h1 : vp_in (v4 + 1) L) (h2 : vp_in (v4 + 2) L) (hX : ∀ sx' sm' out', RR (B + 1) sx' sm' → X sx' sm' out' (v4 + 5)) : xp_L_law_917 xs L X sx sm out v4 := by
  obtain ⟨⟨n, S⟩, hT, hD, hK⟩ := hR
  have S' := S.mono (B' := B + 1) (by omega)
  have D' := hD.mono (B' := B + 1) (by omega)
  have K' := hK.mono (B' := B + 1) (by omega)
  have ms := S.ms
  have h24 := S.n24
  obtain ⟨c, o, hc, o14, er, eo, ea, hrow⟩ := hD
  unfold xp_L_law_917 xp_L_law_938 xp_L_law_965 xp_L_falseStart xp_X4_falseStart xp_X5_falseStart xp_X5_falseStart_17
  generalize xs (v4 + 1).toNatClampNeg = y
  generalize xs (v4 + 2).toNatClampNeg = x
  refine ⟨h1, h2, ⟨fun gx => ?_, fun gx => ?_⟩⟩
  all_goals
    refine e_hasTake S.n0 h24 (fun i hi hy => ⟨fun _ => e_remember er eo hc o14 (fun past' c' o' hp => e_mark S.n0 h24 (w := 15) (by omega) (by omega) rfl (fun i' hi' hy' a' ha => ?_) (fun g => absurd ⟨(ix_nI (x := y) (by omega) hy).1, by rw [(ix_nI (x := y) (by omega) hy).2]; exact hi⟩ (ix_no h24 g))), fun q => absurd q (by decide)⟩) (fun g => ⟨fun q => absurd rfl q, fun _ => ⟨rfl, h1, h2, ⟨fun gx' => ?_, fun gx' => ?_⟩⟩⟩)
  all_goals first
    | (refine m_isTake ms.n0 h24 (fun i hi hy => absurd ⟨(ix_nI (x := y) (by omega) hy).1, by rw [(ix_nI (x := y) (by omega) hy).2]; exact hi⟩ (ix_no h24 g)) (fun _ => ⟨fun _ => m_ref1 ⟨fun q => absurd q (by decide), fun _ => c_th rfl (by decide) (hX _ _ _ ⟨⟨n, S'⟩, hT, D', K'⟩)⟩, fun q => absurd rfl q⟩))
    | (refine e_wrongSlates (n := n) (by rw [ha]; unfold aMark; rw [vu_n (by omega)]; exact S.n0) h24 ⟨h1, h2, ⟨fun gx' => ?_, fun gx' => ?_⟩⟩
       all_goals first
         | exact absurd gx gx'
         | exact absurd gx' gx
         | (refine m_isTake ms.n0 h24 (fun _ _ _ => ⟨fun q => absurd q (by decide), fun _ => m_ref0 ⟨fun _ => m_remember ea hc (fun d' c'' hm => m_markOn (z := 14) (w := 15) ms.n0 h24 hi' hy' rfl rfl (Or.inr rfl) (fun r' hr hf => c_ok rfl (by rw [ha, S.1]; exact uL0 (f := out)) (hX _ _ _ ⟨⟨n, rs_mark (i := i') (w := 15) S' (Or.inr rfl) b01r ha hr hf⟩, hT, (rd_step o14 hrow hp hm S).mono (by omega), K'⟩))), fun q => absurd rfl q⟩⟩) (fun g => absurd ⟨(ix_nI (x := y) (by omega) hy').1, by rw [(ix_nI (x := y) (by omega) hy').2]; exact hi'⟩ (ix_no h24 g))))
theorem r_1001 {xs : Nat → Int32} {L : Nat} {X : SX → SM → (Nat → Int64) → Int32 → Prop} {sx : SX} {sm : SM} {out : Nat → Int64} {v4 : Int32} {B : Int} (hR : RR B sx sm) (hB : B < 900000) (h1 : vp_in (v4 + 1) L) (hX : ∀ sx' sm' out', RR (B + 1) sx' sm' → X sx' sm' out' (v4 + 5)) : xp_L_law_1001 xs L X sx sm out v4 := by
  obtain ⟨⟨n, S⟩, hT, hD, hK⟩ := hR
  have S' := S.mono (B' := B + 1) (by omega)
  have D' := hD.mono (B' := B + 1) (by omega)
  have K' := hK.mono (B' := B + 1) (by omega)
  have ms := S.ms
  have h24 := S.n24
  obtain ⟨c, o, hc, o14, er, eo, ea, hrow⟩ := hD
  unfold xp_L_law_1001 xp_L_fix xp_X4_fix xp_X5_fix xp_X5_fix_17
  generalize xs (v4 + 1).toNatClampNeg = y
  refine ⟨h1, e_hasTake S.n0 h24 (fun i hi hy => ⟨fun _ => e_remember er eo hc o14 (fun past' c' o' hp => e_putRight S.n0 h24 (fun i' hi' hy' a' ha => ?_) (fun g => absurd ⟨(ix_nI (x := y) (by omega) hy).1, by rw [(ix_nI (x := y) (by omega) hy).2]; exact hi⟩ (ix_no h24 g))), fun q => absurd q (by decide)⟩) (fun g => ⟨fun q => absurd rfl q, fun _ => ⟨rfl, h1, ?_⟩⟩)⟩
  · by_cases hr0 : isr (vw sx.1) i' = true
    · rw [if_pos hr0]
      refine ⟨fun _ => ⟨h1, m_isTake ms.n0 h24 (fun _ _ _ => ⟨fun q => absurd q (by decide), fun _ => m_ref0 ⟨fun _ => m_remember ea hc (fun d' c'' hm => m_fixOn h24 hi' hy' (fun r' hr hf => c_ok rfl (by rw [← S.1, if_pos hr0]; exact uL0 (f := out)) (hX _ _ _ ⟨⟨n, rs_fix S' hi' ha hr hf⟩, hT, (rd_step o14 hrow hp hm S).mono (by omega), K'⟩))), fun q => absurd rfl q⟩⟩) (fun g => absurd ⟨(ix_nI (x := y) (by omega) hy').1, by rw [(ix_nI (x := y) (by omega) hy').2]; exact hi'⟩ (ix_no h24 g))⟩, fun q => absurd rfl q⟩
    · rw [if_neg hr0]
      refine ⟨fun q => absurd q (by decide), fun _ => ⟨h1, m_isTake ms.n0 h24 (fun _ _ _ => ⟨fun q => absurd q (by decide), fun _ => m_ref0 ⟨fun _ => m_remember ea hc (fun d' c'' hm => m_fixOn h24 hi' hy' (fun r' hr hf => c_ok rfl (by rw [← S.1, if_neg hr0]; exact uL0 (f := out)) (hX _ _ _ ⟨⟨n, rs_fix S' hi' ha hr hf⟩, hT, (rd_step o14 hrow hp hm S).mono (by omega), K'⟩))), fun q => absurd rfl q⟩⟩) (fun g => absurd ⟨(ix_nI (x := y) (by omega) hy').1, by rw [(ix_nI (x := y) (by omega) hy').2]; exact hi'⟩ (ix_no h24 g))⟩⟩
  · exact m_isTake ms.n0 h24 (fun i hi hy => absurd ⟨(ix_nI (x := y) (by omega) hy).1, by rw [(ix_nI (x := y) (by omega) hy).2]; exact hi⟩ (ix_no h24 g)) (fun _ => ⟨fun _ => m_ref1 ⟨fun q => absurd q (by decide), fun _ => c_th rfl (by decide) (hX _ _ _ ⟨⟨n, S'⟩, hT, D', K'⟩)⟩, fun q => absurd rfl q⟩)
theorem r_1057 {xs : Nat → Int32} {L : Nat} {X : SX → SM → (Nat → Int64) → Int32 → Prop} {sx : SX} {sm : SM} {out : Nat → Int64} {v4 : Int32} {B : Int} (hR : RR B sx sm) (hB : B < 900000) (h1 : vp_in (v4 + 1) L) (hX : ∀ sx' sm' out', RR (B + 1) sx' sm' → X sx' sm' out' (v4 + 5)) : xp_L_law_1057 xs L X sx sm out v4 := by
  obtain ⟨⟨n, S⟩, hT, hD, hK⟩ := hR
  have S' := S.mono (B' := B + 1) (by omega)
  have D' := hD.mono (B' := B + 1) (by omega)
  have K' := hK.mono (B' := B + 1) (by omega)
  obtain ⟨c, o, hc, o14, er, eo, ea, hrow⟩ := hD
  unfold xp_L_law_1057 xp_L_off xp_X4_off xp_X4_off_12 xp_X5_off xp_X5_off_20
  generalize xs (v4 + 1).toNatClampNeg = x
  refine ⟨h1, ?_⟩
  by_cases hx : (-99 : Int32) ≤ x ∧ x ≤ 99
  · refine ⟨fun q => absurd q (Int32.not_lt.mpr hx.1), fun _ => ⟨fun _ => e_remember er eo hc o14 (fun past' c' o' hp => e_setOff (fun a' ha => ⟨h1, m_inI (lo := -99) (hi := 99) rfl rfl ?_⟩)), fun q => absurd hx.2 q⟩⟩
    rw [if_pos hx]
    refine ⟨fun q => absurd q (by decide), fun _ => m_ref0 ⟨fun _ => m_remember ea hc (fun d' c'' hm => c_ok rfl (by rw [S.1, vm_h _ (by omega)]; exact uL0 (f := out)) (hX _ _ _ ⟨⟨n, rs_off S' ((i_le (L := -99) (H := 99) rfl rfl).mp hx) ha (w0 (by omega)) rfl⟩, hT, (rd_step o14 hrow hp hm S).mono (by omega), K'⟩)), fun q => absurd rfl q⟩⟩
  · refine ⟨fun q => ⟨rfl, h1, m_inI (lo := -99) (hi := 99) rfl rfl ?_⟩, fun q => ⟨fun q1 => absurd ⟨Int32.not_lt.mp q, q1⟩ hx, fun q1 => ⟨rfl, h1, m_inI (lo := -99) (hi := 99) rfl rfl ?_⟩⟩⟩
    all_goals
      rw [if_neg hx]
      exact ⟨fun _ => m_ref1 ⟨fun q => absurd q (by decide), fun _ => c_th rfl (by decide) (hX _ _ _ ⟨⟨n, S'⟩, hT, D', K'⟩)⟩, fun q => absurd rfl q⟩
theorem r_1181 {xs : Nat → Int32} {L : Nat} {X : SX → SM → (Nat → Int64) → Int32 → Prop} {sx : SX} {sm : SM} {out : Nat → Int64} {v4 : Int32} {B : Int} (hR : RR B sx sm) (hB : B < 900000) (hX : ∀ sx' sm' out', RR (B + 1) sx' sm' → X sx' sm' out' (v4 + 5)) : xp_L_law_1181 xs L X sx sm out v4 := by
  obtain ⟨⟨n, S⟩, hT, hD, hK⟩ := hR
  have S' := S.mono (B' := B + 1) (by omega)
  have D' := hD.mono (B' := B + 1) (by omega)
  have K' := hK.mono (B' := B + 1) (by omega)
  obtain ⟨c, o, hc, o14, er, eo, ea, hrow⟩ := hD
  unfold xp_L_law_1181 xp_L_undo xp_X4_undo xp_X5_undo xp_X5_undo_13
  rcases Nat.eq_zero_or_pos c with c0 | c0
  · subst c0
    refine ⟨fun q => absurd er q, fun _ => ⟨rfl, ⟨fun q => absurd ea q, fun _ => m_ref1 ⟨fun q => absurd q (by decide), fun _ => c_th rfl (by decide) (hX _ _ _ ⟨⟨n, S'⟩, hT, D', K'⟩)⟩⟩⟩⟩
  · obtain ⟨e, rfl⟩ : ∃ e, c = e + 1 := ⟨c - 1, by omega⟩
    rw [er, eo, ea, nI_pred, nI_add, rem14 _ (by omega), show (377 : Int32) = nI 377 from rfl, pk_mul]
    obtain ⟨m, hm⟩ := hrow e (by omega)
    refine ⟨fun _ => e_fetch (P := 14) (s := (o + e) % 14) rfl (Nat.mod_lt _ (by omega)) (by omega) rfl (fun a' ha => ?_), fun q => absurd q (nI_ne0 (by omega) (by omega))⟩
    refine ⟨fun _ => m_ref0 ⟨fun _ => m_copy (p := 377 * e) (q := 0) rfl rfl (by omega) (by omega) (by omega) (by omega) (fun r' h1 h2 => c_ok rfl (uL0 (f := out)) (hX _ _ _ ⟨⟨m, rs_copy (hm.mono (B' := B + 1) (by omega)) ha (fun j hj => by have := h1 j hj; rw [Nat.zero_add] at this; exact this)⟩, hT, ⟨e, o, by omega, o14, rfl, rfl, rfl, fun j hj => ?_⟩, K'⟩)), fun q => absurd rfl q⟩, fun q => absurd q (nI_ne0 (by omega) (by omega))⟩
    obtain ⟨m', hm'⟩ := hrow j (by omega)
    exact ⟨m', hm'.mono (by omega)⟩
