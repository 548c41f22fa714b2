/-! ===== the law's cases: questions of the takes ===== -/
theorem i_le {lo hi x : Int32} {L H : Int} (e1 : lo.toInt = L) (e2 : hi.toInt = H) : (lo ≤ x ∧ x ≤ hi) ↔ rg L H x := by
  rw [Int32.le_iff_toInt_le, Int32.le_iff_toInt_le, e1, e2]; exact Iff.rfl
theorem r_314 {xs : Nat → Int32} {L : Nat} {X : SX → SM → (Nat → Int64) → Int32 → Prop} {sx : SX} {sm : SM} {out : Nat → Int64} {v4 : Int32} {B : Int} (hR : RR B sx sm) (hB : B < 900000) (h1 : vp_in (v4 + 1) L) (hX : ∀ sx' sm' out', RR (B + 1) sx' sm' → X sx' sm' out' (v4 + 5)) : xp_L_law_314 xs L X sx sm out v4 := by
  obtain ⟨⟨n, S⟩, hT, hD, hK⟩ := hR
  have S' := S.mono (B' := B + 1) (by omega)
  have D' := hD.mono (B' := B + 1) (by omega)
  have K' := hK.mono (B' := B + 1) (by omega)
  have ms := S.ms
  have h24 := S.n24
  unfold xp_L_law_314 xp_L_about xp_X4_about xp_X4_about_10 xp_X5_about xp_X5_about_18
  generalize xs (v4 + 1).toNatClampNeg = x
  refine ⟨h1, ?_⟩
  have z : (0 : Int32).toInt = 0 := rfl
  have o : (16 : Int32).toInt = 16 := rfl
  by_cases hx : 0 ≤ x ∧ x ≤ 16
  · obtain ⟨e, hb⟩ := rg_nv ((i_le z o).mp hx)
    generalize x.toNatClampNeg = w at *
    have hw : w ≤ 16 := by omega
    refine ⟨fun c => absurd c (Int32.not_lt.mpr hx.1), fun _ => ⟨fun _ => e_total S.n0 h24 hw e ⟨h1, m_inI (lo := 0) (hi := 16) rfl rfl ?_⟩, fun c => absurd hx.2 c⟩⟩
    rw [if_pos hx]
    refine ⟨fun q => absurd q (by decide), fun _ => m_ref0 ⟨fun _ => ⟨fun c => ?_, fun c => ⟨fun c1 => ?_, fun c1 => ⟨fun c2 => ?_, fun c2 => ⟨fun c3 => ?_, fun c3 => ⟨fun c4 => ?_, fun c4 => ?_⟩⟩⟩⟩⟩, fun q => absurd rfl q⟩⟩
    · have e12 : w = 12 := nI_inj (b := 12) (by omega) (by omega) (e.symm.trans c)
      refine m_wrong ms.n0 h24 (c_ok rfl ((uL0 (f := out)).trans ?_) (hX _ _ _ ⟨⟨n, S'⟩, hT, D', K'⟩))
      rw [S.1]; unfold vtotal; rw [if_pos e12]
    · have e13 : w = 13 := nI_inj (b := 13) (by omega) (by omega) (e.symm.trans c1)
      refine m_sum ms.n0 h24 (w := 14) (z := 13) (by omega) (by omega) rfl rfl (c_ok rfl ((uL0 (f := out)).trans ?_) (hX _ _ _ ⟨⟨n, S'⟩, hT, D', K'⟩))
      rw [S.1]; unfold vtotal; rw [if_neg (by omega), if_pos e13]
    · have e14 : w = 14 := nI_inj (b := 14) (by omega) (by omega) (e.symm.trans c2)
      refine m_circledSeconds ms.n0 h24 (c_ok rfl ((uL0 (f := out)).trans ?_) (hX _ _ _ ⟨⟨n, S'⟩, hT, D', K'⟩))
      rw [S.1]; unfold vtotal; rw [if_neg (by omega), if_neg (by omega), if_pos e14]
    · have e15 : w = 15 := nI_inj (b := 15) (by omega) (by omega) (e.symm.trans c3)
      refine m_sum ms.n0 h24 (w := 15) (z := 14) (by omega) (by omega) rfl rfl (c_ok rfl ((uL0 (f := out)).trans ?_) (hX _ _ _ ⟨⟨n, S'⟩, hT, D', K'⟩))
      rw [S.1]; unfold vtotal; rw [if_neg (by omega), if_neg (by omega), if_neg (by omega), if_pos e15]
    · have e16 : w = 16 := nI_inj (b := 16) (by omega) (by omega) (e.symm.trans c4)
      refine m_astray ms.n0 h24 ms.inv.okO (c_ok rfl ((uL0 (f := out)).trans ?_) (hX _ _ _ ⟨⟨n, S'⟩, hT, D', K'⟩))
      rw [S.1]; unfold vtotal; rw [if_neg (by omega), if_neg (by omega), if_neg (by omega), if_neg (by omega), if_pos e16]
    · have w12 : w ≠ 12 := fun q => c (by rw [e, q]; rfl)
      have w13 : w ≠ 13 := fun q => c1 (by rw [e, q]; rfl)
      have w14 : w ≠ 14 := fun q => c2 (by rw [e, q]; rfl)
      have w15 : w ≠ 15 := fun q => c3 (by rw [e, q]; rfl)
      have w16 : w ≠ 16 := fun q => c4 (by rw [e, q]; rfl)
      rw [e]
      refine ⟨vp_in_nI (by omega) (by omega), c_ok rfl ((uL0 (f := out)).trans ?_) (hX _ _ _ ⟨⟨n, S'⟩, hT, D', K'⟩)⟩
      unfold vtotal
      rw [if_neg w12, if_neg w13, if_neg w14, if_neg w15, if_neg w16, S.1, vm_h _ (by omega)]
  · refine ⟨fun c => ⟨rfl, h1, m_inI (lo := 0) (hi := 16) rfl rfl ?_⟩, fun c => ⟨fun c1 => absurd ⟨Int32.not_lt.mp c, c1⟩ hx, fun c1 => ⟨rfl, h1, m_inI (lo := 0) (hi := 16) rfl rfl ?_⟩⟩⟩
    all_goals
      rw [if_neg hx]
      exact ⟨fun _ => m_ref1 ⟨fun q => absurd q (by decide), fun _ => c_th rfl (by decide) (hX _ _ _ ⟨⟨n, S'⟩, hT, D', K'⟩)⟩, fun q => absurd rfl q⟩
theorem r_370 {xs : Nat → Int32} {L : Nat} {X : SX → SM → (Nat → Int64) → Int32 → Prop} {sx : SX} {sm : SM} {out : Nat → Int64} {v4 : Int32} {B : Int} (hR : RR B sx sm) (hB : B < 900000) (h1 : vp_in (v4 + 1) L) (h2 : vp_in (v4 + 2) L) (hX : ∀ sx' sm' out', RR (B + 1) sx' sm' → X sx' sm' out' (v4 + 5)) : xp_L_law_370 xs L X sx sm out v4 := by
  obtain ⟨⟨n, S⟩, hT, hD, hK⟩ := hR
  have S' := S.mono (B' := B + 1) (by omega)
  have D' := hD.mono (B' := B + 1) (by omega)
  have K' := hK.mono (B' := B + 1) (by omega)
  have ms := S.ms
  have h24 := S.n24
  unfold xp_L_law_370 xp_L_take xp_X4_take xp_X4_take_31 xp_X5_take xp_X5_take_33
  generalize xs (v4 + 1).toNatClampNeg = y
  generalize xs (v4 + 2).toNatClampNeg = x
  have z : (0 : Int32).toInt = 0 := rfl
  have o : (16 : Int32).toInt = 16 := rfl
  refine ⟨h1, h2, e_hasTake S.n0 h24 (fun i hi hy => ⟨fun _ => ?_, fun q => absurd q (by decide)⟩) (fun g => ⟨fun q => absurd rfl q, fun _ => Or.inl ⟨rfl, h1, h2, m_isTake ms.n0 h24 (fun i hi hy => ?_) (fun _ => ⟨fun q => absurd rfl q, fun _ => m_ref1 ⟨fun q => absurd q (by decide), fun _ => c_th rfl (by decide) (hX _ _ _ ⟨⟨n, S'⟩, hT, D', K'⟩)⟩⟩)⟩⟩)⟩
  · by_cases hx : 0 ≤ x ∧ x ≤ 16
    · obtain ⟨e, hb⟩ := rg_nv ((i_le z o).mp hx)
      generalize x.toNatClampNeg = w at *
      have hw : w ≤ 16 := by omega
      refine ⟨fun c => absurd c (Int32.not_lt.mpr hx.1), fun _ => ⟨fun _ => e_told (by omega) hw hy e ⟨h1, h2, m_isTake ms.n0 h24 (fun i' hi' hy' => ⟨fun _ => m_inI (lo := 0) (hi := 16) rfl rfl ?_, fun q => absurd q (by decide)⟩) (fun g => absurd g ?_)⟩, fun c => absurd hx.2 c⟩⟩
      · rw [if_pos hx]
        refine ⟨fun q => absurd q (by decide), fun _ => m_ref0 ⟨fun _ => ⟨fun c => ⟨fun c1 => ⟨fun c2 => ?_, fun c2 => ?_⟩, fun c1 => ?_⟩, fun c => ?_⟩, fun q => absurd rfl q⟩⟩
        · have w2 : w ≠ 2 := fun q => c (by rw [e, q]; rfl)
          have w16 : w ≠ 16 := fun q => c1 (by rw [e, q]; rfl)
          rw [e] at c2
          have wge : 2 ≤ w := (nI_leI (a := 2) (by decide) (by omega)).mp c2
          have em : x - 1 = nI (w - 1) := by rw [e, show (1 : Int32) = nI 1 from rfl, pk_sub (by omega)]
          refine m_of (i := i) (w := w) (z := w - 1) (by omega) (by omega) w2 hy em (by rw [if_neg (by omega)]) (c_ok rfl ((uL0 (f := out)).trans ?_) (hX _ _ _ ⟨⟨n, S'⟩, hT, D', K'⟩))
          unfold vtold; rw [if_neg w2, if_neg w16, S.1]
        · have w2 : w ≠ 2 := fun q => c (by rw [e, q]; rfl)
          have w16 : w ≠ 16 := fun q => c1 (by rw [e, q]; rfl)
          have wlt : w < 2 := by
            rcases Nat.lt_or_ge w 2 with q | q
            · exact q
            · exact absurd (by rw [e]; exact nI_le (a := 2) q (by omega)) c2
          refine m_of (i := i) (w := w) (z := w) (by omega) (by omega) w2 hy e (by rw [if_pos wlt]) (c_ok rfl ((uL0 (f := out)).trans ?_) (hX _ _ _ ⟨⟨n, S'⟩, hT, D', K'⟩))
          unfold vtold; rw [if_neg w2, if_neg w16, S.1]
        · have w16 : w = 16 := nI_inj (b := 16) (by omega) (by omega) (e.symm.trans c1)
          have ev : vtold (vw sx.1) i w = if isr (vm sm.2.2.2.1) i = true then 1 else 0 := by unfold vtold; rw [if_neg (by omega), if_pos w16, S.1]
          refine m_isRight (i := i) (by omega) hy ?_
          by_cases hr : isr (vm sm.2.2.2.1) i = true
          · rw [if_pos hr] at ev ⊢
            exact ⟨fun q => absurd q (by decide), fun _ => c_ok rfl ((uL0 (f := out)).trans (by rw [ev])) (hX _ _ _ ⟨⟨n, S'⟩, hT, D', K'⟩)⟩
          · rw [if_neg hr] at ev ⊢
            exact ⟨fun _ => c_ok rfl ((uL0 (f := out)).trans (by rw [ev])) (hX _ _ _ ⟨⟨n, S'⟩, hT, D', K'⟩), fun q => absurd rfl q⟩
        · have w2 : w = 2 := nI_inj (b := 2) (by omega) (by omega) (e.symm.trans c)
          refine m_numberOf (i := i) (by omega) hy (c_ok rfl ((uL0 (f := out)).trans ?_) (hX _ _ _ ⟨⟨n, S'⟩, hT, D', K'⟩))
          unfold vtold; rw [if_pos w2, S.1]
      · have q := ix_nI (x := y) (by omega) hy
        exact fun g => ix_no h24 g ⟨q.1, by rw [q.2]; exact hi⟩
    · refine ⟨fun c => Or.inr ⟨rfl, h1, h2, m_isTake ms.n0 h24 (fun i' hi' hy' => ⟨fun _ => m_inI (lo := 0) (hi := 16) rfl rfl ?_, fun q => absurd q (by decide)⟩) (fun g => absurd g ?_)⟩, fun c => ⟨fun c1 => absurd ⟨Int32.not_lt.mp c, c1⟩ hx, fun c1 => Or.inr ⟨rfl, h1, h2, m_isTake ms.n0 h24 (fun i' hi' hy' => ⟨fun _ => m_inI (lo := 0) (hi := 16) rfl rfl ?_, fun q => absurd q (by decide)⟩) (fun g => absurd g ?_)⟩⟩⟩
      · rw [if_neg hx]
        exact ⟨fun _ => m_ref2 ⟨fun q => absurd q (by decide), fun _ => c_th rfl (by decide) (hX _ _ _ ⟨⟨n, S'⟩, hT, D', K'⟩)⟩, fun q => absurd rfl q⟩
      · have q := ix_nI (x := y) (by omega) hy
        exact fun g => ix_no h24 g ⟨q.1, by rw [q.2]; exact hi⟩
      · rw [if_neg hx]
        exact ⟨fun _ => m_ref2 ⟨fun q => absurd q (by decide), fun _ => c_th rfl (by decide) (hX _ _ _ ⟨⟨n, S'⟩, hT, D', K'⟩)⟩, fun q => absurd rfl q⟩
      · have q := ix_nI (x := y) (by omega) hy
        exact fun g => ix_no h24 g ⟨q.1, by rw [q.2]; exact hi⟩
  · have q := ix_nI (x := y) (by omega) hy
    exact absurd ⟨q.1, by rw [q.2]; exact hi⟩ (ix_no h24 g)
