/-! ===== the law's cases: what is found ===== -/
theorem r_1302 {xs : Nat → Int32} {L : Nat} {X : SX → SM → (Nat → Int64) → Int32 → Prop} {sx : SX} {sm : SM} {out : Nat → Int64} {v4 : Int32} {B : Int} (hR : RR B sx sm) (hB : B < 900000) (h1 : vp_in (v4 + 1) L) (h2 : vp_in (v4 + 2) L) (hX : ∀ sx' sm' out', RR (B + 1) sx' sm' → X sx' sm' out' (v4 + 5)) : xp_L_law_1302 xs L X sx sm out v4 := by
  obtain ⟨⟨n, S⟩, hT, hD, hK⟩ := hR
  exact ⟨h1, h2, e_atCamera S.n0 S.n24 ⟨h1, h2, m_atCamera S.ms (c_eq (by rw [S.1]) (hX _ _ _ ⟨⟨n, S.mono (by omega)⟩, hT, hD.mono (by omega), hK.mono (by omega)⟩))⟩⟩
theorem r_1339 {xs : Nat → Int32} {L : Nat} {X : SX → SM → (Nat → Int64) → Int32 → Prop} {sx : SX} {sm : SM} {out : Nat → Int64} {v4 : Int32} {B : Int} (hR : RR B sx sm) (hB : B < 900000) (h1 : vp_in (v4 + 1) L) (h2 : vp_in (v4 + 2) L) (hX : ∀ sx' sm' out', RR (B + 1) sx' sm' → X sx' sm' out' (v4 + 5)) : xp_L_law_1339 xs L X sx sm out v4 := by
  obtain ⟨⟨n, S⟩, hT, hD, hK⟩ := hR
  exact ⟨h1, h2, e_atSound S.n0 S.n24 ⟨h1, h2, m_atSound S.ms (c_eq (by rw [S.1]) (hX _ _ _ ⟨⟨n, S.mono (by omega)⟩, hT, hD.mono (by omega), hK.mono (by omega)⟩))⟩⟩
theorem r_1376 {xs : Nat → Int32} {L : Nat} {X : SX → SM → (Nat → Int64) → Int32 → Prop} {sx : SX} {sm : SM} {out : Nat → Int64} {v4 : Int32} {B : Int} (hR : RR B sx sm) (hB : B < 900000) (h1 : vp_in (v4 + 1) L) (hX : ∀ sx' sm' out', RR (B + 1) sx' sm' → X sx' sm' out' (v4 + 5)) : xp_L_law_1376 xs L X sx sm out v4 := by
  obtain ⟨⟨n, S⟩, hT, hD, hK⟩ := hR
  exact ⟨h1, e_atTime S.n0 S.n24 ⟨h1, m_atTime S.ms (c_eq (by rw [S.1]) (hX _ _ _ ⟨⟨n, S.mono (by omega)⟩, hT, hD.mono (by omega), hK.mono (by omega)⟩))⟩⟩
theorem r_1401 {xs : Nat → Int32} {L : Nat} {X : SX → SM → (Nat → Int64) → Int32 → Prop} {sx : SX} {sm : SM} {out : Nat → Int64} {v4 : Int32} {B : Int} (hR : RR B sx sm) (hB : B < 900000) (h1 : vp_in (v4 + 1) L) (h2 : vp_in (v4 + 2) L) (hX : ∀ sx' sm' out', RR (B + 1) sx' sm' → X sx' sm' out' (v4 + 5)) : xp_L_law_1401 xs L X sx sm out v4 := by
  obtain ⟨⟨n, S⟩, hT, hD, hK⟩ := hR
  exact ⟨h1, h2, e_byFile S.n0 S.n24 ⟨h1, h2, m_byFile S.ms (c_eq (by rw [S.1]) (hX _ _ _ ⟨⟨n, S.mono (by omega)⟩, hT, hD.mono (by omega), hK.mono (by omega)⟩))⟩⟩
theorem r_1225 {xs : Nat → Int32} {L : Nat} {X : SX → SM → (Nat → Int64) → Int32 → Prop} {sx : SX} {sm : SM} {out : Nat → Int64} {v4 : Int32} {B : Int} (hR : RR B sx sm) (hB : B < 900000) (h1 : vp_in (v4 + 1) L) (h2 : vp_in (v4 + 2) L) (h3 : vp_in (v4 + 3) L) (h4 : vp_in (v4 + 4) L) (hX : ∀ sx' sm' out', RR (B + 1) sx' sm' → X sx' sm' out' (v4 + 5)) : xp_L_law_1225 xs L X sx sm out v4 := by
  obtain ⟨⟨n, S⟩, hT, hD, hK⟩ := hR
  have ms := S.ms
  unfold xp_L_law_1225 xp_L_law_1258 xp_L_law_1294 xp_X4_find
  generalize xs (v4 + 4).toNatClampNeg = b
  refine ⟨h1, h2, h3, h4, ⟨fun gx => ⟨fun _ => e_meantSo S.n0 S.n24 ⟨h1, h2, h3, h4, ⟨fun _ => m_find ms.n0 ms.n24 (fun _ => c_eq (by rw [S.1]) (hX _ _ _ ⟨⟨n, S.mono (by omega)⟩, hT, hD.mono (by omega), hK.mono (by omega)⟩)) (fun q => absurd rfl q), fun q => absurd gx q⟩⟩, fun q => absurd rfl q⟩, fun gx => ⟨fun q => absurd q (by decide), fun _ => e_saidSo S.n0 S.n24 ⟨h1, h2, h3, h4, ⟨fun q => absurd q gx, fun _ => m_find ms.n0 ms.n24 (fun q => absurd q (by decide)) (fun _ => c_eq (by rw [S.1]) (hX _ _ _ ⟨⟨n, S.mono (by omega)⟩, hT, hD.mono (by omega), hK.mono (by omega)⟩))⟩⟩⟩⟩⟩
theorem r_1438 {xs : Nat → Int32} {L : Nat} {X : SX → SM → (Nat → Int64) → Int32 → Prop} {sx : SX} {sm : SM} {out : Nat → Int64} {v4 : Int32} {B : Int} (hR : RR B sx sm) (hB : B < 900000) (h1 : vp_in (v4 + 1) L) (hX : ∀ sx' sm' out', RR (B + 1) sx' sm' → X sx' sm' out' (v4 + 5)) : xp_L_law_1438 xs L X sx sm out v4 := by
  obtain ⟨⟨n, S⟩, hT, hD, hK⟩ := hR
  have S' := S.mono (B' := B + 1) (by omega)
  have D' := hD.mono (B' := B + 1) (by omega)
  have K' := hK.mono (B' := B + 1) (by omega)
  have ms := S.ms
  have h24 := S.n24
  unfold xp_L_law_1438 xp_L_synced xp_X4_synced xp_X5_synced xp_X5_synced_17
  generalize xs (v4 + 1).toNatClampNeg = y
  refine ⟨h1, e_hasTake S.n0 h24 (fun i hi hy => ⟨fun _ => e_soundFor S.n0 h24 (i := i) (by omega) hy ⟨h1, ?_⟩, fun q => absurd q (by decide)⟩) (fun g => ⟨fun q => absurd rfl q, fun _ => ⟨rfl, h1, ?_⟩⟩)⟩
  · exact m_isTake ms.n0 h24 (fun _ _ _ => ⟨fun q => absurd q (by decide), fun _ => m_ref0 ⟨fun _ => m_syncedBy ms.n0 h24 (i := i) (by omega) hy ⟨by decide, by decide⟩ (ms.inv.okO i hi) (c_ok rfl (by rw [S.1]; exact uL0 (f := out)) (hX _ _ _ ⟨⟨n, S'⟩, hT, D', K'⟩)), fun q => absurd rfl q⟩⟩) (fun g => absurd ⟨(ix_nI (x := y) (by omega) hy).1, by rw [(ix_nI (x := y) (by omega) hy).2]; exact hi⟩ (ix_no h24 g))
  · exact m_isTake ms.n0 h24 (fun i hi hy => absurd ⟨(ix_nI (x := y) (by omega) hy).1, by rw [(ix_nI (x := y) (by omega) hy).2]; exact hi⟩ (ix_no h24 g)) (fun _ => ⟨fun _ => m_ref1 ⟨fun q => absurd q (by decide), fun _ => c_th rfl (by decide) (hX _ _ _ ⟨⟨n, S'⟩, hT, D', K'⟩)⟩, fun q => absurd rfl q⟩)
/-! ===== the best shift ===== -/
def shf (j : Nat) : Int32 := if (j + 2) % 2 = 0 then -(nI ((j + 2) / 2)) else nI ((j + 2) / 2)
def bsf (V : Nat → Nat → Int32) (n : Nat) : Nat → Int32 × Int32
  | 0 => (0, nI (kep V n 0 n))
  | j + 1 => if nI (kep V n (shf j) n) ≤ (bsf V n j).2 then bsf V n j else (shf j, nI (kep V n (shf j) n))
theorem e_bestShift {a : Nat → Int32} {n : Nat} {K : Int32 → Prop} (hn : vw a 0 0 = nI n) (h24 : n ≤ 24) (k : K (bsf (vw a) n 198).1) : xp_X4_bestShift a K := by
  unfold xp_X4_bestShift
  refine e_keptSounds hn h24 ⟨198 + 1, ?_⟩
  have key : ∀ d j, j + d = 198 → xp_X4_bestShift_13 a K (d + 1) (bsf (vw a) n j).1 (bsf (vw a) n j).2 (nI (j + 2)) := by
    intro d
    induction d with
    | zero =>
      intro j hj
      have : j = 198 := by omega
      subst this
      rw [xp_X4_bestShift_13]
      exact ⟨fun _ => k, fun c => absurd (nI_lt (a := 199) (b := 198 + 2) (by omega) (by omega)) c⟩
    | succ d ih =>
      intro j hj
      rw [xp_X4_bestShift_13]
      have h := ih (j + 1) (by omega)
      have e2 : nI (j + 2) / 2 = nI ((j + 2) / 2) := by rw [show (2 : Int32) = nI 2 from rfl, pk_div (by omega) (by omega) (by omega)]
      have e3 : nI (j + 2) - nI (j + 2) / 2 * 2 = nI ((j + 2) % 2) := by rw [show (2 : Int32) = nI 2 from rfl, pk_rem (by omega) (by omega) (by omega)]
      have go : ∀ t, t = shf j → xp_X4_bestShift_36 a K (fun v1 v2 v3 => xp_X4_bestShift_13 a K (d + 1) v1 v2 v3) (bsf (vw a) n j).1 (bsf (vw a) n j).2 (nI (j + 2)) t := by
        intro t ht
        subst ht
        unfold xp_X4_bestShift_36
        refine e_keptSounds hn h24 ⟨fun c => ?_, fun c => ?_⟩
        · simp only [bsf] at h
          rw [if_pos c] at h
          rw [nI_1]; exact h
        · simp only [bsf] at h
          rw [if_neg c] at h
          rw [nI_1]; exact h
      rw [e3, e2]
      refine ⟨fun c => absurd c (nI_nlt (a := 199) (by omega) (by omega)), fun _ => ⟨fun c => go _ ?_, fun c => go _ ?_⟩⟩
      · unfold shf; rw [if_neg (fun q => c (by rw [q]; rfl))]
      · unfold shf; rw [if_pos (nI_inj (b := 0) (by omega) (by omega) c)]
  exact key 198 0 (by omega)
theorem neg_rg {k : Nat} (hk : k ≤ 99) : rg (-100) 100 (-(nI k)) ∧ -(nI k) + nI (2 * k) = nI k := by
  have e : (-(nI k)).toInt = -(k : Int) := by
    rw [show -(nI k) = 0 - nI k from (Int32.zero_sub _).symm, i_sub (by rw [nI_toInt (by omega)]; show _ ≤ (0 : Int) - _; omega) (by rw [nI_toInt (by omega)]; show (0 : Int) - _ < _; omega), nI_toInt (by omega)]
    show (0 : Int) - k = -k
    omega
  refine ⟨?_, ?_⟩
  · unfold rg; rw [e]; omega
  · rw [← Int32.toInt_inj, i_add (by rw [e, nI_toInt (by omega)]; omega) (by rw [e, nI_toInt (by omega)]; omega), e, nI_toInt (by omega), nI_toInt (by omega)]
    omega
theorem m_bestShift {B : Int} {r : Nat → Int32} {n : Nat} {rf : Int32} {K : Int32 → Int32 → Prop} (h : MS B n r) (k : K (bsf (vm r) n 198).1 0) : xp_X5_bestShift r rf K := by
  have hn := h.n0
  have h24 := h.n24
  have ho := h.inv.okO
  unfold xp_X5_bestShift
  refine m_own hn h24 ⟨by decide, by decide⟩ ho ⟨99 + 1, ?_⟩
  have key : ∀ d j, j + d = 99 → xp_X5_bestShift_18 r K (d + 1) 0 (bsf (vm r) n (2 * j)).1 (bsf (vm r) n (2 * j)).2 (nI (j + 1)) := by
    intro d
    induction d with
    | zero =>
      intro j hj
      have : j = 99 := by omega
      subst this
      rw [xp_X5_bestShift_18]
      exact ⟨fun _ => k, fun c => absurd (nI_lt (a := 99) (b := 99 + 1) (by omega) (by omega)) c⟩
    | succ d ih =>
      intro j hj
      have hh := ih (j + 1) (by omega)
      rw [xp_X5_bestShift_18]
      obtain ⟨nr, na⟩ := neg_rg (k := j + 1) (by omega)
      refine ⟨fun c => absurd c (nI_nlt (a := 99) (by omega) (by omega)), fun _ => ⟨2 + 1, ?_⟩⟩
      have step : ∀ (X18 : Int32 → Int32 → Int32 → Int32 → Prop) (X28 : Int32 → Int32 → Int32 → Int32 → Int32 → Prop) (i : Nat) (t : Int32), t = shf i → X28 0 (bsf (vm r) n (i + 1)).1 (bsf (vm r) n (i + 1)).2 (nI (j + 1)) (t + 2 * nI (j + 1)) → rg (-100) 100 t →
          xp_X5_own r t (fun r2 => ((r2 ≤ (bsf (vm r) n i).2 → xp_X5_bestShift_57 r K X18 X28 0 (bsf (vm r) n i).2 (nI (j + 1)) t r2 (bsf (vm r) n i).1) ∧ (¬ r2 ≤ (bsf (vm r) n i).2 → xp_X5_bestShift_57 r K X18 X28 0 (bsf (vm r) n i).2 (nI (j + 1)) t r2 t))) := by
        intro X18 X28 i t ht hx hr
        subst ht
        refine m_own hn h24 hr ho ?_
        unfold xp_X5_bestShift_57 xp_X5_bestShift_70
        simp only [bsf] at hx
        refine ⟨fun c => ?_, fun c => ?_⟩
        · rw [if_pos c] at hx
          exact ⟨fun _ => hx, fun q => absurd c q⟩
        · rw [if_neg c] at hx
          exact ⟨fun q => absurd q c, fun _ => hx⟩
      have e2 : (2 : Int32) * nI (j + 1) = nI (2 * (j + 1)) := by rw [show (2 : Int32) = nI 2 from rfl, pk_mul]
      have s0 : -(nI (j + 1)) = shf (2 * j) := by
        unfold shf
        rw [if_pos (by omega), show (2 * j + 2) / 2 = j + 1 by omega]
      have s1 : nI (j + 1) = shf (2 * j + 1) := by
        unfold shf
        rw [if_neg (by omega), show (2 * j + 1 + 2) / 2 = j + 1 by omega]
      rw [xp_X5_bestShift_28]
      refine ⟨fun c => ?_, fun _ => step _ _ (2 * j) _ s0 ?_ nr⟩
      · exfalso
        have n1 : ¬ nI (j + 1) < -(nI (j + 1)) := by
          rw [Int32.lt_iff_toInt_lt, nI_toInt (by omega), show -(nI (j + 1)) = 0 - nI (j + 1) from (Int32.zero_sub _).symm, i_sub (by rw [nI_toInt (by omega)]; show _ ≤ (0 : Int) - _; omega) (by rw [nI_toInt (by omega)]; show (0 : Int) - _ < _; omega), nI_toInt (by omega)]
          show ¬ _ < (0 : Int) - _
          omega
        exact n1 c
      rw [e2, na]
      show xp_X5_bestShift_28 r K _ 2 _ _ _ _ _
      rw [xp_X5_bestShift_28]
      refine ⟨fun c => absurd c (nI_nlt (Nat.le_refl _) (by omega)), fun _ => step _ _ (2 * j + 1) _ s1 ?_ ⟨by rw [nI_toInt (by omega)]; omega, by rw [nI_toInt (by omega)]; omega⟩⟩
      rw [e2, nI_add]
      show xp_X5_bestShift_28 r K _ 1 _ _ _ _ _
      rw [xp_X5_bestShift_28]
      refine ⟨fun _ => ?_, fun c => absurd (nI_lt (by omega) (by omega)) c⟩
      rw [nI_1]
      exact hh
  exact key 99 0 (by omega)
theorem r_1494 {xs : Nat → Int32} {L : Nat} {X : SX → SM → (Nat → Int64) → Int32 → Prop} {sx : SX} {sm : SM} {out : Nat → Int64} {v4 : Int32} {B : Int} (hR : RR B sx sm) (hB : B < 900000) (hX : ∀ sx' sm' out', RR (B + 1) sx' sm' → X sx' sm' out' (v4 + 5)) : xp_L_law_1494 xs L X sx sm out v4 := by
  obtain ⟨⟨n, S⟩, hT, hD, hK⟩ := hR
  exact e_bestShift S.n0 S.n24 (m_bestShift S.ms (c_eq (by rw [S.1]) (hX _ _ _ ⟨⟨n, S.mono (by omega)⟩, hT, hD.mono (by omega), hK.mono (by omega)⟩)))
