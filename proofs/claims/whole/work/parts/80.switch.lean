/-! ===== the law's switch ===== -/
theorem RR.mono {B B' : Int} {sx : SX} {sm : SM} (hB : B ≤ B') (h : RR B sx sm) : RR B' sx sm := by
  obtain ⟨⟨n, S⟩, hT, hD, hK⟩ := h
  exact ⟨⟨n, S.mono hB⟩, hT, hD.mono hB, hK.mono hB⟩
theorem r_23 {xs : Nat → Int32} {L t : Nat} {X : SX → SM → (Nat → Int64) → Int32 → Prop} {sx : SX} {sm : SM} {out : Nat → Int64} {B : Int} (hL : L ≤ 2560) (ht : t ≤ 600) (hR : RR B sx sm) (hB : B < 900000) (hB2 : 121 ≤ B) (hX : 5 * t + 5 ≤ L → ∀ sx' sm' out', RR (B + 1) sx' sm' → X sx' sm' out' (nI (5 * (t + 1)))) : xp_L_law_23 xs L X sx sm out (nI (5 * t)) := by
  unfold xp_L_law_23
  refine ⟨fun _ => trivial, fun c => ?_⟩
  have h5 : 5 * t + 5 ≤ L := by
    rcases Nat.lt_or_ge L (5 * t + 5) with g | g
    · exfalso
      apply c
      rw [show (5 : Int32) = nI 5 from rfl, Int32.lt_iff_toInt_lt, pk_sub_toInt (by omega) (by omega), nI_toInt (by omega)]
      omega
    · exact g
  have h0 : vp_in (nI (5 * t)) L := pk_in (5 * t) L (by omega) rfl (by omega)
  have h1 : vp_in (nI (5 * t) + 1) L := pk_in (5 * t + 1) L (by omega) (nI_add _ 1) (by omega)
  have h2 : vp_in (nI (5 * t) + 2) L := pk_in (5 * t + 2) L (by omega) (nI_add _ 2) (by omega)
  have h3 : vp_in (nI (5 * t) + 3) L := pk_in (5 * t + 3) L (by omega) (nI_add _ 3) (by omega)
  have h4 : vp_in (nI (5 * t) + 4) L := pk_in (5 * t + 4) L (by omega) (nI_add _ 4) (by omega)
  have e5 : nI (5 * t) + 5 = nI (5 * (t + 1)) := nI_add (5 * t) 5
  have hX' : ∀ sx' sm' out', RR (B + 1) sx' sm' → X sx' sm' out' (nI (5 * t) + 5) := by
    rw [e5]; exact hX h5
  clear e5 hX
  generalize nI (5 * t) = v4 at *
  generalize (xs v4.toNatClampNeg) &&& 63 = z
  refine ⟨h0, ?_⟩
  refine ⟨fun _ => r_188 hR hB h1 hX', fun _ => ?_⟩
  refine ⟨fun _ => r_244 hR hB hX', fun _ => ?_⟩
  refine ⟨fun _ => r_257 hR hB hX', fun _ => ?_⟩
  refine ⟨fun _ => r_270 hR hB hB2 hX', fun _ => ?_⟩
  refine ⟨fun _ => r_314 hR hB h1 hX', fun _ => ?_⟩
  refine ⟨fun _ => r_370 hR hB h1 h2 hX', fun _ => ?_⟩
  refine ⟨fun _ => r_438 hR hB h1 h2 hX', fun _ => ?_⟩
  refine ⟨fun _ => r_506 hR hB h1 hX', fun _ => ?_⟩
  refine ⟨fun _ => r_562 hR hB h1 h2 hX', fun _ => ?_⟩
  refine ⟨fun _ => r_630 hR hB h1 h2 h3 hX', fun _ => ?_⟩
  refine ⟨fun _ => r_710 hR hB hX', fun _ => ?_⟩
  refine ⟨fun _ => r_723 hR hB h1 h2 hX', fun _ => ?_⟩
  refine ⟨fun _ => r_807 hR hB hX', fun _ => ?_⟩
  refine ⟨fun _ => r_820 hR hB hX', fun _ => ?_⟩
  refine ⟨fun _ => r_833 hR hB h1 h2 hX', fun _ => ?_⟩
  refine ⟨fun _ => r_917 hR hB h1 h2 hX', fun _ => ?_⟩
  refine ⟨fun _ => r_1001 hR hB h1 hX', fun _ => ?_⟩
  refine ⟨fun _ => r_1057 hR hB h1 hX', fun _ => ?_⟩
  refine ⟨fun _ => r_1113 hR hB h1 h2 hX', fun _ => ?_⟩
  refine ⟨fun _ => r_1181 hR hB hX', fun _ => ?_⟩
  refine ⟨fun _ => r_1225 hR hB h1 h2 h3 h4 hX', fun _ => ?_⟩
  refine ⟨fun _ => r_1302 hR hB h1 h2 hX', fun _ => ?_⟩
  refine ⟨fun _ => r_1339 hR hB h1 h2 hX', fun _ => ?_⟩
  refine ⟨fun _ => r_1376 hR hB h1 hX', fun _ => ?_⟩
  refine ⟨fun _ => r_1401 hR hB h1 h2 hX', fun _ => ?_⟩
  refine ⟨fun _ => r_1438 hR hB h1 hX', fun _ => ?_⟩
  refine ⟨fun _ => r_1494 hR hB hX', fun _ => ?_⟩
  refine ⟨fun _ => r_1507 hR hB h1 h2 hX', fun _ => ?_⟩
  refine ⟨fun _ => r_1575 hR hB h1 hX', fun _ => ?_⟩
  refine ⟨fun _ => r_1631 hR hB h1 h2 hX', fun _ => ?_⟩
  refine ⟨fun _ => r_1699 hR hB h1 h2 h3 hX', fun _ => ?_⟩
  refine ⟨fun _ => r_1799 hR hB h1 h2 h3 hX', fun _ => ?_⟩
  refine ⟨fun _ => r_1899 hR hB h1 hX', fun _ => ?_⟩
  refine ⟨fun _ => r_1955 hR hB h1 hX', fun _ => ?_⟩
  exact hX' _ _ _ (hR.mono (by omega))
