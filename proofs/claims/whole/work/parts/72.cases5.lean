/-! ===== the law's cases: what is found ===== -/
theorem r_1302 {xs : Nat → Int32} {L : Nat} {X : SX → SM → (Nat → Int64) → Int32 → Prop} {sx : SX} {sm : SM} {out : Nat → Int64} {v4 : Int32} {B : Int} (hR : RR B sx sm) (hB : B < 900000) (h1 : vp_in (v4 + 1) L) (h2 : vp_in (v4 + 2) L) (hX : ∀ sx' sm' out', RR (B + 1) sx' sm' → X sx' sm' out' (v4 + 5)) : xp_L_law_1302 xs L X sx sm out v4 := by
  obtain ⟨⟨n, S⟩, hT, hD, hK⟩ := hR
  exact ⟨h1, h2, e_atCamera S.n0 S.n24 ⟨h1, h2, m_atCamera S.ms (c_eq (by rw [S.1]) (hX _ _ _ ⟨⟨n, S.mono (by omega)⟩, hT, hD.mono (by omega), hK.mono (by omega)⟩))⟩⟩
theorem r_1339 {xs : Nat → Int32} {L : Nat} {X : SX → SM → (Nat → Int64) → Int32 → Prop} {sx : SX} {sm : SM} {out : Nat → Int64} {v4 : Int32} {B : Int} (hR : RR B sx sm) (hB : B < 900000) (h1 : vp_in (v4 + 1) L) (h2 : vp_in (v4 + 2) L) (hX : ∀ sx' sm' out', RR (B + 1) sx' sm' → X sx' sm' out' (v4 + 5)) : xp_L_law_1339 xs L X sx sm out v4 := by
  obtain ⟨⟨n, S⟩, hT, hD, hK⟩ := hR
  exact ⟨h1, h2, e_atSound S.n0 S.n24 ⟨h1, h2, m_atSound S.ms (c_eq (by rw [S.1]) (hX _ _ _ ⟨⟨n, S.mono (by omega)⟩, hT, hD.mono (by omega), hK.mono (by omega)⟩))⟩⟩
theorem r_1376 {xs : Nat → Int32} {L : Nat} {X : SX → SM → (Nat → Int64) → Int32 → Prop} {sx : SX} {sm : SM} {out : Nat → Int64} {v4 : Int32} {B : Int} (hR : RR B sx sm) (hB : B < 900000) (h1 : vp_in (v4 + 1) L) (hX : ∀ sx' sm' out', RR (B + 1) sx' sm' → X sx' sm' out' (v4 + 5)) : xp_L_law_1376 xs L X sx sm out v4 := by
  obtain ⟨⟨n, S⟩, hT, hD, hK⟩ := hR
  exact ⟨h1, e_atTime S.n0 S.n24 ⟨h1, m_atTime S.ms (c_eq (by rw [S.1]) (hX _ _ _ ⟨⟨n, S.mono (by omega)⟩, hT, hD.mono (by omega), hK.mono (by omega)⟩))⟩⟩
theorem r_1401 {xs : Nat → Int32} {L : Nat} {X : SX → SM → (Nat → Int64) → Int32 → Prop} {sx : SX} {sm : SM} {out : Nat → Int64} {v4 : Int32} {B : Int} (hR : RR B sx sm) (hB : B < 900000) (h1 : vp_in (v4 + 1) L) (h2 : vp_in (v4 + 2) L) (hX : ∀ sx' sm' out', RR (B + 1) sx' sm' → X sx' sm' out' (v4 + 5)) : xp_L_law_1401 xs L X sx sm out v4 := by
  obtain ⟨⟨n, S⟩, hT, hD, hK⟩ := hR
  exact ⟨h1, h2, e_byFile S.n0 S.n24 ⟨h1, h2, m_byFile S.ms (c_eq (by rw [S.1]) (hX _ _ _ ⟨⟨n, S.mono (by omega)⟩, hT, hD.mono (by omega), hK.mono (by omega)⟩))⟩⟩
theorem r_1225 {xs : Nat → Int32} {L : Nat} {X : SX → SM → (Nat → Int64) → Int32 → Prop} {sx : SX} {sm : SM} {out : Nat → Int64} {v4 : Int32} {B : Int} (hR : RR B sx sm) (hB : B < 900000) (h1 : vp_in (v4 + 1) L) (h2 : vp_in (v4 + 2) L) (h3 : vp_in (v4 + 3) L) (h4 : vp_in (v4 + 4) L) (hX : ∀ sx' sm' out', RR (B + 1) sx' sm' → X sx' sm' out' (v4 + 5)) : xp_L_law_1225 xs L X sx sm out v4 := by
  obtain ⟨⟨n, S⟩, hT, hD, hK⟩ := hR
  have ms := S.ms
  unfold xp_L_law_1225 xp_L_law_1258 xp_L_law_1294 xp_X4_find
  generalize xs (v4 + 4).toNatClampNeg = b
  refine ⟨h1, h2, h3, h4, ⟨fun gx => ⟨fun _ => e_meantSo S.n0 S.n24 ⟨h1, h2, h3, h4, ⟨fun _ => m_find ms.n0 ms.n24 (fun _ => c_eq (by rw [S.1]) (hX _ _ _ ⟨⟨n, S.mono (by omega)⟩, hT, hD.mono (by omega), hK.mono (by omega)⟩)) (fun q => absurd rfl q), fun q => absurd gx q⟩⟩, fun q => absurd rfl q⟩, fun gx => ⟨fun q => absurd q (by decide), fun _ => e_saidSo S.n0 S.n24 ⟨h1, h2, h3, h4, ⟨fun q => absurd q gx, fun _ => m_find ms.n0 ms.n24 (fun q => absurd q (by decide)) (fun _ => c_eq (by rw [S.1]) (hX _ _ _ ⟨⟨n, S.mono (by omega)⟩, hT, hD.mono (by omega), hK.mono (by omega)⟩))⟩⟩⟩⟩⟩
theorem r_1438 {xs : Nat → Int32} {L : Nat} {X : SX → SM → (Nat → Int64) → Int32 → Prop} {sx : SX} {sm : SM} {out : Nat → Int64} {v4 : Int32} {B : Int} (hR : RR B sx sm) (hB : B < 900000) (h1 : vp_in (v4 + 1) L) (hX : ∀ sx' sm' out', RR (B + 1) sx' sm' → X sx' sm' out' (v4 + 5)) : xp_L_law_1438 xs L X sx sm out v4 := by
  obtain ⟨⟨n, S⟩, hT, hD, hK⟩ := hR
  have S' := S.mono (B' := B + 1) (by omega)
  have D' := hD.mono (B' := B + 1) (by omega)
  have K' := hK.mono (B' := B + 1) (by omega)
  have ms := S.ms
  have h24 := S.n24
  unfold xp_L_law_1438 xp_L_synced xp_X4_synced xp_X5_synced xp_X5_synced_17
  generalize xs (v4 + 1).toNatClampNeg = y
  refine ⟨h1, e_hasTake S.n0 h24 (fun i hi hy => ⟨fun _ => e_soundFor S.n0 h24 (i := i) (by omega) hy ⟨h1, ?_⟩, fun q => absurd q (by decide)⟩) (fun g => ⟨fun q => absurd rfl q, fun _ => ⟨rfl, h1, ?_⟩⟩)⟩
  · exact m_isTake ms.n0 h24 (fun _ _ _ => ⟨fun q => absurd q (by decide), fun _ => m_ref0 ⟨fun _ => m_syncedBy ms.n0 h24 (i := i) (by omega) hy ⟨by decide, by decide⟩ (ms.inv.okO i hi) (c_ok rfl (by rw [S.1]; exact uL0 (f := out)) (hX _ _ _ ⟨⟨n, S'⟩, hT, D', K'⟩)), fun q => absurd rfl q⟩⟩) (fun g => absurd ⟨(ix_nI (x := y) (by omega) hy).1, by rw [(ix_nI (x := y) (by omega) hy).2]; exact hi⟩ (ix_no h24 g))
  · exact m_isTake ms.n0 h24 (fun i hi hy => absurd ⟨(ix_nI (x := y) (by omega) hy).1, by rw [(ix_nI (x := y) (by omega) hy).2]; exact hi⟩ (ix_no h24 g)) (fun _ => ⟨fun _ => m_ref1 ⟨fun q => absurd q (by decide), fun _ => c_th rfl (by decide) (hX _ _ _ ⟨⟨n, S'⟩, hT, D', K'⟩)⟩, fun q => absurd rfl q⟩)
/-! ===== the best shift ===== -/
def shf (j : Nat) : Int32 := if (j + 2) % 2 = 0 then -(nI ((j + 2) / 2)) else nI ((j + 2) / 2)
def bsf (V : Nat → Nat → Int32) (n : Nat) : Nat → Int32 × Int32
  | 0 => (0, nI (kep V n 0 n))
  | j + 1 => if nI (kep V n (shf j) n) ≤ (bsf V n j).2 then bsf V n j else (shf j, nI (kep V n (shf j) n))
theorem neg_rg {k : Nat} (hk : k ≤ 99) : rg (-100) 100 (-(nI k)) ∧ -(nI k) + nI (2 * k) = nI k := by
  have e : (-(nI k)).toInt = -(k : Int) := by
    rw [show -(nI k) = 0 - nI k from (Int32.zero_sub _).symm, i_sub (by rw [nI_toInt (by omega)]; show _ ≤ (0 : Int) - _; omega) (by rw [nI_toInt (by omega)]; show (0 : Int) - _ < _; omega), nI_toInt (by omega)]
    show (0 : Int) - k = -k
    omega
  refine ⟨?_, ?_⟩
  · unfold rg; rw [e]; omega
  · rw [← Int32.toInt_inj, i_add (by rw [e, nI_toInt (by omega)]; omega) (by rw [e, nI_toInt (by omega)]; omega), e, nI_toInt (by omega), nI_toInt (by omega)]
    omega
theorem shf_rg {j : Nat} (hj : j < 198) : rg (-100) 100 (shf j) := by
  unfold shf
  by_cases c : (j + 2) % 2 = 0
  · rw [if_pos c]; exact (neg_rg (by omega)).1
  · rw [if_neg c]; exact ⟨by rw [nI_toInt (by omega)]; omega, by rw [nI_toInt (by omega)]; omega⟩
/-- where the stamp is off by a take's length or more, its own sound leaves it nothing -/
theorem ovl_off {V : Nat → Nat → Int32} {i : Nat} {sh : Int32} (hs : rg (-100) 100 sh) (ho : okO V i i) (c : V (i + 1) 8 ≤ (if 0 ≤ V (i + 1) 13 - V (i + 1) 12 + sh then V (i + 1) 13 - V (i + 1) 12 + sh else 0 - (V (i + 1) 13 - V (i + 1) 12 + sh))) : ovl V i i sh = 0 := by
  obtain ⟨⟨a1, a2⟩, ⟨b1, b2⟩, ⟨c1, c2⟩, -⟩ := ho
  obtain ⟨s1, s2⟩ := hs
  simp only [ovl]
  generalize V (i + 1) 12 = b at *
  generalize V (i + 1) 8 = p at *
  generalize V (i + 1) 13 = o at *
  have z : (0 : Int32).toInt = 0 := rfl
  have e1 : (o + sh).toInt = o.toInt + sh.toInt := i_add (by omega) (by omega)
  have e2 : (b + p).toInt = b.toInt + p.toInt := i_add (by omega) (by omega)
  have e3 : (o + sh + p).toInt = o.toInt + sh.toInt + p.toInt := by rw [i_add (by omega) (by omega), e1]
  have e5 : (o - b).toInt = o.toInt - b.toInt := i_sub (by omega) (by omega)
  have e6 : (o - b + sh).toInt = o.toInt - b.toInt + sh.toInt := by rw [i_add (by omega) (by omega), e5]
  have e7 : (0 - (o - b + sh)).toInt = -(o.toInt - b.toInt + sh.toInt) := by
    have e8 : (0 - (o - b + sh)).toInt = (0 : Int32).toInt - (o - b + sh).toInt := i_sub (by omega) (by omega)
    omega
  have f : ∀ x y : Int32, rg (-200000) 200000 x → rg (-200000) 200000 y → y.toInt ≤ x.toInt → (if (0 : Int32) < y - x then y - x else 0) = 0 := by
    intro x y hx hy h
    have e4 : (y - x).toInt = y.toInt - x.toInt := i_sub (by have := hx.1; have := hx.2; have := hy.1; have := hy.2; omega) (by have := hx.1; have := hx.2; have := hy.1; have := hy.2; omega)
    rw [if_neg (by rw [Int32.lt_iff_toInt_lt, e4, z]; omega)]
  have c' : p.toInt ≤ o.toInt - b.toInt + sh.toInt ∨ p.toInt ≤ -(o.toInt - b.toInt + sh.toInt) := by
    by_cases h : (0 : Int32) ≤ o - b + sh
    · rw [if_pos h, Int32.le_iff_toInt_le, e6] at c; exact Or.inl c
    · rw [if_neg h, Int32.le_iff_toInt_le, e7] at c; exact Or.inr c
  by_cases h1 : b < o + sh
  · rw [if_pos h1]
    by_cases h2 : o + sh + p < b + p
    · rw [if_pos h2]
      rw [Int32.lt_iff_toInt_lt] at h1 h2
      exact f _ _ ⟨by omega, by omega⟩ ⟨by omega, by omega⟩ (by omega)
    · rw [if_neg h2]
      rw [Int32.lt_iff_toInt_lt] at h1 h2
      exact f _ _ ⟨by omega, by omega⟩ ⟨by omega, by omega⟩ (by omega)
  · rw [if_neg h1]
    by_cases h2 : o + sh + p < b + p
    · rw [if_pos h2]
      rw [Int32.lt_iff_toInt_lt] at h1 h2
      exact f _ _ ⟨by omega, by omega⟩ ⟨by omega, by omega⟩ (by omega)
    · rw [if_neg h2]
      rw [Int32.lt_iff_toInt_lt] at h1 h2
      exact f _ _ ⟨by omega, by omega⟩ ⟨by omega, by omega⟩ (by omega)
/-- .. and so it is not the sound that the clocks give it -/
theorem syp_own {V : Nat → Nat → Int32} {i : Nat} {sh : Int32} (hi : i < 24) (h0 : ovl V i i sh = 0) : ∀ k, k ≤ 24 → 0 ≤ (syp V i sh k).2 ∧ (syp V i sh k).1 ≠ nI i
  | 0, _ => by
    refine ⟨(by decide : (0 : Int32) ≤ 0), fun e => ?_⟩
    have e' := congrArg Int32.toInt (show (-1 : Int32) = nI i from e)
    rw [nI_toInt (by omega)] at e'
    have m : (-1 : Int32).toInt = -1 := rfl
    omega
  | k + 1, hk => by
    obtain ⟨h1, h2⟩ := syp_own hi h0 k (by omega)
    simp only [syp]
    generalize ho : (if V (k + 1) 9 = -1 then (0 : Int32) else ovl V i k sh) = o
    by_cases c : o ≤ (syp V i sh k).2
    · rw [if_pos c]; exact ⟨h1, h2⟩
    · rw [if_neg c]
      have hz : 0 ≤ o := by
        rw [Int32.le_iff_toInt_le] at h1 c ⊢
        omega
      refine ⟨hz, fun e => ?_⟩
      have ek : k = i := nI_inj (by omega) (by omega) e
      have eo : o = 0 := by
        rw [← ho, ek, h0]
        by_cases q : V (i + 1) 9 = -1
        · rw [if_pos q]
        · rw [if_neg q]
      rw [eo] at c
      exact c h1
theorem e_meetsOwn {a : Nat → Int32} {i : Nat} {x sh : Int32} {K : Int32 → Prop} (hi : i < 24) (hx : x = nI i) (hs : rg (-100) 100 sh) (ho : okO (vw a) i i) (k0 : ovl (vw a) i i sh = 0 → K 0) (k1 : K 1) : xp_X3_meetsOwn a x sh K := by
  unfold xp_X3_meetsOwn
  refine e_of (i := i) (w := 13) hi (by omega) (by omega) hx rfl ?_
  refine e_of (i := i) (w := 12) hi (by omega) (by omega) hx rfl ?_
  refine e_of (i := i) (w := 8) hi (by omega) (by omega) hx rfl ?_
  exact ⟨fun c => k0 (ovl_off hs ho c), fun _ => k1⟩
theorem e_keptSounds {a : Nat → Int32} {n : Nat} {sh : Int32} {K : Int32 → Prop} (hn : vw a 0 0 = nI n) (h24 : n ≤ 24) (hr : rg (-100) 100 sh) (ho : ∀ i, i < n → ∀ j, j < n → okO (vw a) i j) (k : K (nI (kep (vw a) n sh n))) : xp_X3_keptSounds a sh K := by
  refine ⟨n + 1, lpx (fun m i => xp_X3_keptSounds_4 a K m sh (nI (kep (vw a) n sh i)) (nI i)) n (fun m => ?_) (fun m i hi h => ?_)⟩
  · show xp_X3_keptSounds_4 a K (m + 1) _ _ _
    rw [xp_X3_keptSounds_4]
    exact e_takes hn ⟨fun _ => k, fun c => absurd (nI_le (Nat.le_refl _) (by omega)) c⟩
  · show xp_X3_keptSounds_4 a K (m + 1) _ _ _
    rw [xp_X3_keptSounds_4]
    have h' : xp_X3_keptSounds_4 a K m sh (nI (kep (vw a) n sh (i + 1))) (nI i + 1) := by rw [nI_1]; exact h
    refine e_takes hn ⟨fun c => absurd c (nI_ge hi (by omega)), fun _ => e_hasSound (i := i) (by omega) rfl ?_⟩
    by_cases hs : vw a (i + 1) 9 = -1
    · rw [if_pos hs]
      refine ⟨fun _ => ?_, fun c => absurd rfl c⟩
      simp only [kep] at h'
      rw [if_neg (fun q => q.1 hs)] at h'; exact h'
    · rw [if_neg hs]
      refine ⟨fun c => absurd c (by decide), fun _ => e_meetsOwn (i := i) (by omega) rfl hr (ho i hi i hi) (fun z => ⟨fun _ => ?_, fun q => absurd rfl q⟩) ⟨fun q => absurd q (by decide), fun _ => e_soundFor hn h24 (i := i) (by omega) rfl ⟨fun c => ?_, fun c => ?_⟩⟩⟩
      · simp only [kep] at h'; rw [if_neg (fun q => (syp_own (by omega) z n h24).2 q.2)] at h'; exact h'
      · simp only [kep] at h'; rw [if_neg (fun q => c q.2)] at h'; exact h'
      · simp only [kep] at h'; rw [if_pos ⟨hs, c⟩] at h'; rw [nI_1]; exact h'
theorem snd9_le (V : Nat → Nat → Int32) : ∀ k, snd9 V k ≤ k
  | 0 => Nat.le_refl 0
  | k + 1 => by
    have := snd9_le V k
    unfold snd9
    split <;> omega
theorem kep_snd (V : Nat → Nat → Int32) (n : Nat) (sh : Int32) : ∀ k, kep V n sh k ≤ snd9 V k
  | 0 => Nat.le_refl 0
  | k + 1 => by
    have := kep_snd V n sh k
    simp only [kep, snd9]
    by_cases c : V (k + 1) 9 = -1
    · rw [if_neg (fun q => q.1 c), if_pos c]; omega
    · rw [if_neg c]
      split <;> omega
/-- no shift gives more takes their own than have sound -/
theorem bsf_end {V : Nat → Nat → Int32} {n j : Nat} (h24 : n ≤ 24) (c : nI (snd9 V n) ≤ (bsf V n j).2) : ∀ d, bsf V n (j + d) = bsf V n j
  | 0 => rfl
  | d + 1 => by
    have ih := bsf_end h24 c d
    have l1 := kep_snd V n (shf (j + d)) n
    have l2 := snd9_le V n
    have l3 := nI_le l1 (by omega)
    show bsf V n (j + d + 1) = _
    simp only [bsf]
    rw [ih, if_pos (by rw [Int32.le_iff_toInt_le] at c l3 ⊢; omega)]
theorem e_bestShift {a : Nat → Int32} {n : Nat} {K : Int32 → Prop} (hn : vw a 0 0 = nI n) (h24 : n ≤ 24) (ho : ∀ i, i < n → ∀ j, j < n → okO (vw a) i j) (k : K (bsf (vw a) n 198).1) : xp_X4_bestShift a K := by
  unfold xp_X4_bestShift
  refine e_keptSounds hn h24 ⟨by decide, by decide⟩ ho (e_sounds hn h24 ⟨198 + 1, ?_⟩)
  have key : ∀ d j, j + d = 198 → xp_X4_bestShift_22 a K (d + 1) (bsf (vw a) n j).1 (bsf (vw a) n j).2 (nI (snd9 (vw a) n)) (nI (j + 2)) := by
    intro d
    induction d with
    | zero =>
      intro j hj
      have : j = 198 := by omega
      subst this
      rw [xp_X4_bestShift_22]
      exact ⟨fun _ => k, fun c => absurd (nI_lt (a := 199) (b := 198 + 2) (by omega) (by omega)) c⟩
    | succ d ih =>
      intro j hj
      rw [xp_X4_bestShift_22]
      have h := ih (j + 1) (by omega)
      have e2 : nI (j + 2) / 2 = nI ((j + 2) / 2) := by rw [show (2 : Int32) = nI 2 from rfl, pk_div (by omega) (by omega) (by omega)]
      have e3 : nI (j + 2) - nI (j + 2) / 2 * 2 = nI ((j + 2) % 2) := by rw [show (2 : Int32) = nI 2 from rfl, pk_rem (by omega) (by omega) (by omega)]
      have go : ∀ t, t = shf j → xp_X4_bestShift_54 a K (fun v1 v2 v3 v4 => xp_X4_bestShift_22 a K (d + 1) v1 v2 v3 v4) (bsf (vw a) n j).1 (bsf (vw a) n j).2 (nI (snd9 (vw a) n)) (nI (j + 2)) t := by
        intro t ht
        subst ht
        unfold xp_X4_bestShift_54
        refine e_keptSounds hn h24 (shf_rg (by omega)) ho ⟨fun c => ?_, fun c => ?_⟩
        · simp only [bsf] at h
          rw [if_pos c] at h
          rw [nI_1]; exact h
        · simp only [bsf] at h
          rw [if_neg c] at h
          rw [nI_1]; exact h
      rw [e3, e2]
      refine ⟨fun c => absurd c (nI_nlt (a := 199) (by omega) (by omega)), fun _ => ⟨fun c => ?_, fun _ => ⟨fun c => go _ ?_, fun c => go _ ?_⟩⟩⟩
      · have q := bsf_end h24 c (d + 1)
        rw [hj] at q
        rw [← q]; exact k
      · unfold shf; rw [if_neg (fun q => c (by rw [q]; rfl))]
      · unfold shf; rw [if_pos (nI_inj (b := 0) (by omega) (by omega) c)]
  exact key 198 0 (by omega)
theorem m_bestShift {B : Int} {r : Nat → Int32} {n : Nat} {rf : Int32} {K : Int32 → Int32 → Prop} (h : MS B n r) (k : K (bsf (vm r) n 198).1 0) : xp_X5_bestShift r rf K := by
  have hn := h.n0
  have h24 := h.n24
  have ho := h.inv.okO
  unfold xp_X5_bestShift
  refine m_own hn h24 ⟨by decide, by decide⟩ ho ⟨99 + 1, ?_⟩
  have key : ∀ d j, j + d = 99 → xp_X5_bestShift_18 r K (d + 1) 0 (bsf (vm r) n (2 * j)).1 (bsf (vm r) n (2 * j)).2 (nI (j + 1)) := by
    intro d
    induction d with
    | zero =>
      intro j hj
      have : j = 99 := by omega
      subst this
      rw [xp_X5_bestShift_18]
      exact ⟨fun _ => k, fun c => absurd (nI_lt (a := 99) (b := 99 + 1) (by omega) (by omega)) c⟩
    | succ d ih =>
      intro j hj
      have hh := ih (j + 1) (by omega)
      rw [xp_X5_bestShift_18]
      obtain ⟨nr, na⟩ := neg_rg (k := j + 1) (by omega)
      refine ⟨fun c => absurd c (nI_nlt (a := 99) (by omega) (by omega)), fun _ => ⟨2 + 1, ?_⟩⟩
      have step : ∀ (X18 : Int32 → Int32 → Int32 → Int32 → Prop) (X28 : Int32 → Int32 → Int32 → Int32 → Int32 → Prop) (i : Nat) (t : Int32), t = shf i → X28 0 (bsf (vm r) n (i + 1)).1 (bsf (vm r) n (i + 1)).2 (nI (j + 1)) (t + 2 * nI (j + 1)) → rg (-100) 100 t →
          xp_X5_own r t (fun r2 => ((r2 ≤ (bsf (vm r) n i).2 → xp_X5_bestShift_57 r K X18 X28 0 (bsf (vm r) n i).2 (nI (j + 1)) t r2 (bsf (vm r) n i).1) ∧ (¬ r2 ≤ (bsf (vm r) n i).2 → xp_X5_bestShift_57 r K X18 X28 0 (bsf (vm r) n i).2 (nI (j + 1)) t r2 t))) := by
        intro X18 X28 i t ht hx hr
        subst ht
        refine m_own hn h24 hr ho ?_
        unfold xp_X5_bestShift_57 xp_X5_bestShift_70
        simp only [bsf] at hx
        refine ⟨fun c => ?_, fun c => ?_⟩
        · rw [if_pos c] at hx
          exact ⟨fun _ => hx, fun q => absurd c q⟩
        · rw [if_neg c] at hx
          exact ⟨fun q => absurd q c, fun _ => hx⟩
      have e2 : (2 : Int32) * nI (j + 1) = nI (2 * (j + 1)) := by rw [show (2 : Int32) = nI 2 from rfl, pk_mul]
      have s0 : -(nI (j + 1)) = shf (2 * j) := by
        unfold shf
        rw [if_pos (by omega), show (2 * j + 2) / 2 = j + 1 by omega]
      have s1 : nI (j + 1) = shf (2 * j + 1) := by
        unfold shf
        rw [if_neg (by omega), show (2 * j + 1 + 2) / 2 = j + 1 by omega]
      rw [xp_X5_bestShift_28]
      refine ⟨fun c => ?_, fun _ => step _ _ (2 * j) _ s0 ?_ nr⟩
      · exfalso
        have n1 : ¬ nI (j + 1) < -(nI (j + 1)) := by
          rw [Int32.lt_iff_toInt_lt, nI_toInt (by omega), show -(nI (j + 1)) = 0 - nI (j + 1) from (Int32.zero_sub _).symm, i_sub (by rw [nI_toInt (by omega)]; show _ ≤ (0 : Int) - _; omega) (by rw [nI_toInt (by omega)]; show (0 : Int) - _ < _; omega), nI_toInt (by omega)]
          show ¬ _ < (0 : Int) - _
          omega
        exact n1 c
      rw [e2, na]
      show xp_X5_bestShift_28 r K _ 2 _ _ _ _ _
      rw [xp_X5_bestShift_28]
      refine ⟨fun c => absurd c (nI_nlt (Nat.le_refl _) (by omega)), fun _ => step _ _ (2 * j + 1) _ s1 ?_ ⟨by rw [nI_toInt (by omega)]; omega, by rw [nI_toInt (by omega)]; omega⟩⟩
      rw [e2, nI_add]
      show xp_X5_bestShift_28 r K _ 1 _ _ _ _ _
      rw [xp_X5_bestShift_28]
      refine ⟨fun _ => ?_, fun c => absurd (nI_lt (by omega) (by omega)) c⟩
      rw [nI_1]
      exact hh
  exact key 99 0 (by omega)
theorem r_1494 {xs : Nat → Int32} {L : Nat} {X : SX → SM → (Nat → Int64) → Int32 → Prop} {sx : SX} {sm : SM} {out : Nat → Int64} {v4 : Int32} {B : Int} (hR : RR B sx sm) (hB : B < 900000) (hX : ∀ sx' sm' out', RR (B + 1) sx' sm' → X sx' sm' out' (v4 + 5)) : xp_L_law_1494 xs L X sx sm out v4 := by
  obtain ⟨⟨n, S⟩, hT, hD, hK⟩ := hR
  exact e_bestShift S.n0 S.n24 S.2.1.okO (m_bestShift S.ms (c_eq (by rw [S.1]) (hX _ _ _ ⟨⟨n, S.mono (by omega)⟩, hT, hD.mono (by omega), hK.mono (by omega)⟩)))
