/-! ===== the law's cases: scenes ===== -/
theorem vsc_lt {B : Int} {n : Nat} {V : Nat → Nat → Int32} {s : Int32} (h : Inv B n V) : ∀ k, k ≤ n → un (vsc V s k).2.2.2.1 < 2 ^ 26
  | 0, _ => by show un 0 < _; decide
  | k + 1, hk => by
    have ih := vsc_lt (s := s) h k (by omega)
    have t : rg 0 25 (V (k + 1) 1) := h.2.2.2.1 k (by omega) 1
    obtain ⟨e, hb⟩ := rg_nv t
    simp only [vsc]
    split
    · show un ((vsc V s k).2.2.2.1 ||| ((1 : Int32) <<< (V (k + 1) 1 &&& 31))) < _
      rw [un_or, e, un_bit (by omega)]
      exact Nat.or_lt_two_pow ih (Nat.pow_lt_pow_right (by omega) (by omega))
    · exact ih
theorem bit_at {x : Int32} {k : Nat} (hx : un x < 2 ^ 26) (hk : k < 26) : ((x >>> (nI k &&& 31)) &&& 1) = nI (if (un x).testBit k = true then 1 else 0) := by
  have ex : x = nI (un x) := un_inj (by rw [un_nI (by omega)])
  have ek : (nI k &&& 31 : Int32) = nI k := by
    rw [pk_andN (by omega) (m := 31) 5 rfl, Nat.mod_eq_of_lt (by omega)]
  have sm : ((nI k).toBitVec.smod 32).toNat = k := by
    have : ∀ k < 26, ((nI k).toBitVec.smod 32).toNat = k := by decide +kernel
    exact this k hk
  rw [ek]
  conv => lhs; rw [ex]
  rw [pk_shrN (by omega) (nI k) k sm, pk_andN (Nat.lt_of_le_of_lt (Nat.div_le_self _ _) (by omega)) (m := 1) 1 rfl, Nat.testBit_eq_decide_div_mod_eq]
  congr 1
  have : un x / 2 ^ k % 2 ^ 1 < 2 := Nat.mod_lt _ (by omega)
  by_cases q : un x / 2 ^ k % 2 = 1
  · simp [q]
  · simp only [q, decide_false, Bool.false_eq_true, if_false]
    rw [Nat.pow_one] at this ⊢
    omega
theorem pcs26 {x : Int32} (hx : un x < 2 ^ 26) : pcs (un x) 26 = pcs (un x) 32 :=
  (pcs_zero (X := un x) (m := 26) (fun j hj => Nat.testBit_lt_two_pow (Nat.lt_of_lt_of_le hx (Nat.pow_le_pow_right (by omega) hj))) 6).symm
theorem m_scene {B : Int} {r : Nat → Int32} {n : Nat} {s x : Int32} {K : Int32 → Int32 → Prop} (h : MS B n r)
    (k : K (if x = 0 then (vsc (vm r) s n).1 else if x = 1 then (vsc (vm r) s n).2.1 else if x = 2 then nI (pcs (un (vsc (vm r) s n).2.2.2.1) 32) else if x = 3 then (vsc (vm r) s n).2.2.1 else nI (pcs (un ((vsc (vm r) s n).2.2.2.1 &&& ((vsc (vm r) s n).2.2.2.2 ^^^ (-1 : Int32)))) 32)) 0) : ∃ n9, xp_X5_scene_43 r K n9 0 s x 0 0 0 0 0 0 := by
  have hn := h.n0
  have h24 := h.n24
  have h0 : r 0 = nI n := by rw [← vm_h r (w := 0) (by omega)]; exact hn
  have lt := vsc_lt (s := s) h.inv n (Nat.le_refl n)
  have fin : ∃ n9, xp_X5_scene_162 r K n9 0 x (vsc (vm r) s n).1 (vsc (vm r) s n).2.1 (vsc (vm r) s n).2.2.1 (vsc (vm r) s n).2.2.2.1 (vsc (vm r) s n).2.2.2.2 0 0 0 := by
    generalize vsc (vm r) s n = q at *
    have lt2 : un (q.2.2.2.1 &&& (q.2.2.2.2 ^^^ (-1 : Int32))) < 2 ^ 26 := by
      rw [un_and]
      exact Nat.lt_of_le_of_lt Nat.and_le_left lt
    refine ⟨26 + 1, lpx (fun d i => xp_X5_scene_162 r K d 0 x q.1 q.2.1 q.2.2.1 q.2.2.2.1 q.2.2.2.2 (nI (pcs (un q.2.2.2.1) i)) (nI (pcs (un (q.2.2.2.1 &&& (q.2.2.2.2 ^^^ (-1 : Int32)))) i)) (nI i)) 26 (fun d => ?_) (fun d i hi h => ?_)⟩
    · show xp_X5_scene_162 r K (d + 1) _ _ _ _ _ _ _ _ _ _
      rw [xp_X5_scene_162, pcs26 lt, pcs26 lt2]
      refine ⟨fun _ => ⟨fun c => ⟨fun c1 => ⟨fun c2 => ⟨fun c3 => ?_, fun c3 => ?_⟩, fun c2 => ?_⟩, fun c1 => ?_⟩, fun c => ?_⟩, fun c => absurd (nI_le (Nat.le_refl 26) (by omega)) c⟩
      · rw [if_neg c, if_neg c1, if_neg c2, if_neg c3] at k; exact k
      · rw [if_neg c, if_neg c1, if_neg c2, if_pos c3] at k; exact k
      · rw [if_neg c, if_neg c1, if_pos c2] at k; exact k
      · rw [if_neg c, if_pos c1] at k; exact k
      · rw [if_pos c] at k; exact k
    · show xp_X5_scene_162 r K (d + 1) _ _ _ _ _ _ _ _ _ _
      rw [xp_X5_scene_162]
      refine ⟨fun c => absurd c (nI_ge (b := 26) hi (by omega)), fun _ => ?_⟩
      rw [bit_at lt hi, bit_at lt2 hi, nI_add, nI_add, nI_1]
      exact h
  refine ⟨n + 1, lpx (fun m i => xp_X5_scene_43 r K m 0 s x (vsc (vm r) s i).1 (vsc (vm r) s i).2.1 (vsc (vm r) s i).2.2.1 (vsc (vm r) s i).2.2.2.1 (vsc (vm r) s i).2.2.2.2 (nI i)) n (fun m => ?_) (fun m i hi h => ?_)⟩
  · show xp_X5_scene_43 r K (m + 1) _ _ _ _ _ _ _ _ _
    rw [xp_X5_scene_43, h0]
    exact ⟨fun _ => fin, fun c => absurd (nI_le (Nat.le_refl _) (by omega)) c⟩
  · show xp_X5_scene_43 r K (m + 1) _ _ _ _ _ _ _ _ _
    rw [xp_X5_scene_43, h0]
    rw [← nI_1] at h
    simp only [vsc] at h
    refine ⟨fun c => absurd c (nI_ge hi (by omega)), fun _ => m_of (i := i) (w := 0) (z := 0) (by omega) (by omega) (by omega) rfl rfl rfl ⟨fun c => ?_, fun c => ?_⟩⟩
    · rw [if_neg c] at h; exact h
    · rw [if_pos c] at h
      exact m_of (i := i) (w := 14) (z := 13) (by omega) (by omega) (by omega) rfl rfl rfl (m_of (i := i) (w := 8) (z := 7) (by omega) (by omega) (by omega) rfl rfl rfl (m_of (i := i) (w := 1) (z := 1) (by omega) (by omega) (by omega) rfl rfl rfl (m_of (i := i) (w := 14) (z := 13) (by omega) (by omega) (by omega) rfl rfl rfl (m_of (i := i) (w := 1) (z := 1) (by omega) (by omega) (by omega) rfl rfl rfl h))))
theorem r_1631 {xs : Nat → Int32} {L : Nat} {X : SX → SM → (Nat → Int64) → Int32 → Prop} {sx : SX} {sm : SM} {out : Nat → Int64} {v4 : Int32} {B : Int} (hR : RR B sx sm) (hB : B < 900000) (h1 : vp_in (v4 + 1) L) (h2 : vp_in (v4 + 2) L) (hX : ∀ sx' sm' out', RR (B + 1) sx' sm' → X sx' sm' out' (v4 + 5)) : xp_L_law_1631 xs L X sx sm out v4 := by
  obtain ⟨⟨n, S⟩, hT, hD, hK⟩ := hR
  have S' := S.mono (B' := B + 1) (by omega)
  have D' := hD.mono (B' := B + 1) (by omega)
  have K' := hK.mono (B' := B + 1) (by omega)
  unfold xp_L_law_1631 xp_L_scene xp_X4_scene xp_X4_scene_9 xp_X5_scene xp_X5_scene_18
  generalize xs (v4 + 1).toNatClampNeg = y
  generalize xs (v4 + 2).toNatClampNeg = x
  refine ⟨h1, h2, ?_⟩
  by_cases hx : 0 ≤ x ∧ x ≤ 4
  · refine ⟨fun c => absurd c (Int32.not_lt.mpr hx.1), fun _ => ⟨fun _ => e_ofScene S.n0 S.n24 ⟨h1, h2, m_inI (lo := 0) (hi := 4) rfl rfl ?_⟩, fun c => absurd hx.2 c⟩⟩
    rw [if_pos hx]
    refine ⟨fun q => absurd q (by decide), fun _ => m_ref0 ⟨fun _ => m_scene S.ms (c_ok rfl ?_ (hX _ _ _ ⟨⟨n, S'⟩, hT, D', K'⟩)), fun q => absurd rfl q⟩⟩
    rw [S.1]; exact uL0 (f := out)
  · refine ⟨fun c => ⟨rfl, h1, h2, m_inI (lo := 0) (hi := 4) rfl rfl ?_⟩, fun c => ⟨fun c1 => absurd ⟨Int32.not_lt.mp c, c1⟩ hx, fun c1 => ⟨rfl, h1, h2, m_inI (lo := 0) (hi := 4) rfl rfl ?_⟩⟩⟩
    all_goals
      rw [if_neg hx]
      exact ⟨fun _ => m_ref1 ⟨fun q => absurd q (by decide), fun _ => c_th rfl (by decide) (hX _ _ _ ⟨⟨n, S'⟩, hT, D', K'⟩)⟩, fun q => absurd rfl q⟩
