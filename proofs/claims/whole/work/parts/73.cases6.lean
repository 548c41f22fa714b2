/-! ===== the law's cases: save slots, rolls, false starts, scenes ===== -/
theorem r_1899 {xs : Nat → Int32} {L : Nat} {X : SX → SM → (Nat → Int64) → Int32 → Prop} {sx : SX} {sm : SM} {out : Nat → Int64} {v4 : Int32} {B : Int} (hR : RR B sx sm) (hB : B < 900000) (h1 : vp_in (v4 + 1) L) (hX : ∀ sx' sm' out', RR (B + 1) sx' sm' → X sx' sm' out' (v4 + 5)) : xp_L_law_1899 xs L X sx sm out v4 := by
  obtain ⟨⟨n, S⟩, hT, hD, hK⟩ := hR
  have S' := S.mono (B' := B + 1) (by omega)
  have D' := hD.mono (B' := B + 1) (by omega)
  have K' := hK.mono (B' := B + 1) (by omega)
  have ms := S.ms
  unfold xp_L_law_1899 xp_L_save xp_X4_save xp_X4_save_9 xp_X5_save xp_X5_save_16
  generalize xs (v4 + 1).toNatClampNeg = x
  have z : (0 : Int32).toInt = 0 := rfl
  have o : (1 : Int32).toInt = 1 := rfl
  have two : (2 : Int32).toInt = 2 := rfl
  refine ⟨h1, ?_⟩
  by_cases hx : 0 ≤ x ∧ x ≤ 1
  · obtain ⟨e, hb⟩ := rg_nv ((i_le z o).mp hx)
    generalize x.toNatClampNeg = w at *
    have hw : w < 2 := by omega
    have vi : vp_in x 2 := by rw [e]; exact vp_in_nI hw (by omega)
    have lt2 : x < 2 := by rw [e]; exact nI_lt (b := 2) hw (by omega)
    refine ⟨fun c => absurd c (Int32.not_lt.mpr hx.1), fun _ => ⟨fun _ => e_store (P := 2) (s := w) e hw (by omega) rfl (fun c' g1 g2 => ⟨vi, e_takes S.n0 ⟨h1, m_inI (lo := 0) (hi := 1) rfl rfl ?_⟩⟩), fun c => absurd lt2 c⟩⟩
    rw [if_pos hx]
    refine ⟨fun q => absurd q (by decide), fun _ => m_ref0 ⟨fun _ => m_copy (p := 0) (q := 377 * w) rfl (by rw [e, show (377 : Int32) = nI 377 from rfl, pk_mul]) (by omega) (by omega) (by omega) (by omega) (fun k' q1 q2 => ⟨vi, c_ok rfl (by rw [← vm_h sm.2.2.2.1 (w := 0) (by omega), ms.n0]; exact uL0 (f := out)) (hX _ _ _ ⟨⟨n, S'⟩, hT, D', fun s hs => ?_⟩)⟩), fun q => absurd rfl q⟩⟩
    have b1 : vp_nar .boolean 1 = 1 := rfl
    by_cases sw : s = w
    · subst sw
      refine ⟨?_, fun _ => ⟨n, rs_copy S' g1 (fun j hj => ?_)⟩⟩
      · show upd sx.2.2.2.2.1 s (vp_nar .boolean 1) s = upd sm.2.2.2.2.2.2.2.2.1 s (vp_nar .boolean 1) s
        rw [pk_us, pk_us]
      · have := q1 j hj
        rw [Nat.zero_add] at this; exact this
    · have hk := K' s hs
      refine ⟨?_, fun q => ?_⟩
      · show upd sx.2.2.2.2.1 w (vp_nar .boolean 1) s = upd sm.2.2.2.2.2.2.2.2.1 w (vp_nar .boolean 1) s
        rw [pk_un sw, pk_un sw]; exact hk.1
      · have q' : ¬ upd sx.2.2.2.2.1 w (vp_nar .boolean 1) s = 0 := q
        rw [pk_un sw] at q'
        obtain ⟨m, hm⟩ := hk.2 q'
        refine ⟨m, rs_copy hm (sl_vw (fun j hj => g2 _ ?_)) (fun j hj => q2 _ ?_)⟩
        · rcases Nat.lt_or_ge s w with t | t
          · exact Or.inl (by omega)
          · exact Or.inr (by omega)
        · rcases Nat.lt_or_ge s w with t | t
          · exact Or.inl (by omega)
          · exact Or.inr (by omega)
  · have nl : ¬ (¬ x < 0 ∧ x < 2) := by
      rintro ⟨q1, q2⟩
      refine hx ⟨Int32.not_lt.mp q1, ?_⟩
      rw [Int32.lt_iff_toInt_lt, two] at q2
      rw [Int32.le_iff_toInt_le, o]; omega
    refine ⟨fun c => ⟨rfl, h1, m_inI (lo := 0) (hi := 1) rfl rfl ?_⟩, fun c => ⟨fun c1 => absurd ⟨c, c1⟩ nl, fun c1 => ⟨rfl, h1, m_inI (lo := 0) (hi := 1) rfl rfl ?_⟩⟩⟩
    all_goals
      rw [if_neg hx]
      exact ⟨fun _ => m_ref1 ⟨fun q => absurd q (by decide), fun _ => c_th rfl (by decide) (hX _ _ _ ⟨⟨n, S'⟩, hT, D', K'⟩)⟩, fun q => absurd rfl q⟩
theorem r_1955 {xs : Nat → Int32} {L : Nat} {X : SX → SM → (Nat → Int64) → Int32 → Prop} {sx : SX} {sm : SM} {out : Nat → Int64} {v4 : Int32} {B : Int} (hR : RR B sx sm) (hB : B < 900000) (h1 : vp_in (v4 + 1) L) (hX : ∀ sx' sm' out', RR (B + 1) sx' sm' → X sx' sm' out' (v4 + 5)) : xp_L_law_1955 xs L X sx sm out v4 := by
  obtain ⟨⟨n, S⟩, hT, hD, hK⟩ := hR
  have S' := S.mono (B' := B + 1) (by omega)
  have D' := hD.mono (B' := B + 1) (by omega)
  have K' := hK.mono (B' := B + 1) (by omega)
  unfold xp_L_law_1955 xp_L_restore xp_X4_restore xp_X4_restore_9 xp_X5_restore xp_X5_restore_29 xp_X4_forget
  generalize xs (v4 + 1).toNatClampNeg = x
  have z : (0 : Int32).toInt = 0 := rfl
  have o : (1 : Int32).toInt = 1 := rfl
  have two : (2 : Int32).toInt = 2 := rfl
  refine ⟨h1, ?_⟩
  by_cases hx : 0 ≤ x ∧ x ≤ 1
  · obtain ⟨e, hb⟩ := rg_nv ((i_le z o).mp hx)
    generalize x.toNatClampNeg = w at *
    have hw : w < 2 := by omega
    have vi : vp_in x 2 := by rw [e]; exact vp_in_nI hw (by omega)
    have lt2 : x < 2 := by rw [e]; exact nI_lt (b := 2) hw (by omega)
    have hk := K' w hw
    refine ⟨fun c => absurd c (Int32.not_lt.mpr hx.1), fun _ => ⟨fun _ => ⟨vi, ⟨fun gs => ?_, fun gs => ?_⟩⟩, fun c => absurd lt2 c⟩⟩
    · obtain ⟨m, hm⟩ := hk.2 gs
      refine e_fetch (P := 2) (s := w) e hw (by omega) rfl (fun a' ha => e_takes (n := m) (by rw [ha]; exact hm.n0) ⟨h1, m_inI (lo := 0) (hi := 1) rfl rfl ?_⟩)
      rw [if_pos hx]
      refine ⟨fun _ => ⟨vi, ⟨fun _ => m_ref0 ⟨fun _ => m_copy (p := 377 * w) (q := 0) (by rw [e, show (377 : Int32) = nI 377 from rfl, pk_mul]) rfl (by omega) (by omega) (by omega) (by omega) (fun r' q1 q2 => ?_), fun q => absurd rfl q⟩, fun q => absurd (hk.1.trans q) gs⟩⟩, fun q => absurd q (by decide)⟩
      have q1' : ∀ j, j < 377 → r' j = sl sm.2.2.2.2.2.2.2.1 (377 * w) j := fun j hj => by have := q1 j hj; rw [Nat.zero_add] at this; exact this
      have R : RS (B + 1) m a' r' := rs_copy hm ha q1'
      exact c_ok rfl (by rw [← vm_h r' (w := 0) (by omega), R.ms.n0]; exact uL0 (f := out)) (hX _ _ _ ⟨⟨m, R⟩, hT, rd_0, K'⟩)
    · refine Or.inr ⟨rfl, h1, m_inI (lo := 0) (hi := 1) rfl rfl ?_⟩
      rw [if_pos hx]
      exact ⟨fun _ => ⟨vi, ⟨fun q => absurd (hk.1.symm.trans gs) q, fun _ => m_ref2 ⟨fun q => absurd q (by decide), fun _ => c_th rfl (by decide) (hX _ _ _ ⟨⟨n, S'⟩, hT, D', K'⟩)⟩⟩⟩, fun q => absurd q (by decide)⟩
  · have nl : ¬ (¬ x < 0 ∧ x < 2) := by
      rintro ⟨q1, q2⟩
      refine hx ⟨Int32.not_lt.mp q1, ?_⟩
      rw [Int32.lt_iff_toInt_lt, two] at q2
      rw [Int32.le_iff_toInt_le, o]; omega
    refine ⟨fun c => Or.inl ⟨rfl, h1, m_inI (lo := 0) (hi := 1) rfl rfl ?_⟩, fun c => ⟨fun c1 => absurd ⟨c, c1⟩ nl, fun c1 => Or.inl ⟨rfl, h1, m_inI (lo := 0) (hi := 1) rfl rfl ?_⟩⟩⟩
    all_goals
      rw [if_neg hx]
      exact ⟨fun q => absurd rfl q, fun _ => m_ref1 ⟨fun q => absurd q (by decide), fun _ => c_th rfl (by decide) (hX _ _ _ ⟨⟨n, S'⟩, hT, D', K'⟩)⟩⟩
/-- rolls loaded, and what is left, behind so many takes -/
def rlf (sec cam left : Int32) : Nat → Int32 × Int32
  | 0 => (0, left)
  | k + 1 => if sec ≤ (rlf sec cam left k).2 then ((rlf sec cam left k).1, (rlf sec cam left k).2 - (if (rlf sec cam left k).2 < sec then (rlf sec cam left k).2 else sec)) else ((rlf sec cam left k).1 + 1, cam - (if cam < sec then cam else sec))
theorem e_rolls {a : Nat → Int32} {m : Nat} {sec left y : Int32} {K : Int32 → Prop} {KX : String → Prop} (hy : y = nI m) (hm : m ≤ 99) (k : K (rlf sec (vw a 0 12) left m).1) : ∃ n9, xp_X4_rolls_42 a K KX n9 sec y 0 left 0 := by
  subst hy
  refine ⟨m + 1, lpx (fun d i => xp_X4_rolls_42 a K KX d sec (nI m) (rlf sec (vw a 0 12) left i).1 (rlf sec (vw a 0 12) left i).2 (nI i)) m (fun d => ?_) (fun d i hi h => ?_)⟩
  · show xp_X4_rolls_42 a K KX (d + 1) _ _ _ _ _
    rw [xp_X4_rolls_42]
    exact ⟨fun _ => k, fun c => absurd (nI_le (Nat.le_refl _) (by omega)) c⟩
  · show xp_X4_rolls_42 a K KX (d + 1) _ _ _ _ _
    rw [xp_X4_rolls_42]
    rw [← nI_1] at h
    simp only [rlf] at h
    unfold xp_X4_rolls_67
    refine ⟨fun c => absurd c (nI_ge hi (by omega)), fun _ => ⟨fun c => ?_, fun c => e_chosen (w := 0) (by omega) rfl ?_⟩⟩
    · rw [if_pos c] at h; exact h
    · rw [if_neg c] at h; exact h
theorem m_rolls {r : Nat → Int32} {m : Nat} {sec left y : Int32} {K : Int32 → Int32 → Prop} (hy : y = nI m) (hm : m ≤ 99) (k : K (rlf sec (vm r 0 12) left m).1 0) : ∃ n9, xp_X5_rolls_52 r K n9 0 sec y left 0 0 := by
  subst hy
  refine ⟨m + 1, lpx (fun d i => xp_X5_rolls_52 r K d 0 sec (nI m) (rlf sec (vm r 0 12) left i).2 (rlf sec (vm r 0 12) left i).1 (nI i)) m (fun d => ?_) (fun d i hi h => ?_)⟩
  · show xp_X5_rolls_52 r K (d + 1) _ _ _ _ _ _
    rw [xp_X5_rolls_52]
    exact ⟨fun _ => k, fun c => absurd (nI_le (Nat.le_refl _) (by omega)) c⟩
  · show xp_X5_rolls_52 r K (d + 1) _ _ _ _ _ _
    rw [xp_X5_rolls_52]
    rw [← nI_1] at h
    simp only [rlf] at h
    have e13 : r 13 = vm r 0 12 := (vm_s r (w := 12) (by omega) (by omega)).symm
    unfold xp_X5_rolls_74
    rw [e13]
    refine ⟨fun c => absurd c (nI_ge hi (by omega)), fun _ => ⟨fun c => ?_, fun c => ?_⟩⟩
    · rw [if_pos c] at h
      refine ⟨fun _ => ?_, fun q => absurd c q⟩
      rw [if_neg (fun q => Int32.not_lt.mpr c q)] at h
      exact h
    · rw [if_neg c] at h
      refine ⟨fun q => ?_, fun q => ?_⟩
      · rw [if_neg (fun t => Int32.not_lt.mpr q t)] at h; exact h
      · rw [if_pos (Int32.not_le.mp q)] at h; exact h
theorem r_1507 {xs : Nat → Int32} {L : Nat} {X : SX → SM → (Nat → Int64) → Int32 → Prop} {sx : SX} {sm : SM} {out : Nat → Int64} {v4 : Int32} {B : Int} (hR : RR B sx sm) (hB : B < 900000) (h1 : vp_in (v4 + 1) L) (h2 : vp_in (v4 + 2) L) (hX : ∀ sx' sm' out', RR (B + 1) sx' sm' → X sx' sm' out' (v4 + 5)) : xp_L_law_1507 xs L X sx sm out v4 := by
  obtain ⟨⟨n, S⟩, hT, hD, hK⟩ := hR
  have S' := S.mono (B' := B + 1) (by omega)
  have D' := hD.mono (B' := B + 1) (by omega)
  have K' := hK.mono (B' := B + 1) (by omega)
  unfold xp_L_law_1507 xp_L_rolls xp_X4_rolls xp_X4_rolls_18 xp_X5_rolls xp_X5_rolls_30
  generalize xs (v4 + 1).toNatClampNeg = x
  generalize xs (v4 + 2).toNatClampNeg = y
  have o : (1 : Int32).toInt = 1 := rfl
  have o9 : (99 : Int32).toInt = 99 := rfl
  refine ⟨h1, h2, e_isLength ?_⟩
  by_cases g : 1 ≤ x ∧ x ≤ 120
  · rw [if_pos g]
    refine ⟨fun q => absurd q (by decide), fun _ => ?_⟩
    by_cases gy : 1 ≤ y ∧ y ≤ 99
    · obtain ⟨e, hb⟩ := rg_nv (rg_mono (show (0 : Int) ≤ 1 by omega) (Int.le_refl 99) ((i_le o o9).mp gy))
      have hb' : y.toNatClampNeg ≤ 99 := by omega
      refine ⟨fun q => absurd q (Int32.not_lt.mpr gy.1), fun _ => ⟨fun _ => e_cameraLeft (e_rolls e hb' ⟨h1, h2, m_inI (lo := 1) (hi := 120) rfl rfl ?_⟩), fun q => absurd gy.2 q⟩⟩
      rw [if_pos g]
      refine ⟨fun q => absurd q (by decide), fun _ => m_inI (lo := 1) (hi := 99) rfl rfl ?_⟩
      rw [if_pos gy]
      refine ⟨fun q => absurd q (by decide), fun _ => m_ref0 ⟨fun _ => m_left (m_rolls e hb' (c_ok rfl (by rw [S.1]; exact uL0 (f := out)) (hX _ _ _ ⟨⟨n, S'⟩, hT, D', K'⟩))), fun q => absurd rfl q⟩⟩
    · refine ⟨fun q => ⟨rfl, h1, h2, m_inI (lo := 1) (hi := 120) rfl rfl ?_⟩, fun q => ⟨fun q1 => absurd ⟨Int32.not_lt.mp q, q1⟩ gy, fun q1 => ⟨rfl, h1, h2, m_inI (lo := 1) (hi := 120) rfl rfl ?_⟩⟩⟩
      all_goals
        rw [if_pos g]
        refine ⟨fun q => absurd q (by decide), fun _ => m_inI (lo := 1) (hi := 99) rfl rfl ?_⟩
        rw [if_neg gy]
        exact ⟨fun _ => m_ref1 ⟨fun q => absurd q (by decide), fun _ => c_th rfl (by decide) (hX _ _ _ ⟨⟨n, S'⟩, hT, D', K'⟩)⟩, fun q => absurd rfl q⟩
  · rw [if_neg g]
    refine ⟨fun _ => ⟨rfl, h1, h2, m_inI (lo := 1) (hi := 120) rfl rfl ?_⟩, fun q => absurd rfl q⟩
    rw [if_neg g]
    exact ⟨fun _ => m_ref1 ⟨fun q => absurd q (by decide), fun _ => c_th rfl (by decide) (hX _ _ _ ⟨⟨n, S'⟩, hT, D', K'⟩)⟩, fun q => absurd rfl q⟩
/-- where two tables' slates differ -/
def xst (V W : Nat → Nat → Int32) : Nat → Int32
  | 0 => 0
  | k + 1 => if isr V k = isr W k then xst V W k ||| 0 else xst V W k ||| ((1 : Int32) <<< (nI k &&& 31))
theorem xst_bit (V W : Nat → Nat → Int32) : ∀ n, n ≤ 24 → ∀ j, (un (xst V W n)).testBit j = (decide (j < n) && (isr V j ^^ isr W j))
  | 0, _, j => by
    simp only [xst]
    rw [show un 0 = 0 from rfl, Nat.zero_testBit]; simp
  | n + 1, h, j => by
    have ih := xst_bit V W n (by omega) j
    unfold xst
    by_cases hr : isr V n = isr W n
    · rw [if_pos hr, un_or, show un 0 = 0 from rfl, Nat.or_zero, ih]
      by_cases hj : j = n
      · subst hj; simp [hr]
      · have : (j < n + 1) ↔ j < n := by omega
        simp [this]
    · rw [if_neg hr, un_or, Nat.testBit_or, ih, un_bit (by omega), Nat.testBit_two_pow]
      by_cases hj : n = j
      · subst hj
        have : (isr V n ^^ isr W n) = true := by
          revert hr
          cases isr V n <;> cases isr W n <;> simp
        simp [this]
      · have : (j < n + 1) ↔ j < n := by omega
        simp [hj, this]
theorem xst_eq (V W : Nat → Nat → Int32) {n : Nat} (h : n ≤ 24) : wset V n ^^^ wset W n = xst V W n := by
  refine un_inj (Nat.eq_of_testBit_eq (fun j => ?_))
  rw [un_xor, Nat.testBit_xor, wset_bit V n h, wset_bit W n h, xst_bit V W n h]
  by_cases hj : j < n
  · simp only [hj, decide_true, Bool.true_and]
    cases isr V j <;> cases isr W j <;> rfl
  · simp [hj]
theorem m_ifF {r t : Nat → Int32} {n : Nat} {K : Int32 → (Int32 × (Nat → Int32)) → Prop} (hn : vm r 0 0 = nI n) (h24 : n ≤ 24) (k : K (xst (vm r) (vm t) n) (0, t)) : ∃ n9, xp_X5_ifFalse_64 r K n9 0 t 0 0 := by
  have h0 : r 0 = nI n := by rw [← vm_h r (w := 0) (by omega)]; exact hn
  refine ⟨n + 1, lpx (fun m i => xp_X5_ifFalse_64 r K m 0 t (xst (vm r) (vm t) i) (nI i)) n (fun m => ?_) (fun m i hi h => ?_)⟩
  · show xp_X5_ifFalse_64 r K (m + 1) _ _ _ _
    rw [xp_X5_ifFalse_64, h0]
    exact ⟨fun _ => k, fun c => absurd (nI_le (Nat.le_refl _) (by omega)) c⟩
  · show xp_X5_ifFalse_64 r K (m + 1) _ _ _ _
    rw [xp_X5_ifFalse_64, h0]
    rw [← nI_1] at h
    simp only [xst] at h
    refine ⟨fun c => absurd c (nI_ge hi (by omega)), fun _ => m_isRight (i := i) (by omega) rfl (m_isRight (i := i) (by omega) rfl ⟨fun c => ?_, fun c => ?_⟩)⟩
    · have : ¬ isr (vm r) i = isr (vm t) i := fun q => c (by rw [q])
      rw [if_neg this] at h; exact h
    · have : isr (vm r) i = isr (vm t) i := by
        revert c
        cases isr (vm r) i <;> cases isr (vm t) i <;> simp
      rw [if_pos this] at h; exact h
theorem r_1575 {xs : Nat → Int32} {L : Nat} {X : SX → SM → (Nat → Int64) → Int32 → Prop} {sx : SX} {sm : SM} {out : Nat → Int64} {v4 : Int32} {B : Int} (hR : RR B sx sm) (hB : B < 900000) (h1 : vp_in (v4 + 1) L) (hX : ∀ sx' sm' out', RR (B + 1) sx' sm' → X sx' sm' out' (v4 + 5)) : xp_L_law_1575 xs L X sx sm out v4 := by
  obtain ⟨⟨n, S⟩, hT, hD, hK⟩ := hR
  have S' := S.mono (B' := B + 1) (by omega)
  have D' := hD.mono (B' := B + 1) (by omega)
  have K' := hK.mono (B' := B + 1) (by omega)
  have ms := S.ms
  have h24 := S.n24
  unfold xp_L_law_1575 xp_L_ifFalse xp_X4_ifFalse xp_X4_ifFalse_57 xp_X5_ifFalse xp_X5_ifFalse_17
  generalize xs (v4 + 1).toNatClampNeg = y
  have ref : ∀ i, i < n → y = nI i → ∀ (b : Int32) (cp : Nat → Int32), b = 1 - vm sm.2.2.2.1 (i + 1) 15 → ∀ (K : Int32 → (Int32 × (Nat → Int32)) → Prop), (∀ t, K (wset (vw sx.1) n ^^^ wset (aMark (vw sx.1) i 15 b) n) (0, t)) → xp_X5_isTake sm.2.2.2.1 y (fun r1 => ((r1 = 0 → xp_X5_refused sm.1 1 (fun r1 u1 => ((r1 = 0 → xp_X5_copyState 377 377 sm.2.2.2.1 sm.2.2.2.2.1 0 0 (fun u3 => xp_X5_of sm.2.2.2.1 y 14 (fun r4 => xp_X5_lay u3 y 14 (1 - r4) (fun u5 => ∃ n9, xp_X5_ifFalse_64 sm.2.2.2.1 K n9 u1 u5 0 0)))) ∧ (¬ r1 = 0 → K (0 : Int32) (u1, sm.2.2.2.2.1))))) ∧ (¬ r1 = 0 → xp_X5_refused sm.1 0 (fun r1 u1 => ((r1 = 0 → xp_X5_copyState 377 377 sm.2.2.2.1 sm.2.2.2.2.1 0 0 (fun u3 => xp_X5_of sm.2.2.2.1 y 14 (fun r4 => xp_X5_lay u3 y 14 (1 - r4) (fun u5 => ∃ n9, xp_X5_ifFalse_64 sm.2.2.2.1 K n9 u1 u5 0 0)))) ∧ (¬ r1 = 0 → K (0 : Int32) (u1, sm.2.2.2.2.1))))))) := by
    intro i hi hy b cp hb K k
    refine m_isTake ms.n0 h24 (fun _ _ _ => ⟨fun q => absurd q (by decide), fun _ => m_ref0 ⟨fun _ => m_copy (p := 0) (q := 0) rfl rfl (by omega) (by omega) (by omega) (by omega) (fun u q1 q2 => m_of (i := i) (w := 15) (z := 14) (by omega) (by omega) (by omega) hy rfl rfl (m_lay (i := i) (w := 15) (z := 14) (by omega) (by omega) (by omega) hy rfl rfl (fun t ht _ => m_ifF ms.n0 h24 ?_))), fun q => absurd rfl q⟩⟩) (fun g => absurd ⟨(ix_nI (x := y) (by omega) hy).1, by rw [(ix_nI (x := y) (by omega) hy).2]; exact hi⟩ (ix_no h24 g))
    have eu : vm u = vm sm.2.2.2.1 := vm_ext (fun j hj => by have := q1 j hj; rw [Nat.zero_add] at this; exact this)
    have := k t
    rw [xst_eq _ _ h24, S.1, hb] at this
    rw [ht, eu]; exact this
  refine ⟨h1, e_hasTake S.n0 h24 (fun i hi hy => ⟨fun _ => e_copyFrom (fun cp hcp => e_of (i := i) (w := 15) (by omega) (by omega) (by omega) hy rfl ⟨fun c => ?_, fun c => ?_⟩), fun q => absurd q (by decide)⟩) (fun g => ⟨fun q => absurd rfl q, fun _ => ⟨rfl, h1, ?_⟩⟩)⟩
  · have t15 : rg 0 1 (vw sx.1 (i + 1) 15) := S.2.1.2.2.2.1 i hi 15
    have e1 : vw sx.1 (i + 1) 15 = 1 := by
      rw [← Int32.toInt_inj] at c ⊢
      have z : (0 : Int32).toInt = 0 := rfl
      have o : (1 : Int32).toInt = 1 := rfl
      rw [z] at c
      rw [o]
      have := t15.1; have := t15.2
      omega
    refine e_mark (n := n) (by rw [hcp]; exact S.n0) h24 (w := 15) (by omega) (by omega) rfl (fun i' hi' hy' a' ha => e_wrongSet S.n0 h24 (e_wrongSet (n := n) (by rw [ha]; unfold aMark; rw [vu_n (by omega), hcp]; exact S.n0) h24 ⟨h1, ?_⟩)) (fun g => absurd ⟨(ix_nI (x := y) (by omega) hy).1, by rw [(ix_nI (x := y) (by omega) hy).2]; exact hi⟩ (ix_no h24 g))
    have ii : i' = i := nI_inj (by omega) (by omega) (hy'.symm.trans hy)
    subst ii
    refine ref i' hi hy 0 cp (by rw [← S.1, e1]; rfl) _ (fun t => c_ok rfl ?_ (hX _ _ _ ⟨⟨n, S'⟩, hT, D', K'⟩))
    rw [ha, hcp]; exact uL0 (f := out)
  · refine e_mark (n := n) (by rw [hcp]; exact S.n0) h24 (w := 15) (by omega) (by omega) rfl (fun i' hi' hy' a' ha => e_wrongSet S.n0 h24 (e_wrongSet (n := n) (by rw [ha]; unfold aMark; rw [vu_n (by omega), hcp]; exact S.n0) h24 ⟨h1, ?_⟩)) (fun g => absurd ⟨(ix_nI (x := y) (by omega) hy).1, by rw [(ix_nI (x := y) (by omega) hy).2]; exact hi⟩ (ix_no h24 g))
    have ii : i' = i := nI_inj (by omega) (by omega) (hy'.symm.trans hy)
    subst ii
    refine ref i' hi hy 1 cp (by rw [← S.1, c]; rfl) _ (fun t => c_ok rfl ?_ (hX _ _ _ ⟨⟨n, S'⟩, hT, D', K'⟩))
    rw [ha, hcp]; exact uL0 (f := out)
  · exact m_isTake ms.n0 h24 (fun i hi hy => absurd ⟨(ix_nI (x := y) (by omega) hy).1, by rw [(ix_nI (x := y) (by omega) hy).2]; exact hi⟩ (ix_no h24 g)) (fun _ => ⟨fun _ => m_ref1 ⟨fun q => absurd q (by decide), fun _ => c_th rfl (by decide) (hX _ _ _ ⟨⟨n, S'⟩, hT, D', K'⟩)⟩, fun q => absurd rfl q⟩)
