/-! ===== reading: a number, a letter ===== -/
/-- the reading of a number's digits at p, v read so far: whether it goes, where it ends, the number -/
def fg (T : Nat → Int32) (k : Nat) (lo hi : Int32) : List Int32 → Nat → Int32 → Bool × Nat × Int32
  | [], p, v => (true, p, v)
  | w :: ws, p, v =>
    if p < k ∧ 48 ≤ T p ∧ T p ≤ 57 then
      (if hi < v + (T p - 48) * w then (false, p, v + (T p - 48) * w) else if lo ≤ v + (T p - 48) * w + w - 1 then fg T k lo hi ws (p + 1) (v + (T p - 48) * w) else (false, p, v + (T p - 48) * w))
    else (false, p, v)
def lt (T : Nat → Int32) (k p : Nat) : Bool × Nat × Int32 := if p < k ∧ 65 ≤ T p ∧ T p ≤ 90 then (true, p + 1, T p - 65) else (false, p, 0)
/-- the weights from v4 on -/
def Ch : Int32 → List Int32 → Prop
  | v, [] => v ≤ 0
  | v, w :: ws => v = w ∧ ¬ v ≤ 0 ∧ Ch (v / 10) ws
theorem ch2 : Ch 10 [10, 1] := ⟨rfl, by decide, ⟨by decide, by decide, (by decide : ((10 : Int32) / 10) / 10 ≤ 0)⟩⟩
theorem ch3 : Ch 100 [100, 10, 1] := ⟨rfl, by decide, ⟨by decide, by decide, ⟨by decide, by decide, (by decide : (((100 : Int32) / 10) / 10) / 10 ≤ 0)⟩⟩⟩
theorem fg_congr {T T' : Nat → Int32} {k : Nat} {lo hi : Int32} (h : ∀ j, j < k → T j = T' j) : ∀ ws p v, fg T k lo hi ws p v = fg T' k lo hi ws p v
  | [], _, _ => rfl
  | w :: ws, p, v => by
    unfold fg
    by_cases c : p < k
    · rw [h p c, fg_congr h ws (p + 1)]
    · rw [if_neg (fun q => c q.1), if_neg (fun q => c q.1)]
theorem lt_congr {T T' : Nat → Int32} {k : Nat} (h : ∀ j, j < k → T j = T' j) (p : Nat) : lt T k p = lt T' k p := by
  unfold lt
  by_cases c : p < k
  · rw [h p c]
  · rw [if_neg (fun q => c q.1), if_neg (fun q => c q.1)]
theorem fg_no {T : Nat → Int32} {k : Nat} {lo hi w v : Int32} {ws : List Int32} {p : Nat} (h : ¬ (p < k ∧ 48 ≤ T p ∧ T p ≤ 57)) : fg T k lo hi (w :: ws) p v = (false, p, v) := by
  conv => lhs; unfold fg
  rw [if_neg h]
theorem fg_hi {T : Nat → Int32} {k : Nat} {lo hi w v : Int32} {ws : List Int32} {p : Nat} (h : p < k ∧ 48 ≤ T p ∧ T p ≤ 57) (c : hi < v + (T p - 48) * w) : fg T k lo hi (w :: ws) p v = (false, p, v + (T p - 48) * w) := by
  conv => lhs; unfold fg
  rw [if_pos h, if_pos c]
theorem fg_lo {T : Nat → Int32} {k : Nat} {lo hi w v : Int32} {ws : List Int32} {p : Nat} (h : p < k ∧ 48 ≤ T p ∧ T p ≤ 57) (c : ¬ hi < v + (T p - 48) * w) (c1 : ¬ lo ≤ v + (T p - 48) * w + w - 1) : fg T k lo hi (w :: ws) p v = (false, p, v + (T p - 48) * w) := by
  conv => lhs; unfold fg
  rw [if_pos h, if_neg c, if_neg c1]
theorem fg_go {T : Nat → Int32} {k : Nat} {lo hi w v : Int32} {ws : List Int32} {p : Nat} (h : p < k ∧ 48 ≤ T p ∧ T p ≤ 57) (c : ¬ hi < v + (T p - 48) * w) (c1 : lo ≤ v + (T p - 48) * w + w - 1) : fg T k lo hi (w :: ws) p v = fg T k lo hi ws (p + 1) (v + (T p - 48) * w) := by
  conv => lhs; unfold fg
  rw [if_pos h, if_neg c, if_pos c1]
theorem lt_y {T : Nat → Int32} {k p : Nat} (h : p < k ∧ 65 ≤ T p ∧ T p ≤ 90) : lt T k p = (true, p + 1, T p - 65) := by
  unfold lt; rw [if_pos h]
theorem lt_n {T : Nat → Int32} {k p : Nat} (h : ¬ (p < k ∧ 65 ≤ T p ∧ T p ≤ 90)) : lt T k p = (false, p, 0) := by
  unfold lt; rw [if_neg h]
/-- characters of the text -/
def chR (T : Nat → Int32) (k : Nat) : Prop := ∀ j, j < k → rg 0 255 (T j)
theorem m1v : (-1 : Int32).toInt = -1 := rfl
theorem dg_sub {c d : Int32} {D : Nat} (hc : rg 0 255 c) (hd : d.toInt = D) (hD : D < 1000) : (c - d).toInt = c.toInt - D := by
  rw [i_sub (by rw [hd]; have := hc.1; omega) (by rw [hd]; have := hc.2; omega), hd]
/-- a sign in a range is read -/
theorem e_sign {T : Nat → Int32} {k p : Nat} {lo hi : Int32} {K : Int32 → Int32 → Prop} (hk : k ≤ 120) (k1 : p < k → lo ≤ T p → T p ≤ hi → K (T p) (nI (p + 1))) (k0 : ¬ (p < k ∧ lo ≤ T p ∧ T p ≤ hi) → K (-1) (nI p)) (hp : p ≤ 200) : xp_X0_readSign T (nI k) (nI p) lo hi K := by
  unfold xp_X0_readSign
  rw [nI_1]
  refine ⟨fun c => absurd c (nI_pos (by omega)), fun _ => ⟨fun c => k0 (fun q => nI_ge q.1 (by omega) c), fun c => ?_⟩⟩
  have hpk : p < k := by
    rcases Nat.lt_or_ge p k with q | q
    · exact q
    · exact absurd (nI_le q (by omega)) c
  have i120 : vp_in (nI p) 120 := vp_in_nI (by omega) (by omega)
  rw [nI_clamp (by omega)]
  refine ⟨fun c => absurd c (nI_ge (b := 120) (by omega) (by omega)), fun _ => ⟨i120, ⟨fun c1 => k0 (fun q => Int32.not_lt.mpr q.2.1 c1), fun c1 => ⟨i120, ⟨fun c2 => ⟨i120, k1 hpk (Int32.not_lt.mp c1) c2⟩, fun c2 => k0 (fun q => c2 q.2.2)⟩⟩⟩⟩⟩
theorem e_number {T : Nat → Int32} {k : Nat} {lo hi : Int32} {K : Int32 → (Int32 × Int32) → Prop} (hk : k ≤ 120) (hT : chR T k) : ∀ (ws : List Int32) (v4 : Int32) (p : Nat) (v : Int32), Ch v4 ws → p + ws.length ≤ 200 → K (if (fg T k lo hi ws p v).1 = true then 1 else 0) (nI (fg T k lo hi ws p v).2.1, (fg T k lo hi ws p v).2.2) → xp_X0_readNumber_8 T (nI k) K (ws.length + 1) (nI p) v lo hi v4
  | [], v4, p, v, hc, _, kk => by
    rw [List.length_nil, xp_X0_readNumber_8]
    exact ⟨fun _ => kk, fun c => absurd hc c⟩
  | w :: ws, v4, p, v, hc, hp, kk => by
    obtain ⟨rfl, hpos, hnext⟩ := hc
    rw [List.length_cons] at hp ⊢
    rw [xp_X0_readNumber_8]
    refine ⟨fun c => absurd c hpos, fun _ => e_sign hk (fun g1 g2 g3 => ?_) (fun g => ?_) (by omega)⟩
    · have r := hT p g1
      have d : (T p - 48).toInt = (T p).toInt - 48 := dg_sub (D := 48) r rfl (by omega)
      refine ⟨fun _ => ⟨fun c => ?_, fun c => ⟨fun c1 => ?_, fun c1 => ?_⟩⟩, fun c => absurd ?_ c⟩
      · rw [fg_hi ⟨g1, g2, g3⟩ c] at kk
        unfold xp_X0_readNumber_68
        rw [nI_pred]; exact kk
      · rw [fg_go ⟨g1, g2, g3⟩ c c1] at kk
        exact e_number hk hT ws _ _ _ hnext (by omega) kk
      · rw [fg_lo ⟨g1, g2, g3⟩ c c1] at kk
        unfold xp_X0_readNumber_68
        rw [nI_pred]; exact kk
      · rw [Int32.le_iff_toInt_le] at g2 ⊢
        have o : (48 : Int32).toInt = 48 := rfl
        have z : (0 : Int32).toInt = 0 := rfl
        rw [o] at g2
        rw [d, z]; omega
    · rw [fg_no g] at kk
      exact ⟨fun c => absurd c (by decide), fun _ => kk⟩
theorem m_figs {T : Nat → Int32} {k : Nat} {lo hi : Int32} {ah : Int32} {K : Int32 → Int32 → Prop} (hk : k ≤ 120) (hT : chR T k) (ha : ¬ ah = -1) : ∀ (ws : List Int32) (v4 : Int32) (p : Nat) (v : Int32), Ch v4 ws → p + ws.length ≤ 200 → K (if (fg T k lo hi ws p v).1 = true then (fg T k lo hi ws p v).2.2 else -1) (nI (fg T k lo hi ws p v).2.1) → xp_X5_figures_17 T (nI k) K (ws.length + 1) (nI p) ah lo hi v v4
  | [], v4, p, v, hc, _, kk => by
    rw [List.length_nil, xp_X5_figures_17]
    exact ⟨fun _ => ⟨fun _ => kk, fun c => absurd c ha⟩, fun c => absurd hc c⟩
  | w :: ws, v4, p, v, hc, hp, kk => by
    obtain ⟨rfl, hpos, hnext⟩ := hc
    rw [List.length_cons] at hp ⊢
    rw [xp_X5_figures_17]
    unfold xp_X5_figures_54
    refine ⟨fun c => absurd c hpos, fun _ => ⟨fun c => absurd c ha, fun _ => ⟨fun c => ?_, fun c => ⟨?_, ?_⟩⟩⟩⟩
    · have g : ¬ p < k := fun q => nI_ge q (by omega) c
      rw [fg_no (fun q => g q.1)] at kk
      refine m_inI (lo := 0) (hi := 9) rfl rfl ?_
      rw [if_neg (by decide)]
      exact ⟨fun _ => kk, fun q => absurd rfl q⟩
    · have hpk : p < k := by
        rcases Nat.lt_or_ge p k with q | q
        · exact q
        · exact absurd (nI_le q (by omega)) c
      exact vp_in_nI (by omega) (by omega)
    · have hpk : p < k := by
        rcases Nat.lt_or_ge p k with q | q
        · exact q
        · exact absurd (nI_le q (by omega)) c
      rw [nI_clamp (by omega)]
      have r := hT p hpk
      have d : (T p - 48).toInt = (T p).toInt - 48 := dg_sub (D := 48) r rfl (by omega)
      have o : (48 : Int32).toInt = 48 := rfl
      have o7 : (57 : Int32).toInt = 57 := rfl
      have o9 : (9 : Int32).toInt = 9 := rfl
      have z : (0 : Int32).toInt = 0 := rfl
      refine m_inI (lo := 0) (hi := 9) rfl rfl ?_
      by_cases g : 48 ≤ T p ∧ T p ≤ 57
      · rw [if_pos (by rw [Int32.le_iff_toInt_le, Int32.le_iff_toInt_le, o, o7] at g; rw [Int32.le_iff_toInt_le, Int32.le_iff_toInt_le, z, o9, d]; omega)]
        refine ⟨fun q => absurd q (by decide), fun _ => ⟨fun c1 => ?_, fun c1 => ⟨fun c2 => ?_, fun c2 => ?_⟩⟩⟩
        · rw [fg_hi ⟨hpk, g⟩ c1] at kk; exact kk
        · rw [fg_go ⟨hpk, g⟩ c1 c2] at kk
          rw [nI_1]
          exact m_figs hk hT ha ws _ _ _ hnext (by omega) kk
        · rw [fg_lo ⟨hpk, g⟩ c1 c2] at kk; exact kk
      · rw [fg_no (fun q => g q.2)] at kk
        rw [if_neg (by rw [Int32.le_iff_toInt_le, Int32.le_iff_toInt_le, o, o7] at g; rw [Int32.le_iff_toInt_le, Int32.le_iff_toInt_le, z, o9, d]; omega)]
        exact ⟨fun _ => kk, fun q => absurd rfl q⟩
theorem m_figures {T : Nat → Int32} {k p : Nat} {lo hi ah dg : Int32} {K : Int32 → Int32 → Prop} {ws : List Int32} (hk : k ≤ 120) (hT : chR T k) (ha : ¬ ah = -1) (hp : p ≤ 190) (hd : (dg = 2 ∧ ws = [10, 1]) ∨ (dg = 3 ∧ ws = [100, 10, 1]))
    (kk : K (if (fg T k lo hi ws p 0).1 = true then (fg T k lo hi ws p 0).2.2 else -1) (nI (fg T k lo hi ws p 0).2.1)) : xp_X5_figures T (nI k) (nI p) ah dg lo hi K := by
  unfold xp_X5_figures
  rcases hd with ⟨rfl, rfl⟩ | ⟨rfl, rfl⟩
  · exact ⟨fun _ => ⟨_, m_figs hk hT ha _ 10 p 0 ch2 (by simp; omega) kk⟩, fun c => absurd c (by decide)⟩
  · exact ⟨fun c => absurd rfl c, fun _ => ⟨_, m_figs hk hT ha _ 100 p 0 ch3 (by simp; omega) kk⟩⟩
/-- behind what was not read nothing is read -/
theorem m_figures0 {T : Nat → Int32} {sz sp lo hi dg : Int32} {K : Int32 → Int32 → Prop} (kk : K (-1) sp) : xp_X5_figures T sz sp (-1) dg lo hi K := by
  unfold xp_X5_figures
  have go : ∀ v : Int32, ¬ v ≤ 0 → xp_X5_figures_17 T sz K (0 + 1) sp (-1) lo hi 0 v := by
    intro v hv
    rw [xp_X5_figures_17]
    exact ⟨fun c => absurd c hv, fun _ => ⟨fun _ => ⟨fun c => absurd rfl c, fun _ => kk⟩, fun c => absurd rfl c⟩⟩
  exact ⟨fun _ => ⟨_, go 10 (by decide)⟩, fun _ => ⟨_, go 100 (by decide)⟩⟩
theorem m_letter {T : Nat → Int32} {k p : Nat} {ah : Int32} {K : Int32 → Int32 → Prop} (hk : k ≤ 120) (hT : chR T k) (ha : ¬ ah = -1) (hp : p ≤ 190) (kk : K (if (lt T k p).1 = true then (lt T k p).2.2 else -1) (nI (lt T k p).2.1)) : xp_X5_letter T (nI k) (nI p) ah K := by
  unfold xp_X5_letter xp_X5_letter_27
  refine ⟨fun c => ⟨fun q => absurd q ha, fun _ => ?_⟩, fun c => ?_⟩
  · have g : ¬ p < k := fun q => nI_ge q (by omega) c
    rw [lt_n (fun q => g q.1)] at kk
    refine m_inI (lo := 0) (hi := 25) rfl rfl ?_
    rw [if_neg (by decide)]
    exact ⟨fun q => absurd rfl q, fun _ => kk⟩
  · have hpk : p < k := by
      rcases Nat.lt_or_ge p k with q | q
      · exact q
      · exact absurd (nI_le q (by omega)) c
    refine ⟨vp_in_nI (by omega) (by omega), ⟨fun q => absurd q ha, fun _ => ?_⟩⟩
    rw [nI_clamp (by omega), nI_1]
    have r := hT p hpk
    have d : (T p - 65).toInt = (T p).toInt - 65 := dg_sub (D := 65) r rfl (by omega)
    have o : (65 : Int32).toInt = 65 := rfl
    have o7 : (90 : Int32).toInt = 90 := rfl
    have o9 : (25 : Int32).toInt = 25 := rfl
    have z : (0 : Int32).toInt = 0 := rfl
    refine m_inI (lo := 0) (hi := 25) rfl rfl ?_
    by_cases g : 65 ≤ T p ∧ T p ≤ 90
    · rw [lt_y ⟨hpk, g⟩] at kk
      rw [if_pos (by rw [Int32.le_iff_toInt_le, Int32.le_iff_toInt_le, o, o7] at g; rw [Int32.le_iff_toInt_le, Int32.le_iff_toInt_le, z, o9, d]; omega)]
      exact ⟨fun _ => kk, fun q => absurd q (by decide)⟩
    · rw [lt_n (fun q => g q.2)] at kk
      rw [if_neg (by rw [Int32.le_iff_toInt_le, Int32.le_iff_toInt_le, o, o7] at g; rw [Int32.le_iff_toInt_le, Int32.le_iff_toInt_le, z, o9, d]; omega)]
      exact ⟨fun q => absurd rfl q, fun _ => kk⟩
theorem m_letter0 {T : Nat → Int32} {sz : Int32} {k p : Nat} {K : Int32 → Int32 → Prop} (hs : sz = nI k) (hk : k ≤ 120) (hp : p ≤ 190) (kk : K (-1) (nI p)) : xp_X5_letter T sz (nI p) (-1) K := by
  subst hs
  unfold xp_X5_letter xp_X5_letter_27
  refine ⟨fun c => ⟨fun _ => kk, fun q => absurd rfl q⟩, fun c => ⟨?_, ⟨fun _ => kk, fun q => absurd rfl q⟩⟩⟩
  rcases Nat.lt_or_ge p k with q | q
  · exact vp_in_nI (by omega) (by omega)
  · exact absurd (nI_le q (by omega)) c
/-- what was read lies in its range, and ends at most so far behind -/
theorem fg_ok {T : Nat → Int32} {k : Nat} {lo hi : Int32} : ∀ (ws : List Int32) (p : Nat) (v : Int32), (fg T k lo hi (ws ++ [1]) p v).1 = true → lo ≤ (fg T k lo hi (ws ++ [1]) p v).2.2 ∧ (fg T k lo hi (ws ++ [1]) p v).2.2 ≤ hi
  | [], p, v => by
    intro h
    simp only [List.nil_append, fg] at h ⊢
    split at h
    · split at h
      · exact absurd h Bool.false_ne_true
      · split at h
        · rename_i g c1 c2
          rw [if_pos g, if_neg c1, if_pos c2]
          have e : ∀ x : Int32, x + 1 - 1 = x := fun x => by rw [Int32.sub_eq_add_neg, Int32.add_assoc]; show x + (1 + -1) = x; exact Int32.add_zero x
          rw [e] at c2
          exact ⟨c2, Int32.not_lt.mp c1⟩
        · exact absurd h Bool.false_ne_true
    · exact absurd h Bool.false_ne_true
  | w :: ws, p, v => by
    intro h
    have ih := fun p v => fg_ok (T := T) (k := k) (lo := lo) (hi := hi) ws p v
    simp only [List.cons_append, fg] at h ⊢
    split at h
    · split at h
      · exact absurd h Bool.false_ne_true
      · split at h
        · rename_i g c1 c2
          rw [if_pos g, if_neg c1, if_pos c2]
          exact ih _ _ h
        · exact absurd h Bool.false_ne_true
    · exact absurd h Bool.false_ne_true
theorem fg_end {T : Nat → Int32} {k : Nat} {lo hi : Int32} : ∀ (ws : List Int32) (p : Nat) (v : Int32), p ≤ (fg T k lo hi ws p v).2.1 ∧ ((fg T k lo hi ws p v).2.1 ≤ p + ws.length) ∧ ((fg T k lo hi ws p v).1 = true → p ≤ k → (fg T k lo hi ws p v).2.1 ≤ k)
  | [], p, v => ⟨Nat.le_refl _, Nat.le_refl _, fun _ h => h⟩
  | w :: ws, p, v => by
    have ih := fun p v => fg_end (T := T) (k := k) (lo := lo) (hi := hi) ws p v
    simp only [fg, List.length_cons]
    split
    · rename_i g
      split
      · exact ⟨Nat.le_refl _, by show p ≤ _; omega, fun h => absurd h Bool.false_ne_true⟩
      · split
        · obtain ⟨i1, i2, i3⟩ := ih (p + 1) (v + (T p - 48) * w)
          exact ⟨by omega, by omega, fun h _ => i3 h (by omega)⟩
        · exact ⟨Nat.le_refl _, by show p ≤ _; omega, fun h => absurd h Bool.false_ne_true⟩
    · exact ⟨Nat.le_refl _, by show p ≤ _; omega, fun h => absurd h Bool.false_ne_true⟩
