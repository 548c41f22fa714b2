/-! ===== a command of the text: how it is read, what it does ===== -/
/-- whether it is one, where its reading ends, sign, scene, letter, number -/
def rc (T : Nat → Int32) (k p : Nat) : Bool × Nat × Int32 × Int32 × Int32 × Int32 :=
  if T p = 98 then
    (if (fg T k 1 99 [10, 1] (p + 1) 0).1 = true then
      (if (lt T k (fg T k 1 99 [10, 1] (p + 1) 0).2.1).1 = true then
        ((fg T k 1 99 [10, 1] (lt T k (fg T k 1 99 [10, 1] (p + 1) 0).2.1).2.1 0).1, (fg T k 1 99 [10, 1] (lt T k (fg T k 1 99 [10, 1] (p + 1) 0).2.1).2.1 0).2.1, T p, (fg T k 1 99 [10, 1] (p + 1) 0).2.2, (lt T k (fg T k 1 99 [10, 1] (p + 1) 0).2.1).2.2, (fg T k 1 99 [10, 1] (lt T k (fg T k 1 99 [10, 1] (p + 1) 0).2.1).2.1 0).2.2)
      else (false, (lt T k (fg T k 1 99 [10, 1] (p + 1) 0).2.1).2.1, T p, 0, 0, 0))
    else (false, (fg T k 1 99 [10, 1] (p + 1) 0).2.1, T p, 0, 0, 0))
  else if T p = 99 then
    (if (fg T k 1 99 [10, 1] (p + 1) 0).1 = true then
      ((lt T k (fg T k 1 99 [10, 1] (p + 1) 0).2.1).1, (lt T k (fg T k 1 99 [10, 1] (p + 1) 0).2.1).2.1, T p, (fg T k 1 99 [10, 1] (p + 1) 0).2.2, (lt T k (fg T k 1 99 [10, 1] (p + 1) 0).2.1).2.2, 0)
    else (false, (fg T k 1 99 [10, 1] (p + 1) 0).2.1, T p, 0, 0, 0))
  else if T p = 109 ∨ T p = 116 then ((fg T k 1 120 [100, 10, 1] (p + 1) 0).1, (fg T k 1 120 [100, 10, 1] (p + 1) 0).2.1, T p, 0, 0, (fg T k 1 120 [100, 10, 1] (p + 1) 0).2.2)
  else if T p = 102 ∨ T p = 111 then ((fg T k 0 23 [10, 1] (p + 1) 0).1, (fg T k 0 23 [10, 1] (p + 1) 0).2.1, T p, 0, 0, (fg T k 0 23 [10, 1] (p + 1) 0).2.2)
  else if T p = 118 then ((fg T k 0 99 [10, 1] (p + 1) 0).1, (fg T k 0 99 [10, 1] (p + 1) 0).2.1, T p, 0, 0, (fg T k 0 99 [10, 1] (p + 1) 0).2.2)
  else if T p = 110 ∨ T p = 114 ∨ T p = 115 then (true, p + 1, T p, 0, 0, 0)
  else (false, p, T p, 0, 0, 0)
theorem rc_congr {T T' : Nat → Int32} {k p : Nat} (h : ∀ j, j < k → T j = T' j) (hp : p < k) : rc T k p = rc T' k p := by
  have e1 := h p hp
  have e2 := fun lo hi ws q v => fg_congr (lo := lo) (hi := hi) h ws q v
  have e3 := lt_congr h
  unfold rc
  simp only [e1, e2, e3]
abbrev St : Type := Nat × (Nat → Nat → Int32)
/-- what a command does to a state of n takes; false where it is left out -/
def eff (c s l m : Int32) (q : St) : Bool × St :=
  if c = 98 then (true, q.1, aWrite q.2 s l m)
  else if c = 99 then (true, q.1, aMean q.2 s l)
  else if c = 114 then (true, q.1, aWrite q.2 (q.2 0 1) (q.2 0 2) (nI (nno q.2 q.1)))
  else if c = 109 ∨ c = 116 then
    (if (1 ≤ m ∧ m ≤ 120) ∧ (q.1 < 24 ∧ (0 : Int32) < q.2 0 12 - q.2 0 7) then (true, q.1 + 1, vfilm q.2 q.1 (vlen q.2 m) (vhas q.2 (vlen q.2 m) (if c = 116 then 1 else 0))) else (false, q))
  else if c = 110 then (true, q.1, aCam q.2)
  else if c = 115 then (true, q.1, aSnd q.2)
  else if c = 102 then (if ¬ m < 0 ∧ m.toNatClampNeg < q.1 then (true, q.1, aMark q.2 m.toNatClampNeg 15 1) else (false, q))
  else if c = 111 then (if ¬ m < 0 ∧ m.toNatClampNeg < q.1 then (true, q.1, aMark q.2 m.toNatClampNeg 14 1) else (false, q))
  else (true, q.1, aOff q.2 (m - 50))
def vld (c s l m : Int32) : Prop :=
  (c = 98 ∧ rg 1 99 s ∧ rg 0 25 l ∧ rg 1 99 m) ∨ (c = 99 ∧ rg 1 99 s ∧ rg 0 25 l) ∨ ((c = 109 ∨ c = 116) ∧ rg 1 120 m) ∨ ((c = 102 ∨ c = 111) ∧ rg 0 23 m) ∨ (c = 118 ∧ rg 0 99 m) ∨ c = 110 ∨ c = 114 ∨ c = 115
theorem rg_le {lo hi : Int32} {L H : Nat} {x : Int32} (h : lo ≤ x ∧ x ≤ hi) (e1 : lo.toInt = L) (e2 : hi.toInt = H) : rg L H x := by
  rw [Int32.le_iff_toInt_le, Int32.le_iff_toInt_le, e1, e2] at h
  exact h
theorem lt_rg {T : Nat → Int32} {k p : Nat} (hT : chR T k) (h : (lt T k p).1 = true) : rg 0 25 (lt T k p).2.2 := by
  by_cases g : p < k ∧ 65 ≤ T p ∧ T p ≤ 90
  · rw [lt_y g]
    have d : (T p - 65).toInt = (T p).toInt - 65 := dg_sub (D := 65) (hT p g.1) rfl (by omega)
    have g2 := g.2
    rw [Int32.le_iff_toInt_le, Int32.le_iff_toInt_le] at g2
    have o : (65 : Int32).toInt = 65 := rfl
    have o7 : (90 : Int32).toInt = 90 := rfl
    rw [o, o7] at g2
    show rg 0 25 (T p - 65)
    unfold rg
    rw [d]; omega
  · rw [lt_n g] at h; exact absurd h Bool.false_ne_true
theorem lt_end {T : Nat → Int32} {k p : Nat} : p ≤ (lt T k p).2.1 ∧ (lt T k p).2.1 ≤ p + 1 ∧ ((lt T k p).1 = true → p ≤ k → (lt T k p).2.1 ≤ k) := by
  by_cases g : p < k ∧ 65 ≤ T p ∧ T p ≤ 90
  · rw [lt_y g]
    exact ⟨by show p ≤ p + 1; omega, Nat.le_refl _, fun _ _ => by show p + 1 ≤ k; omega⟩
  · rw [lt_n g]
    exact ⟨Nat.le_refl _, by show p ≤ p + 1; omega, fun h => absurd h Bool.false_ne_true⟩
theorem fg2 {T : Nat → Int32} {k p : Nat} {lo hi : Int32} {L H : Nat} (h : (fg T k lo hi [10, 1] p 0).1 = true) (e1 : lo.toInt = L) (e2 : hi.toInt = H) : rg L H (fg T k lo hi [10, 1] p 0).2.2 := rg_le (fg_ok [10] p 0 h) e1 e2
theorem fg3 {T : Nat → Int32} {k p : Nat} {lo hi : Int32} {L H : Nat} (h : (fg T k lo hi [100, 10, 1] p 0).1 = true) (e1 : lo.toInt = L) (e2 : hi.toInt = H) : rg L H (fg T k lo hi [100, 10, 1] p 0).2.2 := rg_le (fg_ok [100, 10] p 0 h) e1 e2
theorem rg_ne {lo hi : Int} {x : Int32} (h : rg lo hi x) (h0 : 0 ≤ lo) : ¬ x = -1 := by
  intro c
  have := h.1
  rw [c, m1v] at this
  omega
/-- the class reads a command -/
theorem e_setup {T : Nat → Int32} {k p : Nat} {sc le nu : Int32} {K : Int32 → (Int32 × Int32 × Int32 × Int32) → Prop} (hk : k ≤ 120) (hT : chR T k) (hp : p ≤ 150)
    (k0 : (fg T k 1 99 [10, 1] p 0).1 = false → ∀ s l m, K 0 (nI (fg T k 1 99 [10, 1] p 0).2.1, s, l, m))
    (k1 : (fg T k 1 99 [10, 1] p 0).1 = true → (lt T k (fg T k 1 99 [10, 1] p 0).2.1).1 = false → ∀ s l m, K 0 (nI (lt T k (fg T k 1 99 [10, 1] p 0).2.1).2.1, s, l, m))
    (k2 : (fg T k 1 99 [10, 1] p 0).1 = true → (lt T k (fg T k 1 99 [10, 1] p 0).2.1).1 = true → ∀ m, K 1 (nI (lt T k (fg T k 1 99 [10, 1] p 0).2.1).2.1, (fg T k 1 99 [10, 1] p 0).2.2, (lt T k (fg T k 1 99 [10, 1] p 0).2.1).2.2, m)) : xp_X0_readSetup T (nI k) (nI p) sc le nu K := by
  unfold xp_X0_readSetup
  refine ⟨_, e_number hk hT _ 10 p 0 ch2 (by simp; omega) ?_⟩
  have pe := fg_end (T := T) (k := k) (lo := 1) (hi := 99) [10, 1] p 0
  have pe2 := pe.2.1
  rw [show [(10 : Int32), 1].length = 2 from rfl] at pe2
  generalize fg T k 1 99 [10, 1] p 0 = q at *
  cases hq : q.1 with
  | false =>
    exact ⟨fun c => absurd rfl c, fun _ => k0 hq _ _ _⟩
  | true =>
    refine ⟨fun _ => e_sign hk (fun g1 g2 g3 => ?_) (fun g => ?_) (by show q.2.1 ≤ 200; omega), fun c => absurd c (by decide)⟩
    · have k2' := k2 hq
      rw [lt_y ⟨g1, g2, g3⟩] at k2'
      have d : (T q.2.1 - 65).toInt = (T q.2.1).toInt - 65 := dg_sub (D := 65) (hT _ g1) rfl (by omega)
      have o : (65 : Int32).toInt = 65 := rfl
      have z : (0 : Int32).toInt = 0 := rfl
      rw [Int32.le_iff_toInt_le, o] at g2
      exact ⟨fun c => absurd c (by rw [Int32.lt_iff_toInt_lt, d, z]; omega), fun _ => k2' rfl _⟩
    · have k1' := k1 hq
      rw [lt_n g] at k1'
      exact ⟨fun _ => k1' rfl _ _ _, fun c => absurd (by decide) c⟩
theorem nwb_b {b : Bool} : narrow .boolean (.int (if b = true then 1 else 0)) = .int (if b = true then 1 else 0) := by cases b <;> rfl
theorem eff_n {c s l m s' l' m' : Int32} (h : (c = 98 → s' = s ∧ l' = l ∧ m' = m) ∧ (c = 99 → s' = s ∧ l' = l) ∧ (¬ (c = 110 ∨ c = 114 ∨ c = 115 ∨ c = 98 ∨ c = 99) → m' = m)) : eff c s' l' m' = eff c s l m := by
  funext q
  unfold eff
  by_cases h98 : c = 98
  · obtain ⟨rfl, rfl, rfl⟩ := h.1 h98; rfl
  rw [if_neg h98, if_neg h98]
  by_cases h99 : c = 99
  · obtain ⟨rfl, rfl⟩ := h.2.1 h99; rw [if_pos h99, if_pos h99]
  rw [if_neg h99, if_neg h99]
  by_cases h114 : c = 114
  · rw [if_pos h114, if_pos h114]
  rw [if_neg h114, if_neg h114]
  by_cases h110 : c = 110
  · subst h110
    have d : ¬ ((110 : Int32) = 109 ∨ (110 : Int32) = 116) := by decide
    rw [if_neg d, if_neg d, if_pos rfl, if_pos rfl]
  by_cases h115 : c = 115
  · subst h115
    have d : ¬ ((115 : Int32) = 109 ∨ (115 : Int32) = 116) := by decide
    rw [if_neg d, if_neg d, if_neg h110, if_neg h110, if_pos rfl, if_pos rfl]
  have : m' = m := h.2.2 (by rintro (q | q | q | q | q); exact h110 q; exact h114 q; exact h115 q; exact h98 q; exact h99 q)
  rw [this]
theorem e_rc {T : Nat → Int32} {k p : Nat} {co sc le nu : Int32} {K : Int32 → (Int32 × Int32 × Int32 × Int32 × Int32) → Prop} (hk : k ≤ 120) (hT : chR T k) (hp : p < k)
    (kk : ∀ c s l m, ((rc T k p).1 = true → c = (rc T k p).2.2.1 ∧ eff c s l m = eff c (rc T k p).2.2.2.1 (rc T k p).2.2.2.2.1 (rc T k p).2.2.2.2.2 ∧ vld c s l m) → K (if (rc T k p).1 = true then 1 else 0) (nI (rc T k p).2.1, c, s, l, m)) : xp_X0_readCommand T (nI k) (nI p) co sc le nu K := by
  unfold xp_X0_readCommand
  -- a sign that begins no command
  have bad : T p ≠ 98 → T p ≠ 99 → T p ≠ 102 → T p ≠ 109 → T p ≠ 110 → T p ≠ 111 → T p ≠ 114 → T p ≠ 115 → T p ≠ 116 → T p ≠ 118 → ∀ c s l m, K 0 (nI p, c, s, l, m) := by
    intro n1 n2 n3 n4 n5 n6 n7 n8 n9 n10 c s l m
    have e : rc T k p = (false, p, T p, 0, 0, 0) := by
      unfold rc
      rw [if_neg n1, if_neg n2, if_neg (by rintro (q | q); exact n4 q; exact n9 q), if_neg (by rintro (q | q); exact n3 q; exact n6 q), if_neg n10, if_neg (by rintro (q | q | q); exact n5 q; exact n7 q; exact n8 q)]
    rw [e] at kk
    exact kk c s l m (fun q => absurd q Bool.false_ne_true)
  have one : T p = 110 ∨ T p = 114 ∨ T p = 115 → K 1 (nI (p + 1), T p, sc, le, nu) := by
    intro h
    have e : rc T k p = (true, p + 1, T p, 0, 0, 0) := by
      unfold rc
      rw [if_neg, if_neg, if_neg, if_neg, if_neg, if_pos h] <;> (intro q; rcases h with h | h | h <;> (rw [h] at q; revert q; decide))
    rw [e] at kk
    exact kk (T p) sc le nu (fun _ => ⟨rfl, eff_n ⟨by rintro q; rcases h with h | h | h <;> (rw [h] at q; exact absurd q (by decide)), by rintro q; rcases h with h | h | h <;> (rw [h] at q; exact absurd q (by decide)), fun q => absurd (by rcases h with h | h | h; exact Or.inl h; exact Or.inr (Or.inl h); exact Or.inr (Or.inr (Or.inl h))) q⟩, by
      rcases h with h | h | h
      · exact Or.inr (Or.inr (Or.inr (Or.inr (Or.inr (Or.inl h)))))
      · exact Or.inr (Or.inr (Or.inr (Or.inr (Or.inr (Or.inr (Or.inl h))))))
      · exact Or.inr (Or.inr (Or.inr (Or.inr (Or.inr (Or.inr (Or.inr h))))))⟩)
  have num : ∀ (x lo hi : Int32) (ws : List Int32), Ch x ws → ws.length ≤ 3 → rc T k p = ((fg T k lo hi ws (p + 1) 0).1, (fg T k lo hi ws (p + 1) 0).2.1, T p, 0, 0, (fg T k lo hi ws (p + 1) 0).2.2) → ¬ (T p = 110 ∨ T p = 114 ∨ T p = 115 ∨ T p = 98 ∨ T p = 99) →
      ((fg T k lo hi ws (p + 1) 0).1 = true → vld (T p) sc le (fg T k lo hi ws (p + 1) 0).2.2) →
      xp_X0_readNumber T (nI k) (nI (p + 1)) nu x lo hi (fun r u => (narrow .boolean (.int r) = .int r) ∧ K r (u.1, T p, sc, le, u.2)) := by
    intro x lo hi ws hc hl e hn hv
    refine ⟨_, e_number hk hT ws x (p + 1) 0 hc (by omega) ⟨nwb_b, ?_⟩⟩
    rw [e] at kk
    exact kk (T p) sc le _ (fun g => ⟨rfl, eff_n ⟨fun q => absurd (Or.inr (Or.inr (Or.inr (Or.inl q)))) hn, fun q => absurd (Or.inr (Or.inr (Or.inr (Or.inr q)))) hn, fun _ => rfl⟩, hv g⟩)
  refine e_sign hk (fun _ g2 g3 => ?_) (fun g => ?_) (by omega)
  · refine ⟨fun h => ?_, fun n98 => ⟨fun h => ?_, fun n99 => ⟨fun h => ?_, fun n100 => ⟨fun h => ?_, fun n101 => ⟨fun h => ?_, fun n102 => ⟨fun h => ?_, fun n103 => ⟨fun h => ?_, fun n104 => ⟨fun h => ?_, fun n105 => ⟨fun h => ?_, fun n106 => ⟨fun h => ?_, fun n107 => ⟨fun h => ?_, fun n108 => ⟨fun h => ?_, fun n109 => ⟨fun h => ?_, fun n110 => ⟨fun h => ?_, fun n111 => ⟨fun h => ?_, fun n112 => ⟨fun h => ?_, fun n113 => ⟨fun h => ?_, fun n114 => ⟨fun h => ?_, fun n115 => ⟨fun h => ?_, fun n116 => ⟨fun h => ?_, fun n117 => ⟨fun h => ?_, fun n118 => ?_⟩⟩⟩⟩⟩⟩⟩⟩⟩⟩⟩⟩⟩⟩⟩⟩⟩⟩⟩⟩⟩
    -- 98
    · refine e_setup hk hT (by omega) (fun q1 s l m => ⟨fun _ => ?_, fun c => absurd rfl c⟩) (fun q1 q2 s l m => ⟨fun _ => ?_, fun c => absurd rfl c⟩) (fun q1 q2 m => ⟨fun c => absurd c (by decide), fun _ => ?_⟩)
      · have e : rc T k p = (false, (fg T k 1 99 [10, 1] (p + 1) 0).2.1, T p, 0, 0, 0) := by unfold rc; rw [if_pos h, if_neg (by rw [q1]; decide)]
        rw [e] at kk
        exact kk _ _ _ _ (fun q => absurd q Bool.false_ne_true)
      · have e : rc T k p = (false, (lt T k (fg T k 1 99 [10, 1] (p + 1) 0).2.1).2.1, T p, 0, 0, 0) := by unfold rc; rw [if_pos h, if_pos q1, if_neg (by rw [q2]; decide)]
        rw [e] at kk
        exact kk _ _ _ _ (fun q => absurd q Bool.false_ne_true)
      · have e : rc T k p = ((fg T k 1 99 [10, 1] (lt T k (fg T k 1 99 [10, 1] (p + 1) 0).2.1).2.1 0).1, (fg T k 1 99 [10, 1] (lt T k (fg T k 1 99 [10, 1] (p + 1) 0).2.1).2.1 0).2.1, T p, (fg T k 1 99 [10, 1] (p + 1) 0).2.2, (lt T k (fg T k 1 99 [10, 1] (p + 1) 0).2.1).2.2, (fg T k 1 99 [10, 1] (lt T k (fg T k 1 99 [10, 1] (p + 1) 0).2.1).2.1 0).2.2) := by
          unfold rc; rw [if_pos h, if_pos q1, if_pos q2]
        rw [e] at kk
        have b1 := (fg_end (T := T) (k := k) (lo := 1) (hi := 99) [10, 1] (p + 1) 0).2.1
        have b2 := (lt_end (T := T) (k := k) (p := (fg T k 1 99 [10, 1] (p + 1) 0).2.1)).2.1
        rw [show [(10 : Int32), 1].length = 2 from rfl] at b1
        refine ⟨_, e_number hk hT [10, 1] 10 _ 0 ch2 (by simp; omega) ?_⟩
        have kk' := kk (T p) (fg T k 1 99 [10, 1] (p + 1) 0).2.2 (lt T k (fg T k 1 99 [10, 1] (p + 1) 0).2.1).2.2 (fg T k 1 99 [10, 1] (lt T k (fg T k 1 99 [10, 1] (p + 1) 0).2.1).2.1 0).2.2
          (fun g => ⟨rfl, rfl, Or.inl ⟨h, fg2 q1 rfl rfl, lt_rg hT q2, fg2 g rfl rfl⟩⟩)
        generalize fg T k 1 99 [10, 1] (lt T k (fg T k 1 99 [10, 1] (p + 1) 0).2.1).2.1 0 = z at *
        cases hz : z.1 with
        | false => rw [hz] at kk'; exact ⟨fun _ => kk', fun c => absurd rfl c⟩
        | true => rw [hz] at kk'; exact ⟨fun c => absurd c (by decide), fun _ => kk'⟩
    -- 99
    · refine e_setup hk hT (by omega) (fun q1 s l m => ⟨rfl, ?_⟩) (fun q1 q2 s l m => ⟨rfl, ?_⟩) (fun q1 q2 m => ⟨rfl, ?_⟩)
      · have e : rc T k p = (false, (fg T k 1 99 [10, 1] (p + 1) 0).2.1, T p, 0, 0, 0) := by unfold rc; rw [if_neg n98, if_pos h, if_neg (by rw [q1]; decide)]
        rw [e] at kk
        exact kk _ _ _ _ (fun q => absurd q Bool.false_ne_true)
      · have e : rc T k p = (false, (lt T k (fg T k 1 99 [10, 1] (p + 1) 0).2.1).2.1, T p, (fg T k 1 99 [10, 1] (p + 1) 0).2.2, (lt T k (fg T k 1 99 [10, 1] (p + 1) 0).2.1).2.2, 0) := by unfold rc; rw [if_neg n98, if_pos h, if_pos q1, q2]
        rw [e] at kk
        exact kk _ _ _ _ (fun q => absurd q Bool.false_ne_true)
      · have e : rc T k p = (true, (lt T k (fg T k 1 99 [10, 1] (p + 1) 0).2.1).2.1, T p, (fg T k 1 99 [10, 1] (p + 1) 0).2.2, (lt T k (fg T k 1 99 [10, 1] (p + 1) 0).2.1).2.2, 0) := by unfold rc; rw [if_neg n98, if_pos h, if_pos q1, q2]
        rw [e] at kk
        exact kk (T p) _ _ m (fun _ => ⟨rfl, eff_n ⟨fun q => absurd q n98, fun _ => ⟨rfl, rfl⟩, fun q => absurd (Or.inr (Or.inr (Or.inr (Or.inr h)))) q⟩, Or.inr (Or.inl ⟨h, fg2 q1 rfl rfl, lt_rg hT q2⟩)⟩)
    · exact bad (by rw [h]; decide) (by rw [h]; decide) (by rw [h]; decide) (by rw [h]; decide) (by rw [h]; decide) (by rw [h]; decide) (by rw [h]; decide) (by rw [h]; decide) (by rw [h]; decide) (by rw [h]; decide) _ _ _ _
    · exact bad (by rw [h]; decide) (by rw [h]; decide) (by rw [h]; decide) (by rw [h]; decide) (by rw [h]; decide) (by rw [h]; decide) (by rw [h]; decide) (by rw [h]; decide) (by rw [h]; decide) (by rw [h]; decide) _ _ _ _
    -- 102
    · exact num 10 0 23 [10, 1] ch2 (by decide) (by unfold rc; rw [if_neg n98, if_neg n99, if_neg (by rw [h]; decide), if_pos (Or.inl h)]) (by rw [h]; decide) (fun g => Or.inr (Or.inr (Or.inr (Or.inl ⟨Or.inl h, fg2 g rfl rfl⟩))))
    · exact bad (by rw [h]; decide) (by rw [h]; decide) (by rw [h]; decide) (by rw [h]; decide) (by rw [h]; decide) (by rw [h]; decide) (by rw [h]; decide) (by rw [h]; decide) (by rw [h]; decide) (by rw [h]; decide) _ _ _ _
    · exact bad (by rw [h]; decide) (by rw [h]; decide) (by rw [h]; decide) (by rw [h]; decide) (by rw [h]; decide) (by rw [h]; decide) (by rw [h]; decide) (by rw [h]; decide) (by rw [h]; decide) (by rw [h]; decide) _ _ _ _
    · exact bad (by rw [h]; decide) (by rw [h]; decide) (by rw [h]; decide) (by rw [h]; decide) (by rw [h]; decide) (by rw [h]; decide) (by rw [h]; decide) (by rw [h]; decide) (by rw [h]; decide) (by rw [h]; decide) _ _ _ _
    · exact bad (by rw [h]; decide) (by rw [h]; decide) (by rw [h]; decide) (by rw [h]; decide) (by rw [h]; decide) (by rw [h]; decide) (by rw [h]; decide) (by rw [h]; decide) (by rw [h]; decide) (by rw [h]; decide) _ _ _ _
    · exact bad (by rw [h]; decide) (by rw [h]; decide) (by rw [h]; decide) (by rw [h]; decide) (by rw [h]; decide) (by rw [h]; decide) (by rw [h]; decide) (by rw [h]; decide) (by rw [h]; decide) (by rw [h]; decide) _ _ _ _
    · exact bad (by rw [h]; decide) (by rw [h]; decide) (by rw [h]; decide) (by rw [h]; decide) (by rw [h]; decide) (by rw [h]; decide) (by rw [h]; decide) (by rw [h]; decide) (by rw [h]; decide) (by rw [h]; decide) _ _ _ _
    -- 109
    · exact num 100 1 120 [100, 10, 1] ch3 (by decide) (by unfold rc; rw [if_neg n98, if_neg n99, if_pos (Or.inl h)]) (by rw [h]; decide) (fun g => Or.inr (Or.inr (Or.inl ⟨Or.inl h, fg3 g rfl rfl⟩)))
    · exact one (Or.inl h)
    -- 111
    · exact num 10 0 23 [10, 1] ch2 (by decide) (by unfold rc; rw [if_neg n98, if_neg n99, if_neg (by rw [h]; decide), if_pos (Or.inr h)]) (by rw [h]; decide) (fun g => Or.inr (Or.inr (Or.inr (Or.inl ⟨Or.inr h, fg2 g rfl rfl⟩))))
    · exact bad (by rw [h]; decide) (by rw [h]; decide) (by rw [h]; decide) (by rw [h]; decide) (by rw [h]; decide) (by rw [h]; decide) (by rw [h]; decide) (by rw [h]; decide) (by rw [h]; decide) (by rw [h]; decide) _ _ _ _
    · exact bad (by rw [h]; decide) (by rw [h]; decide) (by rw [h]; decide) (by rw [h]; decide) (by rw [h]; decide) (by rw [h]; decide) (by rw [h]; decide) (by rw [h]; decide) (by rw [h]; decide) (by rw [h]; decide) _ _ _ _
    · exact one (Or.inr (Or.inl h))
    · exact one (Or.inr (Or.inr h))
    -- 116
    · exact num 100 1 120 [100, 10, 1] ch3 (by decide) (by unfold rc; rw [if_neg n98, if_neg n99, if_pos (Or.inr h)]) (by rw [h]; decide) (fun g => Or.inr (Or.inr (Or.inl ⟨Or.inr h, fg3 g rfl rfl⟩)))
    · exact bad (by rw [h]; decide) (by rw [h]; decide) (by rw [h]; decide) (by rw [h]; decide) (by rw [h]; decide) (by rw [h]; decide) (by rw [h]; decide) (by rw [h]; decide) (by rw [h]; decide) (by rw [h]; decide) _ _ _ _
    -- 118
    · exact num 10 0 99 [10, 1] ch2 (by decide) (by unfold rc; rw [if_neg n98, if_neg n99, if_neg (by rw [h]; decide), if_neg (by rw [h]; decide), if_pos h]) (by rw [h]; decide) (fun g => Or.inr (Or.inr (Or.inr (Or.inr (Or.inl ⟨h, fg2 g rfl rfl⟩)))))
    · exact bad n98 n99 n102 n109 n110 n111 n114 n115 n116 n118 _ _ _ _
  · have b := bad (by rintro h; exact g ⟨hp, by rw [h]; decide, by rw [h]; decide⟩) (by rintro h; exact g ⟨hp, by rw [h]; decide, by rw [h]; decide⟩) (by rintro h; exact g ⟨hp, by rw [h]; decide, by rw [h]; decide⟩) (by rintro h; exact g ⟨hp, by rw [h]; decide, by rw [h]; decide⟩) (by rintro h; exact g ⟨hp, by rw [h]; decide, by rw [h]; decide⟩) (by rintro h; exact g ⟨hp, by rw [h]; decide, by rw [h]; decide⟩) (by rintro h; exact g ⟨hp, by rw [h]; decide, by rw [h]; decide⟩) (by rintro h; exact g ⟨hp, by rw [h]; decide, by rw [h]; decide⟩) (by rintro h; exact g ⟨hp, by rw [h]; decide, by rw [h]; decide⟩) (by rintro h; exact g ⟨hp, by rw [h]; decide, by rw [h]; decide⟩)
    refine ⟨fun c => absurd c (by decide), fun _ => ⟨fun c => absurd c (by decide), fun _ => ⟨fun c => absurd c (by decide), fun _ => ⟨fun c => absurd c (by decide), fun _ => ⟨fun c => absurd c (by decide), fun _ => ⟨fun c => absurd c (by decide), fun _ => ⟨fun c => absurd c (by decide), fun _ => ⟨fun c => absurd c (by decide), fun _ => ⟨fun c => absurd c (by decide), fun _ => ⟨fun c => absurd c (by decide), fun _ => ⟨fun c => absurd c (by decide), fun _ => ⟨fun c => absurd c (by decide), fun _ => ⟨fun c => absurd c (by decide), fun _ => ⟨fun c => absurd c (by decide), fun _ => ⟨fun c => absurd c (by decide), fun _ => ⟨fun c => absurd c (by decide), fun _ => ⟨fun c => absurd c (by decide), fun _ => ⟨fun c => absurd c (by decide), fun _ => ⟨fun c => absurd c (by decide), fun _ => ⟨fun c => absurd c (by decide), fun _ => ⟨fun c => absurd c (by decide), fun _ => b _ _ _ _⟩⟩⟩⟩⟩⟩⟩⟩⟩⟩⟩⟩⟩⟩⟩⟩⟩⟩⟩⟩⟩
