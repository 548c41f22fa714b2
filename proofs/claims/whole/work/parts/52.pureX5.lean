/-! ===== the reference's row: what its functions ask, in the table's words ===== -/
def rg (lo hi : Int) (x : Int32) : Prop := lo ≤ x.toInt ∧ x.toInt ≤ hi
theorem m_of {r : Nat → Int32} {i w z : Nat} {x y : Int32} {K : Int32 → Prop} (hi : i < 24) (hw : w < 16) (h2 : w ≠ 2) (hx : x = nI i) (hy : y = nI z) (hz : z = if w < 2 then w else w - 1) (k : K (vm r (i + 1) w)) : xp_X5_of r x y K := by
  have hz14 : z ≤ 14 := by subst hz; split <;> omega
  have e : 17 + 15 * x + y = nI (17 + 15 * i + z) := by
    rw [hx, hy, show (17 : Int32) = nI 17 from rfl, show (15 : Int32) = nI 15 from rfl, pk_mul, nI_add, nI_add]
  rw [vm_at (by omega) hw (Or.inl h2)] at k
  unfold xp_X5_of
  rw [e, nI_clamp (by omega)]
  refine ⟨vp_in_nI (by omega) (by omega), ?_⟩
  have : vx (i + 1) w = 17 + 15 * i + z := by
    unfold vx
    rw [if_neg (by omega), hz]
    simp
  rw [← this]; exact k
theorem m_lay {r : Nat → Int32} {i w z : Nat} {x y v : Int32} {K : (Nat → Int32) → Prop} (hi : i < 24) (hw : w < 16) (h2 : w ≠ 2) (hx : x = nI i) (hy : y = nI z) (hz : z = if w < 2 then w else w - 1) (k : ∀ r', vm r' = vu (vm r) (i + 1) w v → r' 12 = r 12 → K r') : xp_X5_lay r x y v K := by
  have hz14 : z ≤ 14 := by subst hz; split <;> omega
  have e : 17 + 15 * x + y = nI (17 + 15 * i + z) := by
    rw [hx, hy, show (17 : Int32) = nI 17 from rfl, show (15 : Int32) = nI 15 from rfl, pk_mul, nI_add, nI_add]
  have e2 : vx (i + 1) w = 17 + 15 * i + z := by
    unfold vx
    rw [if_neg (by omega), hz]
    simp
  unfold xp_X5_lay
  rw [e, nI_clamp (by omega)]
  refine ⟨vp_in_nI (by omega) (by omega), k _ (vm_upd (by omega) hw (Or.inl h2) e2.symm) ?_⟩
  unfold upd
  rw [if_neg (by omega)]
theorem vm_h (r : Nat → Int32) {w : Nat} (hw : w < 12) : vm r 0 w = r w := by rw [vm_at (by omega) (by omega) (Or.inr rfl)]; unfold vx; rw [if_pos rfl, if_pos hw]
theorem vm_s (r : Nat → Int32) {w : Nat} (h0 : 12 ≤ w) (hw : w < 16) : vm r 0 w = r (w + 1) := by rw [vm_at (by omega) hw (Or.inr rfl)]; unfold vx; rw [if_pos rfl, if_neg (by omega)]
theorem m_number {r : Nat → Int32} {k : Nat} {x s l : Int32} {K : Int32 → Prop} (hk : k ≤ 24) (hx : x = nI k) (kk : K (nI (1 + pcnt (vm r) s l k))) : xp_X5_number r x s l K := by
  subst hx
  refine ⟨k + 1, lpx (fun m i => xp_X5_number_6 r K m (nI k) s l (nI (1 + pcnt (vm r) s l i)) (nI i)) k (fun m => ?_) (fun m i hi h => ?_)⟩
  · show xp_X5_number_6 r K (m + 1) _ _ _ _ _
    rw [xp_X5_number_6]
    exact ⟨fun _ => kk, fun c => absurd (nI_le (Nat.le_refl _) (by omega)) c⟩
  · show xp_X5_number_6 r K (m + 1) _ _ _ _ _
    rw [xp_X5_number_6]
    have go : ∀ c : Nat, c = 1 + pcnt (vm r) s l (i + 1) → xp_X5_number_6 r K m (nI k) s l (nI c) (nI i + 1) := by
      intro c hc
      rw [nI_1, hc]; exact h
    refine ⟨fun c => absurd c (nI_ge hi (by omega)), fun _ => ?_⟩
    have z0 : nI (1 + pcnt (vm r) s l i) + 0 = nI (1 + pcnt (vm r) s l i) := Int32.add_zero _
    rw [z0]
    refine m_of (i := i) (w := 0) (z := 0) (by omega) (by omega) (by omega) rfl rfl rfl ⟨fun c0 => go _ (by simp only [pcnt]; rw [if_neg (fun q => c0 q.1)]; omega), fun c0 => ?_⟩
    refine m_of (i := i) (w := 1) (z := 1) (by omega) (by omega) (by omega) rfl rfl rfl ⟨fun c1 => go _ (by simp only [pcnt]; rw [if_neg (fun q => c1 q.2.1)]; omega), fun c1 => ?_⟩
    refine m_of (i := i) (w := 15) (z := 14) (by omega) (by omega) (by omega) rfl rfl rfl ⟨fun c2 => go _ (by simp only [pcnt]; rw [if_neg (fun q => c2 q.2.2)]; omega), fun c2 => ?_⟩
    rw [nI_1 (1 + pcnt (vm r) s l i)]
    exact go _ (by simp only [pcnt]; rw [if_pos ⟨c0, c1, c2⟩]; omega)
theorem m_numberOf {r : Nat → Int32} {i : Nat} {x : Int32} {K : Int32 → Prop} (hi : i < 24) (hx : x = nI i) (k : K (nI (rno (vm r) i))) : xp_X5_numberOf r x K := by
  unfold xp_X5_numberOf
  refine m_of (i := i) (w := 0) (z := 0) hi (by omega) (by omega) hx rfl rfl ?_
  refine m_of (i := i) (w := 1) (z := 1) hi (by omega) (by omega) hx rfl rfl ?_
  exact m_number (by omega) hx k
theorem m_next {r : Nat → Int32} {n : Nat} {K : Int32 → Prop} (hn : vm r 0 0 = nI n) (h24 : n ≤ 24) (k : K (nI (nno (vm r) n))) : xp_X5_next r K := by
  unfold xp_X5_next
  rw [← vm_h r (w := 0) (by omega), ← vm_h r (w := 1) (by omega), ← vm_h r (w := 2) (by omega)]
  exact m_number h24 hn k
theorem m_isRight {r : Nat → Int32} {i : Nat} {x : Int32} {K : Int32 → Prop} (hi : i < 24) (hx : x = nI i) (k : K (if isr (vm r) i = true then 1 else 0)) : xp_X5_isRight r x K := by
  unfold xp_X5_isRight
  unfold isr at k
  simp only [decide_eq_true_eq] at k
  refine m_of (i := i) (w := 3) (z := 2) hi (by omega) (by omega) hx rfl rfl (m_of (i := i) (w := 0) (z := 0) hi (by omega) (by omega) hx rfl rfl ⟨fun c => ?_, fun c0 => ?_⟩)
  · rw [if_neg (fun q => c q.1)] at k; exact k
  refine m_of (i := i) (w := 4) (z := 3) hi (by omega) (by omega) hx rfl rfl (m_of (i := i) (w := 1) (z := 1) hi (by omega) (by omega) hx rfl rfl ⟨fun c => ?_, fun c1 => ?_⟩)
  · rw [if_neg (fun q => c q.2.1)] at k; exact k
  refine m_of (i := i) (w := 5) (z := 4) hi (by omega) (by omega) hx rfl rfl (m_numberOf hi hx ⟨fun c => ?_, fun c2 => ?_⟩)
  · rw [if_neg (fun q => c q.2.2)] at k; exact k
  · rw [if_pos ⟨c0, c1, c2⟩] at k; exact k
theorem m_wrong {r : Nat → Int32} {n : Nat} {K : Int32 → Prop} (hn : vm r 0 0 = nI n) (h24 : n ≤ 24) (k : K (nI (wrg (vm r) n))) : xp_X5_wrong r K := by
  have h0 : r 0 = nI n := by rw [← vm_h r (w := 0) (by omega)]; exact hn
  refine ⟨n + 1, lpx (fun m i => xp_X5_wrong_4 r K m (nI (wrg (vm r) i)) (nI i)) n (fun m => ?_) (fun m i hi h => ?_)⟩
  · show xp_X5_wrong_4 r K (m + 1) _ _
    rw [xp_X5_wrong_4, h0]
    exact ⟨fun _ => k, fun c => absurd (nI_le (Nat.le_refl _) (by omega)) c⟩
  · show xp_X5_wrong_4 r K (m + 1) _ _
    rw [xp_X5_wrong_4, h0]
    have h' : xp_X5_wrong_4 r K m (nI (wrg (vm r) (i + 1))) (nI i + 1) := by rw [nI_1]; exact h
    refine ⟨fun c => absurd c (nI_ge hi (by omega)), fun _ => m_isRight (i := i) (by omega) rfl ?_⟩
    by_cases hr : isr (vm r) i = true
    · simp only [wrg, hr, if_true] at h' ⊢
      exact ⟨fun c => absurd c (by decide), fun _ => by rw [Int32.add_zero]; exact h'⟩
    · simp only [wrg, hr, if_false] at h' ⊢
      exact ⟨fun _ => by rw [nI_1]; exact h', fun c => absurd rfl c⟩
theorem m_sum {r : Nat → Int32} {n w z : Nat} {x : Int32} {K : Int32 → Prop} (hn : vm r 0 0 = nI n) (h24 : n ≤ 24) (hw : w < 16) (h2 : w ≠ 2) (hx : x = nI z) (hz : z = if w < 2 then w else w - 1) (k : K (sumw (vm r) w n)) : xp_X5_sum r x K := by
  have h0 : r 0 = nI n := by rw [← vm_h r (w := 0) (by omega)]; exact hn
  refine ⟨n + 1, lpx (fun m i => xp_X5_sum_4 r K m x (sumw (vm r) w i) (nI i)) n (fun m => ?_) (fun m i hi h => ?_)⟩
  · show xp_X5_sum_4 r K (m + 1) _ _ _
    rw [xp_X5_sum_4, h0]
    exact ⟨fun _ => k, fun c => absurd (nI_le (Nat.le_refl _) (by omega)) c⟩
  · show xp_X5_sum_4 r K (m + 1) _ _ _
    rw [xp_X5_sum_4, h0]
    refine ⟨fun c => absurd c (nI_ge hi (by omega)), fun _ => m_of (i := i) (w := w) (z := z) (by omega) hw h2 rfl hx hz ?_⟩
    show xp_X5_sum_4 r K m x (sumw (vm r) w i + vm r (i + 1) w) (nI i + 1)
    rw [nI_1]; exact h
theorem m_circledSeconds {r : Nat → Int32} {n : Nat} {K : Int32 → Prop} (hn : vm r 0 0 = nI n) (h24 : n ≤ 24) (k : K (csec (vm r) n)) : xp_X5_circledSeconds r K := by
  have h0 : r 0 = nI n := by rw [← vm_h r (w := 0) (by omega)]; exact hn
  refine ⟨n + 1, lpx (fun m i => xp_X5_circledSeconds_4 r K m (csec (vm r) i) (nI i)) n (fun m => ?_) (fun m i hi h => ?_)⟩
  · show xp_X5_circledSeconds_4 r K (m + 1) _ _
    rw [xp_X5_circledSeconds_4, h0]
    exact ⟨fun _ => k, fun c => absurd (nI_le (Nat.le_refl _) (by omega)) c⟩
  · show xp_X5_circledSeconds_4 r K (m + 1) _ _
    rw [xp_X5_circledSeconds_4, h0]
    refine ⟨fun c => absurd c (nI_ge hi (by omega)), fun _ => m_of (i := i) (w := 14) (z := 13) (by omega) (by omega) (by omega) rfl rfl rfl (m_of (i := i) (w := 8) (z := 7) (by omega) (by omega) (by omega) rfl rfl rfl ?_)⟩
    show xp_X5_circledSeconds_4 r K m (csec (vm r) i + vm r (i + 1) 14 * vm r (i + 1) 8) (nI i + 1)
    rw [nI_1]; exact h
theorem m_left {r : Nat → Int32} {K : Int32 → Prop} (k : K (if (0 : Int32) < vm r 0 12 - vm r 0 7 then vm r 0 12 - vm r 0 7 else 0)) : xp_X5_left r K := by
  unfold xp_X5_left
  rw [show r 13 = vm r 0 12 from (vm_s r (w := 12) (by omega) (by omega)).symm, ← vm_h r (w := 7) (by omega)]
  refine ⟨fun c => ?_, fun c => ?_⟩
  · by_cases h : (0 : Int32) < vm r 0 12 - vm r 0 7
    · rw [if_pos h] at k; exact k
    · rw [if_neg h] at k
      have : vm r 0 12 - vm r 0 7 = 0 := Int32.le_antisymm (Int32.not_lt.mp h) c
      rw [this]; exact k
  · rw [if_neg (fun h => c (Int32.le_of_lt h))] at k; exact k
theorem m_canShoot {r : Nat → Int32} {n : Nat} {K : Int32 → Prop} (hn : vm r 0 0 = nI n) (h24 : n ≤ 24) (k : K (if n < 24 ∧ (0 : Int32) < vm r 0 12 - vm r 0 7 then 1 else 0)) : xp_X5_canShoot r K := by
  have h0 : r 0 = nI n := by rw [← vm_h r (w := 0) (by omega)]; exact hn
  unfold xp_X5_canShoot
  rw [h0]
  refine ⟨fun c => ?_, fun c => m_left ⟨fun c1 => ?_, fun c1 => ?_⟩⟩
  · have : ¬ n < 24 := fun q => (nI_ge (b := 24) q (by omega)) c
    rw [if_neg (fun q => this q.1)] at k; exact k
  · have : ¬ (0 : Int32) < vm r 0 12 - vm r 0 7 := by
      intro q
      rw [if_pos q] at c1
      exact (Int32.not_le.mpr q) c1
    rw [if_neg (fun q => this q.2)] at k; exact k
  · have h1 : n < 24 := by
      rcases Nat.lt_or_ge n 24 with q | q
      · exact q
      · exact absurd (nI_le (a := 24) q (by omega)) c
    have h2 : (0 : Int32) < vm r 0 12 - vm r 0 7 := by
      by_cases q : (0 : Int32) < vm r 0 12 - vm r 0 7
      · exact q
      · rw [if_neg q] at c1; exact absurd (by decide) c1
    rw [if_pos ⟨h1, h2⟩] at k; exact k
/-- what the bounds of the clocks give: the overlap, written with a difference or a comparison -/
def okO (V : Nat → Nat → Int32) (i j : Nat) : Prop := rg 0 100000 (V (i + 1) 12) ∧ rg 0 1000 (V (i + 1) 8) ∧ rg (-100000) 100000 (V (j + 1) 13) ∧ rg 0 1000 (V (j + 1) 8)
theorem i_add {a b : Int32} (h1 : -2147483648 ≤ a.toInt + b.toInt) (h2 : a.toInt + b.toInt < 2147483648) : (a + b).toInt = a.toInt + b.toInt := by
  rw [Int32.toInt_add]
  exact Int.bmod_eq_of_le (by omega) (by omega)
theorem i_sub {a b : Int32} (h1 : -2147483648 ≤ a.toInt - b.toInt) (h2 : a.toInt - b.toInt < 2147483648) : (a - b).toInt = a.toInt - b.toInt := by
  rw [Int32.toInt_sub]
  exact Int.bmod_eq_of_le (by omega) (by omega)
theorem m_overlap {r : Nat → Int32} {i j : Nat} {x y sh : Int32} {K : Int32 → Prop} (hi : i < 24) (hj : j < 24) (hx : x = nI i) (hy : y = nI j) (hs : rg (-100) 100 sh) (ho : okO (vm r) i j) (k : K (ovl (vm r) i j sh)) : xp_X5_overlap r x y sh K := by
  unfold xp_X5_overlap
  refine m_of (i := i) (w := 12) (z := 11) hi (by omega) (by omega) hx rfl rfl ?_
  refine m_of (i := i) (w := 8) (z := 7) hi (by omega) (by omega) hx rfl rfl ?_
  refine m_of (i := j) (w := 13) (z := 12) hj (by omega) (by omega) hy rfl rfl ?_
  refine m_of (i := j) (w := 8) (z := 7) hj (by omega) (by omega) hy rfl rfl ?_
  obtain ⟨⟨a1, a2⟩, ⟨b1, b2⟩, ⟨c1, c2⟩, ⟨d1, d2⟩⟩ := ho
  obtain ⟨s1, s2⟩ := hs
  unfold ovl at k
  generalize vm r (i + 1) 12 = b at *
  generalize vm r (i + 1) 8 = p at *
  generalize vm r (j + 1) 13 = o at *
  generalize vm r (j + 1) 8 = q at *
  have e1 : (o + sh).toInt = o.toInt + sh.toInt := i_add (by omega) (by omega)
  have e2 : (b + p).toInt = b.toInt + p.toInt := i_add (by omega) (by omega)
  have e3 : (o + sh + q).toInt = o.toInt + sh.toInt + q.toInt := by rw [i_add (by omega) (by omega), e1]
  have key : ∀ f g : Int32, rg (-200000) 200000 f → rg (-200000) 200000 g → K (if (0 : Int32) < g - f then g - f else 0) → xp_X5_overlap_74 r K f g := by
    intro f g hf hg hk
    have e4 : (g - f).toInt = g.toInt - f.toInt := i_sub (by have := hf.1; have := hf.2; have := hg.1; have := hg.2; omega) (by have := hf.1; have := hf.2; have := hg.1; have := hg.2; omega)
    have z : (0 : Int32).toInt = 0 := rfl
    unfold xp_X5_overlap_74
    refine ⟨fun c => ?_, fun c => ?_⟩
    · rw [Int32.le_iff_toInt_le] at c
      rw [if_neg (by rw [Int32.lt_iff_toInt_lt, e4, z]; omega)] at hk; exact hk
    · rw [Int32.le_iff_toInt_le] at c
      rw [if_pos (by rw [Int32.lt_iff_toInt_lt, e4, z]; omega)] at hk; exact hk
  have k2 : ∀ f : Int32, rg (-200000) 200000 f → f = (if b < o + sh then o + sh else b) → xp_X5_overlap_58 r K (b + p) (o + sh + q) f := by
    intro f hf ef
    simp only [← ef] at k
    unfold xp_X5_overlap_58
    refine ⟨fun c => key _ _ hf ⟨by omega, by omega⟩ ?_, fun c => key _ _ hf ⟨by omega, by omega⟩ ?_⟩
    · by_cases h : o + sh + q < b + p
      · rw [if_pos h] at k; exact k
      · rw [if_neg h] at k
        have : o + sh + q = b + p := Int32.le_antisymm c (Int32.not_lt.mp h)
        rw [this]; exact k
    · rw [if_neg (fun h => c (Int32.le_of_lt h))] at k; exact k
  refine ⟨fun c => k2 _ ⟨by omega, by omega⟩ ?_, fun c => k2 _ ⟨by omega, by omega⟩ ?_⟩
  · by_cases h : b < o + sh
    · rw [if_pos h]
    · rw [if_neg h]; exact (Int32.le_antisymm c (Int32.not_lt.mp h)).symm
  · rw [if_neg (fun h => c (Int32.le_of_lt h))]
